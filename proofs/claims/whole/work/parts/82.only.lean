section ONLY1
theorem J.dom {g : GT} {k z n pc : Nat} {M : AH} {L : List (Option Value)} {st : List Value} (kk : (∀ q x, M q = some x → q < n) → J g k z n M L pc st) : J g k z n M L pc st := by
  intro H locs ls hR
  exact kk (fun q x h => (hR.2.2 q x h).2.1) H locs ls hR
theorem J.nn {g : GT} {k z n n' pc : Nat} {M : AH} {L : List (Option Value)} {st : List Value} (e : n = n') (kk : J g k z n' M L pc st) : J g k z n M L pc st := e ▸ kk
theorem LgR.keep {M M' : AH} {b n : Nat} {tr : List (List Nat)} (h : LgR M b tr) (hbn : ∀ q x, M q = some x → q < n) (hFr : ∀ x, x < n → M' x = M x) : LgR M' b tr := by
  obtain ⟨f, hb, hr⟩ := h
  refine ⟨f, (hFr b (hbn _ _ hb)).trans hb, fun j hj => ?_⟩
  obtain ⟨r, e, h1, h2, h3⟩ := hr j hj
  exact ⟨r, e, h1, (hFr r (hbn _ _ h2)).trans h2, h3⟩
/-- a log whose rows stand from lo on -/
def LgB (M : AH) (b lo : Nat) (tr : List (List Nat)) : Prop := ∃ f : Nat → Option Nat, M b = some (cR 3 tr.length f) ∧ lo ≤ b ∧ ∀ j, j < tr.length → ∃ r e, f j = some r ∧ lo ≤ r ∧ M r = some (cN (tr.getD j []).length e) ∧ ∀ i, i < (tr.getD j []).length → e i = gd (tr.getD j []) i
theorem LgB.lg {M : AH} {b lo : Nat} {tr : List (List Nat)} (h : LgB M b lo tr) : LgR M b tr := by
  obtain ⟨f, h1, -, h2⟩ := h
  exact ⟨f, h1, fun j hj => by obtain ⟨r, e, g1, -, g2, g3⟩ := h2 j hj; exact ⟨r, e, g1, g2, g3⟩⟩
theorem LgB.wide {M : AH} {b lo lo' : Nat} {tr : List (List Nat)} (h : LgB M b lo tr) (hl : lo' ≤ lo) : LgB M b lo' tr := by
  obtain ⟨f, h1, h0, h2⟩ := h
  exact ⟨f, h1, by omega, fun j hj => by obtain ⟨r, e, g1, g0, g2, g3⟩ := h2 j hj; exact ⟨r, e, g1, by omega, g2, g3⟩⟩
theorem LgB.keep {M M' : AH} {b n lo : Nat} {tr : List (List Nat)} (h : LgB M b lo tr) (hbn : ∀ q x, M q = some x → q < n) (hFr : ∀ x, lo ≤ x → x < n → M' x = M x) : LgB M' b lo tr := by
  obtain ⟨f, hb, h0, hr⟩ := h
  refine ⟨f, (hFr b h0 (hbn _ _ hb)).trans hb, h0, fun j hj => ?_⟩
  obtain ⟨r, e, h1, h5, h2, h3⟩ := hr j hj
  exact ⟨r, e, h1, h5, (hFr r h5 (hbn _ _ h2)).trans h2, h3⟩
/-- a row of rows that is being filled: its first rows stand at addresses between lo and hi -/
def LgP (M : AH) (b N : Nat) (q : List (List Nat)) (lo hi : Nat) : Prop := ∃ f, M b = some (cR 3 N f) ∧ ∀ j, j < q.length → ∃ r e, f j = some r ∧ lo ≤ r ∧ r < hi ∧ M r = some (cN (q.getD j []).length e) ∧ ∀ i, i < (q.getD j []).length → e i = gd (q.getD j []) i
theorem tkT_totge {part : Nat} {sp : Bool} {s : List (List Nat) × List Nat} {t : List Nat} (k : Nat) : tot s.1 ≤ tot (tkT part sp s t k).1 ∧ s.1.length ≤ (tkT part sp s t k).1.length :=
  it_inv (fun _ (q : List (List Nat) × List Nat) => tot s.1 ≤ tot q.1 ∧ s.1.length ≤ q.1.length) k ⟨Nat.le_refl _, Nat.le_refl _⟩ (fun i q _ hq => by
    unfold tkS
    split
    · exact hq
    · split
      · dsimp only
        rw [tot_app, List.length_append]
        omega
      · exact hq)
theorem tkL_totge {part : Nat} {sp keep : Bool} {q : List (List Nat)} {t : List Nat} : tot q ≤ tot (tkL part sp keep q t) ∧ q.length ≤ (tkL part sp keep q t).length := by
  have h := tkT_totge (part := part) (sp := sp) (s := (q, [])) (t := t) t.length
  dsimp only at h
  unfold tkL
  split
  · rw [tot_app, List.length_append]
    omega
  · exact h
theorem takeI_mono {part : Nat} {sp keep : Bool} {tr : List (List Nat)} {k : Nat} : ∀ e, tot (takeI part sp keep tr k) ≤ tot (takeI part sp keep tr (k + e)) ∧ (takeI part sp keep tr k).length ≤ (takeI part sp keep tr (k + e)).length
  | 0 => ⟨Nat.le_refl _, Nat.le_refl _⟩
  | e + 1 => by
    have h1 := takeI_mono (part := part) (sp := sp) (keep := keep) (tr := tr) (k := k) e
    have h2 := tkL_totge (part := part) (sp := sp) (keep := keep) (q := takeI part sp keep tr (k + e)) (t := tr.getD (k + e) [])
    have h3 : takeI part sp keep tr (k + (e + 1)) = tkL part sp keep (takeI part sp keep tr (k + e)) (tr.getD (k + e) []) := rfl
    rw [h3]
    omega
theorem takeI_le {part : Nat} {sp keep : Bool} {tr : List (List Nat)} {k m : Nat} (h : k ≤ m) : tot (takeI part sp keep tr k) ≤ tot (takeI part sp keep tr m) ∧ (takeI part sp keep tr k).length ≤ (takeI part sp keep tr m).length := by
  have := takeI_mono (part := part) (sp := sp) (keep := keep) (tr := tr) (k := k) (m - k)
  rw [show k + (m - k) = m by omega] at this
  exact this
theorem tkT_s {part : Nat} {sp : Bool} {s : List (List Nat) × List Nat} {t : List Nat} {k : Nat} : tkT part sp s t (k + 1) = tkS part sp (tkT part sp s t k) (gd t k) := rfl
theorem tkTf_s {part : Nat} {s : List (List Nat) × List Nat} {t : List Nat} {k : Nat} : (tkT part false s t (k + 1)).2 = if part.testBit (gd t k) then (tkT part false s t k).2 ++ [gd t k] else (tkT part false s t k).2 := by
  rw [tkT_s]
  unfold tkS
  split
  · rfl
  · simp only [Bool.false_and, Bool.false_eq_true, if_false]
theorem tkTf_le {part : Nat} {s : List (List Nat) × List Nat} {t : List Nat} {k : Nat} : ∀ e, (tkT part false s t k).2.length ≤ (tkT part false s t (k + e)).2.length
  | 0 => Nat.le_refl _
  | e + 1 => by
    have h := tkTf_le (part := part) (s := s) (t := t) (k := k) e
    rw [show k + (e + 1) = k + e + 1 by omega, tkTf_s]
    split
    · rw [List.length_append]; omega
    · exact h
theorem tkTf_len {part : Nat} {s : List (List Nat) × List Nat} {t : List Nat} : ∀ k, (tkT part false s t k).2.length ≤ s.2.length + k
  | 0 => Nat.le_refl _
  | k + 1 => by
    have := tkTf_len (part := part) (s := s) (t := t) k
    rw [tkTf_s]
    split
    · rw [List.length_append]; show _ + 1 ≤ _; omega
    · omega
theorem takeI_len1 {part : Nat} {keep : Bool} {tr : List (List Nat)} : ∀ k, (takeI part false keep tr k).length ≤ k
  | 0 => Nat.le_refl _
  | k + 1 => by
    have h1 := takeI_len1 (part := part) (keep := keep) (tr := tr) k
    have h2 := tkT_keep (part := part) (s := (takeI part false keep tr k, [])) (t := tr.getD k []) (tr.getD k []).length
    show (tkL part false keep (takeI part false keep tr k) (tr.getD k [])).length ≤ k + 1
    unfold tkL
    rw [h2]
    split
    · simp only [List.length_append, List.length_singleton]; omega
    · dsimp only; omega
/-- the row that comes next is there -/
theorem LgP.push {M M' : AH} {b N lo hi : Nat} {q : List (List Nat)} {w : List Nat} {f : Nat → Option Nat} {e : Nat → Nat} (hr : ∀ j, j < q.length → ∃ r e, f j = some r ∧ lo ≤ r ∧ r < hi ∧ M r = some (cN (q.getD j []).length e) ∧ ∀ i, i < (q.getD j []).length → e i = gd (q.getD j []) i) (hb : M' b = some (cR 3 N (va_up f q.length (some hi)))) (hlo : lo ≤ hi) (hw : M' hi = some (cN w.length e)) (he : ∀ i, i < w.length → e i = gd w i) (hag : ∀ x, lo ≤ x → x < hi → M' x = M x) : LgP M' b N (q ++ [w]) lo (hi + 1) := by
  refine ⟨_, hb, fun j hj => ?_⟩
  rw [getD_app]
  rw [List.length_append, List.length_singleton] at hj
  by_cases e9 : j = q.length
  · subst e9
    rw [if_pos rfl]
    exact ⟨hi, e, va_up_self _ _ _, hlo, by omega, hw, he⟩
  · rw [if_neg e9]
    obtain ⟨r, e1, h1, h2, h3, h4, h5⟩ := hr j (by omega)
    exact ⟨r, e1, by rw [va_up_ne _ _ e9]; exact h1, h2, by omega, (hag r h2 h3).trans h4, h5⟩
theorem LgR.short {M M' : AH} {b N lo hi : Nat} {q : List (List Nat)} (h : LgP M b N q lo hi) (hl : q.length ≤ N) {f : Nat → Option Nat} (hf : M b = some (cR 3 N f)) (hb : M' hi = some (cR 3 q.length (rwF f q.length))) (hag : ∀ x, x < hi → M' x = M x) (hlo : lo ≤ hi) : LgB M' hi lo q := by
  obtain ⟨f1, g1, hr⟩ := h
  have e1 : f1 = f := by
    have := g1.symm.trans hf
    injection this with this
    injection this with this
    injection this with _ this
    injection this with _ this
    injection this with this
    injection this with this
    injection this with this
    injection this with this
  subst e1
  refine ⟨_, hb, hlo, fun j hj => ?_⟩
  obtain ⟨r, e, h1, h2, h3, h4, h5⟩ := hr j hj
  exact ⟨r, e, by unfold rwF; rw [if_pos hj]; exact h1, h2, (hag r h3).trans h4, h5⟩
set_option maxRecDepth 100000 in
set_option maxHeartbeats 4000000 in
theorem m_only (n : Nat) (M0 : AH) {b set : Nat} {we : Bool} {tr : List (List Nat)} (hg : LgR M0 b tr) (hbn : ∀ q x, M0 q = some x → q < n) (hset : set < 256) (hl8 : LabL tr) (h1 : tr.length < 1000) (h2 : ∀ t, t < tr.length → (tr.getD t []).length < 1000) : Fn yX4_only cX4_only 15 (some (.array (.array .int))) 1 [.ref b, .int (iI (set : Int)), .int (bI we)] n M0 (tr.length + 2) (2 * tr.length + tot (takeI set false we tr tr.length)) (fun r n' M' => r = some (.ref (n + 1 + (takeI set false we tr tr.length).length)) ∧ n' = n + 2 + (takeI set false we tr tr.length).length ∧ LgB M' (n + 1 + (takeI set false we tr tr.length).length) (n + 1) (takeI set false we tr tr.length) ∧ ∀ q, q < n → M' q = M0 q) := by
  refine Fn.of (by decide) [some _, some _, some _, none, none, none, none, none, none, none, none, none, none, none, none] rfl rfl (Nat.le_of_ble_eq_true rfl) ?_
  intro g G hin hO
  obtain ⟨f0, hb0, hr0⟩ := hg
  have hb9 := hbn _ _ hb0
  refine J.iconstN (pc := 0) G dX4_only_0 0 rfl ?_
  refine J.istore_n (L' := [_, _, _, _, _, _, _, _, _, _, _, _, _, _, _]) (pc := 1) G dX4_only_1 rfl (Nat.le_of_ble_eq_true rfl) rfl ?_
  refine J.aload_n (pc := 2) G dX4_only_2 rfl ?_
  refine J.alenR (pc := 3) G dX4_only_3 hb0 (by decide) ?_
  refine J.newR (pc := 4) G q816 dX4_only_4 (by omega) (by omega) (by omega) (fun M hput hag => ?_)
  refine J.astore (L' := [_, _, _, _, _, _, _, _, _, _, _, _, _, _, _]) (pc := 7) G dX4_only_7 rfl (Nat.le_of_ble_eq_true rfl) rfl ?_
  refine J.aload_n (pc := 9) G dX4_only_9 rfl ?_
  refine J.astore (L' := [_, _, _, _, _, _, _, _, _, _, _, _, _, _, _]) (pc := 10) G dX4_only_10 rfl (Nat.le_of_ble_eq_true rfl) rfl ?_
  refine J.aload (pc := 12) G dX4_only_12 rfl ?_
  refine J.alenR (pc := 14) G dX4_only_14 ((hag b (by omega)).trans hb0) (by decide) ?_
  refine J.istore (L' := [_, _, _, _, _, _, _, _, _, _, _, _, _, _, _]) (pc := 15) G dX4_only_15 rfl (Nat.le_of_ble_eq_true rfl) rfl ?_
  refine J.iconstN (pc := 17) G dX4_only_17 0 rfl ?_
  refine J.istore (L' := [_, _, _, _, _, _, _, _, _, _, _, _, _, _, _]) (pc := 18) G dX4_only_18 rfl (Nat.le_of_ble_eq_true rfl) rfl ?_
  refine J.wid (k' := 1) (z' := tr.length) (by omega) (by omega) ?_
  have K1 : ∀ s : Nat × List (List Nat) × AH, (s.1 ≤ tr.length ∧ s.2.1 = takeI set false we tr s.1 ∧ LgP s.2.2 n tr.length s.2.1 (n + 1) (n + 1 + s.2.1.length) ∧ ∀ x, x < n → s.2.2 x = M0 x) → ∀ l8 l9 l10 l11 l12 l13 l14, J g (1 + s.2.1.length) (tr.length + tot s.2.1) (n + 1 + s.2.1.length) s.2.2 [some (.ref b), some (.int (iI (set : Int))), some (.int (bI we)), some (.int (iI (s.2.1.length : Int))), some (.ref n), some (.ref b), some (.int (iI (tr.length : Int))), some (.int (iI (s.1 : Int))), l8, l9, l10, l11, l12, l13, l14] 20 [] := by
    refine loopJ (fun s => tr.length - s.1) _ _ ?_
    clear hput hag M
    rintro ⟨t, q, M⟩ ⟨ht, hq, hP, hFr⟩ ih l8 l9 l10 l11 l12 l13 l14
    dsimp only at ht hq hP hFr ih ⊢
    have hql : q.length ≤ t := by rw [hq]; exact takeI_len1 t
    have hqm := takeI_le (part := set) (sp := false) (keep := we) (tr := tr) ht
    rw [← hq] at hqm
    obtain ⟨f, hbf, hrf⟩ := id hP
    refine J.iload (pc := 20) G dX4_only_20 rfl ?_
    refine J.iload (pc := 22) G dX4_only_22 rfl ?_
    refine J.icmp_geN (pc := 24) (tgt := 176) G dX4_only_24 (by decide) (by omega) (by omega) (fun h => ?_) (fun h => ?_)
    · have hte : t = tr.length := by omega
      have hqe : takeI set false we tr tr.length = q := by rw [hq, hte]
      have hqt : tot (takeI set false we tr tr.length) = tot q := by rw [hqe]
      refine J.aload (pc := 176) G dX4_only_176 rfl ?_
      refine J.iload_n (pc := 178) G dX4_only_178 rfl ?_
      refine J.callS (pc := 179) (na := 2) G (m_shortened (n + 1 + q.length) M (k := q.length) hbf (by omega) (by omega) (by omega) (fun j hj => by obtain ⟨r, e, g1, g2, g3, g4, -⟩ := hrf j hj; exact ⟨r, _, e, g1, g3, g4⟩)) q818 q819 q820 q5 (by decide +kernel) dX4_only_179 rfl (Nat.le_of_ble_eq_true rfl) rfl ⟨by omega, by decide, by omega, by omega⟩ ?_
      rintro r9 n9 M9 ⟨hr9, hn9, hM9, hag9⟩
      dsimp only [Option.toList, List.cons_append, List.nil_append]
      subst hr9
      subst hn9
      dsimp only [Option.toList, List.cons_append, List.nil_append]
      exact J.aret (pc := 182) G (Or.inr ⟨_, rfl⟩) hO dX4_only_182 (by omega) (by omega) ⟨by rw [hqe], by rw [hqe]; omega, by rw [hqe]; exact LgR.short hP (by omega) hbf hM9 hag9 (by omega), fun x hx => (hag9 x (by omega)).trans (hFr x hx)⟩
    · obtain ⟨r, e, hf, hM, he⟩ := hr0 t h
      have hrn := hbn _ _ hM
      have hM := (hFr r hrn).trans hM
      have hlt := h2 t h
      have hl9 := hl8 t h
      have hqm1 := takeI_le (part := set) (sp := false) (keep := we) (tr := tr) (show t + 1 ≤ tr.length by omega)
      have hstep : takeI set false we tr (t + 1) = tkL set false we q (tr.getD t []) := by rw [hq]; rfl
      rw [hstep] at hqm1
      unfold tkL at hstep hqm1
      have hkeep := tkT_keep (part := set) (s := (q, [])) (t := tr.getD t []) (tr.getD t []).length
      rw [hkeep] at hstep hqm1
      dsimp only at hstep hqm1
      generalize tr.getD t [] = w at hstep hM he hlt hl9 hqm1
      refine J.aload (pc := 27) G dX4_only_27 rfl ?_
      refine J.iload (pc := 29) G dX4_only_29 rfl ?_
      refine J.aald (pc := 31) G dX4_only_31 ((hFr b hb9).trans hb0) (Or.inl rfl) t rfl h (by omega) hf ?_
      refine J.astore (L' := [_, _, _, _, _, _, _, _, _, _, _, _, _, _, _]) (pc := 32) G dX4_only_32 rfl (Nat.le_of_ble_eq_true rfl) rfl ?_
      refine J.iconstN (pc := 34) G dX4_only_34 0 rfl ?_
      refine J.istore (L' := [_, _, _, _, _, _, _, _, _, _, _, _, _, _, _]) (pc := 35) G dX4_only_35 rfl (Nat.le_of_ble_eq_true rfl) rfl ?_
      refine J.aload (pc := 37) G dX4_only_37 rfl ?_
      refine J.astore (L' := [_, _, _, _, _, _, _, _, _, _, _, _, _, _, _]) (pc := 39) G dX4_only_39 rfl (Nat.le_of_ble_eq_true rfl) rfl ?_
      refine J.aload (pc := 41) G dX4_only_41 rfl ?_
      refine J.alenI (pc := 43) G dX4_only_43 hM ?_
      refine J.istore (L' := [_, _, _, _, _, _, _, _, _, _, _, _, _, _, _]) (pc := 44) G dX4_only_44 rfl (Nat.le_of_ble_eq_true rfl) rfl ?_
      refine J.iconstN (pc := 46) G dX4_only_46 0 rfl ?_
      refine J.istore (L' := [_, _, _, _, _, _, _, _, _, _, _, _, _, _, _]) (pc := 47) G dX4_only_47 rfl (Nat.le_of_ble_eq_true rfl) rfl ?_
      have K170 : ∀ (q' : List (List Nat)) (M' : AH), q' = takeI set false we tr (t + 1) → LgP M' n tr.length q' (n + 1) (n + 1 + q'.length) → (∀ x, x < n → M' x = M0 x) → ∀ l8 l9 l10 l11 l12 l13 l14, J g (1 + q'.length) (tr.length + tot q') (n + 1 + q'.length) M' [some (.ref b), some (.int (iI (set : Int))), some (.int (bI we)), some (.int (iI (q'.length : Int))), some (.ref n), some (.ref b), some (.int (iI (tr.length : Int))), some (.int (iI (t : Int))), l8, l9, l10, l11, l12, l13, l14] 170 [] := by
        intro q' M' hq' hP' hFr' l8 l9 l10 l11 l12 l13 l14
        refine J.iincN (L' := [_, _, _, _, _, _, _, _, _, _, _, _, _, _, _]) (pc := 170) G dX4_only_170 1 rfl rfl rfl rfl ?_
        refine J.goto (pc := 173) (tgt := 20) G dX4_only_173 (by decide) ?_
        exact ih (t + 1, q', M') ⟨by dsimp only; omega, hq', hP', hFr'⟩ (by dsimp only; omega) _ _ _ _ _ _ _
      have hlen0 := tkTf_len (part := set) (s := (q, [])) (t := w)
      have hmo := fun k => tkTf_le (part := set) (s := (q, [])) (t := w) (k := k)
      have hst := fun j => tkTf_s (part := set) (s := (q, [])) (t := w) (k := j)
      generalize hP2 : (fun j => (tkT set false (q, []) w j).2) = p at hlen0 hmo hst hstep hqm1
      have ep : ∀ j, (tkT set false (q, []) w j).2 = p j := fun j => by rw [← hP2]
      simp only [ep] at hlen0 hmo hst hstep hqm1
      have p0 : p 0 = [] := by rw [← hP2]; rfl
      have K88 : ∀ l13, J g (1 + q.length) (tr.length + tot q) (n + 1 + q.length) M [some (.ref b), some (.int (iI (set : Int))), some (.int (bI we)), some (.int (iI (q.length : Int))), some (.ref n), some (.ref b), some (.int (iI (tr.length : Int))), some (.int (iI (t : Int))), some (.ref r), some (.int (iI ((p w.length).length : Int))), some (.ref r), some (.int (iI (w.length : Int))), some (.int (iI (w.length : Int))), l13, l14] 88 [] := by
        intro l13
        have hpw : (p w.length).length ≤ w.length := by have := hlen0 w.length; simpa using this
        have K100 : ¬ ((p w.length).length = 0 ∧ we = false) → J g (1 + q.length) (tr.length + tot q) (n + 1 + q.length) M [some (.ref b), some (.int (iI (set : Int))), some (.int (bI we)), some (.int (iI (q.length : Int))), some (.ref n), some (.ref b), some (.int (iI (tr.length : Int))), some (.int (iI (t : Int))), some (.ref r), some (.int (iI ((p w.length).length : Int))), some (.ref r), some (.int (iI (w.length : Int))), some (.int (iI (w.length : Int))), l13, l14] 100 [] := by
          intro hno
          have hcond : (we || decide ((p w.length).length ≠ 0)) = true := by
            cases hwe : we
            · rw [Bool.false_or]
              exact decide_eq_true (fun q => hno ⟨q, hwe⟩)
            · rfl
          rw [if_pos hcond] at hstep hqm1
          rw [tot_app, List.length_append, List.length_singleton] at hqm1
          refine J.aload (pc := 100) G dX4_only_100 rfl ?_
          refine J.iload_n (pc := 102) G dX4_only_102 rfl ?_
          refine J.iload (pc := 103) G dX4_only_103 rfl ?_
          refine J.newI (pc := 105) G q62 dX4_only_105 (by omega) (by omega) (by omega) (fun M2 hput2 hag2 => ?_)
          refine J.aastR (pc := 107) G dX4_only_107 ((hag2 n (by omega)).trans hbf) hput2 q.length rfl (by omega) (by omega) (fun M3 hput3 hag3 => ?_)
          refine J.iconstN (pc := 108) G dX4_only_108 0 rfl ?_
          refine J.istore (L' := [_, _, _, _, _, _, _, _, _, _, _, _, _, _, _]) (pc := 109) G dX4_only_109 rfl (Nat.le_of_ble_eq_true rfl) rfl ?_
          refine J.aload (pc := 111) G dX4_only_111 rfl ?_
          refine J.astore (L' := [_, _, _, _, _, _, _, _, _, _, _, _, _, _, _]) (pc := 113) G dX4_only_113 rfl (Nat.le_of_ble_eq_true rfl) rfl ?_
          refine J.aload (pc := 115) G dX4_only_115 rfl ?_
          refine J.alenI (pc := 117) G dX4_only_117 ((hag3 r (by omega)).trans ((hag2 r (by omega)).trans hM)) ?_
          refine J.istore (L' := [_, _, _, _, _, _, _, _, _, _, _, _, _, _, _]) (pc := 118) G dX4_only_118 rfl (Nat.le_of_ble_eq_true rfl) rfl ?_
          refine J.iconstN (pc := 120) G dX4_only_120 0 rfl ?_
          refine J.istore (L' := [_, _, _, _, _, _, _, _, _, _, _, _, _, _, _]) (pc := 121) G dX4_only_121 rfl (Nat.le_of_ble_eq_true rfl) rfl ?_
          refine J.nn (n' := n + 1 + (q ++ [p w.length]).length) (by rw [List.length_append]; show _ = n + 1 + (q.length + 1); omega) ?_
          refine J.wid (k' := 1 + (q ++ [p w.length]).length) (z' := tr.length + tot (q ++ [p w.length])) (by rw [List.length_append]; show _ ≤ 1 + (q.length + 1); omega) (by rw [tot_app]; omega) ?_
          have hla : (q ++ [p w.length]).length = q.length + 1 := by rw [List.length_append]; rfl
          have hta := tot_app (tr := q) (w := p w.length)
          have K2 : ∀ s : Nat × AH, (s.1 ≤ w.length ∧ s.2 n = some (cR 3 tr.length (va_up f q.length (some (n + 1 + q.length)))) ∧ (∃ e : Nat → Nat, s.2 (n + 1 + q.length) = some (cN (p w.length).length e) ∧ ∀ i, i < (p s.1).length → e i = gd (p s.1) i) ∧ ∀ x, x ≠ n → x < n + 1 + q.length → s.2 x = M x) → ∀ l14, J g (1 + (q ++ [p w.length]).length) (tr.length + tot (q ++ [p w.length])) (n + 1 + (q ++ [p w.length]).length) s.2 [some (.ref b), some (.int (iI (set : Int))), some (.int (bI we)), some (.int (iI (q.length : Int))), some (.ref n), some (.ref b), some (.int (iI (tr.length : Int))), some (.int (iI (t : Int))), some (.ref r), some (.int (iI ((p w.length).length : Int))), some (.int (iI ((p s.1).length : Int))), some (.ref r), some (.int (iI (w.length : Int))), some (.int (iI (s.1 : Int))), l14] 123 [] := by
            refine loopJ (fun s => w.length - s.1) _ _ ?_
            clear hput2 hag2 hput3 hag3 M2 M3
            rintro ⟨j, M1⟩ ⟨hj, hn1, ⟨e1, hr1, he1⟩, hFr1⟩ ih2 l14
            dsimp only at hj hn1 hr1 he1 hFr1 ih2 ⊢
            have hM1 := (hFr1 r (by omega) (by omega)).trans hM
            refine J.iload (pc := 123) G dX4_only_123 rfl ?_
            refine J.iload (pc := 125) G dX4_only_125 rfl ?_
            refine J.icmp_geN (pc := 127) (tgt := 167) G dX4_only_127 (by decide) (by omega) (by omega) (fun h5 => ?_) (fun h5 => ?_)
            · have hjw : j = w.length := by omega
              subst hjw
              have hPn : LgP M1 n tr.length (q ++ [p w.length]) (n + 1) (n + 1 + q.length + 1) := LgP.push hrf hn1 (by omega) hr1 he1 (fun x g1 g2 => hFr1 x (by omega) g2)
              refine J.iincN (L' := [_, _, _, _, _, _, _, _, _, _, _, _, _, _, _]) (pc := 167) G dX4_only_167 1 rfl rfl rfl rfl ?_
              have el : q.length + 1 = (q ++ [p w.length]).length := by rw [List.length_append]; rfl
              rw [el]
              refine K170 _ M1 hstep.symm ?_ (fun x hx => (hFr1 x (by omega) (by omega)).trans (hFr x hx)) _ _ _ _ _ _ _
              rw [← el, show n + 1 + (q.length + 1) = n + 1 + q.length + 1 by omega]
              exact hPn
            · have g1 := hl9 j h5
              have ej := he j h5
              have hs2 := hst j
              have nx : ∀ M' : AH, M' n = some (cR 3 tr.length (va_up f q.length (some (n + 1 + q.length)))) → (∃ e : Nat → Nat, M' (n + 1 + q.length) = some (cN (p w.length).length e) ∧ ∀ i, i < (p (j + 1)).length → e i = gd (p (j + 1)) i) → (∀ x, x ≠ n → x < n + 1 + q.length → M' x = M x) → ∀ l14, J g (1 + (q ++ [p w.length]).length) (tr.length + tot (q ++ [p w.length])) (n + 1 + (q ++ [p w.length]).length) M' [some (.ref b), some (.int (iI (set : Int))), some (.int (bI we)), some (.int (iI (q.length : Int))), some (.ref n), some (.ref b), some (.int (iI (tr.length : Int))), some (.int (iI (t : Int))), some (.ref r), some (.int (iI ((p w.length).length : Int))), some (.int (iI ((p (j + 1)).length : Int))), some (.ref r), some (.int (iI (w.length : Int))), some (.int (iI (j : Int))), l14] 161 [] := by
                intro M' a1 a2 a3 l14
                refine J.iincN (L' := [_, _, _, _, _, _, _, _, _, _, _, _, _, _, _]) (pc := 161) G dX4_only_161 1 rfl rfl rfl rfl ?_
                refine J.goto (pc := 164) (tgt := 123) G dX4_only_164 (by decide) ?_
                exact ih2 (j + 1, M') ⟨by dsimp only; omega, a1, a2, a3⟩ (by dsimp only; omega) _
              refine J.aload (pc := 130) G dX4_only_130 rfl ?_
              refine J.iload (pc := 132) G dX4_only_132 rfl ?_
              refine J.ialdN (pc := 134) G dX4_only_134 hM1 h5 (by omega) ?_
              rw [ej]
              refine J.istore (L' := [_, _, _, _, _, _, _, _, _, _, _, _, _, _, _]) (pc := 135) G dX4_only_135 rfl (Nat.le_of_ble_eq_true rfl) rfl ?_
              refine J.iload_n (pc := 137) G dX4_only_137 rfl ?_
              refine J.iload (pc := 138) G dX4_only_138 rfl ?_
              refine J.callS (pc := 140) (na := 2) G (m_has (n + 1 + (q ++ [p w.length]).length) M1 (m := set) (l := gd w j) (by omega) (by omega)) q805 q806 q807 q5 (by decide +kernel) dX4_only_140 rfl (Nat.le_of_ble_eq_true rfl) rfl ⟨by omega, by decide, by omega, by omega⟩ ?_
              rintro r9 n9 M9 ⟨hr9, hn9, hM9⟩
              subst hr9
              rw [hn9, hM9]
              clear hn9 hM9 n9 M9
              dsimp only [Option.toList, List.cons_append, List.nil_append]
              refine J.if_ne_b (pc := 143) (tgt := 149) G dX4_only_143 (by decide) (fun hb1 => ?_) (fun hb1 => ?_)
              · rw [if_pos hb1] at hs2
                have hle := hmo (j + 1) (w.length - (j + 1))
                rw [show j + 1 + (w.length - (j + 1)) = w.length by omega, hs2, List.length_append, List.length_singleton] at hle
                refine J.aload (pc := 149) G dX4_only_149 rfl ?_
                refine J.iload_n (pc := 151) G dX4_only_151 rfl ?_
                refine J.aald (pc := 152) G dX4_only_152 hn1 (Or.inl rfl) q.length rfl (by omega) (by omega) (va_up_self _ _ _) ?_
                refine J.iload (pc := 153) G dX4_only_153 rfl ?_
                refine J.iload (pc := 155) G dX4_only_155 rfl ?_
                refine J.iastN (pc := 157) G dX4_only_157 hr1 (by omega) (by omega) (fun M4 hput4 hag4 => ?_)
                refine J.iincN (L' := [_, _, _, _, _, _, _, _, _, _, _, _, _, _, _]) (pc := 158) G dX4_only_158 1 rfl rfl rfl rfl ?_
                have el : (p (j + 1)).length = (p j).length + 1 := by rw [hs2, List.length_append]; rfl
                rw [← el]
                refine nx M4 ((hag4 n (by omega)).trans hn1) ⟨_, hput4, fun i hi => ?_⟩ (fun x g1 g2 => (hag4 x (by omega)).trans (hFr1 x g1 g2)) _
                rw [el] at hi
                rw [hs2, gd_snoc]
                by_cases ei : i = (p j).length
                · subst ei; rw [upN_s, if_pos rfl]
                · rw [upN_n ei, if_neg ei]; exact he1 i (by omega)
              · rw [hb1] at hs2
                have hs2 : p (j + 1) = p j := hs2
                refine J.goto (pc := 146) (tgt := 161) G dX4_only_146 (by decide) ?_
                rw [← hs2]
                exact nx M1 hn1 ⟨e1, hr1, by rw [hs2]; exact he1⟩ hFr1 _
          have := K2 (0, M3) ⟨Nat.zero_le _, hput3, ⟨_, (hag3 _ (by omega)).trans hput2, by dsimp only; rw [p0]; exact fun i hi => absurd hi (Nat.not_lt_zero i)⟩, fun x g1 g2 => (hag3 x g1).trans (hag2 x (by omega))⟩ l14
          dsimp only at this
          rw [p0] at this
          exact this
        refine J.iload (pc := 88) G dX4_only_88 rfl ?_
        refine J.if_neN (pc := 90) (tgt := 100) G dX4_only_90 (by decide) (by omega) (fun h5 => K100 (fun q => by omega)) (fun h5 => ?_)
        refine J.iload_n (pc := 93) G dX4_only_93 rfl ?_
        refine J.if_ne_b (pc := 94) (tgt := 100) G dX4_only_94 (by decide) (fun h6 => K100 (fun q => by rw [q.2] at h6; cases h6)) (fun h6 => ?_)
        refine J.goto (pc := 97) (tgt := 170) G dX4_only_97 (by decide) ?_
        rw [if_neg (by rw [h6, h5]; decide)] at hstep
        exact K170 q M hstep.symm hP hFr _ _ _ _ _ _ _
      have K3 : ∀ j : Nat, j ≤ w.length → ∀ l13, J g (1 + q.length) (tr.length + tot q) (n + 1 + q.length) M [some (.ref b), some (.int (iI (set : Int))), some (.int (bI we)), some (.int (iI (q.length : Int))), some (.ref n), some (.ref b), some (.int (iI (tr.length : Int))), some (.int (iI (t : Int))), some (.ref r), some (.int (iI ((p j).length : Int))), some (.ref r), some (.int (iI (w.length : Int))), some (.int (iI (j : Int))), l13, l14] 49 [] := by
        refine loopJ (fun j => w.length - j) _ _ ?_
        intro j hj ih3 l13
        refine J.iload (pc := 49) G dX4_only_49 rfl ?_
        refine J.iload (pc := 51) G dX4_only_51 rfl ?_
        refine J.icmp_geN (pc := 53) (tgt := 88) G dX4_only_53 (by decide) (by omega) (by omega) (fun h5 => ?_) (fun h5 => ?_)
        · have hjw : j = w.length := by omega
          subst hjw
          exact K88 _
        · have g1 := hl9 j h5
          have ej := he j h5
          have hs2 := hst j
          have nx : ∀ y : Nat, (p (j + 1)).length = (p j).length + y → ∀ l13, J g (1 + q.length) (tr.length + tot q) (n + 1 + q.length) M [some (.ref b), some (.int (iI (set : Int))), some (.int (bI we)), some (.int (iI (q.length : Int))), some (.ref n), some (.ref b), some (.int (iI (tr.length : Int))), some (.int (iI (t : Int))), some (.ref r), some (.int (iI ((p j).length : Int))), some (.ref r), some (.int (iI (w.length : Int))), some (.int (iI (j : Int))), l13, l14] 79 [.int (iI (y : Int)), .int (iI ((p j).length : Int))] := by
            intro y hy l13
            refine J.iaddN (pc := 79) G dX4_only_79 ?_
            refine J.istore (L' := [_, _, _, _, _, _, _, _, _, _, _, _, _, _, _]) (pc := 80) G dX4_only_80 rfl (Nat.le_of_ble_eq_true rfl) rfl ?_
            refine J.iincN (L' := [_, _, _, _, _, _, _, _, _, _, _, _, _, _, _]) (pc := 82) G dX4_only_82 1 rfl rfl rfl rfl ?_
            refine J.goto (pc := 85) (tgt := 49) G dX4_only_85 (by decide) ?_
            rw [← hy]
            exact ih3 (j + 1) (by omega) (by omega) _
          refine J.aload (pc := 56) G dX4_only_56 rfl ?_
          refine J.iload (pc := 58) G dX4_only_58 rfl ?_
          refine J.ialdN (pc := 60) G dX4_only_60 hM h5 (by omega) ?_
          rw [ej]
          refine J.istore (L' := [_, _, _, _, _, _, _, _, _, _, _, _, _, _, _]) (pc := 61) G dX4_only_61 rfl (Nat.le_of_ble_eq_true rfl) rfl ?_
          refine J.iload (pc := 63) G dX4_only_63 rfl ?_
          refine J.iload_n (pc := 65) G dX4_only_65 rfl ?_
          refine J.iload (pc := 66) G dX4_only_66 rfl ?_
          refine J.callS (pc := 68) (na := 2) G (m_has (n + 1 + q.length) M (m := set) (l := gd w j) (by omega) (by omega)) q805 q806 q807 q5 (by decide +kernel) dX4_only_68 rfl (Nat.le_of_ble_eq_true rfl) rfl ⟨by omega, by decide, by omega, by omega⟩ ?_
          rintro r9 n9 M9 ⟨hr9, hn9, hM9⟩
          subst hr9
          rw [hn9, hM9]
          clear hn9 hM9 n9 M9
          dsimp only [Option.toList, List.cons_append, List.nil_append]
          refine J.if_eq_b (pc := 71) (tgt := 78) G dX4_only_71 (by decide) (fun hb1 => ?_) (fun hb1 => ?_)
          · rw [hb1] at hs2
            have hs2 : p (j + 1) = p j := hs2
            refine J.iconstN (pc := 78) G dX4_only_78 0 rfl ?_
            exact nx 0 (by rw [hs2, Nat.add_zero]) _
          · rw [if_pos hb1] at hs2
            refine J.iconstN (pc := 74) G dX4_only_74 1 rfl ?_
            refine J.goto (pc := 75) (tgt := 79) G dX4_only_75 (by decide) ?_
            exact nx 1 (by rw [hs2, List.length_append]; rfl) _
      have := K3 0 (Nat.zero_le _) l13
      rw [p0] at this
      exact this
  exact K1 (0, [], M) ⟨Nat.zero_le _, rfl, ⟨_, hput, fun j hj => absurd hj (Nat.not_lt_zero j)⟩, fun x hx => hag x (by omega)⟩ _ _ _ _ _ _ _
end ONLY1
