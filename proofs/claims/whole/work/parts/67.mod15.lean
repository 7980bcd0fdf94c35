section MOD15
def egL (tr : List (List Nat)) (e : Bool) (k : Nat) : Nat := it (fun t s => if 0 < (tr.getD t []).length then s ||| 2 ^ gd (tr.getD t []) (if e then (tr.getD t []).length - 1 else 0) else s) 0 k
set_option maxRecDepth 100000 in
set_option maxHeartbeats 4000000 in
theorem m_edgesIn (n : Nat) (M : AH) {b : Nat} {e : Bool} {tr : List (List Nat)} (hg : LgR M b tr) (hl8 : LabL tr) (h1 : tr.length < 1000) (h2 : ∀ t, t < tr.length → (tr.getD t []).length < 1000) : Fn yX4_edgesIn cX4_edgesIn 7 (some .int) 0 [.ref b, .int (bI e)] n M 0 0 (fun r n' M' => r = some (.int (iI ((egL tr e tr.length : Nat) : Int))) ∧ n' = n ∧ M' = M) := by
  refine Fn.of (by decide) [some _, some _, none, none, none, none, none] rfl rfl (Nat.le_of_ble_eq_true rfl) ?_
  intro g G hin hO
  obtain ⟨f, hb, hr⟩ := hg
  refine J.iconstN (pc := 0) G dX4_edgesIn_0 0 rfl ?_
  refine J.istore_n (L' := [_, _, _, _, _, _, _]) (pc := 1) G dX4_edgesIn_1 rfl (Nat.le_of_ble_eq_true rfl) rfl ?_
  refine J.aload_n (pc := 2) G dX4_edgesIn_2 rfl ?_
  refine J.astore_n (L' := [_, _, _, _, _, _, _]) (pc := 3) G dX4_edgesIn_3 rfl (Nat.le_of_ble_eq_true rfl) rfl ?_
  refine J.aload_n (pc := 4) G dX4_edgesIn_4 rfl ?_
  refine J.alenR (pc := 5) G dX4_edgesIn_5 hb (by decide) ?_
  refine J.istore (L' := [_, _, _, _, _, _, _]) (pc := 6) G dX4_edgesIn_6 rfl (Nat.le_of_ble_eq_true rfl) rfl ?_
  refine J.iconstN (pc := 8) G dX4_edgesIn_8 0 rfl ?_
  refine J.istore (L' := [_, _, _, _, _, _, _]) (pc := 9) G dX4_edgesIn_9 rfl (Nat.le_of_ble_eq_true rfl) rfl ?_
  have K1 : ∀ t : Nat, t ≤ tr.length → ∀ l6, J g 0 0 n M [some (.ref b), some (.int (bI e)), some (.int (iI (egL tr e t : Int))), some (.ref b), some (.int (iI (tr.length : Int))), some (.int (iI (t : Int))), l6] 11 [] := by
    refine loopJ (fun t => tr.length - t) _ _ ?_
    intro t ht ih l6
    have hstep : egL tr e (t + 1) = if 0 < (tr.getD t []).length then egL tr e t ||| 2 ^ gd (tr.getD t []) (if e then (tr.getD t []).length - 1 else 0) else egL tr e t := rfl
    refine J.iload (pc := 11) G dX4_edgesIn_11 rfl ?_
    refine J.iload (pc := 13) G dX4_edgesIn_13 rfl ?_
    refine J.icmp_geN (pc := 15) (tgt := 57) G dX4_edgesIn_15 (by decide) (by omega) (by omega) (fun h => ?_) (fun h => ?_)
    · refine J.iload_n (pc := 57) G dX4_edgesIn_57 rfl ?_
      exact J.iret (pc := 58) G hO dX4_edgesIn_58 (by decide) (by decide) ⟨by rw [show t = tr.length by omega], rfl, rfl⟩
    · obtain ⟨r, c, hf, hM, he⟩ := hr t h
      have hlt := h2 t h
      have hl9 := hl8 t h
      generalize tr.getD t [] = w at hstep hM he hlt hl9
      generalize egL tr e t = s at hstep ⊢
      have nx : ∀ x : Nat, egL tr e (t + 1) = x → J g 0 0 n M [some (.ref b), some (.int (bI e)), some (.int (iI (x : Int))), some (.ref b), some (.int (iI (tr.length : Int))), some (.int (iI (t : Int))), some (.ref r)] 51 [] := by
        intro x hx
        refine J.iincN (L' := [_, _, _, _, _, _, _]) (pc := 51) G dX4_edgesIn_51 1 rfl rfl rfl rfl ?_
        refine J.goto (pc := 54) (tgt := 11) G dX4_edgesIn_54 (by decide) ?_
        rw [← hx]
        exact ih (t + 1) (by omega) (by omega) _
      refine J.aload_n (pc := 18) G dX4_edgesIn_18 rfl ?_
      refine J.iload (pc := 19) G dX4_edgesIn_19 rfl ?_
      refine J.aald (pc := 21) G dX4_edgesIn_21 hb (Or.inl rfl) t rfl h (by omega) hf ?_
      refine J.astore (L' := [_, _, _, _, _, _, _]) (pc := 22) G dX4_edgesIn_22 rfl (Nat.le_of_ble_eq_true rfl) rfl ?_
      refine J.aload (pc := 24) G dX4_edgesIn_24 rfl ?_
      refine J.alenI (pc := 26) G dX4_edgesIn_26 hM ?_
      refine J.if_le (pc := 27) (tgt := 51) G dX4_edgesIn_27 (by decide) (by omega) (by omega) (fun h4 => ?_) (fun h4 => ?_)
      · exact nx _ (by rw [hstep, if_neg (by omega)])
      · rw [if_pos (show 0 < w.length by omega)] at hstep
        have K47 : ∀ y : Nat, y = (if e then w.length - 1 else 0) → J g 0 0 n M [some (.ref b), some (.int (bI e)), some (.int (iI (s : Int))), some (.ref b), some (.int (iI (tr.length : Int))), some (.int (iI (t : Int))), some (.ref r)] 47 [.int (iI (y : Int)), .ref r, .int (iI ((1 : Nat) : Int)), .int (iI (s : Int))] := by
          intro y hy
          have hy2 : y < w.length := by rw [hy]; split <;> omega
          have hgy := hl9 y hy2
          refine J.ialdN (pc := 47) G dX4_edgesIn_47 hM hy2 (by omega) ?_
          rw [he y hy2]
          refine J.ishl1 (pc := 48) G dX4_edgesIn_48 (by omega) ?_
          refine J.iorN (pc := 49) G dX4_edgesIn_49 ?_
          refine J.istore_n (L' := [_, _, _, _, _, _, _]) (pc := 50) G dX4_edgesIn_50 rfl (Nat.le_of_ble_eq_true rfl) rfl ?_
          exact nx _ (by rw [hstep, ← hy])
        refine J.iload_n (pc := 30) G dX4_edgesIn_30 rfl ?_
        refine J.iconstN (pc := 31) G dX4_edgesIn_31 1 rfl ?_
        refine J.aload (pc := 32) G dX4_edgesIn_32 rfl ?_
        refine J.iload_n (pc := 34) G dX4_edgesIn_34 rfl ?_
        refine J.if_eq_b (pc := 35) (tgt := 46) G dX4_edgesIn_35 (by decide) (fun hb2 => ?_) (fun hb2 => ?_)
        · refine J.iconstN (pc := 46) G dX4_edgesIn_46 0 rfl ?_
          exact K47 0 (by rw [hb2]; rfl)
        · refine J.aload (pc := 38) G dX4_edgesIn_38 rfl ?_
          refine J.alenI (pc := 40) G dX4_edgesIn_40 hM ?_
          refine J.iconstN (pc := 41) G dX4_edgesIn_41 1 rfl ?_
          refine J.isubN (pc := 42) G dX4_edgesIn_42 (by omega) ?_
          refine J.goto (pc := 43) (tgt := 47) G dX4_edgesIn_43 (by decide) ?_
          exact K47 (w.length - 1) (by rw [hb2]; rfl)
  exact K1 0 (Nat.zero_le _) _
def rwF (f : Nat → Option Nat) (k : Nat) : Nat → Option Nat := fun j => if j < k then f j else none
theorem rwF_s {f : Nat → Option Nat} {k r : Nat} (h : f k = some r) : va_up (rwF f k) k (some r) = rwF f (k + 1) := by
  funext j
  unfold va_up rwF
  by_cases e : j = k
  · subst e; simp [h]
  · by_cases h2 : j < k
    · have h3 : j < k + 1 := by omega
      simp [e, h2, h3]
    · have h3 : ¬ j < k + 1 := by omega
      simp [e, h2, h3]
set_option maxRecDepth 100000 in
set_option maxHeartbeats 4000000 in
theorem m_shortened (n : Nat) (M0 : AH) {b N k : Nat} {f : Nat → Option Nat} (hb : M0 b = some (cR 3 N f)) (hbn : b < n) (hk : k ≤ N) (hN : N < 100000) (hr : ∀ j, j < k → ∃ r l e, f j = some r ∧ r < n ∧ M0 r = some (cN l e)) : Fn yX4_shortened cX4_shortened 4 (some (.array (.array .int))) 0 [.ref b, .int (iI (k : Int))] n M0 1 k (fun r n' M' => r = some (.ref n) ∧ n' = n + 1 ∧ M' n = some (cR 3 k (rwF f k)) ∧ ∀ q, q < n → M' q = M0 q) := by
  refine Fn.of (by decide) [some _, some _, none, none] rfl rfl (Nat.le_of_ble_eq_true rfl) ?_
  intro g G hin hO
  refine J.iload_n (pc := 0) G dX4_shortened_0 rfl ?_
  refine J.newR (pc := 1) G q816 dX4_shortened_1 (by omega) (by omega) (by omega) (fun M hput hag => ?_)
  refine J.astore_n (L' := [_, _, _, _]) (pc := 4) G dX4_shortened_4 rfl (Nat.le_of_ble_eq_true rfl) rfl ?_
  refine J.iconstN (pc := 5) G dX4_shortened_5 0 rfl ?_
  refine J.istore_n (L' := [_, _, _, _]) (pc := 6) G dX4_shortened_6 rfl (Nat.le_of_ble_eq_true rfl) rfl ?_
  have K1 : ∀ q : Nat × AH, (q.1 ≤ k ∧ q.2 n = some (cR 3 k (rwF f q.1)) ∧ ∀ x, x < n → q.2 x = M0 x) → J g (0 + 1) (0 + k) (n + 1) q.2 [some (.ref b), some (.int (iI (k : Int))), some (.ref n), some (.int (iI (q.1 : Int)))] 7 [] := by
    refine loopJ (fun q => k - q.1) _ _ ?_
    clear hput hag
    rintro ⟨j, M⟩ ⟨hj, hn, hFr⟩ ih
    dsimp only at hj hn hFr ih ⊢
    refine J.iload_n (pc := 7) G dX4_shortened_7 rfl ?_
    refine J.iload_n (pc := 8) G dX4_shortened_8 rfl ?_
    refine J.icmp_geN (pc := 9) (tgt := 24) G dX4_shortened_9 (by decide) (by omega) (by omega) (fun h => ?_) (fun h => ?_)
    · refine J.aload_n (pc := 24) G dX4_shortened_24 rfl ?_
      have hje : j = k := by omega
      rw [hje] at hn
      exact J.aret (pc := 25) G (Or.inr ⟨_, rfl⟩) hO dX4_shortened_25 (by omega) (by omega) ⟨rfl, rfl, hn, hFr⟩
    · obtain ⟨r, l, e, hf, hrn, hrM⟩ := hr j h
      refine J.aload_n (pc := 12) G dX4_shortened_12 rfl ?_
      refine J.iload_n (pc := 13) G dX4_shortened_13 rfl ?_
      refine J.aload_n (pc := 14) G dX4_shortened_14 rfl ?_
      refine J.iload_n (pc := 15) G dX4_shortened_15 rfl ?_
      refine J.aald (pc := 16) G dX4_shortened_16 ((hFr b hbn).trans hb) (Or.inl rfl) j rfl (by omega) (by omega) hf ?_
      refine J.aastR (pc := 17) G dX4_shortened_17 hn ((hFr r hrn).trans hrM) j rfl (by omega) (by omega) (fun M2 hput hag => ?_)
      rw [rwF_s hf] at hput
      refine J.iincN (L' := [_, _, _, _]) (pc := 18) G dX4_shortened_18 1 rfl rfl rfl rfl ?_
      refine J.goto (pc := 21) (tgt := 7) G dX4_shortened_21 (by decide) ?_
      exact ih (j + 1, M2) ⟨by dsimp only; omega, hput, fun x hx => (hag x (by omega)).trans (hFr x hx)⟩ (by dsimp only; omega)
  exact K1 (0, M) ⟨Nat.zero_le _, by dsimp only; rw [show rwF f 0 = fun _ => none from by funext j; simp [rwF]]; exact hput, fun x hx => hag x (by omega)⟩
end MOD15
