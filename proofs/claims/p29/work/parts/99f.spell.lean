section SPELL
theorem acF_add {W : Nat → Bool} {a : Nat} : ∀ b, acF W (a + b) = acF W a + acF (fun c => W (a + c)) b
  | 0 => rfl
  | b + 1 => by
    have e1 : acF W (a + (b + 1)) = if W (a + b) then acF W (a + b) + 1 else acF W (a + b) := rfl
    have e2 : acF (fun c => W (a + c)) (b + 1) = if W (a + b) then acF (fun c => W (a + c)) b + 1 else acF (fun c => W (a + c)) b := rfl
    rw [e1, e2, acF_add b]
    split <;> omega
theorem acF_cong {W V : Nat → Bool} {k : Nat} (h : ∀ c, c < k → W c = V c) : acF W k = acF V k := it_cong k (fun i c hi => by rw [h i hi])
theorem acF_no {W : Nat → Bool} : ∀ k, (∀ c, c < k → W c = false) → acF W k = 0
  | 0, _ => rfl
  | k + 1, h => by
    have e1 : acF W (k + 1) = if W k then acF W k + 1 else acF W k := rfl
    rw [e1, h k (by omega), acF_no k (fun c hc => h c (by omega))]
    rfl
theorem cdF_at {w : Nat → Nat} {c : Nat} : ∀ k y, cdF w c k y = if y < k then (c >>> (3 * y)) &&& 7 else w y
  | 0, y => rfl
  | k + 1, y => by
    have e : cdF w c (k + 1) = upN (cdF w c k) k ((c >>> (3 * k)) &&& 7) := rfl
    rw [e]
    by_cases h : y = k
    · subst h; rw [upN_s, if_pos (Nat.lt_succ_self y)]
    · rw [upN_n h, cdF_at k y]
      by_cases h2 : y < k
      · rw [if_pos h2, if_pos (show y < k + 1 by omega)]
      · rw [if_neg h2, if_neg (show ¬ y < k + 1 by omega)]
theorem dig_lt {c k : Nat} : (c >>> k) &&& 7 < 8 := Nat.lt_of_le_of_lt Nat.and_le_right (by decide)
theorem and7_bit {x i : Nat} : (x &&& 7).testBit i = (x.testBit i && decide (i < 3)) := by
  rw [Nat.testBit_and, show (7 : Nat) = 2 ^ 3 - 1 from rfl, Nat.testBit_two_pow_sub_one]
theorem dig_low {b c p y : Nat} (hc : c < 2 ^ (3 * p)) (hy : y < p) : ((2 ^ (3 * p) * b + c) >>> (3 * y)) &&& 7 = (c >>> (3 * y)) &&& 7 := by
  apply Nat.eq_of_testBit_eq
  intro i
  rw [and7_bit, and7_bit, Nat.testBit_shiftRight, Nat.testBit_shiftRight, Nat.testBit_two_pow_mul_add b hc]
  by_cases h : i < 3
  · rw [if_pos (show 3 * y + i < 3 * p by omega)]
  · rw [decide_eq_false h, Bool.and_false, Bool.and_false]
theorem dig_top {b c p : Nat} (hc : c < 2 ^ (3 * p)) (hb : b < 8) : ((2 ^ (3 * p) * b + c) >>> (3 * p)) &&& 7 = b := by
  apply Nat.eq_of_testBit_eq
  intro i
  rw [and7_bit, Nat.testBit_shiftRight, Nat.testBit_two_pow_mul_add b hc, if_neg (by omega), show 3 * p + i - 3 * p = i by omega]
  by_cases h : i < 3
  · rw [decide_eq_true h, Bool.and_true]
  · rw [decide_eq_false h, Bool.and_false, bit_lt (k := 3) hb (by omega)]
theorem cdF_put {x : Nat → Nat} {b c p : Nat} (hc : c < 2 ^ (3 * p)) (hb : b < 8) : cdF (upN x p b) c p = cdF x (2 ^ (3 * p) * b + c) (p + 1) := by
  funext y
  rw [cdF_at, cdF_at]
  by_cases h : y < p
  · rw [if_pos h, if_pos (show y < p + 1 by omega), dig_low hc h]
  · rw [if_neg h]
    by_cases h2 : y = p
    · subst h2; rw [upN_s, if_pos (Nat.lt_succ_self y), dig_top hc hb]
    · rw [upN_n h2, if_neg (show ¬ y < p + 1 by omega)]
theorem cdF_cw {w : Nat → Nat} {c k : Nat} : cdF w c k = cwF w (fun y => (c >>> (3 * y)) &&& 7) 0 k := by
  funext y
  rw [cdF_at, cwF_at, Nat.zero_add]
theorem sp_ok {nd : List Nd} {iw aw : (Nat → Nat) → Nat → Nat → Bool} {od : (Nat → Nat) → Nat → Nat → Nat → Bool} {ag : (Nat → Nat) → Nat → Nat → Bool} {go : (Nat → Nat) → Nat → Nat → Nat → Bool} {wl : Nat} (hg : Grown nd) (hE : IwA8 nd iw aw od ag go) (h12 : wl ≤ 12) : ∀ p (x wv en : Nat → Nat), p ≤ wl → (∀ i, i < 12 → x i < 8) → FixW nd wv en wl p → (∀ y, p ≤ y → y < wl → wv y = 2 ^ x y ∧ (ndS nd 0).testBit (x y) = true) → (spF nd wl p wv en).1 = acF (fun c => iw (cdF x c p) 0 (2 ^ wl - 1)) (2 ^ (3 * p)) ∧ (∀ y, p ≤ y → (spF nd wl p wv en).2.1 y = wv y) ∧ FixW nd (spF nd wl p wv en).2.1 (spF nd wl p wv en).2.2 wl p
  | 0, x, wv, en, _, hx, hF, hy => by
    refine ⟨?_, fun y _ => rfl, hF⟩
    have h := hF.root hg (hE x hx) (fun y h => (hy y (Nat.zero_le _) h).1) h12 (fun y h => (hy y (Nat.zero_le _) h).2)
    have e1 : (spF nd wl 0 wv en).1 = if (en 0).testBit wl then 1 else 0 := rfl
    have e2 : acF (fun c => iw (cdF x c 0) 0 (2 ^ wl - 1)) (2 ^ (3 * 0)) = if iw x 0 (2 ^ wl - 1) then 0 + 1 else 0 := rfl
    rw [e1, e2, h]
  | p + 1, x, wv, en, hp, hx, hF, hy => by
    have e1 : spF nd wl (p + 1) wv en = it (spS nd wl p (spF nd wl p)) (0, wv, en) 8 := rfl
    rw [e1]
    have key : ∀ b, b ≤ 8 → (it (spS nd wl p (spF nd wl p)) (0, wv, en) b).1 = acF (fun c => iw (cdF x c (p + 1)) 0 (2 ^ wl - 1)) (2 ^ (3 * p) * b) ∧ (∀ y, p + 1 ≤ y → (it (spS nd wl p (spF nd wl p)) (0, wv, en) b).2.1 y = wv y) ∧ FixW nd (it (spS nd wl p (spF nd wl p)) (0, wv, en) b).2.1 (it (spS nd wl p (spF nd wl p)) (0, wv, en) b).2.2 wl (p + 1) := by
      intro b
      induction b with
      | zero => exact fun _ => ⟨rfl, fun y _ => rfl, hF⟩
      | succ b ih =>
        intro hb
        obtain ⟨i1, i2, i3⟩ := ih (by omega)
        rw [it_s]
        generalize it (spS nd wl p (spF nd wl p)) (0, wv, en) b = q at i1 i2 i3
        have hsplit : acF (fun c => iw (cdF x c (p + 1)) 0 (2 ^ wl - 1)) (2 ^ (3 * p) * (b + 1)) = acF (fun c => iw (cdF x c (p + 1)) 0 (2 ^ wl - 1)) (2 ^ (3 * p) * b) + acF (fun c => iw (cdF (upN x p b) c p) 0 (2 ^ wl - 1)) (2 ^ (3 * p)) := by
          rw [Nat.mul_add, Nat.mul_one, acF_add]
          congr 1
          exact acF_cong (fun c hc => by rw [cdF_put hc (by omega)])
        have hx2 : ∀ i, i < 12 → upN x p b i < 8 := fun i hi => by
          by_cases e : i = p
          · subst e; rw [upN_s]; omega
          · rw [upN_n e]; exact hx i hi
        unfold spS
        by_cases hbit : (ndS nd 0).testBit b = true
        · rw [if_pos hbit]
          have hF1 : FixW nd (upN q.2.1 p (2 ^ b)) q.2.2 wl (p + 1) := i3.word hg (fun y h => (upN_n (by omega)).symm)
          have hF2 := FixW.read hg h12 (show p ≤ wl by omega) hF1
          obtain ⟨j1, j2, j3⟩ := sp_ok hg hE h12 p (upN x p b) (upN q.2.1 p (2 ^ b)) _ (by omega) hx2 hF2 (fun y h1 h2 => by
            by_cases e : y = p
            · subst e; rw [upN_s, upN_s]; exact ⟨rfl, hbit⟩
            · rw [upN_n e, upN_n e, i2 y (by omega)]
              exact hy y (by omega) h2)
          refine ⟨?_, fun y h => ?_, j3.up (by omega)⟩
          · rw [hsplit, ← i1, ← j1]
          · exact (j2 y (by omega)).trans ((upN_n (by omega)).trans (i2 y h))
        · rw [if_neg hbit]
          refine ⟨?_, i2, i3⟩
          rw [hsplit, ← i1, acF_no _ (fun c hc => ?_)]
          · rfl
          · cases q9 : iw (cdF (upN x p b) c p) 0 (2 ^ wl - 1)
            · rfl
            · exfalso
              have hlt : ∀ i, i < 12 → cdF (upN x p b) c p i < 8 := fun i hi => by
                rw [cdF_at]
                split
                · exact dig_lt
                · exact hx2 i hi
              have := iw_in hg (hE _ hlt) h12 q9 p (by omega)
              rw [cdF_at, if_neg (Nat.lt_irrefl p), upN_s] at this
              exact hbit this
    obtain ⟨k1, k2, k3⟩ := key 8 (Nat.le_refl _)
    refine ⟨?_, k2, k3⟩
    rw [k1, show 3 * (p + 1) = 3 * p + 3 by omega, Nat.pow_add]
/-- the words are counted by the miner as by the model -/
theorem words_eq {nd : List Nd} {iw aw : (Nat → Nat) → Nat → Nat → Bool} {od : (Nat → Nat) → Nat → Nat → Nat → Bool} {ag : (Nat → Nat) → Nat → Nat → Bool} {go : (Nat → Nat) → Nat → Nat → Nat → Bool} {v : Nat} {x wv en : Nat → Nat} (hg : Grown nd) (hE : IwA8 nd iw aw od ag go) (hx : ∀ i, i < 12 → x i < 8) (h12 : v ≤ 12) : (spF nd v v wv (rdF nd wv v v en nd.length)).1 = acF (fun c => iw (cdF x c v) 0 (2 ^ v - 1)) (2 ^ (3 * v)) :=
  (sp_ok hg hE h12 v x wv _ (Nat.le_refl _) hx (FixW.read hg h12 (Nat.le_refl _) (fun i _ s h1 h2 => absurd h1 (by omega))) (fun y h1 h2 => absurd h1 (by omega))).1
/-- what stands behind a word does not matter -/
theorem iw_tail {nd : List Nd} {iw aw : (Nat → Nat) → Nat → Nat → Bool} {od : (Nat → Nat) → Nat → Nat → Nat → Bool} {ag : (Nat → Nat) → Nat → Nat → Bool} {go : (Nat → Nat) → Nat → Nat → Nat → Bool} {w w' E : Nat → Nat} {fr wl : Nat} (hg : Grown nd) (hE : IwA8 nd iw aw od ag go) (hw : ∀ i, i < 12 → w i < 8) (hw' : ∀ i, i < 12 → w' i < 8) (hEl : ∀ j, j < wl → E (fr + j) < 8) (h12 : wl ≤ 12) : iw (cwF w E fr wl) 0 (2 ^ wl - 1) = iw (cwF w' E fr wl) 0 (2 ^ wl - 1) :=
  (mt_iw (wd := w) (en := w) hg hE hw hEl h12).symm.trans (mt_iw hg hE hw' hEl h12)
theorem iw_code {nd : List Nd} {iw aw : (Nat → Nat) → Nat → Nat → Bool} {od : (Nat → Nat) → Nat → Nat → Nat → Bool} {ag : (Nat → Nat) → Nat → Nat → Bool} {go : (Nat → Nat) → Nat → Nat → Nat → Bool} {w w' : Nat → Nat} {c v : Nat} (hg : Grown nd) (hE : IwA8 nd iw aw od ag go) (hw : ∀ i, i < 12 → w i < 8) (hw' : ∀ i, i < 12 → w' i < 8) (h12 : v ≤ 12) : iw (cdF w c v) 0 (2 ^ v - 1) = iw (cdF w' c v) 0 (2 ^ v - 1) := by
  rw [cdF_cw, cdF_cw]
  exact iw_tail hg hE hw hw' (fun j _ => dig_lt) h12
end SPELL
