section PFIN
theorem popc_full {v : Nat} (h : v ≤ 12) : popc (2 ^ v - 1) = v := by
  rw [← sel_popc (w := fun _ => 0), sel_full h, List.length_map, List.length_range]
theorem code_of {f : Nat → Nat} : ∀ p, (∀ y, y < p → f y < 8) → ∃ c, c < 2 ^ (3 * p) ∧ ∀ y, y < p → (c >>> (3 * y)) &&& 7 = f y
  | 0, _ => ⟨0, by decide, fun y h => absurd h (Nat.not_lt_zero y)⟩
  | p + 1, h => by
    obtain ⟨c, h1, h2⟩ := code_of (f := f) p (fun y hy => h y (by omega))
    refine ⟨2 ^ (3 * p) * f p + c, ?_, fun y hy => ?_⟩
    · have h7 := h p (by omega)
      rw [show 3 * (p + 1) = 3 * p + 3 by omega, Nat.pow_add]
      have h8 : 2 ^ (3 * p) * f p ≤ 2 ^ (3 * p) * 7 := Nat.mul_le_mul_left _ (by omega)
      omega
    · by_cases e : y = p
      · subst e; exact dig_top h1 (h _ (by omega))
      · rw [dig_low h1 (by omega)]; exact h2 y (by omega)
theorem acF_pos {W : Nat → Bool} {c : Nat} (hW : W c = true) : ∀ k, c < k → 0 < acF W k
  | 0, h => absurd h (Nat.not_lt_zero c)
  | k + 1, h => by
    have e : acF W (k + 1) = if W k then acF W k + 1 else acF W k := rfl
    rw [e]
    by_cases q : c = k
    · subst q; rw [if_pos hW]; omega
    · have := acF_pos hW k (by omega)
      split <;> omega
theorem cdF_l8 {x : Nat → Nat} {c v : Nat} (hx : ∀ i, i < 12 → x i < 8) : ∀ i, i < 12 → cdF x c v i < 8 := fun i hi => by
  rw [cdF_at]
  split
  · exact dig_lt
  · exact hx i hi
/-- no words shorter than the least, and one that is as long -/
theorem words_pos {nd : List Nd} {v : Nat} {x wv en : Nat → Nat} (hg : Grown nd) (hx : ∀ i, i < 12 → x i < 8) (hv : v = lsG nd 0) (h12 : v ≤ 12) : 0 < (spF nd v v wv (rdF nd wv v v en nd.length)).1 := by
  rw [words_eq hg (iwG_8 hg) hx h12]
  obtain ⟨l, hl, hset, hw⟩ := ex_word hg (nd.length - 0) 0 rfl hg.1.1
  have hs8 : ndS nd 0 < 256 := (hg.2.1 0 hg.1.1).2.1
  have h8 : ∀ y, y < v → gd l y < 8 := fun y hy => by
    refine bit8 hs8 (hset _ ?_)
    unfold gd
    rw [List.getD_eq_getElem?_getD, List.getElem?_eq_getElem (by omega)]
    exact List.getElem_mem _
  obtain ⟨c, hc, hd⟩ := code_of (f := gd l) v h8
  refine acF_pos (c := c) ?_ _ hc
  refine hw _ _ _ _ _ _ (iwG_8 hg (cdF x c v) (cdF_l8 hx)) _ (pow12' h12) ?_
  rw [sel_full h12]
  refine ext_gd (by rw [List.length_map, List.length_range]; omega) (fun i hi => ?_)
  rw [List.length_map, List.length_range] at hi
  have e : gd ((List.range v).map (cdF x c v)) i = cdF x c v i := by
    unfold gd
    rw [List.getD_eq_getElem?_getD, List.getElem?_map, List.getElem?_range hi]
    rfl
  rw [e, cdF_at, if_pos hi]
  exact hd i hi
theorem words_zero {nd : List Nd} {v : Nat} {x wv en : Nat → Nat} (hg : Grown nd) (hx : ∀ i, i < 12 → x i < 8) (hv : v < lsG nd 0) (h12 : v ≤ 12) : (spF nd v v wv (rdF nd wv v v en nd.length)).1 = 0 := by
  rw [words_eq hg (iwG_8 hg) hx h12]
  refine acF_no _ (fun c hc => ?_)
  cases q : iwG nd (cdF x c v) 0 (2 ^ v - 1)
  · rfl
  · have := lb_words hg (iwG_8 hg (cdF x c v) (cdF_l8 hx)) _ 0 rfl hg.1.1 _ (pow12' h12) q
    rw [popc_full h12] at this
    omega
/-- which traces are in the log -/
theorem lgN_mem {A : Nat → Nat → Nat} {t : Nat} (h0 : 0 < A 4 t) : ∀ k, t < k → rwL A t (A 3 t) ∈ lgN A k
  | 0, h => absurd h (Nat.not_lt_zero t)
  | k + 1, h => by
    have e : lgN A (k + 1) = if 0 < A 4 k then lgN A k ++ [rwL A k (A 3 k)] else lgN A k := rfl
    rw [e]
    by_cases q : t = k
    · subst q; rw [if_pos h0]; exact List.mem_append.mpr (Or.inr (List.mem_singleton.mpr rfl))
    · have := lgN_mem h0 k (by omega)
      split
      · exact List.mem_append.mpr (Or.inl this)
      · exact this
theorem sel_row {w : Nat → Nat} {A : Nat → Nat → Nat} {t v : Nat} (h12 : v ≤ 12) : sel (cwF w (A 2) (t * 12) v) (2 ^ v - 1) = rwL A t v := by
  rw [sel_full h12]
  unfold rwL
  refine List.map_congr_left (fun i hi => ?_)
  rw [cwF_at, if_pos (List.mem_range.mp hi)]
theorem mt_row {A : Nat → Nat → Nat} {S : Nat → Nat} {t : Nat} (hok : MnOk A S) (ht : t < S 5) : A 3 t ≤ 12 ∧ ∀ j, j < A 3 t → A 2 (t * 12 + j) < 8 := by
  obtain ⟨-, a5, -, -, b2, b3, -⟩ := hok
  have h := b3 t (by omega)
  exact ⟨h, fun j hj => b2 _ (by omega)⟩
/-- a trace with times is a word -/
theorem mt_acc {A : Nat → Nat → Nat} {S : Nat → Nat} {t : Nat} {wd en : Nat → Nat} (hok : MnOk A S) (ht : t < S 5) (h0 : 0 < A 4 t) : mtR (trOf A S) wd en (A 2) (t * 12) (A 3 t) = true := by
  obtain ⟨h12, h8⟩ := mt_row hok ht
  have hg := lgOf_goodM hok
  have hG := trOf_grown hok
  rw [mt_iw (w := fun _ => 0) hG (iwG_8 hG) (fun _ _ => Nat.succ_pos 7) h8 h12]
  have hE := iwG_8 hG (cwF (fun _ => 0) (A 2) (t * 12) (A 3 t)) (cwF_lt (fun _ _ => Nat.succ_pos 7) h8)
  refine acc hE 16 (lgOf A S) 0 (trB_root hg) hg (dp_root hg) _ (pow12' h12) ?_
  rw [sel_row h12]
  exact lgN_mem h0 (S 5) ht
/-- no trace that is a word is shorter than the least -/
theorem mt_least {A : Nat → Nat → Nat} {S : Nat → Nat} {t : Nat} {wd en : Nat → Nat} (hok : MnOk A S) (ht : t < S 5) (h : mtR (trOf A S) wd en (A 2) (t * 12) (A 3 t) = true) : lsG (trOf A S) 0 ≤ A 3 t := by
  obtain ⟨h12, h8⟩ := mt_row hok ht
  have hG := trOf_grown hok
  rw [mt_iw (w := fun _ => 0) hG (iwG_8 hG) (fun _ _ => Nat.succ_pos 7) h8 h12] at h
  have hE := iwG_8 hG (cwF (fun _ => 0) (A 2) (t * 12) (A 3 t)) (cwF_lt (fun _ _ => Nat.succ_pos 7) h8)
  have := lb_words hG hE _ 0 rfl hG.1.1 _ (pow12' h12) h
  rw [popc_full h12] at this
  exact this
/-- whether a trace is a word, whatever the matcher held before -/
def accW (A : Nat → Nat → Nat) (S : Nat → Nat) (t : Nat) : Bool := mtR (trOf A S) (fun _ => 0) (fun _ => 0) (A 2) (t * 12) (A 3 t)
theorem mt_any {A : Nat → Nat → Nat} {S : Nat → Nat} {t : Nat} {wd en : Nat → Nat} (hok : MnOk A S) (ht : t < S 5) : mtR (trOf A S) wd en (A 2) (t * 12) (A 3 t) = accW A S t := by
  obtain ⟨h12, h8⟩ := mt_row hok ht
  have hG := trOf_grown hok
  unfold accW
  rw [mt_iw (w := fun _ => 0) hG (iwG_8 hG) (fun _ _ => Nat.succ_pos 7) h8 h12, mt_iw (w := fun _ => 0) hG (iwG_8 hG) (fun _ _ => Nat.succ_pos 7) h8 h12]
theorem root_set {A : Nat → Nat → Nat} {S : Nat → Nat} (hok : MnOk A S) : ndS (trOf A S) 0 = (mL (lgOf A S)).1 := by
  rw [(mL_eq (lgOf A S)).1]
  exact (tree_grown (lgOf_goodM hok)).2.2
end PFIN
