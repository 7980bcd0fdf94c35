section PEXW
theorem leC_at {nd : List Nd} {f : Nat → Nat} {i : Nat} : ∀ k, ∃ j, j ≤ k ∧ leC nd f i k = f (gd (chl nd i) j)
  | 0 => ⟨0, Nat.le_refl 0, rfl⟩
  | k + 1 => by
    obtain ⟨j, h1, h2⟩ := leC_at (nd := nd) (f := f) (i := i) k
    have e : leC nd f i (k + 1) = min (leC nd f i k) (f (gd (chl nd i) (1 + k))) := rfl
    by_cases c : leC nd f i k ≤ f (gd (chl nd i) (1 + k))
    · exact ⟨j, by omega, by rw [e, Nat.min_eq_left c, h2]⟩
    · exact ⟨1 + k, by omega, by rw [e, Nat.min_eq_right (by omega)]⟩
/-- a list of labels that is a word of a node, wherever it stands -/
def WdA (nd : List Nd) (i : Nat) (l : List Nat) : Prop := (∀ x, x ∈ l → (ndS nd i).testBit x = true) ∧ ∀ (w : Nat → Nat) (iw aw : Nat → Nat → Bool) (od : Nat → Nat → Nat → Bool) (ag : Nat → Nat → Bool) (go : Nat → Nat → Nat → Bool), IwEq nd w iw aw od ag go → ∀ p, p < 4096 → sel w p = l → iw i p = true
theorem wd_of {nd : List Nd} {i : Nat} {l : List Nat} (hi : i < nd.length) (hset : ∀ x, x ∈ l → (ndS nd i).testBit x = true) (h : ∀ (w : Nat → Nat) (iw aw : Nat → Nat → Bool) (od : Nat → Nat → Nat → Bool) (ag : Nat → Nat → Bool) (go : Nat → Nat → Nat → Bool), IwEq nd w iw aw od ag go → ∀ p, p < 4096 → sel w p = l → (if ndK nd i = 0 then decide (p = 0) else if ndK nd i = 1 then decide (popc p = 1) else if ndK nd i = 6 then true else if ndK nd i = 3 then od i 0 p else if ndK nd i = 5 then ag i p else aw i p) = true) : WdA nd i l := ⟨hset, fun w iw aw od ag go hE p hp hs => by
  rw [hE.1 i p hi hp, pl_all hp (fun x hx => hset x (by rw [← hs]; exact hx)), decide_eq_true rfl, Bool.true_and]
  exact h w iw aw od ag go hE p hp hs⟩
theorem exw_order {nd : List Nd} {i : Nat} (hi : i < nd.length) {F : Nat → List Nat} (hF : ∀ c, c < (chl nd i).length → (F c).length = lsG nd (gd (chl nd i) c) ∧ WdA nd (gd (chl nd i) c) (F c)) (hsb : ∀ c, c < (chl nd i).length → Sb (ndS nd (gd (chl nd i) c)) (ndS nd i)) : ∀ e k, (chl nd i).length - k = e + 1 → ∃ l : List Nat, sumC nd (lsG nd) i k + l.length = sumC nd (lsG nd) i (chl nd i).length ∧ (∀ x, x ∈ l → (ndS nd i).testBit x = true) ∧ ∀ (w : Nat → Nat) (iw aw : Nat → Nat → Bool) (od : Nat → Nat → Nat → Bool) (ag : Nat → Nat → Bool) (go : Nat → Nat → Nat → Bool), IwEq nd w iw aw od ag go → ∀ p, p < 4096 → sel w p = l → od i k p = true
  | 0, k, he => by
    have hk : k < (chl nd i).length := by omega
    obtain ⟨h1, h2, h3⟩ := hF k hk
    refine ⟨F k, ?_, fun x hx => hsb k hk x (h2 x hx), fun w iw aw od ag go hE p hp hs => ?_⟩
    · have e : (chl nd i).length = k + 1 := by omega
      rw [h1, e, sumC_s]
    · rw [hE.2.2.1 i k p hi hk hp, if_pos (by omega)]
      exact h3 w iw aw od ag go hE p hp hs
  | e + 1, k, he => by
    have hk : k < (chl nd i).length := by omega
    obtain ⟨h1, h2, h3⟩ := hF k hk
    obtain ⟨l, g1, g2, g3⟩ := exw_order hi hF hsb e (k + 1) (by omega)
    refine ⟨F k ++ l, ?_, fun x hx => ?_, fun w iw aw od ag go hE p hp hs => ?_⟩
    · rw [sumC_s] at g1
      rw [List.length_append, h1]
      omega
    · rcases List.mem_append.mp hx with hx | hx
      · exact hsb k hk x (h2 x hx)
      · exact g2 x hx
    · rw [hE.2.2.1 i k p hi hk hp, if_neg (by omega)]
      obtain ⟨q, hq, hcu, a1, a2⟩ := sel_any hs
      refine anyU_hit hq ?_
      rw [hcu, Bool.true_and, h3 w iw aw od ag go hE _ (utF_lt hp) a1, Bool.true_and]
      exact g3 w iw aw od ag go hE _ (andn_lt12 hp) a2
/-- lists one behind the other -/
def catF (F : Nat → List Nat) (k : Nat) : List Nat := it (fun c s => s ++ F c) [] k
theorem catF_s {F : Nat → List Nat} {k : Nat} : catF F (k + 1) = catF F k ++ F k := rfl
theorem catF_mem {F : Nat → List Nat} {x : Nat} : ∀ k, x ∈ catF F k → ∃ c, c < k ∧ x ∈ F c
  | 0, h => absurd h List.not_mem_nil
  | k + 1, h => by
    rw [catF_s] at h
    rcases List.mem_append.mp h with h | h
    · obtain ⟨c, h1, h2⟩ := catF_mem k h
      exact ⟨c, by omega, h2⟩
    · exact ⟨k, by omega, h⟩
theorem catF_filter {F : Nat → List Nat} {cs : List Nat} (hF : ∀ c, c < cs.length → ∀ x, x ∈ F c → (gd cs c).testBit x = true) (hdj : ∀ i j, i < cs.length → j < cs.length → i ≠ j → ∀ y, (gd cs i).testBit y = true → (gd cs j).testBit y = false) {j : Nat} (hj : j < cs.length) : ∀ k, k ≤ cs.length → (catF F k).filter (fun x => (gd cs j).testBit x) = if j < k then F j else []
  | 0, _ => by rw [if_neg (Nat.not_lt_zero j)]; rfl
  | k + 1, hk => by
    rw [catF_s, List.filter_append, catF_filter hF hdj hj k (by omega)]
    by_cases e : j = k
    · subst e
      rw [if_neg (Nat.lt_irrefl j), if_pos (by omega), List.nil_append]
      exact List.filter_eq_self.mpr (fun x hx => hF j hj x hx)
    · have h0 : (F k).filter (fun x => (gd cs j).testBit x) = [] := by
        refine List.filter_eq_nil_iff.mpr (fun x hx => ?_)
        rw [hdj k j (by omega) hj (fun q => e q.symm) x (hF k (by omega) x hx)]
        exact Bool.false_ne_true
      rw [h0, List.append_nil]
      by_cases c : j < k
      · rw [if_pos c, if_pos (by omega)]
      · rw [if_neg c, if_neg (by omega)]
theorem catF_len {nd : List Nd} {i : Nat} {F : Nat → List Nat} (hF : ∀ c, c < (chl nd i).length → (F c).length = lsG nd (gd (chl nd i) c)) : ∀ k, k ≤ (chl nd i).length → (catF F k).length = sumC nd (lsG nd) i k
  | 0, _ => rfl
  | k + 1, hk => by rw [catF_s, List.length_append, catF_len hF k (by omega), hF k (by omega), sumC_s]
/-- every node has a word of the least number of labels -/
theorem ex_word {nd : List Nd} (hG : Grown nd) : ∀ d i, nd.length - i = d → i < nd.length → ∃ l : List Nat, l.length = lsG nd i ∧ WdA nd i l := by
  have hpl : ∀ i, i < nd.length → ndP nd i < (i : Int) := fun i hi => (hG.2.2.1 i hi).2
  intro d
  induction d using Nat.strongRecOn with
  | ind d ih =>
    intro i hd hi
    have hkid : ∀ c, ∃ l : List Nat, c < (chl nd i).length → l.length = lsG nd (gd (chl nd i) c) ∧ WdA nd (gd (chl nd i) c) l := by
      intro c
      by_cases hc : c < (chl nd i).length
      · obtain ⟨g1, g2⟩ := chl_in hc
        have g3 := hpl _ g1
        rw [g2] at g3
        obtain ⟨l, h⟩ := ih (nd.length - gd (chl nd i) c) (by omega) _ rfl g1
        exact ⟨l, fun _ => h⟩
      · exact ⟨[], fun h => absurd h hc⟩
    obtain ⟨F, hF⟩ := Classical.axiomOfChoice hkid
    have hls : lsG nd i = lbC nd (lsG nd) i := lsF_fix hpl hG.ch hi
    obtain ⟨hk6, hleaf, hkids⟩ := hG.sh i hi
    obtain ⟨-, hs8, -, w0, w1, wd, -⟩ := hG.2.1 i hi
    have hlen : (chl nd i).length = (chX nd i).length := chl_len
    have hsb : (ndK nd i = 2 ∨ ndK nd i = 3 ∨ ndK nd i = 4 ∨ ndK nd i = 5) → ∀ c, c < (chl nd i).length → Sb (ndS nd (gd (chl nd i) c)) (ndS nd i) := by
      intro hk c hc
      have := (wd hk).2.2.1 c (by omega)
      rw [chl_set hc]
      exact this
    rcases (show ndK nd i = 0 ∨ ndK nd i = 1 ∨ ndK nd i = 2 ∨ ndK nd i = 3 ∨ ndK nd i = 4 ∨ ndK nd i = 5 ∨ ndK nd i = 6 by omega) with hK | hK | hK | hK | hK | hK | hK
    · refine ⟨[], ?_, wd_of hi (fun x hx => absurd hx List.not_mem_nil) (fun w iw aw od ag go hE p hp hs => ?_)⟩
      · rw [hls]; unfold lbC; rw [hK, if_neg (by decide), if_neg (by decide), if_neg (by decide), if_neg (by decide)]; rfl
      · rw [hK, if_pos rfl]
        exact decide_eq_true (sel_none hp hs)
    · obtain ⟨b, hb⟩ := one_pow hs8 (w1 hK)
      have hb' : ndS nd i = 2 ^ b := hb
      refine ⟨[b], ?_, wd_of hi (fun x hx => ?_) (fun w iw aw od ag go hE p hp hs => ?_)⟩
      · rw [hls]; unfold lbC; rw [hK, if_pos rfl]; rfl
      · rw [List.mem_singleton.mp hx, hb']; exact Nat.testBit_two_pow_self
      · rw [hK, if_neg (by decide), if_pos rfl]
        refine decide_eq_true ?_
        rw [← sel_popc (w := w), hs]; rfl
    · have h1 := hkids (Or.inl hK)
      obtain ⟨j, hj, he⟩ := leC_at (nd := nd) (f := lsG nd) (i := i) ((chl nd i).length - 1)
      obtain ⟨f1, f2, f3⟩ := hF j (by omega)
      refine ⟨F j, ?_, wd_of hi (fun x hx => hsb (Or.inl hK) j (by omega) x (f2 x hx)) (fun w iw aw od ag go hE p hp hs => ?_)⟩
      · rw [hls]; unfold lbC; rw [hK, if_neg (by decide), if_pos rfl, he, f1]
      · rw [hK, if_neg (by decide), if_neg (by decide), if_neg (by decide), if_neg (by decide), if_neg (by decide), hE.2.1 i p hi hp, if_pos hK]
        exact anyU_hit (i := j) (by omega) (f3 w iw aw od ag go hE p hp hs)
    · have h1 := hkids (Or.inr (Or.inl hK))
      obtain ⟨l, g1, g2, g3⟩ := exw_order hi hF (hsb (Or.inr (Or.inl hK))) ((chl nd i).length - 1) 0 (by omega)
      refine ⟨l, ?_, wd_of hi g2 (fun w iw aw od ag go hE p hp hs => ?_)⟩
      · rw [hls]; unfold lbC; rw [hK, if_neg (by decide), if_neg (by decide), if_pos (Or.inl rfl), ← g1]
        show _ = 0 + l.length
        omega
      · rw [hK, if_neg (by decide), if_neg (by decide), if_neg (by decide), if_pos rfl]
        exact g3 w iw aw od ag go hE p hp hs
    · have hdj := (wd (Or.inr (Or.inr (Or.inl hK)))).2.2
      have hFs : ∀ c, c < (chX nd i).length → ∀ x, x ∈ F c → (gd (chX nd i) c).testBit x = true := by
        intro c hc x hx
        rw [← chl_set (by omega)]
        exact (hF c (by omega)).2.1 x hx
      refine ⟨catF F (chl nd i).length, ?_, wd_of hi (fun x hx => ?_) (fun w iw aw od ag go hE p hp hs => ?_)⟩
      · rw [hls]; unfold lbC; rw [hK, if_neg (by decide), if_neg (by decide), if_pos (Or.inr rfl)]
        exact catF_len (fun c hc => (hF c hc).1) _ (Nat.le_refl _)
      · obtain ⟨c, hc, hx2⟩ := catF_mem _ hx
        exact hsb (Or.inr (Or.inr (Or.inl hK))) c hc x ((hF c hc).2.1 x hx2)
      · rw [hK, if_neg (by decide), if_neg (by decide), if_neg (by decide), if_neg (by decide), if_neg (by decide), hE.2.1 i p hi hp, if_neg (by rw [hK]; decide)]
        cases q : anyU (fun k => !iw (gd (chl nd i) k) (plF w p (ndS nd (gd (chl nd i) k)) 12)) (chl nd i).length
        · rfl
        · exfalso
          obtain ⟨c, hc, h9⟩ := anyU_iff.mp q
          have h8 := (hF c hc).2.2 w iw aw od ag go hE (plF w p (ndS nd (gd (chl nd i) c)) 12) (plF_lt (Nat.le_refl 12)) (by
            rw [sel_filter, hs, chl_set hc, catF_filter hFs hdj.2.1 (by omega) _ (by omega), if_pos hc])
          rw [h8] at h9
          cases h9
    · have h1 := hkids (Or.inr (Or.inr (Or.inr hK)))
      obtain ⟨f1, f2, f3⟩ := hF 0 (by omega)
      refine ⟨F 0, ?_, wd_of hi (fun x hx => hsb (Or.inr (Or.inr (Or.inr hK))) 0 (by omega) x (f2 x hx)) (fun w iw aw od ag go hE p hp hs => ?_)⟩
      · rw [hls]; unfold lbC; rw [hK, if_neg (by decide), if_neg (by decide), if_neg (by decide), if_pos rfl, f1]
      · rw [hK, if_neg (by decide), if_neg (by decide), if_neg (by decide), if_neg (by decide), if_pos rfl, hE.2.2.2.1 i p hi hp, f3 w iw aw od ag go hE p hp hs, Bool.true_or]
    · refine ⟨[], ?_, wd_of hi (fun x hx => absurd hx List.not_mem_nil) (fun w iw aw od ag go hE p hp hs => ?_)⟩
      · rw [hls]; unfold lbC; rw [hK, if_neg (by decide), if_neg (by decide), if_neg (by decide), if_neg (by decide)]; rfl
      · rw [hK, if_neg (by decide), if_neg (by decide), if_pos rfl]
end PEXW
