section TREE3
def sm (t : Nat → Nat) : Nat → Nat
  | 0 => 0
  | n + 1 => sm t n + t n
theorem sm_le2 {t1 t2 t3 t4 : Nat → Nat} : ∀ (n : Nat), (∀ i, i < n → t1 i + t2 i ≤ t3 i + t4 i) → sm t1 n + sm t2 n ≤ sm t3 n + sm t4 n
  | 0, _ => Nat.le_refl _
  | n + 1, h => by
    have h1 := sm_le2 n (fun i hi => h i (by omega))
    have h2 := h n (by omega)
    show sm t1 n + t1 n + (sm t2 n + t2 n) ≤ sm t3 n + t3 n + (sm t4 n + t4 n)
    omega
theorem sm_le {t1 t2 : Nat → Nat} {n : Nat} (h : ∀ i, i < n → t1 i ≤ t2 i) : sm t1 n ≤ sm t2 n := by
  have := sm_le2 (t1 := t1) (t2 := t1) (t3 := t2) (t4 := t2) n (fun i hi => by have := h i hi; omega)
  omega
theorem sm_one {k v : Nat} : ∀ n : Nat, sm (fun i => if i = k then v else 0) n = if k < n then v else 0
  | 0 => by simp [sm]
  | n + 1 => by
    show sm (fun i => if i = k then v else 0) n + (if n = k then v else 0) = _
    rw [sm_one n]
    by_cases h : n = k
    · subst h; simp
    · by_cases h2 : k < n
      · have h3 : k < n + 1 := by omega
        simp [h, h2, h3]
      · have h3 : ¬ k < n + 1 := by omega
        simp [h, h2, h3]
theorem sm_filter {f : Nat → Nat} {p : Nat → Bool} : ∀ n : Nat, (((List.range n).filter p).map f).sum = sm (fun j => if p j then f j else 0) n
  | 0 => rfl
  | n + 1 => by
    rw [List.range_succ, List.filter_append, List.map_append, List.sum_append, sm_filter n]
    show _ = sm (fun j => if p j then f j else 0) n + (if p n then f n else 0)
    congr 1
    by_cases h : p n = true
    · simp [h]
    · simp [h]
theorem it_sum {f : Nat → Nat} (l : List Nat) : ∀ k : Nat, k ≤ l.length → it (fun j v => v + f (gd l j)) 0 k = ((l.take k).map f).sum
  | 0, _ => by simp [it]
  | k + 1, h => by
    rw [it_s, it_sum l k (by omega), List.take_add_one, List.map_append, List.sum_append]
    congr 1
    unfold gd
    rw [List.getD_eq_getElem?_getD, List.getElem?_eq_getElem (by omega)]
    simp
theorem sumC_sm {nd : List Nd} {f : Nat → Nat} {i : Nat} : sumC nd f i (chl nd i).length = sm (fun j => if decide (ndP nd j = (i : Int)) then f j else 0) nd.length := by
  unfold sumC
  rw [it_sum (chl nd i) _ (Nat.le_refl _), List.take_length]
  unfold chl
  rw [sm_filter]
theorem gd_sum {f : Nat → Nat} : ∀ (l : List Nat) (c : Nat), c < l.length → f (gd l c) ≤ (l.map f).sum
  | [], c, h => absurd h (Nat.not_lt_zero c)
  | x :: l, 0, _ => by
    show f x ≤ (f x :: l.map f).sum
    simp
  | x :: l, c + 1, h => by
    have := gd_sum (f := f) l c (Nat.lt_of_succ_lt_succ h)
    show f (gd l c) ≤ (f x :: l.map f).sum
    rw [List.sum_cons]; omega
theorem child_sum {nd : List Nd} {f : Nat → Nat} {i c : Nat} (hc : c < (chl nd i).length) : f (gd (chl nd i) c) ≤ sumC nd f i (chl nd i).length := by
  unfold sumC
  rw [it_sum (chl nd i) _ (Nat.le_refl _), List.take_length]
  exact gd_sum _ c hc
/-- the values of the nodes from k on whose parent lies before k -/
def rtS (nd : List Nd) (f : Nat → Nat) (k : Nat) : Nat := sm (fun i => if k ≤ i ∧ ndP nd i < (k : Int) then f i else 0) nd.length
theorem kids_le {nd : List Nd} {f : Nat → Nat} {k : Nat} (hp : ∀ i, i < nd.length → ndP nd i < (i : Int)) : sumC nd f k (chl nd k).length ≤ rtS nd f (k + 1) := by
  rw [sumC_sm]
  refine sm_le (fun j hj => ?_)
  have := hp j hj
  by_cases h : ndP nd j = (k : Int)
  · rw [if_pos (by simp [h]), if_pos ⟨by omega, by omega⟩]; exact Nat.le_refl _
  · rw [if_neg (by simp [h])]; exact Nat.zero_le _
theorem rtS_step {nd : List Nd} {f : Nat → Nat} {k v : Nat} (hp : ∀ i, i < nd.length → ndP nd i < (i : Int)) (hk : k < nd.length) (hv : v ≤ max 1 (sumC nd f k (chl nd k).length)) : rtS nd (upN f k v) k ≤ rtS nd f (k + 1) + 1 := by
  have h := sm_le2 (t1 := fun i => if k ≤ i ∧ ndP nd i < (k : Int) then upN f k v i else 0) (t2 := fun j => if decide (ndP nd j = (k : Int)) then f j else 0) (t3 := fun i => if k + 1 ≤ i ∧ ndP nd i < ((k + 1 : Nat) : Int) then f i else 0) (t4 := fun i => if i = k then v else 0) nd.length (fun i hi => by
    have h1 := hp i hi
    by_cases e : i = k
    · subst e
      rw [upN_s, if_pos rfl, if_neg (show ¬ (decide (ndP nd i = (i : Int)) = true) by simp; omega)]
      split <;> omega
    · rw [upN_n e, if_neg e]
      by_cases h2 : ndP nd i = (k : Int)
      · rw [if_neg (by omega), if_pos (by simp [h2]), if_pos ⟨by omega, by omega⟩]; omega
      · rw [if_neg (show ¬ (decide (ndP nd i = (k : Int)) = true) by simp [h2])]
        by_cases h3 : k ≤ i ∧ ndP nd i < (k : Int)
        · rw [if_pos h3, if_pos ⟨by omega, by omega⟩]; omega
        · rw [if_neg h3]; omega)
  rw [sm_one, if_pos hk, ← sumC_sm] at h
  unfold rtS
  omega
theorem leC_le {nd : List Nd} {f : Nat → Nat} {i k : Nat} : leC nd f i k ≤ f (gd (chl nd i) 0) :=
  it_inv (fun _ v => v ≤ f (gd (chl nd i) 0)) k (Nat.le_refl _) (fun j x hj hx => by show min _ _ ≤ _; omega)
theorem lbC_le {nd : List Nd} {f : Nat → Nat} {i : Nat} (hk : (ndK nd i = 2 ∨ ndK nd i = 5) → 1 ≤ (chl nd i).length) : lbC nd f i ≤ max 1 (sumC nd f i (chl nd i).length) := by
  unfold lbC
  split
  · omega
  · split
    · have := child_sum (f := f) (hk (Or.inl ‹_›))
      have := leC_le (nd := nd) (f := f) (i := i) (k := (chl nd i).length - 1)
      omega
    · split
      · omega
      · split
        · have := child_sum (f := f) (hk (Or.inr ‹_›))
          omega
        · omega
end TREE3
