section EQS2
theorem or_bit {s l i : Nat} : (s ||| 2 ^ l).testBit i = true ↔ s.testBit i = true ∨ l = i := by
  rw [Nat.testBit_or, Bool.or_eq_true, pow_bit, decide_eq_true_iff]
/-! the least lengths -/
theorem leC_cong {nd : List Nd} {f g : Nat → Nat} {i : Nat} (h : ∀ c, c < (chl nd i).length → f (gd (chl nd i) c) = g (gd (chl nd i) c)) (h1 : 1 ≤ (chl nd i).length) : leC nd f i ((chl nd i).length - 1) = leC nd g i ((chl nd i).length - 1) := by
  unfold leC
  rw [h 0 (by omega)]
  exact it_cong _ (fun j v hj => by rw [h (1 + j) (by omega)])
theorem sumC_cong {nd : List Nd} {f g : Nat → Nat} {i : Nat} (h : ∀ c, c < (chl nd i).length → f (gd (chl nd i) c) = g (gd (chl nd i) c)) : sumC nd f i (chl nd i).length = sumC nd g i (chl nd i).length :=
  it_cong _ (fun j v hj => by rw [h j hj])
theorem lbC_cong {nd : List Nd} {f g : Nat → Nat} {i : Nat} (hch : (ndK nd i = 2 ∨ ndK nd i = 5) → 1 ≤ (chl nd i).length) (h : ∀ c, c < (chl nd i).length → f (gd (chl nd i) c) = g (gd (chl nd i) c)) : lbC nd f i = lbC nd g i := by
  unfold lbC
  rw [sumC_cong h]
  by_cases h2 : ndK nd i = 2
  · rw [leC_cong h (hch (Or.inl h2)), if_neg (by omega), if_pos h2, if_neg (by omega), if_pos h2]
  · rw [if_neg h2, if_neg h2]
    by_cases h5 : ndK nd i = 5
    · rw [h 0 (hch (Or.inr h5))]
    · rw [if_neg h5, if_neg h5]
theorem lsF_stay {nd : List Nd} {f : Nat → Nat} {i k : Nat} (hi : nd.length - k ≤ i) : ∀ d, k + d ≤ nd.length → i < nd.length → lsF nd f (k + d) i = lsF nd f k i
  | 0, _, _ => rfl
  | d + 1, h, hn => by
    have e : lsF nd f (k + (d + 1)) = upN (lsF nd f (k + d)) (nd.length - 1 - (k + d)) (lbC nd (lsF nd f (k + d)) (nd.length - 1 - (k + d))) := rfl
    rw [e, ← lsF_stay hi d (by omega) hn]
    unfold upN
    rw [if_neg (by omega)]
theorem lsF_full {nd : List Nd} {f : Nat → Nat} {i : Nat} (hi : i < nd.length) : lsF nd f nd.length i = lsF nd f (nd.length - i) i := by
  have := lsF_stay (nd := nd) (f := f) (i := i) (k := nd.length - i) (by omega) i (by omega) hi
  rw [show nd.length - i + i = nd.length by omega] at this
  exact this
theorem lsF_fix {nd : List Nd} {f : Nat → Nat} (hp : ∀ i, i < nd.length → ndP nd i < (i : Int)) (hch : ChOk nd) {i : Nat} (hi : i < nd.length) : lsF nd f nd.length i = lbC nd (lsF nd f nd.length) i := by
  rw [lsF_full hi]
  have e : lsF nd f (nd.length - i) = upN (lsF nd f (nd.length - i - 1)) (nd.length - 1 - (nd.length - i - 1)) (lbC nd (lsF nd f (nd.length - i - 1)) (nd.length - 1 - (nd.length - i - 1))) := by
    have : nd.length - i = nd.length - i - 1 + 1 := by omega
    rw [this]
    rfl
  rw [e, show nd.length - 1 - (nd.length - i - 1) = i by omega]
  show (if i = i then _ else _) = _
  rw [if_pos rfl]
  refine lbC_cong (hch i hi) (fun c hc => ?_)
  obtain ⟨g1, g2⟩ := chl_in hc
  have g3 := hp _ g1
  rw [g2] at g3
  have := lsF_stay (nd := nd) (f := f) (i := gd (chl nd i) c) (k := nd.length - i - 1) (by omega) (i + 1) (by omega) g1
  rw [show nd.length - i - 1 + (i + 1) = nd.length by omega] at this
  exact this.symm
theorem lb_uniq {nd : List Nd} {f g : Nat → Nat} (hp : ∀ i, i < nd.length → ndP nd i < (i : Int)) (hch : ChOk nd) (hf : ∀ i, i < nd.length → f i = lbC nd f i) (hg : ∀ i, i < nd.length → g i = lbC nd g i) : ∀ d i, nd.length - i = d → i < nd.length → f i = g i := by
  intro d
  induction d using Nat.strongRecOn with
  | ind d ih =>
    intro i hd hi
    rw [hf i hi, hg i hi]
    refine lbC_cong (hch i hi) (fun c hc => ?_)
    obtain ⟨g1, g2⟩ := chl_in hc
    have g3 := hp _ g1
    rw [g2] at g3
    exact ih (nd.length - gd (chl nd i) c) (by omega) _ rfl g1
def lsG (nd : List Nd) : Nat → Nat := lsF nd (fun _ => 0) nd.length
theorem ls_any {nd : List Nd} {f : Nat → Nat} (hp : ∀ i, i < nd.length → ndP nd i < (i : Int)) (hch : ChOk nd) {i : Nat} (hi : i < nd.length) : lsF nd f (nd.length - i) i = lsG nd i := by
  rw [← lsF_full hi]
  exact lb_uniq hp hch (fun i hi => lsF_fix hp hch hi) (fun i hi => lsF_fix hp hch hi) _ i rfl hi
theorem sm_get {t : Nat → Nat} {i : Nat} : ∀ {n : Nat}, i < n → t i ≤ sm t n
  | 0, h => absurd h (Nat.not_lt_zero i)
  | n + 1, h => by
    show t i ≤ sm t n + t n
    by_cases e : i = n
    · subst e; omega
    · have := sm_get (t := t) (i := i) (n := n) (by omega)
      omega
theorem ls_le {nd : List Nd} (hp : ∀ i, i < nd.length → ndP nd i < (i : Int)) (hch : ChOk nd) {i : Nat} (hi : i < nd.length) : lsG nd i ≤ nd.length := by
  rw [← ls_any (f := fun _ => 0) hp hch hi]
  have h := lsF_rt (f := fun _ => 0) hp hch (nd.length - i) (by omega)
  rw [show nd.length - (nd.length - i) = i by omega] at h
  have := sm_get (t := fun j => if i ≤ j ∧ ndP nd j < (i : Int) then lsF nd (fun _ => 0) (nd.length - i) j else 0) hi
  rw [if_pos ⟨Nat.le_refl i, hp i hi⟩] at this
  unfold rtS at h
  omega
end EQS2
