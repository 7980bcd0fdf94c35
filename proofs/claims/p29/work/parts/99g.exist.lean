section EXIST
def odX (nd : List Nd) (T : Nat → Nat → Bool) (i : Nat) : Nat → Nat → Bool
  | 0, _ => false
  | j + 1, p => if j = 0 then T (gd (chl nd i) ((chl nd i).length - (j + 1))) p else anyU (fun q => cuB p q && (T (gd (chl nd i) ((chl nd i).length - (j + 1))) (utF p q) && odX nd T i j (andn p (utF p q)))) 13
def goX (nd : List Nd) (T : Nat → Nat → Bool) (i : Nat) (X : Nat → Bool) (t r : Nat) : Bool := anyU (fun k => anyU (fun q => cuB r q && (decide (0 < (t ||| utF r q)) && (T (gd (chl nd i) (1 + k)) (utF r q) && X (andn r (utF r q))))) 13) ((chl nd i).length - 1)
def agX (nd : List Nd) (T : Nat → Nat → Bool) (i : Nat) : Nat → Nat → Bool
  | 0, _ => false
  | n + 1, p => T (gd (chl nd i) 0) p || anyU (fun q => cuB p q && (T (gd (chl nd i) 0) (utF p q) && goX nd T i (agX nd T i n) (utF p q) (andn p (utF p q)))) 13
def awX (nd : List Nd) (w : Nat → Nat) (T : Nat → Nat → Bool) (i p : Nat) : Bool := if ndK nd i = 2 then anyU (fun k => T (gd (chl nd i) k) p) (chl nd i).length else !anyU (fun k => !T (gd (chl nd i) k) (plF w p (ndS nd (gd (chl nd i) k)) 12)) (chl nd i).length
def noX (nd : List Nd) (w : Nat → Nat) (T : Nat → Nat → Bool) (i p : Nat) : Bool := decide (plF w p (ndS nd i) 12 = p) && (if ndK nd i = 0 then decide (p = 0) else if ndK nd i = 1 then decide (popc p = 1) else if ndK nd i = 6 then true else if ndK nd i = 3 then odX nd T i (chl nd i).length p else if ndK nd i = 5 then agX nd T i 13 p else awX nd w T i p)
theorem goX_cong {nd : List Nd} {T : Nat → Nat → Bool} {i t r : Nat} {X Y : Nat → Bool} (h : ∀ q, 0 < (t ||| utF r q) → X (andn r (utF r q)) = Y (andn r (utF r q))) : goX nd T i X t r = goX nd T i Y t r := by
  unfold goX
  refine anyU_cong (fun k _ => anyU_cong (fun q _ => ?_))
  by_cases h0 : 0 < (t ||| utF r q)
  · rw [h q h0]
  · rw [decide_eq_false h0, Bool.false_and, Bool.false_and]
theorem popc_rest {t r q : Nat} (ht : t < 4096) (hr : r < 4096) (h0 : 0 < (t ||| utF r q)) : popc (andn r (utF r q)) + 1 ≤ popc t + popc r := by
  have h1 := popc_split (p := r) (k := q)
  by_cases e : t = 0
  · rw [e, Nat.zero_or] at h0
    have := popc_pos (utF_lt (k := q) hr) (by omega)
    omega
  · have := popc_pos ht e
    omega
theorem agX_up {nd : List Nd} {T : Nat → Nat → Bool} {i : Nat} : ∀ n m p, p < 4096 → popc p < n → popc p < m → agX nd T i n p = agX nd T i m p
  | 0, _, _, _, h, _ => absurd h (Nat.not_lt_zero _)
  | _ + 1, 0, _, _, _, h => absurd h (Nat.not_lt_zero _)
  | n + 1, m + 1, p, hp, h1, h2 => by
    show (T (gd (chl nd i) 0) p || anyU (fun q => cuB p q && (T (gd (chl nd i) 0) (utF p q) && goX nd T i (agX nd T i n) (utF p q) (andn p (utF p q)))) 13) = (T (gd (chl nd i) 0) p || anyU (fun q => cuB p q && (T (gd (chl nd i) 0) (utF p q) && goX nd T i (agX nd T i m) (utF p q) (andn p (utF p q)))) 13)
    congr 1
    refine anyU_cong (fun q _ => ?_)
    have hs := popc_split (p := p) (k := q)
    have e : goX nd T i (agX nd T i n) (utF p q) (andn p (utF p q)) = goX nd T i (agX nd T i m) (utF p q) (andn p (utF p q)) := goX_cong (fun r hr => by
      have := popc_rest (utF_lt hp) (andn_lt12 hp) hr
      exact agX_up n m _ (andn_lt12 (andn_lt12 hp)) (by omega) (by omega))
    rw [e]
theorem noX_cong {nd : List Nd} {w : Nat → Nat} {T T' : Nat → Nat → Bool} {i : Nat} (hg : Grown nd) (hi : i < nd.length) (h : ∀ x, i < x → x < nd.length → T x = T' x) : noX nd w T i = noX nd w T' i := by
  have kid : ∀ k, k < (chl nd i).length → T (gd (chl nd i) k) = T' (gd (chl nd i) k) := fun k hk => by
    obtain ⟨g1, g2⟩ := chl_in hk
    have := (hg.2.2.1 _ g1).2
    exact h _ (by omega) g1
  have od : ∀ j, j ≤ (chl nd i).length → ∀ p, odX nd T i j p = odX nd T' i j p := by
    intro j
    induction j with
    | zero => exact fun _ _ => rfl
    | succ j ih =>
      intro hj p
      show (if j = 0 then T (gd (chl nd i) ((chl nd i).length - (j + 1))) p else anyU (fun q => cuB p q && (T (gd (chl nd i) ((chl nd i).length - (j + 1))) (utF p q) && odX nd T i j (andn p (utF p q)))) 13) = (if j = 0 then T' (gd (chl nd i) ((chl nd i).length - (j + 1))) p else anyU (fun q => cuB p q && (T' (gd (chl nd i) ((chl nd i).length - (j + 1))) (utF p q) && odX nd T' i j (andn p (utF p q)))) 13)
      rw [kid _ (by omega)]
      congr 1
      exact anyU_cong (fun q _ => by rw [ih (by omega)])
  have agc : 1 ≤ (chl nd i).length → ∀ n p, agX nd T i n p = agX nd T' i n p := by
    intro h1 n
    induction n with
    | zero => exact fun _ => rfl
    | succ n ih =>
      intro p
      show (T (gd (chl nd i) 0) p || anyU (fun q => cuB p q && (T (gd (chl nd i) 0) (utF p q) && goX nd T i (agX nd T i n) (utF p q) (andn p (utF p q)))) 13) = (T' (gd (chl nd i) 0) p || anyU (fun q => cuB p q && (T' (gd (chl nd i) 0) (utF p q) && goX nd T' i (agX nd T' i n) (utF p q) (andn p (utF p q)))) 13)
      rw [kid 0 h1, show agX nd T i n = agX nd T' i n from funext ih]
      congr 1
      refine anyU_cong (fun q _ => ?_)
      have e : goX nd T i (agX nd T' i n) (utF p q) (andn p (utF p q)) = goX nd T' i (agX nd T' i n) (utF p q) (andn p (utF p q)) := anyU_cong (fun k hk => anyU_cong (fun r _ => by rw [kid (1 + k) (by omega)]))
      rw [e]
  have aw : ∀ p, awX nd w T i p = awX nd w T' i p := fun p => by
    have e1 : anyU (fun k => T (gd (chl nd i) k) p) (chl nd i).length = anyU (fun k => T' (gd (chl nd i) k) p) (chl nd i).length := anyU_cong (fun k hk => by rw [kid k hk])
    have e2 : anyU (fun k => !T (gd (chl nd i) k) (plF w p (ndS nd (gd (chl nd i) k)) 12)) (chl nd i).length = anyU (fun k => !T' (gd (chl nd i) k) (plF w p (ndS nd (gd (chl nd i) k)) 12)) (chl nd i).length := anyU_cong (fun k hk => by rw [kid k hk])
    unfold awX
    rw [e1, e2]
  funext p
  unfold noX
  rw [od _ (Nat.le_refl _), aw]
  by_cases k5 : ndK nd i = 5
  · rw [agc ((hg.sh i hi).2.2 (by omega))]
  · rw [if_neg k5, if_neg k5]
def iwT (nd : List Nd) (w : Nat → Nat) (k : Nat) : Nat → Nat → Bool := it (fun j T x => if x = nd.length - 1 - j then noX nd w T (nd.length - 1 - j) else T x) (fun _ _ => false) k
def iwG (nd : List Nd) (w : Nat → Nat) : Nat → Nat → Bool := iwT nd w nd.length
theorem iwT_stay {nd : List Nd} {w : Nat → Nat} {i k : Nat} (hi : nd.length - k ≤ i) : ∀ d, k + d ≤ nd.length → i < nd.length → iwT nd w (k + d) i = iwT nd w k i
  | 0, _, _ => rfl
  | d + 1, h, hn => by
    have e : iwT nd w (k + (d + 1)) i = if i = nd.length - 1 - (k + d) then noX nd w (iwT nd w (k + d)) (nd.length - 1 - (k + d)) else iwT nd w (k + d) i := rfl
    rw [e, ← iwT_stay hi d (by omega) hn, if_neg (by omega)]
theorem iwG_eq {nd : List Nd} {w : Nat → Nat} {i : Nat} (hg : Grown nd) (hi : i < nd.length) : iwG nd w i = noX nd w (iwG nd w) i := by
  have full : ∀ x, nd.length - x ≤ nd.length → x < nd.length → ∀ k, nd.length - x ≤ k → k ≤ nd.length → iwG nd w x = iwT nd w k x := fun x _ hx k hk hk2 => by
    have := iwT_stay (nd := nd) (w := w) (i := x) (k := k) (by omega) (nd.length - k) (by omega) hx
    rw [show k + (nd.length - k) = nd.length by omega] at this
    exact this
  rw [full i (by omega) hi (nd.length - i - 1 + 1) (by omega) (by omega)]
  have e : iwT nd w (nd.length - i - 1 + 1) i = if i = nd.length - 1 - (nd.length - i - 1) then noX nd w (iwT nd w (nd.length - i - 1)) (nd.length - 1 - (nd.length - i - 1)) else iwT nd w (nd.length - i - 1) i := rfl
  rw [e, if_pos (by omega), show nd.length - 1 - (nd.length - i - 1) = i by omega]
  exact noX_cong hg hi (fun x h1 h2 => (full x (by omega) h2 (nd.length - i - 1) (by omega) (by omega)).symm)
def awG (nd : List Nd) (w : Nat → Nat) (i p : Nat) : Bool := awX nd w (iwG nd w) i p
def odG (nd : List Nd) (w : Nat → Nat) (i k p : Nat) : Bool := odX nd (iwG nd w) i ((chl nd i).length - k) p
def agG (nd : List Nd) (w : Nat → Nat) (i p : Nat) : Bool := agX nd (iwG nd w) i 13 p
def goG (nd : List Nd) (w : Nat → Nat) (i t r : Nat) : Bool := goX nd (iwG nd w) i (agX nd (iwG nd w) i 13) t r
/-- there is a way to see whether the places of a set are a word -/
theorem iwG_ok {nd : List Nd} (hg : Grown nd) (w : Nat → Nat) : IwEq nd w (iwG nd w) (awG nd w) (odG nd w) (agG nd w) (goG nd w) := by
  refine ⟨fun i p hi hp => ?_, fun i p hi hp => rfl, fun i k p hi hk hp => ?_, fun i p hi hp => ?_, fun i t r hi ht hr => rfl⟩
  · rw [iwG_eq hg hi]
    rfl
  · unfold odG
    obtain ⟨j, hj⟩ : ∃ j, (chl nd i).length - k = j + 1 := ⟨(chl nd i).length - k - 1, by omega⟩
    have e : odX nd (iwG nd w) i (j + 1) p = if j = 0 then iwG nd w (gd (chl nd i) ((chl nd i).length - (j + 1))) p else anyU (fun q => cuB p q && (iwG nd w (gd (chl nd i) ((chl nd i).length - (j + 1))) (utF p q) && odX nd (iwG nd w) i j (andn p (utF p q)))) 13 := rfl
    rw [hj, e, show (chl nd i).length - (j + 1) = k by omega, show (chl nd i).length - (k + 1) = j by omega]
    by_cases h : j = 0
    · rw [if_pos h, if_pos (show k + 1 = (chl nd i).length by omega)]
    · rw [if_neg h, if_neg (show ¬ k + 1 = (chl nd i).length by omega)]
  · have e : agG nd w i p = (iwG nd w (gd (chl nd i) 0) p || anyU (fun q => cuB p q && (iwG nd w (gd (chl nd i) 0) (utF p q) && goX nd (iwG nd w) i (agX nd (iwG nd w) i 12) (utF p q) (andn p (utF p q)))) 13) := rfl
    have h12 := popc_le p
    have e3 : ∀ q, goX nd (iwG nd w) i (agX nd (iwG nd w) i 12) (utF p q) (andn p (utF p q)) = goG nd w i (utF p q) (andn p (utF p q)) := fun q => goX_cong (fun r hr => by
      have hs := popc_split (p := p) (k := q)
      have := popc_rest (utF_lt hp) (andn_lt12 hp) hr
      exact agX_up 12 13 _ (andn_lt12 (andn_lt12 hp)) (by omega) (by omega))
    have e4 : anyU (fun q => cuB p q && (iwG nd w (gd (chl nd i) 0) (utF p q) && goX nd (iwG nd w) i (agX nd (iwG nd w) i 12) (utF p q) (andn p (utF p q)))) 13 = anyU (fun q => cuB p q && (iwG nd w (gd (chl nd i) 0) (utF p q) && goG nd w i (utF p q) (andn p (utF p q)))) 13 := anyU_cong (fun q _ => by rw [e3 q])
    rw [e, e4]
theorem iwG_8 {nd : List Nd} (hg : Grown nd) : IwA8 nd (iwG nd) (awG nd) (odG nd) (agG nd) (goG nd) := fun w _ => iwG_ok hg w
end EXIST
