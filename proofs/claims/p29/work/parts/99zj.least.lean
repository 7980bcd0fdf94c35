section PLEAST
theorem sumC_s {nd : List Nd} {f : Nat → Nat} {i k : Nat} : sumC nd f i (k + 1) = sumC nd f i k + f (gd (chl nd i) k) := rfl
/-- the places of sets that are apart -/
theorem both_popc {w : Nat → Nat} {p : Nat} {cs : List Nat} (hp : p < 4096) (hdj : ∀ i j, i < cs.length → j < cs.length → i ≠ j → ∀ y, (gd cs i).testBit y = true → (gd cs j).testBit y = false) : ∀ k, k ≤ cs.length → ∃ r, r < 4096 ∧ (∀ y, r.testBit y = true ↔ (p.testBit y = true ∧ ∀ i, i < k → (gd cs i).testBit (w y) = false)) ∧ it (fun i s => s + popc (plF w p (gd cs i) 12)) 0 k + popc r = popc p
  | 0, _ => ⟨p, hp, fun y => ⟨fun q => ⟨q, fun i hi => absurd hi (Nat.not_lt_zero i)⟩, fun q => q.1⟩, Nat.zero_add _⟩
  | k + 1, hk => by
    obtain ⟨r, h1, h2, h3⟩ := both_popc hp hdj k (by omega)
    have e : r &&& plF w p (gd cs k) 12 = plF w p (gd cs k) 12 := by
      apply Nat.eq_of_testBit_eq
      intro y
      rw [Nat.testBit_and]
      cases q : (plF w p (gd cs k) 12).testBit y
      · rw [Bool.and_false]
      · obtain ⟨-, q1, q2⟩ := (plF_bit 12).mp q
        rw [(h2 y).mpr ⟨q1, fun i hi => hdj k i (by omega) (by omega) (by omega) _ q2⟩]; rfl
    have hpc := popc_and (a := r) (b := plF w p (gd cs k) 12)
    rw [e] at hpc
    refine ⟨andn r (plF w p (gd cs k) 12), andn_lt12 h1, fun y => ?_, by rw [it_s]; omega⟩
    rw [andn_t, h2]
    constructor
    · rintro ⟨⟨a1, a2⟩, a3⟩
      refine ⟨a1, fun i hi => ?_⟩
      by_cases ei : i = k
      · rw [ei]
        cases c : (gd cs k).testBit (w y)
        · rfl
        · have hy : y < 12 := by
            by_cases c9 : y < 12
            · exact c9
            · have := bit_lt (k := 12) hp (by omega : 12 ≤ y); rw [a1] at this; cases this
          rw [(plF_bit 12).mpr ⟨hy, a1, c⟩] at a3; cases a3
      · exact a2 i (by omega)
    · rintro ⟨a1, a2⟩
      refine ⟨⟨a1, fun i hi => a2 i (by omega)⟩, ?_⟩
      cases c : (plF w p (gd cs k) 12).testBit y
      · rfl
      · obtain ⟨-, -, q2⟩ := (plF_bit 12).mp c
        rw [a2 k (by omega)] at q2; cases q2
theorem leC_lw {nd : List Nd} {f : Nat → Nat} {i : Nat} : ∀ k j, j ≤ k → leC nd f i k ≤ f (gd (chl nd i) j)
  | 0, j, h => by rw [show j = 0 by omega]; exact Nat.le_refl _
  | k + 1, j, h => by
    have e : leC nd f i (k + 1) = min (leC nd f i k) (f (gd (chl nd i) (1 + k))) := rfl
    rw [e]
    by_cases c : j = k + 1
    · rw [c, Nat.add_comm k 1]; exact Nat.min_le_right _ _
    · exact Nat.le_trans (Nat.min_le_left _ _) (leC_lw k j (by omega))
/-- no word of a node has fewer labels than the least -/
theorem lb_words {nd : List Nd} {w : Nat → Nat} {iw aw : Nat → Nat → Bool} {od : Nat → Nat → Nat → Bool} {ag : Nat → Nat → Bool} {go : Nat → Nat → Nat → Bool} (hG : Grown nd) (hE : IwEq nd w iw aw od ag go) : ∀ d i, nd.length - i = d → i < nd.length → ∀ p, p < 4096 → iw i p = true → lsG nd i ≤ popc p := by
  have hpl : ∀ i, i < nd.length → ndP nd i < (i : Int) := fun i hi => (hG.2.2.1 i hi).2
  intro d
  induction d using Nat.strongRecOn with
  | ind d ih =>
    intro i hd hi p hp hw
    have hkid : ∀ c, c < (chl nd i).length → gd (chl nd i) c < nd.length ∧ ∀ q, q < 4096 → iw (gd (chl nd i) c) q = true → lsG nd (gd (chl nd i) c) ≤ popc q := by
      intro c hc
      obtain ⟨g1, g2⟩ := chl_in hc
      have g3 := hpl _ g1
      rw [g2] at g3
      exact ⟨g1, fun q hq h => ih (nd.length - gd (chl nd i) c) (by omega) _ rfl g1 q hq h⟩
    have hls : lsG nd i = lbC nd (lsG nd) i := lsF_fix hpl hG.ch hi
    rw [hE.1 i p hi hp, Bool.and_eq_true] at hw
    obtain ⟨-, hw⟩ := hw
    obtain ⟨hk6, hleaf, hkids⟩ := hG.sh i hi
    have haw := hE.2.1 i p hi hp
    have hwf := hG.2.1 i hi
    rw [hls]
    unfold lbC
    generalize hK : ndK nd i = kd at hw hk6 hleaf hkids haw ⊢
    rcases (show kd = 0 ∨ kd = 1 ∨ kd = 2 ∨ kd = 3 ∨ kd = 4 ∨ kd = 5 ∨ kd = 6 by omega) with rfl | rfl | rfl | rfl | rfl | rfl | rfl
    · exact Nat.zero_le _
    · rw [if_neg (by decide), if_pos rfl] at hw
      rw [if_pos rfl, of_decide_eq_true hw]
      exact Nat.le_refl 1
    · rw [if_neg (by decide), if_neg (by decide), if_neg (by decide), if_neg (by decide), if_neg (by decide), haw, if_pos rfl] at hw
      rw [if_neg (by decide), if_pos rfl]
      obtain ⟨c, hc, h9⟩ := anyU_iff.mp hw
      exact Nat.le_trans (leC_lw _ c (by omega)) ((hkid c hc).2 p hp h9)
    · rw [if_neg (by decide), if_neg (by decide), if_neg (by decide), if_pos rfl] at hw
      rw [if_neg (by decide), if_neg (by decide), if_pos (Or.inl rfl)]
      have key : ∀ e k q, (chl nd i).length - k = e + 1 → q < 4096 → od i k q = true → sumC nd (lsG nd) i (chl nd i).length ≤ sumC nd (lsG nd) i k + popc q := by
        intro e
        induction e with
        | zero =>
          intro k q he hq h
          rw [hE.2.2.1 i k q hi (by omega) hq, if_pos (by omega)] at h
          have := (hkid k (by omega)).2 q hq h
          rw [show (chl nd i).length = k + 1 by omega, sumC_s]
          omega
        | succ e ih2 =>
          intro k q he hq h
          rw [hE.2.2.1 i k q hi (by omega) hq, if_neg (by omega)] at h
          obtain ⟨z, hz, h9⟩ := anyU_iff.mp h
          rw [Bool.and_eq_true, Bool.and_eq_true] at h9
          obtain ⟨-, h1, h2⟩ := h9
          have a1 := (hkid k (by omega)).2 _ (utF_lt hq) h1
          have a2 := ih2 (k + 1) _ (by omega) (andn_lt12 hq) h2
          rw [sumC_s] at a2
          have a3 := popc_split (p := q) (k := z)
          omega
      have h1 := hkids (by omega)
      have := key ((chl nd i).length - 1) 0 p (by omega) hp hw
      rw [show sumC nd (lsG nd) i 0 = 0 from rfl] at this
      omega
    · rw [if_neg (by decide), if_neg (by decide), if_neg (by decide), if_neg (by decide), if_neg (by decide), haw, if_neg (by decide)] at hw
      rw [if_neg (by decide), if_neg (by decide), if_pos (Or.inr rfl)]
      obtain ⟨-, -, -, -, -, hdj, -⟩ := hwf
      have hdj := (hdj (by rw [show (nx0 nd i).1 = ndK nd i from rfl, hK]; omega)).2.2
      have hlen : (chl nd i).length = (chX nd i).length := chl_len
      obtain ⟨r, -, -, hr⟩ := both_popc (w := w) (p := p) hp hdj.2.1 (chX nd i).length (Nat.le_refl _)
      have key : ∀ k, k ≤ (chX nd i).length → sumC nd (lsG nd) i k ≤ it (fun j s => s + popc (plF w p (gd (chX nd i) j) 12)) 0 k := by
        intro k
        induction k with
        | zero => exact fun _ => Nat.le_refl 0
        | succ k ih2 =>
          intro hk
          have h8 := ih2 (by omega)
          have h9 : iw (gd (chl nd i) k) (plF w p (gd (chX nd i) k) 12) = true := by
            cases c : iw (gd (chl nd i) k) (plF w p (gd (chX nd i) k) 12)
            · have : anyU (fun k => !iw (gd (chl nd i) k) (plF w p (ndS nd (gd (chl nd i) k)) 12)) (chl nd i).length = true := anyU_hit (i := k) (by omega) (by rw [chl_set (by omega), c]; rfl)
              rw [this] at hw; cases hw
            · rfl
          have h7 := (hkid k (by omega)).2 _ (plF_lt (Nat.le_refl 12)) h9
          rw [sumC_s, it_s]
          omega
      have := key _ (Nat.le_refl _)
      rw [hlen]
      omega
    · rw [if_neg (by decide), if_neg (by decide), if_neg (by decide), if_neg (by decide), if_pos rfl] at hw
      rw [if_neg (by decide), if_neg (by decide), if_neg (by decide), if_pos rfl]
      have h1 := hkids (by omega)
      rw [hE.2.2.2.1 i p hi hp, Bool.or_eq_true] at hw
      rcases hw with h | h
      · exact (hkid 0 (by omega)).2 p hp h
      · obtain ⟨z, hz, h9⟩ := anyU_iff.mp h
        rw [Bool.and_eq_true, Bool.and_eq_true] at h9
        have a1 := (hkid 0 (by omega)).2 _ (utF_lt hp) h9.2.1
        have a3 := popc_split (p := p) (k := z)
        omega
    · exact Nat.zero_le _
end PLEAST
