section PLC
/-- the places from s on, as far as e -/
def rg (s e : Nat) : Nat := andn (2 ^ e - 1) (2 ^ s - 1)
theorem rg_bit {s e y : Nat} : (rg s e).testBit y = true ↔ s ≤ y ∧ y < e := by
  unfold rg
  rw [andn_t, Nat.testBit_two_pow_sub_one, Nat.testBit_two_pow_sub_one, decide_eq_true_iff, decide_eq_false_iff_not]
  omega
theorem plF_bit {w : Nat → Nat} {p l y : Nat} : ∀ k, ((plF w p l k).testBit y = true ↔ y < k ∧ p.testBit y = true ∧ l.testBit (w y) = true)
  | 0 => ⟨fun h => (by rw [show plF w p l 0 = 0 from rfl, Nat.zero_testBit] at h; cases h), fun h => absurd h.1 (Nat.not_lt_zero y)⟩
  | k + 1 => by
    have e : plF w p l (k + 1) = if p.testBit k then (if l.testBit (w k) then plF w p l k ||| 2 ^ k else plF w p l k) else plF w p l k := rfl
    have ih := plF_bit (w := w) (p := p) (l := l) (y := y) k
    have skip : ¬ (p.testBit k = true ∧ l.testBit (w k) = true) → ((y < k ∧ p.testBit y = true ∧ l.testBit (w y) = true) ↔ y < k + 1 ∧ p.testBit y = true ∧ l.testBit (w y) = true) := by
      intro hn
      constructor
      · rintro ⟨h1, h2⟩; exact ⟨by omega, h2⟩
      · rintro ⟨h1, h2⟩
        by_cases ek : y = k
        · subst ek; exact absurd h2 hn
        · exact ⟨by omega, h2⟩
    rw [e]
    by_cases h1 : p.testBit k = true
    · rw [if_pos h1]
      by_cases h2 : l.testBit (w k) = true
      · rw [if_pos h2, or_bit, ih]
        constructor
        · rintro (⟨g1, g2⟩ | g)
          · exact ⟨by omega, g2⟩
          · subst g; exact ⟨by omega, h1, h2⟩
        · rintro ⟨g1, g2⟩
          by_cases ek : y = k
          · exact Or.inr ek.symm
          · exact Or.inl ⟨by omega, g2⟩
      · rw [if_neg h2, ih]
        exact skip (fun h => h2 h.2)
    · rw [if_neg h1, ih]
      exact skip (fun h => h1 h.1)
/-- the places from s on, as far as e, with a label of u -/
def PL (w : Nat → Nat) (u s e : Nat) : Nat := plF w (rg s e) u 12
theorem PL_lt {w : Nat → Nat} {u s e : Nat} : PL w u s e < 4096 := plF_lt (Nat.le_refl 12)
theorem PL_bit {w : Nat → Nat} {u s e y : Nat} (he : e ≤ 12) : (PL w u s e).testBit y = true ↔ s ≤ y ∧ y < e ∧ u.testBit (w y) = true := by
  unfold PL
  rw [plF_bit, rg_bit]
  constructor
  · rintro ⟨h1, ⟨h2, h3⟩, h4⟩; exact ⟨h2, h3, h4⟩
  · rintro ⟨h1, h2, h3⟩; exact ⟨by omega, ⟨h1, h2⟩, h3⟩
theorem PL_sub {w : Nat → Nat} {u v s e : Nat} (he : e ≤ 12) (h : Sb v u) : plF w (PL w u s e) v 12 = PL w v s e := by
  refine bits_eq (fun y => ?_)
  rw [plF_bit, PL_bit he, PL_bit he]
  constructor
  · rintro ⟨h1, ⟨h2, h3, h4⟩, h5⟩; exact ⟨h2, h3, h5⟩
  · rintro ⟨h1, h2, h3⟩; exact ⟨by omega, ⟨h1, h2, h _ h3⟩, h3⟩
theorem PL_self {w : Nat → Nat} {u s e : Nat} (he : e ≤ 12) : plF w (PL w u s e) u 12 = PL w u s e := PL_sub he Sb.rf
theorem PL_any {w : Nat → Nat} {u s e : Nat} (hs : s ≤ e) (he : e ≤ 12) (q : Nat) : ∃ m, s ≤ m ∧ m ≤ e ∧ utF (PL w u s e) q = PL w u s m ∧ andn (PL w u s e) (utF (PL w u s e) q) = PL w u m e := by
  have key : ∀ m, s ≤ m → m ≤ e → (∀ y, s ≤ y → y < e → (y < q ↔ y < m)) → utF (PL w u s e) q = PL w u s m ∧ andn (PL w u s e) (utF (PL w u s e) q) = PL w u m e := by
    intro m h1 h2 h3
    constructor
    · refine bits_eq (fun y => ?_)
      rw [utF_bit, Bool.and_eq_true, decide_eq_true_iff, PL_bit he, PL_bit (by omega)]
      constructor
      · rintro ⟨⟨a1, a2, a3⟩, a4⟩; exact ⟨a1, (h3 y a1 a2).mp a4, a3⟩
      · rintro ⟨a1, a2, a3⟩; exact ⟨⟨a1, by omega, a3⟩, (h3 y a1 (by omega)).mpr a2⟩
    · refine bits_eq (fun y => ?_)
      rw [andn_bit, utF_bit, Bool.and_eq_true, Bool.not_eq_true', Bool.and_eq_false_iff, decide_eq_false_iff_not, PL_bit he, PL_bit he]
      constructor
      · rintro ⟨⟨a1, a2, a3⟩, a4⟩
        rcases a4 with a4 | a4
        · have : (PL w u s e).testBit y = true := (PL_bit he).mpr ⟨a1, a2, a3⟩
          rw [a4] at this; cases this
        · have := h3 y a1 a2
          exact ⟨by omega, a2, a3⟩
      · rintro ⟨a1, a2, a3⟩
        have := h3 y (by omega) a2
        exact ⟨⟨by omega, a2, a3⟩, Or.inr (by omega)⟩
  rcases Nat.lt_or_ge q s with h | h
  · exact ⟨s, Nat.le_refl _, hs, key s (Nat.le_refl _) hs (fun y h1 h2 => by omega)⟩
  · rcases Nat.lt_or_ge e q with h2 | h2
    · exact ⟨e, hs, Nat.le_refl _, key e hs (Nat.le_refl _) (fun y h1 h2 => by omega)⟩
    · exact ⟨q, h, h2, key q h h2 (fun y h1 h2 => Iff.rfl)⟩
theorem cut_can {p : Nat} : ∀ m, ∃ q, q ≤ m ∧ cuB p q = true ∧ utF p q = utF p m
  | 0 => ⟨0, Nat.le_refl _, rfl, rfl⟩
  | m + 1 => by
    by_cases h : p.testBit m = true
    · exact ⟨m + 1, Nat.le_refl _, by unfold cuB; rw [Nat.add_sub_cancel, h, Bool.or_true], rfl⟩
    · obtain ⟨q, h1, h2, h3⟩ := cut_can (p := p) m
      refine ⟨q, by omega, h2, h3.trans (bits_eq (fun y => ?_))⟩
      rw [utF_bit, utF_bit, Bool.and_eq_true, Bool.and_eq_true, decide_eq_true_iff, decide_eq_true_iff]
      constructor
      · rintro ⟨a1, a2⟩; exact ⟨a1, by omega⟩
      · rintro ⟨a1, a2⟩
        by_cases ey : y = m
        · subst ey; exact absurd a1 h
        · exact ⟨a1, by omega⟩
theorem PL_can {w : Nat → Nat} {u s m e : Nat} (h1 : s ≤ m) (h2 : m ≤ e) (he : e ≤ 12) : ∃ q, q < 13 ∧ cuB (PL w u s e) q = true ∧ utF (PL w u s e) q = PL w u s m ∧ andn (PL w u s e) (utF (PL w u s e) q) = PL w u m e := by
  obtain ⟨q, g1, g2, g3⟩ := cut_can (p := PL w u s e) m
  have g4 : utF (PL w u s e) m = PL w u s m := by
    refine bits_eq (fun y => ?_)
    rw [utF_bit, Bool.and_eq_true, decide_eq_true_iff, PL_bit he, PL_bit (by omega)]
    constructor
    · rintro ⟨⟨a1, a2, a3⟩, a4⟩; exact ⟨a1, a4, a3⟩
    · rintro ⟨a1, a2, a3⟩; exact ⟨⟨a1, by omega, a3⟩, a2⟩
  refine ⟨q, by omega, g2, g3.trans g4, ?_⟩
  rw [g3, g4]
  refine bits_eq (fun y => ?_)
  rw [andn_t, PL_bit he, PL_bit he]
  constructor
  · rintro ⟨⟨a1, a2, a3⟩, a4⟩
    refine ⟨?_, a2, a3⟩
    rcases Nat.lt_or_ge y m with q9 | q9
    · have : (PL w u s m).testBit y = true := (PL_bit (by omega)).mpr ⟨a1, q9, a3⟩
      rw [a4] at this; cases this
    · exact q9
  · rintro ⟨a1, a2, a3⟩
    refine ⟨⟨by omega, a2, a3⟩, ?_⟩
    cases q9 : (PL w u s m).testBit y
    · rfl
    · have := (PL_bit (by omega)).mp q9
      omega
/-! the miner's ends -/
theorem firstU_spec {f : Nat → Bool} : ∀ n, (∀ j, j < firstU f n → f j = false) ∧ firstU f n ≤ n ∧ (firstU f n < n → f (firstU f n) = true)
  | 0 => ⟨fun j h => absurd h (Nat.not_lt_zero j), Nat.le_refl _, fun h => absurd h (Nat.lt_irrefl _)⟩
  | n + 1 => by
    obtain ⟨h1, h2, h3⟩ := firstU_spec (f := f) n
    have e : firstU f (n + 1) = if firstU f n < n then firstU f n else if f n then n else n + 1 := rfl
    rw [e]
    by_cases h : firstU f n < n
    · rw [if_pos h]; exact ⟨h1, by omega, fun _ => h3 h⟩
    · rw [if_neg h]
      have en : firstU f n = n := by omega
      rw [en] at h1
      by_cases hf : f n = true
      · rw [if_pos hf]; exact ⟨h1, by omega, fun _ => hf⟩
      · rw [if_neg hf]
        refine ⟨fun j hj => ?_, Nat.le_refl _, fun h => absurd h (Nat.lt_irrefl _)⟩
        by_cases ej : j = n
        · subst ej; exact Bool.eq_false_iff.mpr hf
        · exact h1 j (by omega)
theorem pow_and {a f : Nat} : 2 ^ a &&& f ≠ 0 ↔ f.testBit a = true := by
  constructor
  · intro h
    obtain ⟨y, hy⟩ := Nat.exists_testBit_of_ne_zero h
    rw [Nat.testBit_and, pow_bit, Bool.and_eq_true, decide_eq_true_iff] at hy
    rw [hy.1]; exact hy.2
  · intro h e
    have : (2 ^ a &&& f).testBit a = true := by rw [Nat.testBit_and, pow_bit, h, decide_eq_true rfl]; rfl
    rw [e, Nat.zero_testBit] at this
    cases this
theorem last_iff {wd w : Nat → Nat} {fo s e wl : Nat} (hw : ∀ y, y < wl → wd y = 2 ^ w y) (hs : s ≤ e) (he : e ≤ wl) : e < lastF wd fo s wl + 1 ↔ ∀ y, s ≤ y → y < e → fo.testBit (w y) = false := by
  unfold lastF
  obtain ⟨h1, h2, h3⟩ := firstU_spec (f := fun i => decide (wd (s + i) &&& fo ≠ 0)) (wl - s)
  generalize firstU (fun i => decide (wd (s + i) &&& fo ≠ 0)) (wl - s) = k at h1 h2 h3
  constructor
  · intro h y hy1 hy2
    have := h1 (y - s) (by omega)
    rw [show s + (y - s) = y by omega, decide_eq_false_iff_not, hw y (by omega)] at this
    cases q : fo.testBit (w y)
    · rfl
    · exact absurd (pow_and.mpr q) this
  · intro h
    rcases Nat.lt_or_ge e (s + k + 1) with q | q
    · exact q
    · have h4 := of_decide_eq_true (h3 (by omega))
      rw [hw (s + k) (by omega)] at h4
      have := h (s + k) (by omega) (by omega)
      rw [pow_and.mp h4] at this
      cases this
/-- what is found of a node for a start is right -/
def EnOk (nd : List Nd) (w : Nat → Nat) (wl : Nat) (iw : Nat → Nat → Bool) (x c m : Nat) : Prop := ∀ e, x.testBit e = true ↔ (m ≤ e ∧ e ≤ wl) ∧ iw c (PL w (ndS nd c) m e) = true
/-- a word only has labels of the node -/
abbrev IwS (nd : List Nd) (w : Nat → Nat) (iw : Nat → Nat → Bool) : Prop := ∀ i p, i < nd.length → p < 4096 → iw i p = true → plF w p (ndS nd i) 12 = p
theorem chi_ok {nd : List Nd} {w wd en : Nat → Nat} {wl i c s : Nat} {iw : Nat → Nat → Bool} (hw : ∀ y, y < wl → wd y = 2 ^ w y) (h12 : wl ≤ 12) (hI : IwS nd w iw) (hc : c < nd.length) (hsb : Sb (ndS nd c) (ndS nd i)) (hen : EnOk nd w wl iw (en (c * 13 + s)) c s) (e : Nat) : (eChi nd wd en wl i c s).testBit e = true ↔ (s ≤ e ∧ e ≤ wl) ∧ iw c (PL w (ndS nd i) s e) = true := by
  unfold eChi
  rw [Nat.testBit_and, Bool.and_eq_true, hen e, Nat.testBit_two_pow_sub_one, decide_eq_true_iff]
  have same : (∀ y, s ≤ y → y < e → (andn (ndS nd i) (ndS nd c)).testBit (w y) = false) → e ≤ 12 → PL w (ndS nd c) s e = PL w (ndS nd i) s e := by
    intro h he
    refine bits_eq (fun y => ?_)
    rw [PL_bit he, PL_bit he]
    constructor
    · rintro ⟨h1, h2, h3⟩; exact ⟨h1, h2, hsb _ h3⟩
    · rintro ⟨h1, h2, h3⟩
      refine ⟨h1, h2, ?_⟩
      have := h y h1 h2
      rw [andn_bit, h3, Bool.true_and, Bool.not_eq_false'] at this
      exact this
  constructor
  · rintro ⟨⟨⟨h1, h2⟩, h3⟩, h4⟩
    have := same ((last_iff hw h1 h2).mp h4) (by omega)
    rw [this] at h3
    exact ⟨⟨h1, h2⟩, h3⟩
  · rintro ⟨⟨h1, h2⟩, h3⟩
    have h4 := hI c _ hc PL_lt h3
    rw [PL_sub (by omega) hsb] at h4
    refine ⟨⟨⟨h1, h2⟩, by rw [h4]; exact h3⟩, (last_iff hw h1 h2).mpr (fun y g1 g2 => ?_)⟩
    cases q : (andn (ndS nd i) (ndS nd c)).testBit (w y)
    · rfl
    · obtain ⟨q1, q2⟩ := andn_t.mp q
      have : (PL w (ndS nd i) s e).testBit y = true := (PL_bit (by omega)).mpr ⟨g1, g2, q1⟩
      rw [← h4] at this
      have := ((PL_bit (by omega)).mp this).2.2
      rw [q2] at this
      cases this
theorem allE_bit {wl s e : Nat} : ∀ k, ((allE wl s k).testBit e = true ↔ s ≤ e ∧ e < s + k)
  | 0 => ⟨fun h => (by rw [show allE wl s 0 = 0 from rfl, Nat.zero_testBit] at h; cases h), fun h => by omega⟩
  | k + 1 => by
    have e1 : allE wl s (k + 1) = allE wl s k ||| 2 ^ (s + k) := rfl
    rw [e1, or_bit, allE_bit k]
    omega
theorem eAlt_bit {nd : List Nd} {wd en : Nat → Nat} {wl i f s e : Nat} : ∀ k, ((eAlt nd wd en wl i f s k).testBit e = true ↔ ∃ j, j < k ∧ (eChi nd wd en wl i (gd (chl nd i) (f + j)) s).testBit e = true)
  | 0 => ⟨fun h => (by rw [show eAlt nd wd en wl i f s 0 = 0 from rfl, Nat.zero_testBit] at h; cases h), fun ⟨j, h, _⟩ => absurd h (Nat.not_lt_zero j)⟩
  | k + 1 => by
    have e1 : eAlt nd wd en wl i f s (k + 1) = eAlt nd wd en wl i f s k ||| eChi nd wd en wl i (gd (chl nd i) (f + k)) s := rfl
    rw [e1, Nat.testBit_or, Bool.or_eq_true, eAlt_bit k]
    constructor
    · rintro (⟨j, h1, h2⟩ | h)
      · exact ⟨j, by omega, h2⟩
      · exact ⟨k, by omega, h⟩
    · rintro ⟨j, h1, h2⟩
      by_cases ej : j = k
      · subst ej; exact Or.inr h2
      · exact Or.inl ⟨j, by omega, h2⟩
theorem eBot_bit {nd : List Nd} {en : Nat → Nat} {wl i s e : Nat} : ∀ k, ((eBot nd en wl i s k).testBit e = true ↔ (allE wl s (wl + 1 - s)).testBit e = true ∧ ∀ j, j < k → (en (gd (chl nd i) j * 13 + s)).testBit e = true)
  | 0 => ⟨fun h => ⟨h, fun j hj => absurd hj (Nat.not_lt_zero j)⟩, fun h => h.1⟩
  | k + 1 => by
    have e1 : eBot nd en wl i s (k + 1) = eBot nd en wl i s k &&& en (gd (chl nd i) k * 13 + s) := rfl
    rw [e1, Nat.testBit_and, Bool.and_eq_true, eBot_bit k]
    constructor
    · rintro ⟨⟨h1, h2⟩, h3⟩
      refine ⟨h1, fun j hj => ?_⟩
      by_cases ej : j = k
      · subst ej; exact h3
      · exact h2 j (by omega)
    · rintro ⟨h1, h2⟩
      exact ⟨⟨h1, fun j hj => h2 j (by omega)⟩, h2 k (by omega)⟩
theorem popc_or {x k : Nat} (hk : k < 12) (h : x.testBit k = false) : popc (x ||| 2 ^ k) = popc x + 1 := by
  have key : ∀ n, pcI (x ||| 2 ^ k) n = pcI x n + (if k < n then 1 else 0) := by
    intro n
    induction n with
    | zero => rfl
    | succ n ih =>
      rw [pcI_s, pcI_s, ih, Nat.testBit_or, pow_bit]
      by_cases e : k = n
      · subst e
        rw [h, decide_eq_true rfl, if_neg (Nat.lt_irrefl k), if_pos (Nat.lt_succ_self k)]
        rfl
      · rw [decide_eq_false e, Bool.or_false]
        by_cases h2 : k < n
        · rw [if_pos h2, if_pos (show k < n + 1 by omega)]
          split <;> omega
        · rw [if_neg h2, if_neg (show ¬ k < n + 1 by omega)]
          split <;> omega
  rw [popc_eq, popc_eq, key 12, if_pos hk]
theorem eLab_ok {w wd : Nat → Nat} {u s wl : Nat} (hw : ∀ y, y < wl → wd y = 2 ^ w y) (h12 : wl ≤ 12) (hu : ∃ l, u = 2 ^ l) : ∀ k, s + k ≤ wl → (eLab wd u s k).1 = popc (PL w u s (s + k)) ∧ ∀ e, (eLab wd u s k).2.testBit e = true ↔ (s ≤ e ∧ e ≤ s + k) ∧ popc (PL w u s e) = 1
  | 0, _ => by
    have hz : PL w u s s = 0 := by
      refine bits_eq (fun y => ?_)
      rw [Nat.zero_testBit]
      refine ⟨fun h => ?_, fun h => (by cases h)⟩
      unfold PL at h
      rw [plF_bit, rg_bit] at h
      omega
    refine ⟨by rw [Nat.add_zero, hz]; rfl, fun e => ⟨fun h => (by rw [show (eLab wd u s 0).2 = 0 from rfl, Nat.zero_testBit] at h; cases h), fun ⟨⟨h1, h2⟩, h3⟩ => ?_⟩⟩
    rw [show e = s by omega, hz] at h3
    cases h3
  | k + 1, hk => by
    obtain ⟨i1, i2⟩ := eLab_ok (s := s) hw h12 hu k (by omega)
    obtain ⟨l, hl⟩ := hu
    have hwu : wd (s + k) = u ↔ u.testBit (w (s + k)) = true := by
      rw [hw (s + k) (by omega), hl, pow_bit, decide_eq_true_iff]
      constructor
      · intro h
        have : (2 ^ w (s + k)).testBit l = true := by rw [h, pow_bit, decide_eq_true rfl]
        rw [pow_bit, decide_eq_true_iff] at this
        exact this.symm
      · intro h; rw [h]
    have hn : (PL w u s (s + k)).testBit (s + k) = false := by
      cases q : (PL w u s (s + k)).testBit (s + k)
      · rfl
      · have := (PL_bit (by omega)).mp q; omega
    have e1 : (eLab wd u s (k + 1)).1 = if wd (s + k) = u then (eLab wd u s k).1 + 1 else (eLab wd u s k).1 := rfl
    have e2 : (eLab wd u s (k + 1)).2 = if (if wd (s + k) = u then (eLab wd u s k).1 + 1 else (eLab wd u s k).1) = 1 then (eLab wd u s k).2 ||| 2 ^ (s + k + 1) else (eLab wd u s k).2 := rfl
    have hcnt : (if wd (s + k) = u then (eLab wd u s k).1 + 1 else (eLab wd u s k).1) = popc (PL w u s (s + (k + 1))) := by
      rw [i1]
      by_cases h : wd (s + k) = u
      · rw [if_pos h, ← popc_or (by omega) hn]
        congr 1
        refine bits_eq (fun y => ?_)
        rw [or_bit, PL_bit (by omega), PL_bit (by omega)]
        constructor
        · rintro (⟨g1, g2, g3⟩ | g)
          · exact ⟨g1, by omega, g3⟩
          · subst g; exact ⟨by omega, by omega, hwu.mp h⟩
        · rintro ⟨g1, g2, g3⟩
          by_cases ey : y = s + k
          · exact Or.inr ey.symm
          · exact Or.inl ⟨g1, by omega, g3⟩
      · rw [if_neg h]
        congr 1
        refine bits_eq (fun y => ?_)
        rw [PL_bit (by omega), PL_bit (by omega)]
        constructor
        · rintro ⟨g1, g2, g3⟩; exact ⟨g1, by omega, g3⟩
        · rintro ⟨g1, g2, g3⟩
          by_cases ey : y = s + k
          · subst ey; exact absurd (hwu.mpr g3) h
          · exact ⟨g1, by omega, g3⟩
    rw [e1, e2, hcnt]
    refine ⟨rfl, fun e => ?_⟩
    by_cases h1 : popc (PL w u s (s + (k + 1))) = 1
    · rw [if_pos h1, or_bit, i2 e]
      constructor
      · rintro (⟨⟨g1, g2⟩, g3⟩ | g)
        · exact ⟨⟨g1, by omega⟩, g3⟩
        · subst g; exact ⟨⟨by omega, by omega⟩, h1⟩
      · rintro ⟨⟨g1, g2⟩, g3⟩
        by_cases ee : e = s + k + 1
        · exact Or.inr ee.symm
        · exact Or.inl ⟨⟨g1, by omega⟩, g3⟩
    · rw [if_neg h1, i2 e]
      constructor
      · rintro ⟨⟨g1, g2⟩, g3⟩; exact ⟨⟨g1, by omega⟩, g3⟩
      · rintro ⟨⟨g1, g2⟩, g3⟩
        by_cases ee : e = s + (k + 1)
        · subst ee; exact absurd g3 h1
        · exact ⟨⟨g1, by omega⟩, g3⟩
theorem one_pow {u : Nat} (hu : u < 256) (h : popc u = 1) : ∃ l, u = 2 ^ l := by
  obtain ⟨y, hy⟩ := Nat.exists_testBit_of_ne_zero (show u ≠ 0 from fun e => by rw [e] at h; cases h)
  have h8 := bit8 hu hy
  refine ⟨y, ?_⟩
  cases q : decide (2 ^ y = u)
  · exfalso
    have h9 := popc_lt (x := 2 ^ y) (y := u) (fun i hi => by
      rw [pow_bit, decide_eq_true_iff] at hi
      rw [← hi]; exact hy) (of_decide_eq_false q) (by omega)
    have := popc_pow h8
    omega
  · exact (of_decide_eq_true q).symm
end PLC
