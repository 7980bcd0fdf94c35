section ENDS
theorem ordI_bit {nd : List Nd} {wd en : Nat → Nat} {wl i s r c e : Nat} : ∀ k, ((ordI nd wd en wl i s r c k).testBit e = true ↔ ∃ j, j < k ∧ r.testBit (s + j) = true ∧ (eChi nd wd en wl i (gd (chl nd i) c) (s + j)).testBit e = true)
  | 0 => ⟨fun h => (by rw [show ordI nd wd en wl i s r c 0 = 0 from rfl, Nat.zero_testBit] at h; cases h), fun ⟨j, h, _⟩ => absurd h (Nat.not_lt_zero j)⟩
  | k + 1 => by
    have e1 : ordI nd wd en wl i s r c (k + 1) = if r.testBit (s + k) then ordI nd wd en wl i s r c k ||| eChi nd wd en wl i (gd (chl nd i) c) (s + k) else ordI nd wd en wl i s r c k := rfl
    have ih := ordI_bit (nd := nd) (wd := wd) (en := en) (wl := wl) (i := i) (s := s) (r := r) (c := c) (e := e) k
    rw [e1]
    by_cases hr : r.testBit (s + k) = true
    · rw [if_pos hr, Nat.testBit_or, Bool.or_eq_true, ih]
      constructor
      · rintro (⟨j, h1, h2⟩ | h)
        · exact ⟨j, by omega, h2⟩
        · exact ⟨k, by omega, hr, h⟩
      · rintro ⟨j, h1, h2, h3⟩
        by_cases ej : j = k
        · subst ej; exact Or.inr h3
        · exact Or.inl ⟨j, by omega, h2, h3⟩
    · rw [if_neg hr, ih]
      constructor
      · rintro ⟨j, h1, h2⟩; exact ⟨j, by omega, h2⟩
      · rintro ⟨j, h1, h2, h3⟩
        by_cases ej : j = k
        · subst ej; exact absurd h2 hr
        · exact ⟨j, by omega, h2, h3⟩
theorem agnB_bit {nd : List Nd} {wd en : Nat → Nat} {wl i s once e : Nat} : ∀ k, ((agnB nd wd en wl i s once k).testBit e = true ↔ ∃ j, j < k ∧ once.testBit (s + j) = true ∧ (eAlt nd wd en wl i 1 (s + j) ((chl nd i).length - 1)).testBit e = true)
  | 0 => ⟨fun h => (by rw [show agnB nd wd en wl i s once 0 = 0 from rfl, Nat.zero_testBit] at h; cases h), fun ⟨j, h, _⟩ => absurd h (Nat.not_lt_zero j)⟩
  | k + 1 => by
    have e1 : agnB nd wd en wl i s once (k + 1) = if once.testBit (s + k) then agnB nd wd en wl i s once k ||| eAlt nd wd en wl i 1 (s + k) ((chl nd i).length - 1) else agnB nd wd en wl i s once k := rfl
    have ih := agnB_bit (nd := nd) (wd := wd) (en := en) (wl := wl) (i := i) (s := s) (once := once) (e := e) k
    rw [e1]
    by_cases hr : once.testBit (s + k) = true
    · rw [if_pos hr, Nat.testBit_or, Bool.or_eq_true, ih]
      constructor
      · rintro (⟨j, h1, h2⟩ | h)
        · exact ⟨j, by omega, h2⟩
        · exact ⟨k, by omega, hr, h⟩
      · rintro ⟨j, h1, h2, h3⟩
        by_cases ej : j = k
        · subst ej; exact Or.inr h3
        · exact Or.inl ⟨j, by omega, h2, h3⟩
    · rw [if_neg hr, ih]
      constructor
      · rintro ⟨j, h1, h2⟩; exact ⟨j, by omega, h2⟩
      · rintro ⟨j, h1, h2, h3⟩
        by_cases ej : j = k
        · subst ej; exact absurd h2 hr
        · exact ⟨j, by omega, h2, h3⟩
theorem agnR_bit {en : Nat → Nat} {i s once bet e : Nat} : ∀ k, ((agnR en i s once bet k).testBit e = true ↔ once.testBit e = true ∨ ∃ j, j < k ∧ bet.testBit (s + 1 + j) = true ∧ (en (i * 13 + (s + 1 + j))).testBit e = true)
  | 0 => ⟨fun h => Or.inl h, fun h => h.elim id (fun ⟨j, h, _⟩ => absurd h (Nat.not_lt_zero j))⟩
  | k + 1 => by
    have e1 : agnR en i s once bet (k + 1) = if bet.testBit (s + 1 + k) then agnR en i s once bet k ||| en (i * 13 + (s + 1 + k)) else agnR en i s once bet k := rfl
    have ih := agnR_bit (en := en) (i := i) (s := s) (once := once) (bet := bet) (e := e) k
    rw [e1]
    by_cases hr : bet.testBit (s + 1 + k) = true
    · rw [if_pos hr, Nat.testBit_or, Bool.or_eq_true, ih]
      constructor
      · rintro ((h | ⟨j, h1, h2⟩) | h)
        · exact Or.inl h
        · exact Or.inr ⟨j, by omega, h2⟩
        · exact Or.inr ⟨k, by omega, hr, h⟩
      · rintro (h | ⟨j, h1, h2, h3⟩)
        · exact Or.inl (Or.inl h)
        · by_cases ej : j = k
          · subst ej; exact Or.inr h3
          · exact Or.inl (Or.inr ⟨j, by omega, h2, h3⟩)
    · rw [if_neg hr, ih]
      constructor
      · rintro (h | ⟨j, h1, h2⟩)
        · exact Or.inl h
        · exact Or.inr ⟨j, by omega, h2⟩
      · rintro (h | ⟨j, h1, h2, h3⟩)
        · exact Or.inl h
        · by_cases ej : j = k
          · subst ej; exact absurd h2 hr
          · exact Or.inr ⟨j, by omega, h2, h3⟩
/-- the last so many children, one behind the other, from m to e -/
def pth (F : Nat → Nat → Nat → Prop) (len : Nat) : Nat → Nat → Nat → Prop
  | 0, m, e => m = e
  | j + 1, m, e => ∃ m', (m ≤ m' ∧ m' ≤ e) ∧ F (len - (j + 1)) m m' ∧ pth F len j m' e
theorem eOrd_pth {nd : List Nd} {wd en : Nat → Nat} {wl i s : Nat} {F : Nat → Nat → Nat → Prop} (hs : s ≤ wl) (hF : ∀ c, c < (chl nd i).length → ∀ m, s ≤ m → m ≤ wl → ∀ e, (eChi nd wd en wl i (gd (chl nd i) c) m).testBit e = true ↔ (m ≤ e ∧ e ≤ wl) ∧ F c m e) : (∀ k, k ≤ (chl nd i).length → ∀ e, (eOrd nd wd en wl i s k).testBit e = true → s ≤ e ∧ e ≤ wl) ∧ ∀ j k, k + j = (chl nd i).length → ∀ e, e ≤ wl → ((eOrd nd wd en wl i s (chl nd i).length).testBit e = true ↔ ∃ m, (eOrd nd wd en wl i s k).testBit m = true ∧ m ≤ e ∧ pth F (chl nd i).length j m e) := by
  have hstep : ∀ k, eOrd nd wd en wl i s (k + 1) = ordI nd wd en wl i s (eOrd nd wd en wl i s k) k (wl + 1 - s) := fun k => rfl
  have rng : ∀ k, k ≤ (chl nd i).length → ∀ e, (eOrd nd wd en wl i s k).testBit e = true → s ≤ e ∧ e ≤ wl := by
    intro k
    induction k with
    | zero =>
      intro _ e h
      rw [show eOrd nd wd en wl i s 0 = 2 ^ s from rfl, pow_bit, decide_eq_true_iff] at h
      omega
    | succ k ih =>
      intro hk e h
      rw [hstep, ordI_bit] at h
      obtain ⟨j, h1, h2, h3⟩ := h
      have := ((hF k (by omega) (s + j) (by omega) (by omega) e).mp h3).1
      omega
  refine ⟨rng, ?_⟩
  intro j
  induction j with
  | zero =>
    intro k hk e he
    rw [show k = (chl nd i).length by omega]
    constructor
    · intro h; exact ⟨e, h, Nat.le_refl _, rfl⟩
    · rintro ⟨m, h1, -, h2⟩
      rw [← (show m = e from h2)]; exact h1
  | succ j ih =>
    intro k hk e he
    rw [ih (k + 1) (by omega) e he]
    constructor
    · rintro ⟨m', h1, h2, h3⟩
      rw [hstep, ordI_bit] at h1
      obtain ⟨jj, g1, g2, g3⟩ := h1
      obtain ⟨g4, g5⟩ := (hF k (by omega) (s + jj) (by omega) (by omega) m').mp g3
      exact ⟨s + jj, g2, by omega, m', ⟨by omega, h2⟩, by rw [show (chl nd i).length - (j + 1) = k by omega]; exact g5, h3⟩
    · rintro ⟨m, h1, h2, m', ⟨h3, h4⟩, h5, h6⟩
      have hr := rng k (by omega) m h1
      rw [show (chl nd i).length - (j + 1) = k by omega] at h5
      refine ⟨m', ?_, h4, h6⟩
      rw [hstep, ordI_bit]
      refine ⟨m - s, by omega, ?_, ?_⟩
      · rw [show s + (m - s) = m by omega]; exact h1
      · rw [show s + (m - s) = m by omega]
        exact (hF k (by omega) m hr.1 hr.2 m').mpr ⟨⟨h3, by omega⟩, h5⟩
theorem od_pth {nd : List Nd} {w : Nat → Nat} {i u : Nat} {iw : Nat → Nat → Bool} {od : Nat → Nat → Nat → Bool} (hi : i < nd.length) (ho : ∀ (i k p : Nat), i < nd.length → k < (chl nd i).length → p < 4096 → od i k p = if k + 1 = (chl nd i).length then iw (gd (chl nd i) k) p else anyU (fun q => cuB p q && (iw (gd (chl nd i) k) (utF p q) && od i (k + 1) (andn p (utF p q)))) 13) : ∀ j, j + 1 ≤ (chl nd i).length → ∀ m e, m ≤ e → e ≤ 12 → (od i ((chl nd i).length - (j + 1)) (PL w u m e) = true ↔ pth (fun c m e => iw (gd (chl nd i) c) (PL w u m e) = true) (chl nd i).length (j + 1) m e) := by
  intro j
  induction j with
  | zero =>
    intro hj m e hme he
    rw [ho i _ _ hi (by omega) PL_lt, if_pos (by omega)]
    constructor
    · intro h; exact ⟨e, ⟨hme, Nat.le_refl _⟩, h, rfl⟩
    · rintro ⟨m', -, h1, h2⟩
      rw [← (show m' = e from h2)]; exact h1
  | succ j ih =>
    intro hj m e hme he
    rw [ho i _ _ hi (by omega) PL_lt, if_neg (by omega), anyU_iff, show (chl nd i).length - (j + 1 + 1) + 1 = (chl nd i).length - (j + 1) by omega]
    constructor
    · rintro ⟨q, h1, h2⟩
      rw [Bool.and_eq_true, Bool.and_eq_true] at h2
      obtain ⟨-, h3, h4⟩ := h2
      obtain ⟨m', g1, g2, g3, g4⟩ := PL_any (w := w) (u := u) hme he q
      rw [g4] at h4
      rw [g3] at h3
      exact ⟨m', ⟨g1, g2⟩, h3, (ih (by omega) m' e g2 he).mp h4⟩
    · rintro ⟨m', ⟨h1, h2⟩, h3, h4⟩
      obtain ⟨q, g1, g2, g3, g4⟩ := PL_can (w := w) (u := u) h1 h2 he
      refine ⟨q, g1, ?_⟩
      rw [Bool.and_eq_true, Bool.and_eq_true, g4, g3]
      exact ⟨g2, h3, (ih (by omega) m' e h2 he).mpr h4⟩
theorem PL_pos {w : Nat → Nat} {u s m e : Nat} (h1 : s ≤ m) (h2 : m ≤ e) (he : e ≤ 12) (h : ¬ 0 < PL w u s m) : PL w u m e = PL w u s e := by
  refine bits_eq (fun y => ?_)
  rw [PL_bit he, PL_bit he]
  constructor
  · rintro ⟨a1, a2, a3⟩; exact ⟨by omega, a2, a3⟩
  · rintro ⟨a1, a2, a3⟩
    rcases Nat.lt_or_ge y m with q | q
    · have : (PL w u s m).testBit y = true := (PL_bit (by omega)).mpr ⟨a1, q, a3⟩
      rw [show PL w u s m = 0 by omega, Nat.zero_testBit] at this
      cases this
    · exact ⟨q, a2, a3⟩
theorem PL_or {w : Nat → Nat} {u s m e : Nat} (h1 : s ≤ m) (h2 : m ≤ e) (he : e ≤ 12) : PL w u s m ||| PL w u m e = PL w u s e := by
  refine bits_eq (fun y => ?_)
  rw [Nat.testBit_or, Bool.or_eq_true, PL_bit (by omega), PL_bit he, PL_bit he]
  constructor
  · rintro (⟨a1, a2, a3⟩ | ⟨a1, a2, a3⟩)
    · exact ⟨a1, by omega, a3⟩
    · exact ⟨by omega, a2, a3⟩
  · rintro ⟨a1, a2, a3⟩
    rcases Nat.lt_or_ge y m with q | q
    · exact Or.inl ⟨a1, q, a3⟩
    · exact Or.inr ⟨q, a2, a3⟩
theorem PL_nil {w : Nat → Nat} {u s : Nat} (h : s ≤ 12) : PL w u s s = 0 := by
  refine bits_eq (fun y => ?_)
  rw [Nat.zero_testBit, PL_bit h]
  exact ⟨fun h => (by omega), fun h => (by cases h)⟩
set_option maxHeartbeats 4000000 in
/-- the ends of a node for a start are right if those that they rest on are -/
theorem ends_ok {nd : List Nd} {w wd en : Nat → Nat} {wl i s : Nat} {iw aw : Nat → Nat → Bool} {od : Nat → Nat → Nat → Bool} {ag : Nat → Nat → Bool} {go : Nat → Nat → Nat → Bool} (hg : Grown nd) (hE : IwEq nd w iw aw od ag go) (hw : ∀ y, y < wl → wd y = 2 ^ w y) (h12 : wl ≤ 12) (hi : i < nd.length) (hs : s ≤ wl) (hc : ∀ c, c < nd.length → i < c → ∀ m, s ≤ m → m ≤ wl → EnOk nd w wl iw (en (c * 13 + m)) c m) (hself : ∀ m, s < m → m ≤ wl → EnOk nd w wl iw (en (i * 13 + m)) i m) : EnOk nd w wl iw (endsF nd wd en wl i s) i s := by
  obtain ⟨E1, E2, E3, E4, E5⟩ := hE
  have hI : IwS nd w iw := fun i p hi hp h => by
    rw [E1 i p hi hp, Bool.and_eq_true] at h
    exact of_decide_eq_true h.1
  obtain ⟨f1, f2, f3, f4, f5, f6, f7⟩ := hg.2.1 i hi
  have hkd : (nx0 nd i).1 = ndK nd i := rfl
  have hst : (nx0 nd i).2.2 = ndS nd i := rfl
  rw [hkd] at f1 f3 f4 f5 f6 f7
  rw [hst] at f2 f4 f5 f6
  have kid : ∀ k, k < (chl nd i).length → gd (chl nd i) k < nd.length ∧ i < gd (chl nd i) k := fun k hk => by
    obtain ⟨g1, g2⟩ := chl_in hk
    have := (hg.2.2.1 _ g1).2
    exact ⟨g1, by omega⟩
  have ksb : (ndK nd i = 2 ∨ ndK nd i = 3 ∨ ndK nd i = 4 ∨ ndK nd i = 5) → ∀ k, k < (chl nd i).length → Sb (ndS nd (gd (chl nd i) k)) (ndS nd i) := fun h k hk => by
    rw [chl_set hk]
    exact (f6 h).2.2.1 k (by rw [← chl_len]; exact hk)
  have hchi : (ndK nd i = 2 ∨ ndK nd i = 3 ∨ ndK nd i = 4 ∨ ndK nd i = 5) → ∀ k, k < (chl nd i).length → ∀ m, s ≤ m → m ≤ wl → ∀ e, (eChi nd wd en wl i (gd (chl nd i) k) m).testBit e = true ↔ (m ≤ e ∧ e ≤ wl) ∧ iw (gd (chl nd i) k) (PL w (ndS nd i) m e) = true := fun h k hk m h1 h2 e => chi_ok hw h12 hI (kid k hk).1 (ksb h k hk) (hc _ (kid k hk).1 (kid k hk).2 m h1 h2) e
  have hall : ∀ e, (allE wl s (wl + 1 - s)).testBit e = true ↔ s ≤ e ∧ e ≤ wl := fun e => by rw [allE_bit]; omega
  intro e
  have iwe : e ≤ wl → iw i (PL w (ndS nd i) s e) = (if ndK nd i = 0 then decide (PL w (ndS nd i) s e = 0) else if ndK nd i = 1 then decide (popc (PL w (ndS nd i) s e) = 1) else if ndK nd i = 6 then true else if ndK nd i = 3 then od i 0 (PL w (ndS nd i) s e) else if ndK nd i = 5 then ag i (PL w (ndS nd i) s e) else aw i (PL w (ndS nd i) s e)) := fun he => by
    rw [E1 i _ hi PL_lt, PL_self (by omega), decide_eq_true rfl, Bool.true_and]
  unfold endsF
  rcases (show ndK nd i = 0 ∨ ndK nd i = 1 ∨ ndK nd i = 2 ∨ ndK nd i = 3 ∨ ndK nd i = 4 ∨ ndK nd i = 5 ∨ ndK nd i = 6 by omega) with k | k | k | k | k | k | k
  · rw [if_neg (by omega), if_neg (by omega), if_neg (by omega), if_neg (by omega), if_neg (by omega), hall]
    constructor
    · intro h
      refine ⟨h, ?_⟩
      rw [iwe h.2, if_pos k, f4 k, decide_eq_true_iff]
      refine bits_eq (fun y => ?_)
      rw [PL_bit (by omega), Nat.zero_testBit, Nat.zero_testBit]
      exact ⟨fun h => (by cases h.2.2), fun h => (by cases h)⟩
    · exact fun h => h.1
  · rw [if_pos k, (eLab_ok hw h12 (one_pow f2 (f5 k)) (wl - s) (by omega)).2 e, show s + (wl - s) = wl by omega]
    constructor
    · rintro ⟨h, h2⟩
      refine ⟨h, ?_⟩
      rw [iwe h.2, if_neg (by omega), if_pos k, decide_eq_true_iff]; exact h2
    · rintro ⟨h, h2⟩
      rw [iwe h.2, if_neg (by omega), if_pos k, decide_eq_true_iff] at h2
      exact ⟨h, h2⟩
  · rw [if_neg (by omega), if_pos k, eAlt_bit]
    have hch := hchi (by omega)
    have awe : e ≤ wl → (iw i (PL w (ndS nd i) s e) = true ↔ ∃ j, j < (chl nd i).length ∧ iw (gd (chl nd i) j) (PL w (ndS nd i) s e) = true) := fun he => by
      rw [iwe he, if_neg (by omega), if_neg (by omega), if_neg (by omega), if_neg (by omega), if_neg (by omega), E2 i _ hi PL_lt, if_pos k, anyU_iff]
    constructor
    · rintro ⟨j, h1, h2⟩
      rw [Nat.zero_add] at h2
      obtain ⟨h3, h4⟩ := (hch j (by omega) s (Nat.le_refl _) hs e).mp h2
      exact ⟨h3, (awe h3.2).mpr ⟨j, by omega, h4⟩⟩
    · rintro ⟨h1, h2⟩
      obtain ⟨j, h3, h4⟩ := (awe h1.2).mp h2
      exact ⟨j, by omega, by rw [Nat.zero_add]; exact (hch j h3 s (Nat.le_refl _) hs e).mpr ⟨h1, h4⟩⟩
  · rw [if_neg (by omega), if_neg (by omega), if_pos k]
    have hch := hchi (by omega)
    have h1c := (f6 (by omega)).1
    rw [← chl_len] at h1c
    obtain ⟨rng, pq⟩ := eOrd_pth hs hch
    have ode : e ≤ wl → s ≤ e → (iw i (PL w (ndS nd i) s e) = true ↔ pth (fun c m e => iw (gd (chl nd i) c) (PL w (ndS nd i) m e) = true) (chl nd i).length (chl nd i).length s e) := fun he hse => by
      rw [iwe he, if_neg (by omega), if_neg (by omega), if_neg (by omega), if_pos k]
      have := od_pth (w := w) (u := ndS nd i) hi E3 ((chl nd i).length - 1) (by omega) s e hse (by omega)
      rw [show (chl nd i).length - 1 + 1 = (chl nd i).length by omega, Nat.sub_self] at this
      exact this
    have pe : e ≤ wl → ((eOrd nd wd en wl i s (chl nd i).length).testBit e = true ↔ s ≤ e ∧ pth (fun c m e => iw (gd (chl nd i) c) (PL w (ndS nd i) m e) = true) (chl nd i).length (chl nd i).length s e) := fun he => by
      rw [pq (chl nd i).length 0 (by omega) e he]
      constructor
      · rintro ⟨m, h1, h2, h3⟩
        rw [show eOrd nd wd en wl i s 0 = 2 ^ s from rfl, pow_bit, decide_eq_true_iff] at h1
        subst h1
        exact ⟨h2, h3⟩
      · rintro ⟨h1, h2⟩
        exact ⟨s, by rw [show eOrd nd wd en wl i s 0 = 2 ^ s from rfl, pow_bit, decide_eq_true rfl], h1, h2⟩
    constructor
    · intro h
      have hr := rng _ (Nat.le_refl _) e h
      exact ⟨hr, (ode hr.2 hr.1).mpr ((pe hr.2).mp h).2⟩
    · rintro ⟨h1, h2⟩
      exact (pe h1.2).mpr ⟨h1.1, (ode h1.2 h1.1).mp h2⟩
  · rw [if_neg (by omega), if_neg (by omega), if_neg (by omega), if_pos k, eBot_bit, hall]
    have awe : e ≤ wl → (iw i (PL w (ndS nd i) s e) = true ↔ ∀ j, j < (chl nd i).length → iw (gd (chl nd i) j) (PL w (ndS nd (gd (chl nd i) j)) s e) = true) := fun he => by
      rw [iwe he, if_neg (by omega), if_neg (by omega), if_neg (by omega), if_neg (by omega), if_neg (by omega), E2 i _ hi PL_lt, if_neg (by omega)]
      constructor
      · intro h j hj
        cases q : iw (gd (chl nd i) j) (PL w (ndS nd (gd (chl nd i) j)) s e)
        · have : anyU (fun k => !iw (gd (chl nd i) k) (plF w (PL w (ndS nd i) s e) (ndS nd (gd (chl nd i) k)) 12)) (chl nd i).length = true := anyU_iff.mpr ⟨j, hj, by rw [PL_sub (by omega) (ksb (by omega) j hj), q]; rfl⟩
          rw [this] at h; cases h
        · rfl
      · intro h
        cases q : anyU (fun k => !iw (gd (chl nd i) k) (plF w (PL w (ndS nd i) s e) (ndS nd (gd (chl nd i) k)) 12)) (chl nd i).length
        · rfl
        · obtain ⟨j, h1, h2⟩ := anyU_iff.mp q
          rw [PL_sub (by omega) (ksb (by omega) j h1), h j h1] at h2
          cases h2
    constructor
    · rintro ⟨h1, h2⟩
      exact ⟨h1, (awe h1.2).mpr (fun j hj => ((hc _ (kid j hj).1 (kid j hj).2 s (Nat.le_refl _) hs e).mp (h2 j hj)).2)⟩
    · rintro ⟨h1, h2⟩
      exact ⟨h1, fun j hj => (hc _ (kid j hj).1 (kid j hj).2 s (Nat.le_refl _) hs e).mpr ⟨h1, (awe h1.2).mp h2 j hj⟩⟩
  · rw [if_neg (by omega), if_neg (by omega), if_neg (by omega), if_neg (by omega), if_pos k]
    have hch := hchi (by omega)
    have h1c := (f6 (by omega)).1
    rw [← chl_len] at h1c
    have iag : ∀ m e, e ≤ wl → (iw i (PL w (ndS nd i) m e) = true ↔ ag i (PL w (ndS nd i) m e) = true) := fun m e he => by
      rw [E1 i _ hi PL_lt, PL_self (by omega), decide_eq_true rfl, Bool.true_and, if_neg (by omega), if_neg (by omega), if_neg (by omega), if_neg (by omega), if_pos k]
    have o1 : ∀ e, (eChi nd wd en wl i (gd (chl nd i) 0) s).testBit e = true ↔ (s ≤ e ∧ e ≤ wl) ∧ iw (gd (chl nd i) 0) (PL w (ndS nd i) s e) = true := hch 0 (by omega) s (Nat.le_refl _) hs
    have b1 : ∀ m, (agnB nd wd en wl i s (eChi nd wd en wl i (gd (chl nd i) 0) s) (wl + 1 - s)).testBit m = true ↔ ∃ m0 j, (s ≤ m0 ∧ m0 ≤ m ∧ m ≤ wl) ∧ j + 1 < (chl nd i).length ∧ iw (gd (chl nd i) 0) (PL w (ndS nd i) s m0) = true ∧ iw (gd (chl nd i) (1 + j)) (PL w (ndS nd i) m0 m) = true := by
      intro m
      rw [agnB_bit]
      constructor
      · rintro ⟨jj, h1, h2, h3⟩
        rw [eAlt_bit] at h3
        obtain ⟨j, g1, g2⟩ := h3
        obtain ⟨g3, g4⟩ := (o1 _).mp h2
        obtain ⟨g5, g6⟩ := (hch (1 + j) (by omega) (s + jj) (by omega) (by omega) m).mp g2
        exact ⟨s + jj, j, by omega, by omega, g4, g6⟩
      · rintro ⟨m0, j, h1, h2, h3, h4⟩
        refine ⟨m0 - s, by omega, ?_, ?_⟩
        · rw [show s + (m0 - s) = m0 by omega]
          exact (o1 m0).mpr ⟨by omega, h3⟩
        · rw [show s + (m0 - s) = m0 by omega, eAlt_bit]
          exact ⟨j, by omega, (hch (1 + j) (by omega) m0 (by omega) (by omega) m).mpr ⟨by omega, h4⟩⟩
    unfold eAgn
    rw [agnR_bit, o1]
    generalize agnB nd wd en wl i s (eChi nd wd en wl i (gd (chl nd i) 0) s) (wl + 1 - s) = bet at b1
    constructor
    · rintro (⟨h1, h2⟩ | ⟨jj, h1, h2, h3⟩)
      · refine ⟨h1, (iag s e h1.2).mpr ?_⟩
        rw [E4 i _ hi PL_lt, h2, Bool.true_or]
      · obtain ⟨m0, j, g1, g2, g3, g4⟩ := (b1 _).mp h2
        obtain ⟨g5, g6⟩ := (hself (s + 1 + jj) (by omega) (by omega) e).mp h3
        generalize s + 1 + jj = m at g1 g4 g5 g6 h1
        have hag := (iag m e g5.2).mp g6
        refine ⟨by omega, (iag s e g5.2).mpr ?_⟩
        by_cases hp : 0 < PL w (ndS nd i) s m
        · rw [E4 i _ hi PL_lt, Bool.or_eq_true]
          right
          obtain ⟨q, q1, q2, q3, q4⟩ := PL_can (w := w) (u := ndS nd i) (s := s) (m := m0) (e := e) (by omega) (by omega) (by omega)
          obtain ⟨r, r1, r2, r3, r4⟩ := PL_can (w := w) (u := ndS nd i) (s := m0) (m := m) (e := e) (by omega) (by omega) (by omega)
          refine anyU_iff.mpr ⟨q, q1, ?_⟩
          rw [Bool.and_eq_true, Bool.and_eq_true, q4, q3, E5 i _ _ hi PL_lt PL_lt]
          refine ⟨q2, g3, anyU_iff.mpr ⟨j, by omega, anyU_iff.mpr ⟨r, r1, ?_⟩⟩⟩
          rw [Bool.and_eq_true, Bool.and_eq_true, Bool.and_eq_true, r4, r3, PL_or (by omega) (by omega) (by omega), decide_eq_true_iff]
          exact ⟨r2, hp, g4, hag⟩
        · rw [← PL_pos (by omega) (by omega) (by omega) hp]
          exact hag
    · rintro ⟨h1, h2⟩
      have h2 := (iag s e h1.2).mp h2
      rw [E4 i _ hi PL_lt, Bool.or_eq_true] at h2
      rcases h2 with h2 | h2
      · exact Or.inl ⟨h1, h2⟩
      · right
        obtain ⟨q, q1, q2⟩ := anyU_iff.mp h2
        rw [Bool.and_eq_true, Bool.and_eq_true] at q2
        obtain ⟨-, q3, q4⟩ := q2
        obtain ⟨m0, m1, m2, m3, m4⟩ := PL_any (w := w) (u := ndS nd i) h1.1 (by omega) q
        rw [m4, m3, E5 i _ _ hi PL_lt PL_lt] at q4
        rw [m3] at q3
        obtain ⟨j, j1, j2⟩ := anyU_iff.mp q4
        obtain ⟨r, r1, r2⟩ := anyU_iff.mp j2
        rw [Bool.and_eq_true, Bool.and_eq_true, Bool.and_eq_true] at r2
        obtain ⟨-, r3, r4, r5⟩ := r2
        obtain ⟨m, n1, n2, n3, n4⟩ := PL_any (w := w) (u := ndS nd i) m2 (by omega) r
        rw [n4] at r5
        rw [n3] at r3 r4
        rw [PL_or m1 n1 (by omega), decide_eq_true_iff] at r3
        have hm : s < m := by
          rcases Nat.lt_or_ge s m with q9 | q9
          · exact q9
          · rw [show m = s by omega, PL_nil (by omega)] at r3
            exact absurd r3 (Nat.lt_irrefl 0)
        refine ⟨m - (s + 1), by omega, ?_, ?_⟩
        · rw [show s + 1 + (m - (s + 1)) = m by omega]
          exact (b1 m).mpr ⟨m0, j, by omega, by omega, q3, r4⟩
        · rw [show s + 1 + (m - (s + 1)) = m by omega]
          exact (hself m hm (by omega) e).mpr ⟨⟨n2, h1.2⟩, (iag m e h1.2).mpr r5⟩
  · rw [if_neg (by omega), if_neg (by omega), if_neg (by omega), if_neg (by omega), if_neg (by omega), hall]
    constructor
    · intro h
      refine ⟨h, ?_⟩
      rw [iwe h.2, if_neg (by omega), if_neg (by omega), if_pos k]
    · exact fun h => h.1
end ENDS
