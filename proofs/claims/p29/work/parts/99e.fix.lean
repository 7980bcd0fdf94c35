section FIXW
theorem firstU_cong {f g : Nat → Bool} : ∀ n, (∀ j, j < n → f j = g j) → firstU f n = firstU g n
  | 0, _ => rfl
  | n + 1, h => by
    have ih := firstU_cong (f := f) (g := g) n (fun j hj => h j (by omega))
    show (if firstU f n < n then firstU f n else if f n then n else n + 1) = if firstU g n < n then firstU g n else if g n then n else n + 1
    rw [ih, h n (by omega)]
theorem chi_cong {nd : List Nd} {wd wd' en en' : Nat → Nat} {wl i c s m : Nat} (hwd : ∀ y, s ≤ y → y < wl → wd y = wd' y) (h : en (c * 13 + m) = en' (c * 13 + m)) (hm : s ≤ m) : eChi nd wd en wl i c m = eChi nd wd' en' wl i c m := by
  unfold eChi lastF
  rw [h, firstU_cong (wl - m) (fun j hj => by rw [hwd (m + j) (by omega) (by omega)])]
theorem ends_cong {nd : List Nd} {wd wd' en en' : Nat → Nat} {wl i s : Nat} (hg : Grown nd) (hi : i < nd.length) (hs : s ≤ wl) (hwd : ∀ y, s ≤ y → y < wl → wd y = wd' y) (hen : ∀ c m, c < nd.length → s ≤ m → m ≤ wl → (i < c ∨ (c = i ∧ s < m)) → en (c * 13 + m) = en' (c * 13 + m)) : endsF nd wd en wl i s = endsF nd wd' en' wl i s := by
  have kid : ∀ k, k < (chl nd i).length → gd (chl nd i) k < nd.length ∧ i < gd (chl nd i) k := fun k hk => by
    obtain ⟨g1, g2⟩ := chl_in hk
    have := (hg.2.2.1 _ g1).2
    exact ⟨g1, by omega⟩
  have hch := hg.ch i hi
  have chi : ∀ k, k < (chl nd i).length → ∀ m, s ≤ m → m ≤ wl → eChi nd wd en wl i (gd (chl nd i) k) m = eChi nd wd' en' wl i (gd (chl nd i) k) m := fun k hk m h1 h2 => chi_cong hwd (hen _ m (kid k hk).1 h1 h2 (Or.inl (kid k hk).2)) h1
  have alt : ∀ f k m, f + k ≤ (chl nd i).length → s ≤ m → m ≤ wl → eAlt nd wd en wl i f m k = eAlt nd wd' en' wl i f m k := fun f k m h h1 h2 => it_cong k (fun j v hj => by rw [chi (f + j) (by omega) m h1 h2])
  unfold endsF
  by_cases k1 : ndK nd i = 1
  · rw [if_pos k1, if_pos k1]
    have : eLab wd (ndS nd i) s (wl - s) = eLab wd' (ndS nd i) s (wl - s) := it_cong _ (fun j q hj => by rw [hwd (s + j) (by omega) (by omega)])
    rw [this]
  · rw [if_neg k1, if_neg k1]
    by_cases k2 : ndK nd i = 2
    · rw [if_pos k2, if_pos k2]
      exact alt 0 _ s (by omega) (Nat.le_refl _) hs
    · rw [if_neg k2, if_neg k2]
      by_cases k3 : ndK nd i = 3
      · rw [if_pos k3, if_pos k3]
        exact it_cong _ (fun c r hc => it_cong _ (fun j v hj => by rw [chi c hc (s + j) (by omega) (by omega)]))
      · rw [if_neg k3, if_neg k3]
        by_cases k4 : ndK nd i = 4
        · rw [if_pos k4, if_pos k4]
          exact it_cong _ (fun c v hc => by rw [hen _ s (kid c hc).1 (Nat.le_refl _) hs (Or.inl (kid c hc).2)])
        · rw [if_neg k4, if_neg k4]
          by_cases k5 : ndK nd i = 5
          · rw [if_pos k5, if_pos k5]
            have h1 := hch (Or.inr k5)
            unfold eAgn
            rw [chi 0 (by omega) s (Nat.le_refl _) hs]
            have hB : agnB nd wd en wl i s (eChi nd wd' en' wl i (gd (chl nd i) 0) s) (wl + 1 - s) = agnB nd wd' en' wl i s (eChi nd wd' en' wl i (gd (chl nd i) 0) s) (wl + 1 - s) := it_cong _ (fun j v hj => by rw [alt 1 _ (s + j) (by omega) (by omega) (by omega)])
            rw [hB]
            exact it_cong _ (fun j v hj => by rw [hen i (s + 1 + j) hi (by omega) (by omega) (Or.inr ⟨rfl, by omega⟩)])
          · rw [if_neg k5, if_neg k5]
/-- what was found for the starts from p on fits the word -/
def FixW (nd : List Nd) (wd en : Nat → Nat) (wl p : Nat) : Prop := ∀ i, i < nd.length → ∀ s, p ≤ s → s ≤ wl → en (i * 13 + s) = endsF nd wd en wl i s
theorem FixW.up {nd : List Nd} {wd en : Nat → Nat} {wl p q : Nat} (h : FixW nd wd en wl p) (hq : p ≤ q) : FixW nd wd en wl q := fun i hi s hs hw => h i hi s (by omega) hw
theorem FixW.word {nd : List Nd} {wd wd' en : Nat → Nat} {wl p : Nat} (hg : Grown nd) (h : FixW nd wd en wl p) (hwd : ∀ y, p ≤ y → wd y = wd' y) : FixW nd wd' en wl p := fun i hi s hs hw => (h i hi s hs hw).trans (ends_cong hg hi hw (fun y h1 h2 => hwd y (by omega)) (fun c m _ _ _ _ => rfl))
theorem FixW.read {nd : List Nd} {wd en : Nat → Nat} {wl s : Nat} (hg : Grown nd) (h12 : wl ≤ 12) (hs : s ≤ wl) (h : FixW nd wd en wl (s + 1)) : FixW nd wd (rdF nd wd wl s en nd.length) wl s := by
  have key : ∀ k, k ≤ nd.length → (∀ i, i < nd.length → ∀ m, s < m → m ≤ wl → rdF nd wd wl s en k (i * 13 + m) = endsF nd wd (rdF nd wd wl s en k) wl i m) ∧ ∀ i, nd.length - k ≤ i → i < nd.length → rdF nd wd wl s en k (i * 13 + s) = endsF nd wd (rdF nd wd wl s en k) wl i s := by
    intro k
    induction k with
    | zero => exact fun _ => ⟨fun i hi m h1 h2 => h i hi m (by omega) h2, fun i h1 h2 => absurd h2 (by omega)⟩
    | succ k ih =>
      intro hk
      obtain ⟨i1, i2⟩ := ih (by omega)
      have e : rdF nd wd wl s en (k + 1) = upN (rdF nd wd wl s en k) ((nd.length - 1 - k) * 13 + s) (endsF nd wd (rdF nd wd wl s en k) wl (nd.length - 1 - k) s) := rfl
      generalize rdF nd wd wl s en k = x at i1 i2 e
      rw [e]
      generalize hj : nd.length - 1 - k = j at e
      generalize hv : endsF nd wd x wl j s = v at e
      have off : ∀ c m, m ≤ wl → (c ≠ j ∨ m ≠ s) → upN x (j * 13 + s) v (c * 13 + m) = x (c * 13 + m) := fun c m h1 h2 => upN_n (by omega)
      refine ⟨fun i hi m h1 h2 => ?_, fun i h1 hi => ?_⟩
      · rw [off i m h2 (Or.inr (by omega)), i1 i hi m h1 h2]
        exact ends_cong hg hi h2 (fun y _ _ => rfl) (fun c m' hc h3 h4 h5 => (off c m' h4 (Or.inr (by omega))).symm)
      · have hc9 : endsF nd wd x wl i s = endsF nd wd (upN x (j * 13 + s) v) wl i s := ends_cong hg hi hs (fun y _ _ => rfl) (fun c m' hc h3 h4 h5 => (off c m' h4 (by omega)).symm)
        by_cases ei : i = j
        · rw [← hc9, ei, upN_s, hv]
        · rw [off i s hs (Or.inl ei), i2 i (by omega) hi]
          exact hc9
  obtain ⟨k1, k2⟩ := key nd.length (Nat.le_refl _)
  intro i hi m h1 h2
  by_cases em : m = s
  · subst em; exact k2 i (by omega) hi
  · exact k1 i hi m (by omega) h2
/-- what is found is right -/
theorem FixW.ok {nd : List Nd} {w wd en : Nat → Nat} {wl p : Nat} {iw aw : Nat → Nat → Bool} {od : Nat → Nat → Nat → Bool} {ag : Nat → Nat → Bool} {go : Nat → Nat → Nat → Bool} (hg : Grown nd) (hE : IwEq nd w iw aw od ag go) (hw : ∀ y, y < wl → wd y = 2 ^ w y) (h12 : wl ≤ 12) (h : FixW nd wd en wl p) : ∀ s, p ≤ s → s ≤ wl → ∀ i, i < nd.length → EnOk nd w wl iw (en (i * 13 + s)) i s := by
  have key : ∀ d s, wl - s = d → p ≤ s → s ≤ wl → ∀ i, i < nd.length → EnOk nd w wl iw (en (i * 13 + s)) i s := by
    intro d
    induction d using Nat.strongRecOn with
    | ind d ihd =>
      intro s hd hp hs
      have key2 : ∀ f i, nd.length - i = f → i < nd.length → EnOk nd w wl iw (en (i * 13 + s)) i s := by
        intro f
        induction f using Nat.strongRecOn with
        | ind f ihf =>
          intro i hf hi
          rw [h i hi s hp hs]
          refine ends_ok hg hE hw h12 hi hs (fun c hc hic m h1 h2 => ?_) (fun m h1 h2 => ihd (wl - m) (by omega) m rfl (by omega) h2 i hi)
          by_cases em : m = s
          · subst em; exact ihf (nd.length - c) (by omega) c rfl hc
          · exact ihd (wl - m) (by omega) m rfl (by omega) h2 c hc
      exact fun i hi => key2 _ i rfl hi
  exact fun s h1 h2 => key _ s rfl h1 h2
theorem FixW.root {nd : List Nd} {w wd en : Nat → Nat} {wl : Nat} {iw aw : Nat → Nat → Bool} {od : Nat → Nat → Nat → Bool} {ag : Nat → Nat → Bool} {go : Nat → Nat → Nat → Bool} (hg : Grown nd) (hE : IwEq nd w iw aw od ag go) (hw : ∀ y, y < wl → wd y = 2 ^ w y) (h12 : wl ≤ 12) (h : FixW nd wd en wl 0) (hin : ∀ y, y < wl → (ndS nd 0).testBit (w y) = true) : (en 0).testBit wl = iw 0 (2 ^ wl - 1) := by
  have h0 := h.ok hg hE hw h12 0 (Nat.le_refl _) (Nat.zero_le _) 0 hg.1.1 wl
  have e : PL w (ndS nd 0) 0 wl = 2 ^ wl - 1 := by
    refine bits_eq (fun y => ?_)
    rw [PL_bit h12, Nat.testBit_two_pow_sub_one, decide_eq_true_iff]
    exact ⟨fun h => h.2.1, fun h => ⟨Nat.zero_le _, h, hin y h⟩⟩
  rw [e] at h0
  rw [Bool.eq_iff_iff]
  exact ⟨fun q => (h0.mp q).2, fun q => h0.mpr ⟨⟨Nat.zero_le _, Nat.le_refl _⟩, q⟩⟩
theorem iw_in {nd : List Nd} {w : Nat → Nat} {wl : Nat} {iw aw : Nat → Nat → Bool} {od : Nat → Nat → Nat → Bool} {ag : Nat → Nat → Bool} {go : Nat → Nat → Nat → Bool} (hg : Grown nd) (hE : IwEq nd w iw aw od ag go) (h12 : wl ≤ 12) (h : iw 0 (2 ^ wl - 1) = true) : ∀ y, y < wl → (ndS nd 0).testBit (w y) = true := by
  intro y hy
  rw [hE.1 0 _ hg.1.1 (pow12' h12), Bool.and_eq_true] at h
  have h1 := of_decide_eq_true h.1
  have : (2 ^ wl - 1).testBit y = true := by rw [Nat.testBit_two_pow_sub_one]; exact decide_eq_true hy
  rw [← h1] at this
  exact ((plF_bit 12).mp this).2.2
theorem wordF_at {w E : Nat → Nat} {fr : Nat} : ∀ k y, wordF w E fr k y = if y < k then 2 ^ E (fr + y) else w y
  | 0, y => rfl
  | k + 1, y => by
    have e : wordF w E fr (k + 1) = upN (wordF w E fr k) k (2 ^ E (fr + k)) := rfl
    rw [e]
    by_cases h : y = k
    · subst h; rw [upN_s, if_pos (Nat.lt_succ_self y)]
    · rw [upN_n h, wordF_at k y]
      by_cases h2 : y < k
      · rw [if_pos h2, if_pos (show y < k + 1 by omega)]
      · rw [if_neg h2, if_neg (show ¬ y < k + 1 by omega)]
theorem cwF_at {w E : Nat → Nat} {fr : Nat} : ∀ k y, cwF w E fr k y = if y < k then E (fr + y) else w y
  | 0, y => rfl
  | k + 1, y => by
    have e : cwF w E fr (k + 1) = upN (cwF w E fr k) k (E (fr + k)) := rfl
    rw [e]
    by_cases h : y = k
    · subst h; rw [upN_s, if_pos (Nat.lt_succ_self y)]
    · rw [upN_n h, cwF_at k y]
      by_cases h2 : y < k
      · rw [if_pos h2, if_pos (show y < k + 1 by omega)]
      · rw [if_neg h2, if_neg (show ¬ y < k + 1 by omega)]
theorem usedF_bit {E : Nat → Nat} {fr i : Nat} : ∀ k, ((usedF E fr k).testBit i = true ↔ ∃ j, j < k ∧ E (fr + j) = i)
  | 0 => ⟨fun h => (by rw [show usedF E fr 0 = 0 from rfl, Nat.zero_testBit] at h; cases h), fun ⟨j, h, _⟩ => absurd h (Nat.not_lt_zero j)⟩
  | k + 1 => by
    have e : usedF E fr (k + 1) = usedF E fr k ||| 2 ^ E (fr + k) := rfl
    rw [e, or_bit, usedF_bit k]
    constructor
    · rintro (⟨j, h1, h2⟩ | h)
      · exact ⟨j, by omega, h2⟩
      · exact ⟨k, by omega, h⟩
    · rintro ⟨j, h1, h2⟩
      by_cases ej : j = k
      · subst ej; exact Or.inr h2
      · exact Or.inl ⟨j, by omega, h2⟩
/-- a trace is accepted by the miner as by the model -/
theorem mt_iw {nd : List Nd} {iw aw : (Nat → Nat) → Nat → Nat → Bool} {od : (Nat → Nat) → Nat → Nat → Nat → Bool} {ag : (Nat → Nat) → Nat → Nat → Bool} {go : (Nat → Nat) → Nat → Nat → Nat → Bool} {w wd en E : Nat → Nat} {fr wl : Nat} (hg : Grown nd) (hE : IwA8 nd iw aw od ag go) (hw : ∀ i, i < 12 → w i < 8) (hEl : ∀ j, j < wl → E (fr + j) < 8) (h12 : wl ≤ 12) : mtR nd wd en E fr wl = iw (cwF w E fr wl) 0 (2 ^ wl - 1) := by
  have hE1 := hE (cwF w E fr wl) (cwF_lt hw hEl)
  have hlab : ∀ y, y < wl → cwF w E fr wl y = E (fr + y) := fun y hy => by rw [cwF_at, if_pos hy]
  unfold mtR
  by_cases hu : andn (usedF E fr wl) (ndS nd 0) = 0
  · rw [if_pos hu]
    have hin : ∀ y, y < wl → (ndS nd 0).testBit (cwF w E fr wl y) = true := fun y hy => by
      rw [hlab y hy]
      cases q : (ndS nd 0).testBit (E (fr + y))
      · have : (andn (usedF E fr wl) (ndS nd 0)).testBit (E (fr + y)) = true := andn_t.mpr ⟨(usedF_bit wl).mpr ⟨y, hy, rfl⟩, q⟩
        rw [hu, Nat.zero_testBit] at this
        cases this
      · rfl
    have hfix : ∀ k, k ≤ wl + 1 → FixW nd (wordF wd E fr wl) (rdAll nd (wordF wd E fr wl) wl en k) wl (wl + 1 - k) := by
      intro k
      induction k with
      | zero => exact fun _ i _ s h1 h2 => absurd h1 (by omega)
      | succ k ih =>
        intro hk
        have e : rdAll nd (wordF wd E fr wl) wl en (k + 1) = rdF nd (wordF wd E fr wl) wl (wl - k) (rdAll nd (wordF wd E fr wl) wl en k) nd.length := rfl
        rw [e, show wl + 1 - (k + 1) = wl - k by omega]
        refine FixW.read hg h12 (by omega) ?_
        rw [show wl - k + 1 = wl + 1 - k by omega]
        exact ih (by omega)
    have h0 := hfix (wl + 1) (Nat.le_refl _)
    rw [Nat.sub_self] at h0
    exact h0.root hg hE1 (fun y hy => by rw [wordF_at, if_pos hy, hlab y hy]) h12 hin
  · rw [if_neg hu]
    cases q : iw (cwF w E fr wl) 0 (2 ^ wl - 1)
    · rfl
    · exfalso
      have hin := iw_in hg hE1 h12 q
      obtain ⟨i, hi⟩ := Nat.exists_testBit_of_ne_zero hu
      obtain ⟨h1, h2⟩ := andn_t.mp hi
      obtain ⟨j, h3, h4⟩ := (usedF_bit wl).mp h1
      have := hin j h3
      rw [hlab j h3, h4, h2] at this
      cases this
end FIXW
