section LAW2
/-- after a wrapper: what it answers, what was put out, and what became of the miner -/
def PoC (ax n : Nat) (M : AH) (KC : Nat) (Y : Int64) (A : Nat → Nat → Nat) (S : Nat → Nat) : Option Value → Nat → AH → Prop := fun r n' M' => r = some (.int (iI (KC : Int))) ∧ n ≤ n' ∧ ClsI M' ax A S ∧ (∃ f, M' (ax + 137) = some (cJ 1 f) ∧ (KC = 0 → f 0 = Y)) ∧ ∀ q, q < n → ax + 128 ≤ q → q ≠ ax + 137 → M' q = M q
/-- after a call of the model -/
def PoM (am n : Nat) (M : AH) (KC : Nat) (Y : Int64) (A : Nat → Nat → Nat) (S : Nat → Nat) : Option Value → Nat → AH → Prop := fun r n' M' => ∃ x R P Z, r = some (.int x) ∧ n' = n ∧ Cl M' am (modC am R P Z) ∧ Z 0 = KC ∧ (KC = 0 → x.toInt64 = Y) ∧ (Vw R Z A S ∧ Z 8 ≤ 64 ∧ (S 9 = 1 → MdT R P Z (trOf A S)) ∧ ∀ i, i < 12 → R 8 i < 8) ∧ Fr am (am + 9) M M'
abbrev lawL (b ax i : Nat) (x6 x7 x8 : Option Value) : List (Option Value) := [some (.ref b), some (.ref ax), some (.ref (ax + 128)), some (.ref (ax + 137)), some (.ref (ax + 138)), some (.int (iI (i : Int))), x6, x7, x8]
theorem lawL_sub {b ax i : Nat} {x6 x7 x8 : Option Value} : ∀ (j : Nat) (v : Value), (lawL b ax i none none none)[j]? = some (some v) → (lawL b ax i x6 x7 x8)[j]? = some (some v)
  | 0, _, h => h
  | 1, _, h => h
  | 2, _, h => h
  | 3, _, h => h
  | 4, _, h => h
  | 5, _, h => h
  | 6, _, h => (by cases h)
  | 7, _, h => (by cases h)
  | 8, _, h => (by cases h)
  | _ + 9, _, h => (by cases h)
/-- where the rounds of the law meet -/
def LawEnd (g : GT) (ax b i k z : Nat) : Prop := ∀ n M A S, ax + 139 ≤ n → ClsI M ax A S → MdlI M (ax + 128) A S → OutI M (ax + 137) → J g k z n M (lawL b ax i none none none) 1457 []
theorem LawEnd.to {g : GT} {ax b i k z k' z' n : Nat} {M : AH} {A : Nat → Nat → Nat} {S : Nat → Nat} {x6 x7 x8 : Option Value} (h : LawEnd g ax b i k z) (hk : k' ≤ k) (hz : z' ≤ z) (hn : ax + 139 ≤ n) (hI : ClsI M ax A S) (hM : MdlI M (ax + 128) A S) (ho : OutI M (ax + 137)) : J g k' z' n M (lawL b ax i x6 x7 x8) 1457 [] :=
  J.wid hk hz (J.sub (L' := lawL b ax i none none none) rfl lawL_sub (h n M A S hn hI hM ho))
theorem cmp_same (x : Int64) : lg_cmp x x = iI ((0 : Nat) : Int) := by
  unfold lg_cmp
  simp
  decide +kernel
/-- a wrapper's answer, with two exceptions -/
theorem toC2 {ax n KC : Nat} {M0 : AH} {Y : Int64} {A A9 : Nat → Nat → Nat} {S S9 : Nat → Nat} {f0 : Nat → Int64} {Q : Int32 → Nat → AH → Prop} {X1 X2 : Nat → AH → Prop} (hI : ClsI M0 ax A S) (ho : M0 (ax + 137) = some (cJ 1 f0)) (hQ : ∀ x n' M1, Q x n' M1 → KC = 0 ∧ x.toInt64 = Y ∧ n ≤ n' ∧ ClsI M1 ax A9 S9 ∧ ∀ q, q < n → ax + 128 ≤ q → M1 q = M0 q) (h1 : ∀ n' M', X1 n' M' → KC = 1 ∧ n ≤ n' ∧ M' = M0 ∧ A9 = A ∧ S9 = S) (h2 : ∀ n' M', X2 n' M' → KC = 2 ∧ n ≤ n' ∧ M' = M0 ∧ A9 = A ∧ S9 = S) (r : Option Value) (n' : Nat) (M' : AH) (h : (∃ x M1 f, r = some (.int (iI ((0 : Nat) : Int))) ∧ Q x n' M1 ∧ M' (ax + 137) = some (cJ 1 f) ∧ f 0 = x.toInt64 ∧ ∀ q, q ≠ ax + 137 → M' q = M1 q) ∨ (r = some (.int (iI ((1 : Nat) : Int))) ∧ X1 n' M') ∨ (r = some (.int (iI ((2 : Nat) : Int))) ∧ X2 n' M')) : PoC ax n M0 KC Y A9 S9 r n' M' := by
  rcases h with ⟨x, M1, f, hr, hq, hf, hx, hag⟩ | ⟨hr, hx⟩ | ⟨hr, hx⟩
  · obtain ⟨c1, c2, c3, c4, c5⟩ := hQ x n' M1 hq
    subst c1
    exact ⟨hr, c3, c4.keep (fun q a1 a2 => hag q (by omega)), ⟨f, hf, fun _ => hx.trans c2⟩, fun q a1 a2 a3 => (hag q a3).trans (c5 q a1 a2)⟩
  · obtain ⟨c1, c2, c3, c4, c5⟩ := h1 n' M' hx
    subst c1; subst c3; subst c4; subst c5
    exact ⟨hr, c2, hI, ⟨f0, ho, fun h => absurd h (by decide)⟩, fun q _ _ _ => rfl⟩
  · obtain ⟨c1, c2, c3, c4, c5⟩ := h2 n' M' hx
    subst c1; subst c3; subst c4; subst c5
    exact ⟨hr, c2, hI, ⟨f0, ho, fun h => absurd h (by decide)⟩, fun q _ _ _ => rfl⟩
/-! event -/
def kcE (S : Nat → Nat) (v : Int) : Nat := if 0 ≤ v ∧ v < 8 then (if S 1 < 12 then 0 else 2) else 1
def aE (A : Nat → Nat → Nat) (S : Nat → Nat) (v : Int) : Nat → Nat → Nat := if kcE S v = 0 then evA A S v.toNat else A
def sE (S : Nat → Nat) (v : Int) : Nat → Nat := if kcE S v = 0 then upN S 1 (S 1 + 1) else S
theorem kcE0 {S : Nat → Nat} {v : Int} (h1 : 0 ≤ v ∧ v < 8) (h2 : S 1 < 12) : kcE S v = 0 := by unfold kcE; rw [if_pos h1, if_pos h2]
theorem kcE1 {S : Nat → Nat} {v : Int} (h1 : ¬ (0 ≤ v ∧ v < 8)) : kcE S v = 1 := by unfold kcE; rw [if_neg h1]
theorem kcE2 {S : Nat → Nat} {v : Int} (h1 : 0 ≤ v ∧ v < 8) (h2 : ¬ S 1 < 12) : kcE S v = 2 := by unfold kcE; rw [if_pos h1, if_neg h2]
theorem L_event (n : Nat) (M0 : AH) {ax : Nat} {v : Int} {A : Nat → Nat → Nat} {S : Nat → Nat} (hn : ax + 139 ≤ n) (hI : ClsI M0 ax A S) (ho : ∃ f, M0 (ax + 137) = some (cJ 1 f)) (hv : Rng v) : Fw yL_event cL_event 4 (some .int) [(0, 9, 12, 13), (0, 9, 15, 15)] 8 [.ref ax, .int (iI v), .ref (ax + 137)] n M0 2 12 (PoC ax n M0 (kcE S v) (iI ((S 1 + 1 : Nat) : Int)).toInt64 (aE A S v) (sE S v)) := by
  obtain ⟨hX, hok, -⟩ := id hI
  obtain ⟨f0, ho⟩ := ho
  have hF := Fx.post (c_event n M0 hX hok hv) (post' := fun r n' M' => ∃ x, r = some (.int x) ∧ (x = iI ((S 1 + 1 : Nat) : Int) ∧ n' = n ∧ Cl M' ax (minC ax (evA A S v.toNat) (upN S 1 (S 1 + 1))) ∧ Fr ax (ax + 5) M0 M' ∧ (0 ≤ v ∧ v < 8) ∧ S 1 < 12)) (xpost' := fun E n' M' => (E = IOB ∧ (n ≤ n' ∧ M' = M0 ∧ ¬ (0 ≤ v ∧ v < 8))) ∨ (E = ISE ∧ (n ≤ n' ∧ M' = M0 ∧ (0 ≤ v ∧ v < 8) ∧ ¬ S 1 < 12))) (fun r n' M' h => ⟨_, h.1, rfl, h.2.1, h.2.2.1, h.2.2.2.1, ⟨h.2.2.2.2.1, h.2.2.2.2.2.1⟩, h.2.2.2.2.2.2⟩) (fun E n' M' h => h.2.2.elim (fun q => Or.inl ⟨q.1, h.1, h.2.1, q.2⟩) (fun q => Or.inr ⟨q.1, h.1, h.2.1, q.2⟩))
  refine Fw.post (W_event n M0 (X1 := fun n' M' => n ≤ n' ∧ M' = M0 ∧ ¬ (0 ≤ v ∧ v < 8)) (X2 := fun n' M' => n ≤ n' ∧ M' = M0 ∧ (0 ≤ v ∧ v < 8) ∧ ¬ S 1 < 12) (o := ax + 137) (f0 := f0) (hX.at 0 rfl) hF (fun x n' M' q => (q.2.2.2.1 _ (by omega)).trans ho)) (toC2 hI ho (fun x n' M1 q => ?_) (fun n' M' q => ?_) (fun n' M' q => ?_))
  · obtain ⟨q1, q2, q3, q4, q5, q6⟩ := q
    have hk := kcE0 q5 q6
    unfold aE sE
    rw [if_pos hk, if_pos hk]
    exact ⟨hk, by rw [q1], by omega, hI.put q3 (hok.ev q6 (by omega)) q4 (fun h => ⟨h, rfl⟩), fun q _ a2 => q4 q (by omega)⟩
  · have hk := kcE1 (S := S) q.2.2
    unfold aE sE
    rw [if_neg (by rw [hk]; decide), if_neg (by rw [hk]; decide)]
    exact ⟨hk, q.1, q.2.1, rfl, rfl⟩
  · have hk := kcE2 q.2.2.1 q.2.2.2
    unfold aE sE
    rw [if_neg (by rw [hk]; decide), if_neg (by rw [hk]; decide)]
    exact ⟨hk, q.1, q.2.1, rfl, rfl⟩
/-- the model's half after a call that may change it -/
theorem toM {am n KC : Nat} {M0 : AH} {Y : Int64} {A A9 R : Nat → Nat → Nat} {S S9 Z : Nat → Nat} {P : Nat → Int} {Q : Int32 → Nat → (Nat → Nat → Nat) → (Nat → Nat) → Prop} (h8 : Z 8 ≤ 64) (hT : S 9 = 1 → MdT R P Z (trOf A S)) (hw8 : ∀ i, i < 12 → R 8 i < 8) (hQ : ∀ x c A' S', Q x c A' S' → c = KC ∧ (KC = 0 → x.toInt64 = Y) ∧ A' = A9 ∧ S' = S9) (h9 : S9 9 = 1 → S 9 = 1 ∧ trOf A9 S9 = trOf A S) (r : Option Value) (n' : Nat) (M' : AH) (h : MPost n M0 am R P Z Q r n' M') : PoM am n M0 KC Y A9 S9 r n' M' := by
  obtain ⟨h1, h2, x, R', Z', h3, h4, ⟨k5, k7, k8, k9⟩, A', S', hv, hq⟩ := h
  obtain ⟨q1, q2, q3, q4⟩ := hQ _ _ _ _ hq
  subst q3; subst q4
  refine ⟨x, R', P, Z', h3, h1, h4, q1, q2, ⟨hv, by rw [k8]; exact h8, fun h => ?_, by rw [k9]; exact hw8⟩, h2⟩
  obtain ⟨g1, g2⟩ := h9 h
  rw [g2]
  obtain ⟨t1, t2, t3, t4⟩ := hT g1
  exact ⟨k8.trans t1, t2, by rw [k5, k7]; exact t3, t4⟩
theorem D_event (n : Nat) (M0 : AH) {am : Nat} {v : Int} {R A : Nat → Nat → Nat} {S Z : Nat → Nat} {P : Nat → Int} (hM : Cl M0 am (modC am R P Z)) (hw : Vw R Z A S) (h8 : Z 8 ≤ 64) (hT : S 9 = 1 → MdT R P Z (trOf A S)) (hw8 : ∀ i, i < 12 → R 8 i < 8) (hok : MnOk A S) (hv : Rng v) : Fn yX4_event cX4_event 2 (some .int) 1 [.ref am, .int (iI v)] n M0 0 0 (PoM am n M0 (kcE S v) (iI ((S 1 + 1 : Nat) : Int)).toInt64 (aE A S v) (sE S v)) := by
  refine Fn.post (m_event n M0 hM hw hok hv) (toM h8 hT hw8 (fun x c A' S' q => ?_) (fun h => ?_))
  · rcases q with ⟨q1, q2, q3, q4, q5, q6⟩ | ⟨q1, q2, q3, q4⟩ | ⟨q1, q2, q3, q4, q5⟩
    · have hk := kcE0 q1 q2
      unfold aE sE
      rw [if_pos hk, if_pos hk]
      exact ⟨q4.trans hk.symm, fun _ => by rw [q3], q5, q6⟩
    · have hk := kcE1 (S := S) q1
      unfold aE sE
      rw [if_neg (by rw [hk]; decide), if_neg (by rw [hk]; decide)]
      exact ⟨q2.trans hk.symm, fun h => (by rw [hk] at h; cases h), q3, q4⟩
    · have hk := kcE2 q1 q2
      unfold aE sE
      rw [if_neg (by rw [hk]; decide), if_neg (by rw [hk]; decide)]
      exact ⟨q3.trans hk.symm, fun h => (by rw [hk] at h; cases h), q4, q5⟩
  · have e9 : sE S v 9 = S 9 := by unfold sE; split <;> rfl
    refine ⟨e9.symm.trans h, ?_⟩
    unfold aE sE
    split <;> rfl
end LAW2
