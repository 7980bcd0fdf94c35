section LAW4
theorem toC1 {ax n KC : Nat} {M0 : AH} {Y : Int64} {A A9 : Nat → Nat → Nat} {S S9 : Nat → Nat} {f0 : Nat → Int64} {Q : Int32 → Nat → AH → Prop} {X1 : Nat → AH → Prop} (hI : ClsI M0 ax A S) (ho : M0 (ax + 137) = some (cJ 1 f0)) (hQ : ∀ x n' M1, Q x n' M1 → KC = 0 ∧ x.toInt64 = Y ∧ n ≤ n' ∧ ClsI M1 ax A9 S9 ∧ ∀ q, q < n → ax + 128 ≤ q → M1 q = M0 q) (h1 : ∀ n' M', X1 n' M' → KC = 1 ∧ n ≤ n' ∧ M' = M0 ∧ A9 = A ∧ S9 = S) (r : Option Value) (n' : Nat) (M' : AH) (h : (∃ x M1 f, r = some (.int (iI ((0 : Nat) : Int))) ∧ Q x n' M1 ∧ M' (ax + 137) = some (cJ 1 f) ∧ f 0 = x.toInt64 ∧ ∀ q, q ≠ ax + 137 → M' q = M1 q) ∨ (r = some (.int (iI ((1 : Nat) : Int))) ∧ X1 n' M')) : PoC ax n M0 KC Y A9 S9 r n' M' :=
  toC2 (X2 := fun _ _ => False) hI ho hQ h1 (fun _ _ h => h.elim) r n' M' (h.elim Or.inl (fun q => Or.inr (Or.inl q)))
/-! endTrace -/
def kcT (S : Nat → Nat) (v : Int) : Nat := if 0 ≤ v ∧ v ≤ 99 then (if S 5 < 10 then 0 else 2) else 1
def aT (A : Nat → Nat → Nat) (S : Nat → Nat) (v : Int) : Nat → Nat → Nat := if kcT S v = 0 then etA A S v.toNat else A
def sT (S : Nat → Nat) (v : Int) : Nat → Nat := if kcT S v = 0 then etS S else S
theorem kcT0 {S : Nat → Nat} {v : Int} (h1 : 0 ≤ v ∧ v ≤ 99) (h2 : S 5 < 10) : kcT S v = 0 := by unfold kcT; rw [if_pos h1, if_pos h2]
theorem kcT1 {S : Nat → Nat} {v : Int} (h1 : ¬ (0 ≤ v ∧ v ≤ 99)) : kcT S v = 1 := by unfold kcT; rw [if_neg h1]
theorem kcT2 {S : Nat → Nat} {v : Int} (h1 : 0 ≤ v ∧ v ≤ 99) (h2 : ¬ S 5 < 10) : kcT S v = 2 := by unfold kcT; rw [if_pos h1, if_neg h2]
theorem L_endTrace (n : Nat) (M0 : AH) {ax : Nat} {v : Int} {A : Nat → Nat → Nat} {S : Nat → Nat} (hn : ax + 139 ≤ n) (hI : ClsI M0 ax A S) (ho : ∃ f, M0 (ax + 137) = some (cJ 1 f)) (hv : Rng v) : Fw yL_endTrace cL_endTrace 4 (some .int) [(0, 9, 12, 20), (0, 9, 15, 15)] 8 [.ref ax, .int (iI v), .ref (ax + 137)] n M0 2 12 (PoC ax n M0 (kcT S v) (iI ((S 5 : Nat) : Int)).toInt64 (aT A S v) (sT S v)) := by
  obtain ⟨hX, hok, -⟩ := id hI
  obtain ⟨f0, ho⟩ := ho
  have hF := Fx.post (c_endTrace n M0 hX hok hv) (post' := fun r n' M' => ∃ x, r = some (.int x) ∧ (x = iI ((S 5 : Nat) : Int) ∧ n' = n ∧ Cl M' ax (minC ax (etA A S v.toNat) (etS S)) ∧ Fr ax (ax + 5) M0 M' ∧ (0 ≤ v ∧ v ≤ 99) ∧ S 5 < 10)) (xpost' := fun E n' M' => (E = IAE ∧ (n ≤ n' ∧ M' = M0 ∧ ¬ (0 ≤ v ∧ v ≤ 99))) ∨ (E = ISE ∧ (n ≤ n' ∧ M' = M0 ∧ (0 ≤ v ∧ v ≤ 99) ∧ ¬ S 5 < 10))) (fun r n' M' h => ⟨_, h.1, rfl, h.2.1, h.2.2.1, h.2.2.2.1, ⟨h.2.2.2.2.1, h.2.2.2.2.2.1⟩, h.2.2.2.2.2.2⟩) (fun E n' M' h => h.2.2.elim (fun q => Or.inl ⟨q.1, h.1, h.2.1, q.2⟩) (fun q => Or.inr ⟨q.1, h.1, h.2.1, q.2⟩))
  refine Fw.post (W_endTrace n M0 (X1 := fun n' M' => n ≤ n' ∧ M' = M0 ∧ ¬ (0 ≤ v ∧ v ≤ 99)) (X2 := fun n' M' => n ≤ n' ∧ M' = M0 ∧ (0 ≤ v ∧ v ≤ 99) ∧ ¬ S 5 < 10) (o := ax + 137) (f0 := f0) (hX.at 0 rfl) hF (fun x n' M' q => (q.2.2.2.1 _ (by omega)).trans ho)) (toC2 hI ho (fun x n' M1 q => ?_) (fun n' M' q => ?_) (fun n' M' q => ?_))
  · obtain ⟨q1, q2, q3, q4, q5, q6⟩ := q
    have hk := kcT0 q5 q6
    unfold aT sT
    rw [if_pos hk, if_pos hk]
    exact ⟨hk, by rw [q1], by omega, hI.put q3 (hok.et q6 (by omega)) q4 (fun h => (by cases (show 0 = 1 from h))), fun q _ a2 => q4 q (by omega)⟩
  · have hk := kcT1 (S := S) q.2.2
    unfold aT sT
    rw [if_neg (by rw [hk]; decide), if_neg (by rw [hk]; decide)]
    exact ⟨hk, q.1, q.2.1, rfl, rfl⟩
  · have hk := kcT2 q.2.2.1 q.2.2.2
    unfold aT sT
    rw [if_neg (by rw [hk]; decide), if_neg (by rw [hk]; decide)]
    exact ⟨hk, q.1, q.2.1, rfl, rfl⟩
theorem D_endTrace (n : Nat) (M0 : AH) {am : Nat} {v : Int} {R A : Nat → Nat → Nat} {S Z : Nat → Nat} {P : Nat → Int} (hM : Cl M0 am (modC am R P Z)) (hw : Vw R Z A S) (h8 : Z 8 ≤ 64) (hT : S 9 = 1 → MdT R P Z (trOf A S)) (hw8 : ∀ i, i < 12 → R 8 i < 8) (hok : MnOk A S) (hv : Rng v) : Fn yX4_endTrace cX4_endTrace 3 (some .int) 1 [.ref am, .int (iI v)] n M0 0 0 (PoM am n M0 (kcT S v) (iI ((S 5 : Nat) : Int)).toInt64 (aT A S v) (sT S v)) := by
  refine Fn.post (m_endTrace n M0 hM hw hok hv) (toM h8 hT hw8 (fun x c A' S' q => ?_) (fun h => ?_))
  · rcases q with ⟨q1, q2, q3, q4, q5, q6⟩ | ⟨q1, q2, q3, q4⟩ | ⟨q1, q2, q3, q4, q5⟩
    · have hk := kcT0 q1 q2
      unfold aT sT
      rw [if_pos hk, if_pos hk]
      exact ⟨q4.trans hk.symm, fun _ => by rw [q3], q5, q6⟩
    · have hk := kcT1 (S := S) q1
      unfold aT sT
      rw [if_neg (by rw [hk]; decide), if_neg (by rw [hk]; decide)]
      exact ⟨q2.trans hk.symm, fun h => (by rw [hk] at h; cases h), q3, q4⟩
    · have hk := kcT2 q1 q2
      unfold aT sT
      rw [if_neg (by rw [hk]; decide), if_neg (by rw [hk]; decide)]
      exact ⟨q3.trans hk.symm, fun h => (by rw [hk] at h; cases h), q4, q5⟩
  · by_cases hk : kcT S v = 0
    · unfold sT at h
      rw [if_pos hk] at h
      cases (show 0 = 1 from h)
    · unfold sT at h
      rw [if_neg hk] at h
      unfold aT sT
      rw [if_neg hk, if_neg hk]
      exact ⟨h, rfl⟩
/-! setTimes -/
def kcM (S : Nat → Nat) (u v : Int) : Nat := if 0 ≤ u ∧ u < (S 5 : Int) then (if 0 ≤ v ∧ v ≤ 99 then 0 else 2) else 1
def aM (A : Nat → Nat → Nat) (S : Nat → Nat) (u v : Int) : Nat → Nat → Nat := if kcM S u v = 0 then upAN A 4 (upN (A 4) u.toNat v.toNat) else A
def sM (S : Nat → Nat) (u v : Int) : Nat → Nat := if kcM S u v = 0 then upN S 9 0 else S
theorem kcM0 {S : Nat → Nat} {u v : Int} (h1 : 0 ≤ u ∧ u < (S 5 : Int)) (h2 : 0 ≤ v ∧ v ≤ 99) : kcM S u v = 0 := by unfold kcM; rw [if_pos h1, if_pos h2]
theorem kcM1 {S : Nat → Nat} {u v : Int} (h1 : ¬ (0 ≤ u ∧ u < (S 5 : Int))) : kcM S u v = 1 := by unfold kcM; rw [if_neg h1]
theorem kcM2 {S : Nat → Nat} {u v : Int} (h1 : 0 ≤ u ∧ u < (S 5 : Int)) (h2 : ¬ (0 ≤ v ∧ v ≤ 99)) : kcM S u v = 2 := by unfold kcM; rw [if_pos h1, if_neg h2]
theorem L_setTimes (n : Nat) (M0 : AH) {ax : Nat} {u v : Int} {A : Nat → Nat → Nat} {S : Nat → Nat} (hn : ax + 139 ≤ n) (hI : ClsI M0 ax A S) (ho : ∃ f, M0 (ax + 137) = some (cJ 1 f)) (hu : Rng u) (hv : Rng v) : Fw yL_setTimes cL_setTimes 5 (some .int) [(0, 10, 13, 13), (0, 10, 17, 20)] 8 [.ref ax, .int (iI u), .int (iI v), .ref (ax + 137)] n M0 2 12 (PoC ax n M0 (kcM S u v) (iI ((A 4 u.toNat : Nat) : Int)).toInt64 (aM A S u v) (sM S u v)) := by
  obtain ⟨hX, hok, -⟩ := id hI
  obtain ⟨f0, ho⟩ := ho
  have hF := Fx.post (c_setTimes n M0 hX hok hu hv) (post' := fun r n' M' => ∃ x, r = some (.int x) ∧ (x = iI ((A 4 u.toNat : Nat) : Int) ∧ n' = n ∧ Cl M' ax (minC ax (upAN A 4 (upN (A 4) u.toNat v.toNat)) (upN S 9 0)) ∧ Fr ax (ax + 5) M0 M' ∧ (0 ≤ u ∧ u < (S 5 : Int)) ∧ 0 ≤ v ∧ v ≤ 99)) (xpost' := fun E n' M' => (E = IOB ∧ (n ≤ n' ∧ M' = M0 ∧ ¬ (0 ≤ u ∧ u < (S 5 : Int)))) ∨ (E = IAE ∧ (n ≤ n' ∧ M' = M0 ∧ (0 ≤ u ∧ u < (S 5 : Int)) ∧ ¬ (0 ≤ v ∧ v ≤ 99)))) (fun r n' M' h => ⟨_, h.1, rfl, h.2⟩) (fun E n' M' h => h.2.2.elim (fun q => Or.inl ⟨q.1, h.1, h.2.1, q.2⟩) (fun q => Or.inr ⟨q.1, h.1, h.2.1, q.2⟩))
  refine Fw.post (W_setTimes n M0 (X1 := fun n' M' => n ≤ n' ∧ M' = M0 ∧ ¬ (0 ≤ u ∧ u < (S 5 : Int))) (X2 := fun n' M' => n ≤ n' ∧ M' = M0 ∧ (0 ≤ u ∧ u < (S 5 : Int)) ∧ ¬ (0 ≤ v ∧ v ≤ 99)) (o := ax + 137) (f0 := f0) (hX.at 0 rfl) hF (fun x n' M' q => (q.2.2.2.1 _ (by omega)).trans ho)) (toC2 hI ho (fun x n' M1 q => ?_) (fun n' M' q => ?_) (fun n' M' q => ?_))
  · obtain ⟨q1, q2, q3, q4, q5, q6⟩ := q
    have hk := kcM0 q5 q6
    unfold aM sM
    rw [if_pos hk, if_pos hk]
    exact ⟨hk, by rw [q1], by omega, hI.put q3 (hok.st (by omega)) q4 (fun h => (by cases (show 0 = 1 from h))), fun q _ a2 => q4 q (by omega)⟩
  · have hk := kcM1 (S := S) (v := v) q.2.2
    unfold aM sM
    rw [if_neg (by rw [hk]; decide), if_neg (by rw [hk]; decide)]
    exact ⟨hk, q.1, q.2.1, rfl, rfl⟩
  · have hk := kcM2 q.2.2.1 q.2.2.2
    unfold aM sM
    rw [if_neg (by rw [hk]; decide), if_neg (by rw [hk]; decide)]
    exact ⟨hk, q.1, q.2.1, rfl, rfl⟩
theorem D_setTimes (n : Nat) (M0 : AH) {am : Nat} {u v : Int} {R A : Nat → Nat → Nat} {S Z : Nat → Nat} {P : Nat → Int} (hM : Cl M0 am (modC am R P Z)) (hw : Vw R Z A S) (h8 : Z 8 ≤ 64) (hT : S 9 = 1 → MdT R P Z (trOf A S)) (hw8 : ∀ i, i < 12 → R 8 i < 8) (hok : MnOk A S) (hu : Rng u) (hv : Rng v) : Fn yX4_setTimes cX4_setTimes 4 (some .int) 1 [.ref am, .int (iI u), .int (iI v)] n M0 0 0 (PoM am n M0 (kcM S u v) (iI ((A 4 u.toNat : Nat) : Int)).toInt64 (aM A S u v) (sM S u v)) := by
  refine Fn.post (m_setTimes n M0 hM hw hok hu hv) (toM h8 hT hw8 (fun x c A' S' q => ?_) (fun h => ?_))
  · rcases q with ⟨q1, q2, q3, q4, q5, q6⟩ | ⟨q1, q2, q3, q4⟩ | ⟨q1, q2, q3, q4, q5⟩
    · have hk := kcM0 q1 q2
      unfold aM sM
      rw [if_pos hk, if_pos hk]
      exact ⟨q4.trans hk.symm, fun _ => by rw [q3], q5, q6⟩
    · have hk := kcM1 (S := S) (v := v) q1
      unfold aM sM
      rw [if_neg (by rw [hk]; decide), if_neg (by rw [hk]; decide)]
      exact ⟨q2.trans hk.symm, fun h => (by rw [hk] at h; cases h), q3, q4⟩
    · have hk := kcM2 q1 q2
      unfold aM sM
      rw [if_neg (by rw [hk]; decide), if_neg (by rw [hk]; decide)]
      exact ⟨q3.trans hk.symm, fun h => (by rw [hk] at h; cases h), q4, q5⟩
  · by_cases hk : kcM S u v = 0
    · unfold sM at h
      rw [if_pos hk] at h
      cases (show 0 = 1 from h)
    · unfold sM at h
      rw [if_neg hk] at h
      unfold aM sM
      rw [if_neg hk, if_neg hk]
      exact ⟨h, rfl⟩
/-! dropTrace -/
def kcD (S : Nat → Nat) : Nat := if 0 < S 5 then 0 else 1
def sD (S : Nat → Nat) : Nat → Nat := if 0 < S 5 then upN (upN S 5 (S 5 - 1)) 9 0 else S
theorem L_dropTrace (n : Nat) (M0 : AH) {ax : Nat} {A : Nat → Nat → Nat} {S : Nat → Nat} (hn : ax + 139 ≤ n) (hI : ClsI M0 ax A S) (ho : ∃ f, M0 (ax + 137) = some (cJ 1 f)) : Fw yL_dropTrace cL_dropTrace 3 (some .int) [(0, 8, 11, 15)] 8 [.ref ax, .ref (ax + 137)] n M0 1 6 (PoC ax n M0 (kcD S) (iI ((S 5 - 1 : Nat) : Int)).toInt64 A (sD S)) := by
  obtain ⟨hX, hok, -⟩ := id hI
  obtain ⟨f0, ho⟩ := ho
  have hF := Fx.post (c_dropTrace n M0 hX hok) (post' := fun r n' M' => ∃ x, r = some (.int x) ∧ (x = iI ((S 5 - 1 : Nat) : Int) ∧ n' = n ∧ Cl M' ax (minC ax A (upN (upN S 5 (S 5 - 1)) 9 0)) ∧ Fr ax (ax + 5) M0 M' ∧ 0 < S 5)) (xpost' := fun E n' M' => (E = ISE ∧ (n ≤ n' ∧ M' = M0 ∧ S 5 = 0))) (fun r n' M' h => ⟨_, h.1, rfl, h.2⟩) (fun E n' M' h => ⟨h.2.2.1, h.1, h.2.1, h.2.2.2⟩)
  refine Fw.post (W_dropTrace n M0 (X1 := fun n' M' => n ≤ n' ∧ M' = M0 ∧ S 5 = 0) (o := ax + 137) (f0 := f0) (hX.at 0 rfl) hF (fun x n' M' q => (q.2.2.2.1 _ (by omega)).trans ho)) (toC1 hI ho (fun x n' M1 q => ?_) (fun n' M' q => ?_))
  · obtain ⟨q1, q2, q3, q4, q5⟩ := q
    unfold kcD sD
    rw [if_pos q5, if_pos q5]
    exact ⟨rfl, by rw [q1], by omega, hI.put q3 hok.dr q4 (fun h => (by cases (show 0 = 1 from h))), fun q _ a2 => q4 q (by omega)⟩
  · unfold kcD sD
    rw [if_neg (by omega), if_neg (by omega)]
    exact ⟨rfl, q.1, q.2.1, rfl, rfl⟩
theorem D_dropTrace (n : Nat) (M0 : AH) {am : Nat} {R A : Nat → Nat → Nat} {S Z : Nat → Nat} {P : Nat → Int} (hM : Cl M0 am (modC am R P Z)) (hw : Vw R Z A S) (h8 : Z 8 ≤ 64) (hT : S 9 = 1 → MdT R P Z (trOf A S)) (hw8 : ∀ i, i < 12 → R 8 i < 8) (hok : MnOk A S) : Fn yX4_dropTrace cX4_dropTrace 1 (some .int) 1 [.ref am] n M0 0 0 (PoM am n M0 (kcD S) (iI ((S 5 - 1 : Nat) : Int)).toInt64 A (sD S)) := by
  refine Fn.post (m_dropTrace n M0 hM hw hok) (toM h8 hT hw8 (fun x c A' S' q => ?_) (fun h => ?_))
  · rcases q with ⟨q1, q2, q3, q4, q5⟩ | ⟨q1, q2, q3, q4⟩
    · unfold kcD sD
      rw [if_pos q1, if_pos q1]
      exact ⟨q3, fun _ => by rw [q2], q4, q5⟩
    · unfold kcD sD
      rw [if_neg (by omega), if_neg (by omega)]
      exact ⟨q2, fun h => (by cases h), q3, q4⟩
  · unfold sD at h
    by_cases hk : 0 < S 5
    · rw [if_pos hk] at h
      cases (show 0 = 1 from h)
    · rw [if_neg hk] at h
      unfold sD
      rw [if_neg hk]
      exact ⟨h, rfl⟩
end LAW4
