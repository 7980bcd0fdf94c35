section LAW5
theorem toMR {am n KC c : Nat} {M0 : AH} {Y : Int64} {A R : Nat → Nat → Nat} {S Z : Nat → Nat} {P : Nat → Int} {X : Int32} {r : Option Value} {n' : Nat} {M' : AH} (hw : Vw R Z A S) (h8 : Z 8 ≤ 64) (hT : S 9 = 1 → MdT R P Z (trOf A S)) (hw8 : ∀ i, i < 12 → R 8 i < 8) (hc : c = KC) (hx : KC = 0 → X.toInt64 = Y) (h : MRead n M0 am R P Z (.int X) c r n' M') : PoM am n M0 KC Y A S r n' M' := by
  obtain ⟨h1, h2, h3, h4⟩ := h
  obtain ⟨w1, w2, w3, w4, z1, z3, z7⟩ := hw
  exact ⟨X, R, P, upN Z 0 c, h1, h2, h3, hc, hx, ⟨⟨w1, w2, w3, w4, z1, z3, z7⟩, h8, fun q => (hT q).keep ⟨rfl, rfl, rfl⟩, hw8⟩, h4⟩
def kcL (S : Nat → Nat) (v : Int) : Nat := if 0 ≤ v ∧ v < (S 5 : Int) then 0 else 1
def kcA (A : Nat → Nat → Nat) (S : Nat → Nat) (u v : Int) : Nat := if (0 ≤ u ∧ u < (S 5 : Int)) ∧ 0 ≤ v ∧ v < (A 3 u.toNat : Int) then 0 else 1
def kcP (u v : Int) : Nat := if (0 ≤ u ∧ u < 8) ∧ 0 ≤ v ∧ v < 8 then 0 else 1
theorem L_length (n : Nat) (M0 : AH) {ax : Nat} {v : Int} {A : Nat → Nat → Nat} {S : Nat → Nat} (hn : ax + 139 ≤ n) (hI : ClsI M0 ax A S) (ho : ∃ f, M0 (ax + 137) = some (cJ 1 f)) (hv : Rng v) : Fw yL_length cL_length 4 (some .int) [(0, 9, 12, 13)] 8 [.ref ax, .int (iI v), .ref (ax + 137)] n M0 1 6 (PoC ax n M0 (kcL S v) (iI ((A 3 v.toNat : Nat) : Int)).toInt64 A S) := by
  obtain ⟨hX, hok, -⟩ := id hI
  obtain ⟨f0, ho⟩ := ho
  have hF := Fx.post (c_length n M0 hX hok hv) (post' := fun r n' M' => ∃ x, r = some (.int x) ∧ (x = iI ((A 3 v.toNat : Nat) : Int) ∧ n' = n ∧ M' = M0 ∧ 0 ≤ v ∧ v < (S 5 : Int))) (xpost' := fun E n' M' => (E = IOB ∧ (n ≤ n' ∧ M' = M0 ∧ ¬ (0 ≤ v ∧ v < (S 5 : Int))))) (fun r n' M' h => ⟨_, h.1, rfl, h.2⟩) (fun E n' M' h => h)
  refine Fw.post (W_length n M0 (X1 := fun n' M' => n ≤ n' ∧ M' = M0 ∧ ¬ (0 ≤ v ∧ v < (S 5 : Int))) (o := ax + 137) (f0 := f0) (hX.at 0 rfl) hF (fun x n' M' q => by rw [q.2.2.1]; exact ho)) (toC1 hI ho (fun x n' M1 q => ?_) (fun n' M' q => ?_))
  · obtain ⟨q1, q2, q3, q4⟩ := q
    unfold kcL
    rw [if_pos q4]
    exact ⟨rfl, by rw [q1], by omega, by rw [q3]; exact hI, fun q _ _ => by rw [q3]⟩
  · unfold kcL
    rw [if_neg q.2.2]
    exact ⟨rfl, q.1, q.2.1, rfl, rfl⟩
theorem L_labelAt (n : Nat) (M0 : AH) {ax : Nat} {u v : Int} {A : Nat → Nat → Nat} {S : Nat → Nat} (hn : ax + 139 ≤ n) (hI : ClsI M0 ax A S) (ho : ∃ f, M0 (ax + 137) = some (cJ 1 f)) (hu : Rng u) (hv : Rng v) : Fw yL_labelAt cL_labelAt 5 (some .int) [(0, 10, 13, 13)] 8 [.ref ax, .int (iI u), .int (iI v), .ref (ax + 137)] n M0 2 12 (PoC ax n M0 (kcA A S u v) (iI ((A 2 (u.toNat * 12 + v.toNat) : Nat) : Int)).toInt64 A S) := by
  obtain ⟨hX, hok, -⟩ := id hI
  obtain ⟨f0, ho⟩ := ho
  have hF := Fx.post (c_labelAt n M0 hX hok hu hv) (post' := fun r n' M' => ∃ x, r = some (.int x) ∧ (x = iI ((A 2 (u.toNat * 12 + v.toNat) : Nat) : Int) ∧ n' = n ∧ M' = M0 ∧ (0 ≤ u ∧ u < (S 5 : Int)) ∧ 0 ≤ v ∧ v < (A 3 u.toNat : Int))) (xpost' := fun E n' M' => (E = IOB ∧ (n ≤ n' ∧ M' = M0 ∧ ¬ ((0 ≤ u ∧ u < (S 5 : Int)) ∧ 0 ≤ v ∧ v < (A 3 u.toNat : Int))))) (fun r n' M' h => ⟨_, h.1, rfl, h.2⟩) (fun E n' M' h => h)
  refine Fw.post (W_labelAt n M0 (X1 := fun n' M' => n ≤ n' ∧ M' = M0 ∧ ¬ ((0 ≤ u ∧ u < (S 5 : Int)) ∧ 0 ≤ v ∧ v < (A 3 u.toNat : Int))) (o := ax + 137) (f0 := f0) (hX.at 0 rfl) hF (fun x n' M' q => by rw [q.2.2.1]; exact ho)) (toC1 hI ho (fun x n' M1 q => ?_) (fun n' M' q => ?_))
  · obtain ⟨q1, q2, q3, q4⟩ := q
    unfold kcA
    rw [if_pos q4]
    exact ⟨rfl, by rw [q1], by omega, by rw [q3]; exact hI, fun q _ _ => by rw [q3]⟩
  · unfold kcA
    rw [if_neg q.2.2]
    exact ⟨rfl, q.1, q.2.1, rfl, rfl⟩
theorem L_follows (n : Nat) (M0 : AH) {ax : Nat} {u v : Int} {A : Nat → Nat → Nat} {S : Nat → Nat} (hn : ax + 139 ≤ n) (hI : ClsI M0 ax A S) (ho : ∃ f, M0 (ax + 137) = some (cJ 1 f)) (hu : Rng u) (hv : Rng v) : Fw yL_follows cL_follows 5 (some .int) [(0, 10, 13, 13)] 8 [.ref ax, .int (iI u), .int (iI v), .ref (ax + 137)] n M0 2 12 (PoC ax n M0 (kcP u v) (iI ((flF A u.toNat v.toNat (S 5) : Nat) : Int)).toInt64 A S) := by
  obtain ⟨hX, hok, -⟩ := id hI
  obtain ⟨f0, ho⟩ := ho
  have hF := Fx.post (c_follows n M0 hX hok hu hv) (post' := fun r n' M' => ∃ x, r = some (.int x) ∧ (x = iI ((flF A u.toNat v.toNat (S 5) : Nat) : Int) ∧ n' = n ∧ M' = M0 ∧ (0 ≤ u ∧ u < 8) ∧ 0 ≤ v ∧ v < 8)) (xpost' := fun E n' M' => (E = IOB ∧ (n ≤ n' ∧ M' = M0 ∧ ¬ ((0 ≤ u ∧ u < 8) ∧ 0 ≤ v ∧ v < 8)))) (fun r n' M' h => ⟨_, h.1, rfl, h.2⟩) (fun E n' M' h => h)
  refine Fw.post (W_follows n M0 (X1 := fun n' M' => n ≤ n' ∧ M' = M0 ∧ ¬ ((0 ≤ u ∧ u < 8) ∧ 0 ≤ v ∧ v < 8)) (o := ax + 137) (f0 := f0) (hX.at 0 rfl) hF (fun x n' M' q => by rw [q.2.2.1]; exact ho)) (toC1 hI ho (fun x n' M1 q => ?_) (fun n' M' q => ?_))
  · obtain ⟨q1, q2, q3, q4⟩ := q
    unfold kcP
    rw [if_pos q4]
    exact ⟨rfl, by rw [q1], by omega, by rw [q3]; exact hI, fun q _ _ => by rw [q3]⟩
  · unfold kcP
    rw [if_neg q.2.2]
    exact ⟨rfl, q.1, q.2.1, rfl, rfl⟩
theorem D_length (n : Nat) (M0 : AH) {am : Nat} {v : Int} {R A : Nat → Nat → Nat} {S Z : Nat → Nat} {P : Nat → Int} (hM : Cl M0 am (modC am R P Z)) (hw : Vw R Z A S) (h8 : Z 8 ≤ 64) (hT : S 9 = 1 → MdT R P Z (trOf A S)) (hw8 : ∀ i, i < 12 → R 8 i < 8) (hok : MnOk A S) (hv : Rng v) : Fn yX4_length cX4_length 2 (some .int) 1 [.ref am, .int (iI v)] n M0 0 0 (PoM am n M0 (kcL S v) (iI ((A 3 v.toNat : Nat) : Int)).toInt64 A S) := by
  refine Fn.post (m_length n M0 hM hw hok hv) (toM h8 hT hw8 (fun x c A' S' q => ?_) (fun h => ⟨h, rfl⟩))
  obtain ⟨q1, q2, q3⟩ := q
  unfold kcL
  rcases q3 with ⟨q3, q4, q5⟩ | ⟨q3, q5⟩
  · rw [if_pos q3]
    exact ⟨q5, fun _ => by rw [q4], q1, q2⟩
  · rw [if_neg q3]
    exact ⟨q5, fun h => (by cases h), q1, q2⟩
theorem D_labelAt (n : Nat) (M0 : AH) {am : Nat} {u v : Int} {R A : Nat → Nat → Nat} {S Z : Nat → Nat} {P : Nat → Int} (hM : Cl M0 am (modC am R P Z)) (hw : Vw R Z A S) (h8 : Z 8 ≤ 64) (hT : S 9 = 1 → MdT R P Z (trOf A S)) (hw8 : ∀ i, i < 12 → R 8 i < 8) (hok : MnOk A S) (hu : Rng u) (hv : Rng v) : Fn yX4_labelAt cX4_labelAt 3 (some .int) 1 [.ref am, .int (iI u), .int (iI v)] n M0 0 0 (PoM am n M0 (kcA A S u v) (iI ((A 2 (u.toNat * 12 + v.toNat) : Nat) : Int)).toInt64 A S) := by
  obtain ⟨w1, w2, w3, w4, z1, z3, z7⟩ := id hw
  refine Fn.post (m_labelAt n M0 hM (hw.ok hok) hu hv) (fun r n' M' h => ?_)
  rw [w3, z3] at h
  unfold kcA
  rcases h with ⟨c, h⟩ | ⟨c, h⟩
  · rw [if_pos c]
    exact toMR hw h8 hT hw8 rfl (fun _ => by rw [w2, Nat.mul_comm]) h
  · rw [if_neg c]
    exact toMR hw h8 hT hw8 rfl (fun h => (by cases h)) h
theorem D_follows (n : Nat) (M0 : AH) {am : Nat} {u v : Int} {R A : Nat → Nat → Nat} {S Z : Nat → Nat} {P : Nat → Int} (hM : Cl M0 am (modC am R P Z)) (hw : Vw R Z A S) (h8 : Z 8 ≤ 64) (hT : S 9 = 1 → MdT R P Z (trOf A S)) (hw8 : ∀ i, i < 12 → R 8 i < 8) (hok : MnOk A S) (hu : Rng u) (hv : Rng v) : Fn yX4_follows cX4_follows 3 (some .int) 1 [.ref am, .int (iI u), .int (iI v)] n M0 0 0 (PoM am n M0 (kcP u v) (iI ((flF A u.toNat v.toNat (S 5) : Nat) : Int)).toInt64 A S) := by
  obtain ⟨w1, w2, w3, w4, z1, z3, z7⟩ := id hw
  refine Fn.post (m_follows n M0 hM (hw.ok hok) hu hv) (fun r n' M' h => ?_)
  unfold kcP
  rcases h with ⟨c, h⟩ | ⟨c, h⟩
  · rw [if_pos c]
    exact toMR hw h8 hT hw8 rfl (fun _ => by rw [fl_co, w4, w3, w2, z3]) h
  · rw [if_neg c]
    exact toMR hw h8 hT hw8 rfl (fun h => (by cases h)) h
theorem ClsI.log0 {M M' : AH} {ax : Nat} {A : Nat → Nat → Nat} {S : Nat → Nat} (h : ClsI M ax A S) (hL : Lg0 M' (ax + 16)) (hFr : Fr (ax + 16) (ax + 23) M M') : ClsI M' ax A S := by
  obtain ⟨h1, h2, h3, ⟨nd, B, P, T, h4, h5⟩, ⟨C, Q, h8, h10⟩⟩ := h
  obtain ⟨B1, T1, hL⟩ := hL
  exact ⟨h1.fr hFr (by simp), h2, h3.put (d := 0) hFr hL, ⟨nd, B, P, T, h4.fr hFr (by simp), h5⟩, ⟨C, Q, h8.fr hFr (by simp), h10⟩⟩
theorem ClsI.lg0 {M : AH} {ax : Nat} {A : Nat → Nat → Nat} {S : Nat → Nat} (h : ClsI M ax A S) : Lg0 M (ax + 16) := h.2.2.1 0 (by decide)
theorem L_relation (n : Nat) (M0 : AH) {ax : Nat} {u v : Int} {A : Nat → Nat → Nat} {S : Nat → Nat} (hn : ax + 139 ≤ n) (hI : ClsI M0 ax A S) (ho : ∃ f, M0 (ax + 137) = some (cJ 1 f)) (hu : Rng u) (hv : Rng v) : Fw yL_relation cL_relation 5 (some .int) [(0, 10, 13, 13)] 8 [.ref ax, .int (iI u), .int (iI v), .ref (ax + 137)] n M0 2 12 (PoC ax n M0 (kcP u v) (iI ((relF (mL (lgOf A S)).2.2.2.2 u.toNat v.toNat : Nat) : Int)).toInt64 A S) := by
  obtain ⟨hX, hok, -⟩ := id hI
  obtain ⟨f0, ho⟩ := ho
  have hF := Fx.post (c_relation n M0 hX hok hI.lg0 hu hv) (post' := fun r n' M' => ∃ x, r = some (.int x) ∧ (x = iI ((relF (mL (lgOf A S)).2.2.2.2 u.toNat v.toNat : Nat) : Int) ∧ n' = n ∧ Lg0 M' (ax + 16) ∧ Fr (ax + 16) (ax + 23) M0 M' ∧ (0 ≤ u ∧ u < 8) ∧ 0 ≤ v ∧ v < 8)) (xpost' := fun E n' M' => (E = IOB ∧ (n ≤ n' ∧ M' = M0 ∧ ¬ ((0 ≤ u ∧ u < 8) ∧ 0 ≤ v ∧ v < 8)))) (fun r n' M' h => ⟨_, h.1, rfl, h.2⟩) (fun E n' M' h => h)
  refine Fw.post (W_relation n M0 (X1 := fun n' M' => n ≤ n' ∧ M' = M0 ∧ ¬ ((0 ≤ u ∧ u < 8) ∧ 0 ≤ v ∧ v < 8)) (o := ax + 137) (f0 := f0) (hX.at 0 rfl) hF (fun x n' M' q => (q.2.2.2.1 _ (by omega)).trans ho)) (toC1 hI ho (fun x n' M1 q => ?_) (fun n' M' q => ?_))
  · obtain ⟨q1, q2, q3, q4, q5⟩ := q
    unfold kcP
    rw [if_pos q5]
    exact ⟨rfl, by rw [q1], by omega, hI.log0 q3 q4, fun q _ a2 => q4 q (by omega)⟩
  · unfold kcP
    rw [if_neg q.2.2]
    exact ⟨rfl, q.1, q.2.1, rfl, rfl⟩
theorem D_relation (n : Nat) (M0 : AH) {am : Nat} {u v : Int} {R A : Nat → Nat → Nat} {S Z : Nat → Nat} {P : Nat → Int} (hM : Cl M0 am (modC am R P Z)) (hw : Vw R Z A S) (h8 : Z 8 ≤ 64) (hT : S 9 = 1 → MdT R P Z (trOf A S)) (hw8 : ∀ i, i < 12 → R 8 i < 8) (hok : MnOk A S) (hu : Rng u) (hv : Rng v) : Fn yX4_relation cX4_relation 3 (some .int) 1 [.ref am, .int (iI u), .int (iI v)] n M0 0 0 (PoM am n M0 (kcP u v) (iI ((relF (mL (lgOf A S)).2.2.2.2 u.toNat v.toNat : Nat) : Int)).toInt64 A S) := by
  obtain ⟨w1, w2, w3, w4, z1, z3, z7⟩ := id hw
  refine Fn.post (m_relation n M0 hM (hw.ok hok) hu hv) (fun r n' M' h => ?_)
  unfold kcP
  rcases h with ⟨c, h⟩ | ⟨c, h⟩
  · rw [if_pos c]
    exact toMR hw h8 hT hw8 rfl (fun _ => by rw [rel_eq w4 w3 w2 z3]) h
  · rw [if_neg c]
    exact toMR hw h8 hT hw8 rfl (fun h => (by cases h)) h
end LAW5
