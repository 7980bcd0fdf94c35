section LAW6
def kcK (A : Nat → Nat → Nat) (S : Nat → Nat) (v : Int) : Nat := if S 9 = 1 then (if 0 ≤ v ∧ v < ((trOf A S).length : Int) then 0 else 2) else 1
def kcC (A : Nat → Nat → Nat) (S : Nat → Nat) (u v : Int) : Nat := if S 9 = 1 then (if (0 ≤ u ∧ u < ((trOf A S).length : Int)) ∧ 0 ≤ v ∧ v < ((chl (trOf A S) u.toNat).length : Int) then 0 else 2) else 1
def kcH (S : Nat → Nat) : Nat := if S 9 = 1 then 0 else 1
theorem ask_k {R A : Nat → Nat → Nat} {S Z : Nat → Nat} {P : Nat → Int} {v : Int} (hw : Vw R Z A S) (hT : S 9 = 1 → MdT R P Z (trOf A S)) : askC Z v (Z 8) = kcK A S v := by
  have z7 := hw.2.2.2.2.2.2
  unfold askC kcK
  rw [z7]
  by_cases h : S 9 = 1
  · rw [if_pos h, if_pos h, (hT h).1]
  · rw [if_neg h, if_neg h]
theorem GrO_ok {nd : List Nd} (h : nd = [] ∨ Grown nd) : KdOk nd ∧ ChOk nd ∧ (∀ i, i < nd.length → -1 ≤ ndP nd i) ∧ ∀ i, i < nd.length → ndP nd i < (i : Int) := by
  rcases h with rfl | h
  · exact ⟨fun i hi => absurd hi (Nat.not_lt_zero i), fun i hi => absurd hi (Nat.not_lt_zero i), fun i hi => absurd hi (Nat.not_lt_zero i), fun i hi => absurd hi (Nat.not_lt_zero i)⟩
  · exact ⟨h.kd, h.ch, fun i hi => (h.2.2.1 i hi).1, fun i hi => (h.2.2.1 i hi).2⟩
theorem ClsI.sums {M M' : AH} {ax : Nat} {A B : Nat → Nat → Nat} {S T : Nat → Nat} {P : Nat → Int} {nd : List Nd} (h : ClsI M ax A S) (hnd : TreeIs B P T nd) (hgo : nd = [] ∨ Grown nd) (h9 : S 9 = 1 → nd = trOf A S) (hf : ∃ f, Cl M' (ax + 7) (treeC (ax + 7) (upAN B 6 f) P T)) (hFr : Fr (ax + 7) (ax + 14) M M') : ClsI M' ax A S := by
  obtain ⟨h1, h2, h3, -, ⟨C, Q, h8, h10⟩⟩ := h
  obtain ⟨f, hf⟩ := hf
  exact ⟨h1.fr hFr (by simp), h2, h3.keep (fun q a1 a2 => hFr q (by omega)), ⟨nd, _, P, T, hf, hnd.sums f, hgo, h9⟩, ⟨C, Q, h8.fr hFr (by omega), h10⟩⟩
theorem L_kind (n : Nat) (M0 : AH) {ax : Nat} {v : Int} {A : Nat → Nat → Nat} {S : Nat → Nat} (hn : ax + 139 ≤ n) (hI : ClsI M0 ax A S) (ho : ∃ f, M0 (ax + 137) = some (cJ 1 f)) (hv : Rng v) : Fw yL_kind cL_kind 4 (some .int) [(0, 9, 12, 15), (0, 9, 15, 13)] 9 [.ref ax, .int (iI v), .ref (ax + 137)] n M0 2 12 (PoC ax n M0 (kcK A S v) (iI ((ndK (trOf A S) v.toNat : Nat))).toInt64 A S) := by
  obtain ⟨hX, hok, hLs, ⟨nd, B, P, T, hTr, hnd, hgo, h9⟩, hm⟩ := id hI
  obtain ⟨f0, ho⟩ := ho
  have hF := Fx.post (c_kind n M0 hX hok.2.2.1 hTr hnd hv) (post' := fun r n' M' => ∃ x, r = some (.int x) ∧ (x = iI ((ndK nd v.toNat : Nat)) ∧ n' = n ∧ M' = M0 ∧ S 9 = 1 ∧ 0 ≤ v ∧ v < (nd.length : Int))) (xpost' := fun E n' M' => (E = ISE ∧ (n ≤ n' ∧ M' = M0 ∧ S 9 = 0)) ∨ (E = IOB ∧ (n ≤ n' ∧ M' = M0 ∧ S 9 = 1 ∧ ¬ (0 ≤ v ∧ v < (nd.length : Int))))) (fun r n' M' h => ⟨_, h.1, rfl, h.2⟩) (fun E n' M' h => h.2.2.elim (fun q => Or.inl ⟨q.1, h.1, h.2.1, q.2⟩) (fun q => Or.inr ⟨q.1, h.1, h.2.1, q.2⟩))
  refine Fw.post (W_kind n M0 (X1 := fun n' M' => n ≤ n' ∧ M' = M0 ∧ S 9 = 0) (X2 := fun n' M' => n ≤ n' ∧ M' = M0 ∧ S 9 = 1 ∧ ¬ (0 ≤ v ∧ v < (nd.length : Int))) (o := ax + 137) (f0 := f0) (hX.at 0 rfl) hF (fun x n' M' q => by rw [q.2.2.1]; exact ho)) (toC2 hI ho (fun x n' M1 q => ?_) (fun n' M' q => ?_) (fun n' M' q => ?_))
  · obtain ⟨q1, q2, q3, q4, q5⟩ := q
    have e := h9 q4
    unfold kcK
    rw [if_pos q4, ← e, if_pos q5]
    exact ⟨rfl, by rw [q1], by omega, by rw [q3]; exact hI, fun q _ _ => by rw [q3]⟩
  · unfold kcK
    rw [if_neg (by omega)]
    exact ⟨rfl, q.1, q.2.1, rfl, rfl⟩
  · have e := h9 q.2.2.1
    unfold kcK
    rw [if_pos q.2.2.1, ← e, if_neg q.2.2.2]
    exact ⟨rfl, q.1, q.2.1, rfl, rfl⟩
theorem L_labelsOf (n : Nat) (M0 : AH) {ax : Nat} {v : Int} {A : Nat → Nat → Nat} {S : Nat → Nat} (hn : ax + 139 ≤ n) (hI : ClsI M0 ax A S) (ho : ∃ f, M0 (ax + 137) = some (cJ 1 f)) (hv : Rng v) : Fw yL_labelsOf cL_labelsOf 4 (some .int) [(0, 9, 12, 15), (0, 9, 15, 13)] 9 [.ref ax, .int (iI v), .ref (ax + 137)] n M0 2 12 (PoC ax n M0 (kcK A S v) (iI ((ndS (trOf A S) v.toNat : Nat))).toInt64 A S) := by
  obtain ⟨hX, hok, hLs, ⟨nd, B, P, T, hTr, hnd, hgo, h9⟩, hm⟩ := id hI
  obtain ⟨f0, ho⟩ := ho
  have hF := Fx.post (c_labelsOf n M0 hX hok.2.2.1 hTr hnd hv) (post' := fun r n' M' => ∃ x, r = some (.int x) ∧ (x = iI ((ndS nd v.toNat : Nat)) ∧ n' = n ∧ M' = M0 ∧ S 9 = 1 ∧ 0 ≤ v ∧ v < (nd.length : Int))) (xpost' := fun E n' M' => (E = ISE ∧ (n ≤ n' ∧ M' = M0 ∧ S 9 = 0)) ∨ (E = IOB ∧ (n ≤ n' ∧ M' = M0 ∧ S 9 = 1 ∧ ¬ (0 ≤ v ∧ v < (nd.length : Int))))) (fun r n' M' h => ⟨_, h.1, rfl, h.2⟩) (fun E n' M' h => h.2.2.elim (fun q => Or.inl ⟨q.1, h.1, h.2.1, q.2⟩) (fun q => Or.inr ⟨q.1, h.1, h.2.1, q.2⟩))
  refine Fw.post (W_labelsOf n M0 (X1 := fun n' M' => n ≤ n' ∧ M' = M0 ∧ S 9 = 0) (X2 := fun n' M' => n ≤ n' ∧ M' = M0 ∧ S 9 = 1 ∧ ¬ (0 ≤ v ∧ v < (nd.length : Int))) (o := ax + 137) (f0 := f0) (hX.at 0 rfl) hF (fun x n' M' q => by rw [q.2.2.1]; exact ho)) (toC2 hI ho (fun x n' M1 q => ?_) (fun n' M' q => ?_) (fun n' M' q => ?_))
  · obtain ⟨q1, q2, q3, q4, q5⟩ := q
    have e := h9 q4
    unfold kcK
    rw [if_pos q4, ← e, if_pos q5]
    exact ⟨rfl, by rw [q1], by omega, by rw [q3]; exact hI, fun q _ _ => by rw [q3]⟩
  · unfold kcK
    rw [if_neg (by omega)]
    exact ⟨rfl, q.1, q.2.1, rfl, rfl⟩
  · have e := h9 q.2.2.1
    unfold kcK
    rw [if_pos q.2.2.1, ← e, if_neg q.2.2.2]
    exact ⟨rfl, q.1, q.2.1, rfl, rfl⟩
theorem L_parent (n : Nat) (M0 : AH) {ax : Nat} {v : Int} {A : Nat → Nat → Nat} {S : Nat → Nat} (hn : ax + 139 ≤ n) (hI : ClsI M0 ax A S) (ho : ∃ f, M0 (ax + 137) = some (cJ 1 f)) (hv : Rng v) : Fw yL_parent cL_parent 4 (some .int) [(0, 9, 12, 15), (0, 9, 15, 13)] 9 [.ref ax, .int (iI v), .ref (ax + 137)] n M0 2 12 (PoC ax n M0 (kcK A S v) (iI (ndP (trOf A S) v.toNat)).toInt64 A S) := by
  obtain ⟨hX, hok, hLs, ⟨nd, B, P, T, hTr, hnd, hgo, h9⟩, hm⟩ := id hI
  obtain ⟨f0, ho⟩ := ho
  have hF := Fx.post (c_parent n M0 hX hok.2.2.1 hTr hnd hv) (post' := fun r n' M' => ∃ x, r = some (.int x) ∧ (x = iI (ndP nd v.toNat) ∧ n' = n ∧ M' = M0 ∧ S 9 = 1 ∧ 0 ≤ v ∧ v < (nd.length : Int))) (xpost' := fun E n' M' => (E = ISE ∧ (n ≤ n' ∧ M' = M0 ∧ S 9 = 0)) ∨ (E = IOB ∧ (n ≤ n' ∧ M' = M0 ∧ S 9 = 1 ∧ ¬ (0 ≤ v ∧ v < (nd.length : Int))))) (fun r n' M' h => ⟨_, h.1, rfl, h.2⟩) (fun E n' M' h => h.2.2.elim (fun q => Or.inl ⟨q.1, h.1, h.2.1, q.2⟩) (fun q => Or.inr ⟨q.1, h.1, h.2.1, q.2⟩))
  refine Fw.post (W_parent n M0 (X1 := fun n' M' => n ≤ n' ∧ M' = M0 ∧ S 9 = 0) (X2 := fun n' M' => n ≤ n' ∧ M' = M0 ∧ S 9 = 1 ∧ ¬ (0 ≤ v ∧ v < (nd.length : Int))) (o := ax + 137) (f0 := f0) (hX.at 0 rfl) hF (fun x n' M' q => by rw [q.2.2.1]; exact ho)) (toC2 hI ho (fun x n' M1 q => ?_) (fun n' M' q => ?_) (fun n' M' q => ?_))
  · obtain ⟨q1, q2, q3, q4, q5⟩ := q
    have e := h9 q4
    unfold kcK
    rw [if_pos q4, ← e, if_pos q5]
    exact ⟨rfl, by rw [q1], by omega, by rw [q3]; exact hI, fun q _ _ => by rw [q3]⟩
  · unfold kcK
    rw [if_neg (by omega)]
    exact ⟨rfl, q.1, q.2.1, rfl, rfl⟩
  · have e := h9 q.2.2.1
    unfold kcK
    rw [if_pos q.2.2.1, ← e, if_neg q.2.2.2]
    exact ⟨rfl, q.1, q.2.1, rfl, rfl⟩
theorem L_children (n : Nat) (M0 : AH) {ax : Nat} {v : Int} {A : Nat → Nat → Nat} {S : Nat → Nat} (hn : ax + 139 ≤ n) (hI : ClsI M0 ax A S) (ho : ∃ f, M0 (ax + 137) = some (cJ 1 f)) (hv : Rng v) : Fw yL_children cL_children 4 (some .int) [(0, 9, 12, 15), (0, 9, 15, 13)] 9 [.ref ax, .int (iI v), .ref (ax + 137)] n M0 2 12 (PoC ax n M0 (kcK A S v) (iI (((chl (trOf A S) v.toNat).length : Nat))).toInt64 A S) := by
  obtain ⟨hX, hok, hLs, ⟨nd, B, P, T, hTr, hnd, hgo, h9⟩, hm⟩ := id hI
  obtain ⟨f0, ho⟩ := ho
  have hF := Fx.post (c_children n M0 hX hok.2.2.1 hTr hnd hv) (post' := fun r n' M' => ∃ x, r = some (.int x) ∧ (x = iI (((chl nd v.toNat).length : Nat)) ∧ n' = n ∧ M' = M0 ∧ S 9 = 1 ∧ 0 ≤ v ∧ v < (nd.length : Int))) (xpost' := fun E n' M' => (E = ISE ∧ (n ≤ n' ∧ M' = M0 ∧ S 9 = 0)) ∨ (E = IOB ∧ (n ≤ n' ∧ M' = M0 ∧ S 9 = 1 ∧ ¬ (0 ≤ v ∧ v < (nd.length : Int))))) (fun r n' M' h => ⟨_, h.1, rfl, h.2⟩) (fun E n' M' h => h.2.2.elim (fun q => Or.inl ⟨q.1, h.1, h.2.1, q.2⟩) (fun q => Or.inr ⟨q.1, h.1, h.2.1, q.2⟩))
  refine Fw.post (W_children n M0 (X1 := fun n' M' => n ≤ n' ∧ M' = M0 ∧ S 9 = 0) (X2 := fun n' M' => n ≤ n' ∧ M' = M0 ∧ S 9 = 1 ∧ ¬ (0 ≤ v ∧ v < (nd.length : Int))) (o := ax + 137) (f0 := f0) (hX.at 0 rfl) hF (fun x n' M' q => by rw [q.2.2.1]; exact ho)) (toC2 hI ho (fun x n' M1 q => ?_) (fun n' M' q => ?_) (fun n' M' q => ?_))
  · obtain ⟨q1, q2, q3, q4, q5⟩ := q
    have e := h9 q4
    unfold kcK
    rw [if_pos q4, ← e, if_pos q5]
    exact ⟨rfl, by rw [q1], by omega, by rw [q3]; exact hI, fun q _ _ => by rw [q3]⟩
  · unfold kcK
    rw [if_neg (by omega)]
    exact ⟨rfl, q.1, q.2.1, rfl, rfl⟩
  · have e := h9 q.2.2.1
    unfold kcK
    rw [if_pos q.2.2.1, ← e, if_neg q.2.2.2]
    exact ⟨rfl, q.1, q.2.1, rfl, rfl⟩
theorem L_shortest (n : Nat) (M0 : AH) {ax : Nat} {v : Int} {A : Nat → Nat → Nat} {S : Nat → Nat} (hn : ax + 139 ≤ n) (hI : ClsI M0 ax A S) (ho : ∃ f, M0 (ax + 137) = some (cJ 1 f)) (hv : Rng v) : Fw yL_shortest cL_shortest 4 (some .int) [(0, 9, 12, 15), (0, 9, 15, 13)] 9 [.ref ax, .int (iI v), .ref (ax + 137)] n M0 2 12 (PoC ax n M0 (kcK A S v) (iI ((lsG (trOf A S) v.toNat : Nat))).toInt64 A S) := by
  obtain ⟨hX, hok, hLs, ⟨nd, B, P, T, hTr, hnd, hgo, h9⟩, hm⟩ := id hI
  obtain ⟨f0, ho⟩ := ho
  have hF := Fx.post (c_shortest n M0 hX hok.2.2.1 hTr hnd (GrO_ok hgo).1 (GrO_ok hgo).2.1 hv) (post' := fun r n' M' => ∃ x, r = some (.int x) ∧ (x = iI ((lsF nd (B 6) (nd.length - v.toNat) v.toNat : Nat)) ∧ n' = n ∧ (∃ f, Cl M' (ax + 7) (treeC (ax + 7) (upAN B 6 f) P T)) ∧ Fr (ax + 7) (ax + 14) M0 M' ∧ S 9 = 1 ∧ 0 ≤ v ∧ v < (nd.length : Int))) (xpost' := fun E n' M' => (E = ISE ∧ (n ≤ n' ∧ M' = M0 ∧ S 9 = 0)) ∨ (E = IOB ∧ (n ≤ n' ∧ M' = M0 ∧ S 9 = 1 ∧ ¬ (0 ≤ v ∧ v < (nd.length : Int))))) (fun r n' M' h => ⟨_, h.1, rfl, h.2⟩) (fun E n' M' h => h.2.2.elim (fun q => Or.inl ⟨q.1, h.1, h.2.1, q.2⟩) (fun q => Or.inr ⟨q.1, h.1, h.2.1, q.2⟩))
  refine Fw.post (W_shortest n M0 (X1 := fun n' M' => n ≤ n' ∧ M' = M0 ∧ S 9 = 0) (X2 := fun n' M' => n ≤ n' ∧ M' = M0 ∧ S 9 = 1 ∧ ¬ (0 ≤ v ∧ v < (nd.length : Int))) (o := ax + 137) (f0 := f0) (hX.at 0 rfl) hF (fun x n' M' q => (q.2.2.2.1 _ (by omega)).trans ho)) (toC2 hI ho (fun x n' M1 q => ?_) (fun n' M' q => ?_) (fun n' M' q => ?_))
  · obtain ⟨q1, q2, q3, q3b, q4, q5⟩ := q
    have hls := ls_any (f := B 6) (GrO_ok hgo).2.2.2 (GrO_ok hgo).2.1 (show v.toNat < nd.length by omega)
    rw [hls] at q1
    have e := h9 q4
    unfold kcK
    rw [if_pos q4, ← e, if_pos q5]
    exact ⟨rfl, by rw [q1], by omega, hI.sums hnd hgo h9 q3 q3b, fun q _ a2 => q3b q (by omega)⟩
  · unfold kcK
    rw [if_neg (by omega)]
    exact ⟨rfl, q.1, q.2.1, rfl, rfl⟩
  · have e := h9 q.2.2.1
    unfold kcK
    rw [if_pos q.2.2.1, ← e, if_neg q.2.2.2]
    exact ⟨rfl, q.1, q.2.1, rfl, rfl⟩
theorem D_kind (n : Nat) (M0 : AH) {am : Nat} {v : Int} {R A : Nat → Nat → Nat} {S Z : Nat → Nat} {P : Nat → Int} (hM : Cl M0 am (modC am R P Z)) (hw : Vw R Z A S) (h8 : Z 8 ≤ 64) (hT : S 9 = 1 → MdT R P Z (trOf A S)) (hw8 : ∀ i, i < 12 → R 8 i < 8) (hok : MnOk A S) (hv : Rng v) : Fn yX4_kind cX4_kind 2 (some .int) 1 [.ref am, .int (iI v)] n M0 0 0 (PoM am n M0 (kcK A S v) (iI ((ndK (trOf A S) v.toNat : Nat))).toInt64 A S) := by
  have ek := ask_k (v := v) hw hT
  have h7 : Z 7 ≤ 1 := by rw [hw.2.2.2.2.2.2]; exact hok.2.2.1
  refine Fn.post (m_kind n M0 (nd := trOf A S) hM h7 h8 (fun h => hT (by rw [← hw.2.2.2.2.2.2]; exact h)) hv) (fun r n' M' h => ?_)
  rw [ek] at h
  rcases h with ⟨c, h⟩ | ⟨c, h⟩
  · exact toMR hw h8 hT hw8 c.symm (fun _ => rfl) h
  · exact toMR hw h8 hT hw8 rfl (fun q => absurd q c) h
theorem D_labelsOf (n : Nat) (M0 : AH) {am : Nat} {v : Int} {R A : Nat → Nat → Nat} {S Z : Nat → Nat} {P : Nat → Int} (hM : Cl M0 am (modC am R P Z)) (hw : Vw R Z A S) (h8 : Z 8 ≤ 64) (hT : S 9 = 1 → MdT R P Z (trOf A S)) (hw8 : ∀ i, i < 12 → R 8 i < 8) (hok : MnOk A S) (hv : Rng v) : Fn yX4_labelsOf cX4_labelsOf 2 (some .int) 1 [.ref am, .int (iI v)] n M0 0 0 (PoM am n M0 (kcK A S v) (iI ((ndS (trOf A S) v.toNat : Nat))).toInt64 A S) := by
  have ek := ask_k (v := v) hw hT
  have h7 : Z 7 ≤ 1 := by rw [hw.2.2.2.2.2.2]; exact hok.2.2.1
  refine Fn.post (m_labelsOf n M0 (nd := trOf A S) hM h7 h8 (fun h => hT (by rw [← hw.2.2.2.2.2.2]; exact h)) hv) (fun r n' M' h => ?_)
  rw [ek] at h
  rcases h with ⟨c, h⟩ | ⟨c, h⟩
  · exact toMR hw h8 hT hw8 c.symm (fun _ => rfl) h
  · exact toMR hw h8 hT hw8 rfl (fun q => absurd q c) h
theorem D_parent (n : Nat) (M0 : AH) {am : Nat} {v : Int} {R A : Nat → Nat → Nat} {S Z : Nat → Nat} {P : Nat → Int} (hM : Cl M0 am (modC am R P Z)) (hw : Vw R Z A S) (h8 : Z 8 ≤ 64) (hT : S 9 = 1 → MdT R P Z (trOf A S)) (hw8 : ∀ i, i < 12 → R 8 i < 8) (hok : MnOk A S) (hv : Rng v) : Fn yX4_parent cX4_parent 2 (some .int) 1 [.ref am, .int (iI v)] n M0 0 0 (PoM am n M0 (kcK A S v) (iI (ndP (trOf A S) v.toNat)).toInt64 A S) := by
  have ek := ask_k (v := v) hw hT
  have h7 : Z 7 ≤ 1 := by rw [hw.2.2.2.2.2.2]; exact hok.2.2.1
  refine Fn.post (m_parent n M0 (nd := trOf A S) hM h7 h8 (fun h => hT (by rw [← hw.2.2.2.2.2.2]; exact h)) hv) (fun r n' M' h => ?_)
  rw [ek] at h
  rcases h with ⟨c, h⟩ | ⟨c, h⟩
  · exact toMR hw h8 hT hw8 c.symm (fun _ => rfl) h
  · exact toMR hw h8 hT hw8 rfl (fun q => absurd q c) h
theorem D_children (n : Nat) (M0 : AH) {am : Nat} {v : Int} {R A : Nat → Nat → Nat} {S Z : Nat → Nat} {P : Nat → Int} (hM : Cl M0 am (modC am R P Z)) (hw : Vw R Z A S) (h8 : Z 8 ≤ 64) (hT : S 9 = 1 → MdT R P Z (trOf A S)) (hw8 : ∀ i, i < 12 → R 8 i < 8) (hok : MnOk A S) (hv : Rng v) : Fn yX4_children cX4_children 2 (some .int) 1 [.ref am, .int (iI v)] n M0 0 0 (PoM am n M0 (kcK A S v) (iI (((chl (trOf A S) v.toNat).length : Nat))).toInt64 A S) := by
  have ek := ask_k (v := v) hw hT
  have h7 : Z 7 ≤ 1 := by rw [hw.2.2.2.2.2.2]; exact hok.2.2.1
  refine Fn.post (m_children n M0 (nd := trOf A S) hM h7 h8 (fun h => hT (by rw [← hw.2.2.2.2.2.2]; exact h)) hv) (fun r n' M' h => ?_)
  rw [ek] at h
  rcases h with ⟨c, h⟩ | ⟨c, h⟩
  · exact toMR hw h8 hT hw8 c.symm (fun _ => rfl) h
  · exact toMR hw h8 hT hw8 rfl (fun q => absurd q c) h
theorem D_shortest (n : Nat) (M0 : AH) {am : Nat} {v : Int} {R A : Nat → Nat → Nat} {S Z : Nat → Nat} {P : Nat → Int} (hM : Cl M0 am (modC am R P Z)) (hw : Vw R Z A S) (h8 : Z 8 ≤ 64) (hT : S 9 = 1 → MdT R P Z (trOf A S)) (hw8 : ∀ i, i < 12 → R 8 i < 8) (hok : MnOk A S) (hv : Rng v) : Fn yX4_shortest cX4_shortest 2 (some .int) 70 [.ref am, .int (iI v)] n M0 0 0 (PoM am n M0 (kcK A S v) (iI ((lsG (trOf A S) v.toNat : Nat))).toInt64 A S) := by
  have ek := ask_k (v := v) hw hT
  have h7 : Z 7 ≤ 1 := by rw [hw.2.2.2.2.2.2]; exact hok.2.2.1
  have hG := trOf_grown hok
  have hGp : ∀ i, i < (trOf A S).length → ndP (trOf A S) i < (i : Int) := fun i hi => (hG.2.2.1 i hi).2
  refine Fn.post (m_shortest n M0 (nd := trOf A S) hM h7 h8 (fun h => hT (by rw [← hw.2.2.2.2.2.2]; exact h)) hG.sh (fun i hi => lsF_fix hGp hG.ch hi) (fun i hi => Nat.le_trans (ls_le hGp hG.ch hi) hG.1.2) hv) (fun r n' M' h => ?_)
  rw [ek] at h
  rcases h with ⟨c, h⟩ | ⟨c, h⟩
  · exact toMR hw h8 hT hw8 c.symm (fun _ => rfl) h
  · exact toMR hw h8 hT hw8 rfl (fun q => absurd q c) h
theorem L_child (n : Nat) (M0 : AH) {ax : Nat} {u v : Int} {A : Nat → Nat → Nat} {S : Nat → Nat} (hn : ax + 139 ≤ n) (hI : ClsI M0 ax A S) (ho : ∃ f, M0 (ax + 137) = some (cJ 1 f)) (hu : Rng u) (hv : Rng v) : Fw yL_child cL_child 5 (some .int) [(0, 10, 13, 15), (0, 10, 17, 13)] 9 [.ref ax, .int (iI u), .int (iI v), .ref (ax + 137)] n M0 3 18 (PoC ax n M0 (kcC A S u v) (iI ((gd (chl (trOf A S) u.toNat) v.toNat : Nat) : Int)).toInt64 A S) := by
  obtain ⟨hX, hok, hLs, ⟨nd, B, P, T, hTr, hnd, hgo, h9⟩, hm⟩ := id hI
  obtain ⟨f0, ho⟩ := ho
  have hF := Fx.post (c_child n M0 hX hok.2.2.1 hTr hnd hu hv) (post' := fun r n' M' => ∃ x, r = some (.int x) ∧ (x = iI ((gd (chl nd u.toNat) v.toNat : Nat) : Int) ∧ n' = n ∧ M' = M0 ∧ S 9 = 1 ∧ (0 ≤ u ∧ u < (nd.length : Int)) ∧ 0 ≤ v ∧ v < ((chl nd u.toNat).length : Int))) (xpost' := fun E n' M' => (E = ISE ∧ (n ≤ n' ∧ M' = M0 ∧ S 9 = 0)) ∨ (E = IOB ∧ (n ≤ n' ∧ M' = M0 ∧ S 9 = 1 ∧ ¬ ((0 ≤ u ∧ u < (nd.length : Int)) ∧ 0 ≤ v ∧ v < ((chl nd u.toNat).length : Int))))) (fun r n' M' h => ⟨_, h.1, rfl, h.2⟩) (fun E n' M' h => h.2.2.elim (fun q => Or.inl ⟨q.1, h.1, h.2.1, q.2⟩) (fun q => Or.inr ⟨q.1, h.1, h.2.1, q.2⟩))
  refine Fw.post (W_child n M0 (X1 := fun n' M' => n ≤ n' ∧ M' = M0 ∧ S 9 = 0) (X2 := fun n' M' => n ≤ n' ∧ M' = M0 ∧ S 9 = 1 ∧ ¬ ((0 ≤ u ∧ u < (nd.length : Int)) ∧ 0 ≤ v ∧ v < ((chl nd u.toNat).length : Int))) (o := ax + 137) (f0 := f0) (hX.at 0 rfl) hF (fun x n' M' q => by rw [q.2.2.1]; exact ho)) (toC2 hI ho (fun x n' M1 q => ?_) (fun n' M' q => ?_) (fun n' M' q => ?_))
  · obtain ⟨q1, q2, q3, q4, q5⟩ := q
    have e := h9 q4
    unfold kcC
    rw [if_pos q4, ← e, if_pos q5]
    exact ⟨rfl, by rw [q1], by omega, by rw [q3]; exact hI, fun q _ _ => by rw [q3]⟩
  · unfold kcC
    rw [if_neg (by omega)]
    exact ⟨rfl, q.1, q.2.1, rfl, rfl⟩
  · have e := h9 q.2.2.1
    unfold kcC
    rw [if_pos q.2.2.1, ← e, if_neg q.2.2.2]
    exact ⟨rfl, q.1, q.2.1, rfl, rfl⟩
theorem D_child (n : Nat) (M0 : AH) {am : Nat} {u v : Int} {R A : Nat → Nat → Nat} {S Z : Nat → Nat} {P : Nat → Int} (hM : Cl M0 am (modC am R P Z)) (hw : Vw R Z A S) (h8 : Z 8 ≤ 64) (hT : S 9 = 1 → MdT R P Z (trOf A S)) (hw8 : ∀ i, i < 12 → R 8 i < 8) (hok : MnOk A S) (hu : Rng u) (hv : Rng v) : Fn yX4_child cX4_child 3 (some .int) 1 [.ref am, .int (iI u), .int (iI v)] n M0 0 0 (PoM am n M0 (kcC A S u v) (iI ((gd (chl (trOf A S) u.toNat) v.toNat : Nat) : Int)).toInt64 A S) := by
  have ek := ask_k (v := u) hw hT
  have z7 := hw.2.2.2.2.2.2
  have h7 : Z 7 ≤ 1 := by rw [z7]; exact hok.2.2.1
  refine Fn.post (m_child n M0 (nd := trOf A S) hM h7 h8 (fun h => hT (by rw [← z7]; exact h)) hu hv) (fun r n' M' h => ?_)
  rw [ek] at h
  have e2 : kcK A S u = 0 → askC Z v (chl (trOf A S) u.toNat).length = kcC A S u v := fun c => by
    unfold kcK at c
    unfold askC kcC
    rw [z7]
    by_cases h1 : S 9 = 1
    · rw [if_pos h1] at c
      rw [if_pos h1, if_pos h1]
      by_cases h2 : 0 ≤ u ∧ u < ((trOf A S).length : Int)
      · by_cases h3 : 0 ≤ v ∧ v < ((chl (trOf A S) u.toNat).length : Int)
        · rw [if_pos h3, if_pos ⟨h2, h3⟩]
        · rw [if_neg h3, if_neg (fun q => h3 q.2)]
      · rw [if_neg h2] at c; cases c
    · rw [if_neg h1] at c; cases c
  have e3 : kcK A S u ≠ 0 → kcK A S u = kcC A S u v := fun c => by
    unfold kcK at c ⊢
    unfold kcC
    by_cases h1 : S 9 = 1
    · rw [if_pos h1] at c ⊢
      rw [if_pos h1]
      by_cases h2 : 0 ≤ u ∧ u < ((trOf A S).length : Int)
      · rw [if_pos h2] at c; exact absurd rfl c
      · rw [if_neg h2, if_neg (fun q => h2 q.1)]
    · rw [if_neg h1, if_neg h1]
  rcases h with ⟨c, h | h⟩ | ⟨c, h⟩
  · obtain ⟨c2, h⟩ := h
    rw [e2 c] at c2
    exact toMR hw h8 hT hw8 c2.symm (fun _ => rfl) h
  · obtain ⟨c2, h⟩ := h
    rw [e2 c] at c2 h
    exact toMR hw h8 hT hw8 rfl (fun q => absurd q c2) h
  · rw [e3 c] at h c
    exact toMR hw h8 hT hw8 rfl (fun q => absurd q c) h
theorem L_height (n : Nat) (M0 : AH) {ax : Nat} {A : Nat → Nat → Nat} {S : Nat → Nat} (hn : ax + 139 ≤ n) (hI : ClsI M0 ax A S) (ho : ∃ f, M0 (ax + 137) = some (cJ 1 f)) : Fw yL_height cL_height 3 (some .int) [(0, 8, 11, 15)] 9 [.ref ax, .ref (ax + 137)] n M0 1 6 (PoC ax n M0 (kcH S) (iI ((mxL (lvG (trOf A S)) (trOf A S).length : Nat) : Int)).toInt64 A S) := by
  obtain ⟨hX, hok, hLs, ⟨nd, B, P, T, hTr, hnd, hgo, h9⟩, hm⟩ := id hI
  obtain ⟨f0, ho⟩ := ho
  have hF := Fx.post (c_height n M0 hX hok.2.2.1 hTr hnd (GrO_ok hgo).2.2.1) (post' := fun r n' M' => ∃ x, r = some (.int x) ∧ (x = iI (((lvT nd (B 6) nd.length).2 : Nat) : Int) ∧ n' = n ∧ (∃ f, Cl M' (ax + 7) (treeC (ax + 7) (upAN B 6 f) P T)) ∧ Fr (ax + 7) (ax + 14) M0 M' ∧ S 9 = 1)) (xpost' := fun E n' M' => (E = ISE ∧ (n ≤ n' ∧ M' = M0 ∧ S 9 = 0))) (fun r n' M' h => ⟨_, h.1, rfl, h.2⟩) (fun E n' M' h => h)
  refine Fw.post (W_height n M0 (X1 := fun n' M' => n ≤ n' ∧ M' = M0 ∧ S 9 = 0) (o := ax + 137) (f0 := f0) (hX.at 0 rfl) hF (fun x n' M' q => (q.2.2.2.1 _ (by omega)).trans ho)) (toC1 hI ho (fun x n' M1 q => ?_) (fun n' M' q => ?_))
  · obtain ⟨q1, q2, q3, q3b, q4⟩ := q
    rw [lv_any (GrO_ok hgo).2.2.2] at q1
    have e := h9 q4
    unfold kcH
    rw [if_pos q4, ← e]
    exact ⟨rfl, by rw [q1], by omega, hI.sums hnd hgo h9 q3 q3b, fun q _ a2 => q3b q (by omega)⟩
  · unfold kcH
    rw [if_neg (by omega)]
    exact ⟨rfl, q.1, q.2.1, rfl, rfl⟩
theorem D_height (n : Nat) (M0 : AH) {am : Nat} {R A : Nat → Nat → Nat} {S Z : Nat → Nat} {P : Nat → Int} (hM : Cl M0 am (modC am R P Z)) (hw : Vw R Z A S) (h8 : Z 8 ≤ 64) (hT : S 9 = 1 → MdT R P Z (trOf A S)) (hw8 : ∀ i, i < 12 → R 8 i < 8) (hok : MnOk A S) : Fn yX4_height cX4_height 5 (some .int) 1 [.ref am] n M0 0 0 (PoM am n M0 (kcH S) (iI ((mxL (lvG (trOf A S)) (trOf A S).length : Nat) : Int)).toInt64 A S) := by
  have hG := trOf_grown hok
  have z7 := hw.2.2.2.2.2.2
  have h7 : Z 7 ≤ 1 := by rw [z7]; exact hok.2.2.1
  have hGp : ∀ i, i < (trOf A S).length → ndP (trOf A S) i < (i : Int) := fun i hi => (hG.2.2.1 i hi).2
  refine Fn.post (m_height n M0 (nd := trOf A S) hM h7 (fun h => hT (by rw [← z7]; exact h)) (L := lvG (trOf A S)) (lvG_eq hGp) (fun i hi => Nat.le_trans (lvG_le hGp i hi) hG.1.2)) (fun r n' M' h => ?_)
  rw [z7] at h
  unfold kcH
  rcases h with ⟨c, h⟩ | ⟨c, h⟩
  · rw [if_pos c]
    exact toMR hw h8 hT hw8 rfl (fun _ => rfl) h
  · rw [if_neg (by omega)]
    exact toMR hw h8 hT hw8 rfl (fun q => (by cases q)) h
end LAW6
