section LAW7
theorem ClsI.mt {M : AH} {ax : Nat} {A : Nat → Nat → Nat} {S : Nat → Nat} (h : ClsI M ax A S) : ∃ C Q, S 9 = 1 → Mt M (ax + 6) (ax + 7) C Q (trOf A S) := by
  obtain ⟨h1, h2, h3, ⟨nd, B, P, T, h4, h5, h6, h7⟩, ⟨C, Q, h8, h10, h11, h12⟩⟩ := h
  refine ⟨C, Q, fun h9 => ?_⟩
  have e := h7 h9
  subst e
  have hG := trOf_grown h2
  exact ⟨h8, ⟨B, P, T, h4, h5⟩, h10, h11, hG.ndq.2.2.2, h12, fun i hi c => (hG.sh i hi).2.2 (by omega)⟩
theorem ClsI.mtl {M M' : AH} {ax : Nat} {A : Nat → Nat → Nat} {S : Nat → Nat} (h : ClsI M ax A S) (hm : MtL M M' ax (trOf A S)) (h9 : S 9 = 1) : ClsI M' ax A S := by
  obtain ⟨h1, h2, h3, -, -⟩ := h
  obtain ⟨⟨C, Q, ⟨m1, ⟨B, P, T, m2, m3⟩, m4, m5, -, m7, -⟩⟩, hFr⟩ := hm
  exact ⟨h1.fq hFr (by simp), h2, h3.keep (fun q a1 a2 => hFr q (by omega) (by omega)), ⟨_, B, P, T, m2, m3, Or.inr (trOf_grown h2), fun _ => rfl⟩, ⟨C, Q, m1, m4, m5, m7⟩⟩
theorem toMW {am n KC c : Nat} {M0 : AH} {Y : Int64} {A R : Nat → Nat → Nat} {S Z : Nat → Nat} {P : Nat → Int} {X : Int32} {r : Option Value} {n' : Nat} {M' : AH} (hw : Vw R Z A S) (h8 : Z 8 ≤ 64) (hT : S 9 = 1 → MdT R P Z (trOf A S)) (hc : c = KC) (hx : KC = 0 → X.toInt64 = Y) (h : MReW n M0 am R P Z (.int X) c r n' M') : PoM am n M0 KC Y A S r n' M' := by
  obtain ⟨h1, h2, ⟨w, hww, h3⟩, h4⟩ := h
  obtain ⟨w1, w2, w3, w4, z1, z3, z7⟩ := hw
  exact ⟨X, upAN R 8 w, P, upN Z 0 c, h1, h2, h3, hc, hx, ⟨⟨w1, w2, w3, w4, z1, z3, z7⟩, h8, fun q => (hT q).keep ⟨rfl, rfl, rfl⟩, hww⟩, h4⟩
def kcW (S : Nat → Nat) (v : Int) : Nat := if S 9 = 1 then (if 0 ≤ v ∧ v ≤ 3 then 0 else 2) else 1
def woV (nd : List Nd) (v : Nat) : Nat := acF (fun c => iwG nd (cdF (fun _ => 0) c v) 0 (2 ^ v - 1)) (2 ^ (3 * v))
theorem L_words (n : Nat) (M0 : AH) {ax : Nat} {v : Int} {A : Nat → Nat → Nat} {S : Nat → Nat} (hn : ax + 139 ≤ n) (hI : ClsI M0 ax A S) (ho : ∃ f, M0 (ax + 137) = some (cJ 1 f)) (hv : Rng v) : Fw yL_words cL_words 4 (some .int) [(0, 9, 12, 15), (0, 9, 15, 20)] 11 [.ref ax, .int (iI v), .ref (ax + 137)] n M0 2 12 (PoC ax n M0 (kcW S v) (iI ((woV (trOf A S) v.toNat : Nat) : Int)).toInt64 A S) := by
  obtain ⟨hX, hok, -⟩ := id hI
  obtain ⟨C, Q, hm⟩ := hI.mt
  obtain ⟨f0, ho⟩ := ho
  have hG := trOf_grown hok
  have hF := Fx.post (c_words n M0 hX hok hm hG.kd hG.1.1 hv) (post' := fun r n' M' => ∃ x, r = some (.int x) ∧ (x = iI ((spF (trOf A S) v.toNat v.toNat (C 1) (rdF (trOf A S) (C 1) v.toNat v.toNat (C 2) (trOf A S).length)).1 : Int) ∧ n' = n ∧ MtL M0 M' ax (trOf A S) ∧ S 9 = 1 ∧ 0 ≤ v ∧ v ≤ 3)) (xpost' := fun E n' M' => (E = ISE ∧ (n ≤ n' ∧ M' = M0 ∧ S 9 = 0)) ∨ (E = IAE ∧ (n ≤ n' ∧ M' = M0 ∧ S 9 = 1 ∧ ¬ (0 ≤ v ∧ v ≤ 3)))) (fun r n' M' h => ⟨_, h.1, rfl, h.2⟩) (fun E n' M' h => h.2.2.elim (fun q => Or.inl ⟨q.1, h.1, h.2.1, q.2⟩) (fun q => Or.inr ⟨q.1, h.1, h.2.1, q.2⟩))
  refine Fw.post (W_words n M0 (X1 := fun n' M' => n ≤ n' ∧ M' = M0 ∧ S 9 = 0) (X2 := fun n' M' => n ≤ n' ∧ M' = M0 ∧ S 9 = 1 ∧ ¬ (0 ≤ v ∧ v ≤ 3)) (o := ax + 137) (f0 := f0) (hX.at 0 rfl) hF (fun x n' M' q => (q.2.2.1.2 _ (by omega) (by omega)).trans ho)) (toC2 hI ho (fun x n' M1 q => ?_) (fun n' M' q => ?_) (fun n' M' q => ?_))
  · obtain ⟨q1, q2, q3, q4, q5⟩ := q
    rw [words_eq (x := fun _ => 0) hG (iwG_8 hG) (fun _ _ => by decide) (by omega)] at q1
    unfold kcW woV
    rw [if_pos q4, if_pos q5]
    exact ⟨rfl, by rw [q1], by omega, hI.mtl q3 q4, fun q _ a2 => q3.2 q (by omega) (by omega)⟩
  · unfold kcW
    rw [if_neg (by omega)]
    exact ⟨rfl, q.1, q.2.1, rfl, rfl⟩
  · unfold kcW
    rw [if_pos q.2.2.1, if_neg q.2.2.2]
    exact ⟨rfl, q.1, q.2.1, rfl, rfl⟩
theorem D_words (n : Nat) (M0 : AH) {am : Nat} {v : Int} {R A : Nat → Nat → Nat} {S Z : Nat → Nat} {P : Nat → Int} (hM : Cl M0 am (modC am R P Z)) (hw : Vw R Z A S) (h8 : Z 8 ≤ 64) (hT : S 9 = 1 → MdT R P Z (trOf A S)) (hw8 : ∀ i, i < 12 → R 8 i < 8) (hok : MnOk A S) (hv : Rng v) : Fn yX4_words cX4_words 5 (some .int) 1801 [.ref am, .int (iI v)] n M0 0 0 (PoM am n M0 (kcW S v) (iI ((woV (trOf A S) v.toNat : Nat) : Int)).toInt64 A S) := by
  have hG := trOf_grown hok
  have z7 := hw.2.2.2.2.2.2
  have h7 : Z 7 ≤ 1 := by rw [z7]; exact hok.2.2.1
  refine Fn.post (m_words n M0 (nd := trOf A S) (W := fun c => iwG (trOf A S) (cdF (fun _ => 0) c v.toNat) 0 (2 ^ v.toNat - 1)) hM h7 (fun h => hT (by rw [← z7]; exact h)) hG.ndq hw8 (iwG_8 hG) hv (fun hv3 c _ w hww => iw_code hG (iwG_8 hG) hww (fun _ _ => by decide) (by omega))) (fun r n' M' h => ?_)
  rw [z7] at h
  unfold kcW woV
  rcases h with ⟨c, c2, h⟩ | ⟨c, c2, h⟩ | ⟨c, h⟩
  · rw [if_pos c, if_pos c2]
    exact toMW hw h8 hT rfl (fun _ => rfl) h
  · rw [if_pos c, if_neg c2]
    exact toMW hw h8 hT rfl (fun q => (by cases q)) h
  · rw [if_neg (by omega)]
    exact toMW hw h8 hT rfl (fun q => (by cases q)) h
end LAW7
