section LAWB
def bL (x : Bool) : Int64 := if x then Int64.ofNat 1 else Int64.ofNat 0
def PoB (am n : Nat) (M : AH) (KC : Nat) (XB : Bool) (A : Nat → Nat → Nat) (S : Nat → Nat) : Option Value → Nat → AH → Prop := fun r n' M' => ∃ x R P Z, r = some (.int (bI x)) ∧ n' = n ∧ Cl M' am (modC am R P Z) ∧ Z 0 = KC ∧ (KC = 0 → x = XB) ∧ (Vw R Z A S ∧ Z 8 ≤ 64 ∧ (S 9 = 1 → MdT R P Z (trOf A S)) ∧ ∀ i, i < 12 → R 8 i < 8) ∧ Fr am (am + 9) M M'
theorem toBW {am n KC c : Nat} {M0 : AH} {XB : Bool} {A R : Nat → Nat → Nat} {S Z : Nat → Nat} {P : Nat → Int} {X : Bool} {r : Option Value} {n' : Nat} {M' : AH} (hw : Vw R Z A S) (h8 : Z 8 ≤ 64) (hT : S 9 = 1 → MdT R P Z (trOf A S)) (hc : c = KC) (hx : KC = 0 → X = XB) (h : MReW n M0 am R P Z (.int (bI X)) c r n' M') : PoB am n M0 KC XB A S r n' M' := by
  obtain ⟨h1, h2, ⟨w, hww, h3⟩, h4⟩ := h
  obtain ⟨w1, w2, w3, w4, z1, z3, z7⟩ := hw
  exact ⟨X, upAN R 8 w, P, upN Z 0 c, h1, h2, h3, hc, hx, ⟨⟨w1, w2, w3, w4, z1, z3, z7⟩, h8, fun q => (hT q).keep ⟨rfl, rfl, rfl⟩, hww⟩, h4⟩
theorem toCb {ax n KC : Nat} {M0 : AH} {XB : Bool} {A : Nat → Nat → Nat} {S : Nat → Nat} {f0 : Nat → Int64} {Q : Bool → Nat → AH → Prop} {X1 X2 : Nat → AH → Prop} (hI : ClsI M0 ax A S) (ho : M0 (ax + 137) = some (cJ 1 f0)) (hQ : ∀ x n' M1, Q x n' M1 → KC = 0 ∧ x = XB ∧ n ≤ n' ∧ ClsI M1 ax A S ∧ ∀ q, q < n → ax + 128 ≤ q → M1 q = M0 q) (h1 : ∀ n' M', X1 n' M' → KC = 1 ∧ n ≤ n' ∧ M' = M0) (h2 : ∀ n' M', X2 n' M' → KC = 2 ∧ n ≤ n' ∧ M' = M0) (r : Option Value) (n' : Nat) (M' : AH) (h : (∃ x M1 f, r = some (.int (iI ((0 : Nat) : Int))) ∧ Q x n' M1 ∧ M' (ax + 137) = some (cJ 1 f) ∧ f 0 = (if x then Int64.ofNat 1 else Int64.ofNat 0) ∧ ∀ q, q ≠ ax + 137 → M' q = M1 q) ∨ (r = some (.int (iI ((1 : Nat) : Int))) ∧ X1 n' M') ∨ (r = some (.int (iI ((2 : Nat) : Int))) ∧ X2 n' M')) : PoC ax n M0 KC (bL XB) A S r n' M' := by
  rcases h with ⟨x, M1, f, hr, hq, hf, hx, hag⟩ | ⟨hr, hx⟩ | ⟨hr, hx⟩
  · obtain ⟨c1, c2, c3, c4, c5⟩ := hQ x n' M1 hq
    subst c1; subst c2
    exact ⟨hr, c3, c4.keep (fun q a1 a2 => hag q (by omega)), ⟨f, hf, fun _ => hx⟩, fun q a1 a2 a3 => (hag q a3).trans (c5 q a1 a2)⟩
  · obtain ⟨c1, c2, c3⟩ := h1 n' M' hx
    subst c1; subst c3
    exact ⟨hr, c2, hI, ⟨f0, ho, fun h => absurd h (by decide)⟩, fun q _ _ _ => rfl⟩
  · obtain ⟨c1, c2, c3⟩ := h2 n' M' hx
    subst c1; subst c3
    exact ⟨hr, c2, hI, ⟨f0, ho, fun h => absurd h (by decide)⟩, fun q _ _ _ => rfl⟩
theorem toCb1 {ax n KC : Nat} {M0 : AH} {XB : Bool} {A : Nat → Nat → Nat} {S : Nat → Nat} {f0 : Nat → Int64} {Q : Bool → Nat → AH → Prop} {X1 : Nat → AH → Prop} (hI : ClsI M0 ax A S) (ho : M0 (ax + 137) = some (cJ 1 f0)) (hQ : ∀ x n' M1, Q x n' M1 → KC = 0 ∧ x = XB ∧ n ≤ n' ∧ ClsI M1 ax A S ∧ ∀ q, q < n → ax + 128 ≤ q → M1 q = M0 q) (h1 : ∀ n' M', X1 n' M' → KC = 1 ∧ n ≤ n' ∧ M' = M0) (r : Option Value) (n' : Nat) (M' : AH) (h : (∃ x M1 f, r = some (.int (iI ((0 : Nat) : Int))) ∧ Q x n' M1 ∧ M' (ax + 137) = some (cJ 1 f) ∧ f 0 = (if x then Int64.ofNat 1 else Int64.ofNat 0) ∧ ∀ q, q ≠ ax + 137 → M' q = M1 q) ∨ (r = some (.int (iI ((1 : Nat) : Int))) ∧ X1 n' M')) : PoC ax n M0 KC (bL XB) A S r n' M' :=
  toCb (X2 := fun _ _ => False) hI ho hQ h1 (fun _ _ h => h.elim) r n' M' (h.elim Or.inl (fun q => Or.inr (Or.inl q)))
def ldX (A : Nat → Nat → Nat) (S : Nat → Nat) (u v : Int) : Bool := (rall (mL (lgOf A S)).2.2.2.2 u.toNat).testBit v.toNat
def kcX (S : Nat → Nat) (v : Int) : Nat := if S 9 = 1 then (if 0 ≤ v ∧ v < (S 5 : Int) then 0 else 2) else 1
def acX (A : Nat → Nat → Nat) (S : Nat → Nat) (v : Int) : Bool := iwG (trOf A S) (cwF (fun _ => 0) (A 2) (v.toNat * 12) (A 3 v.toNat)) 0 (2 ^ A 3 v.toNat - 1)
def abX (A : Nat → Nat → Nat) (S : Nat → Nat) : Bool := iwG (trOf A S) (cwF (fun _ => 0) (A 1) 0 (S 1)) 0 (2 ^ S 1 - 1)
theorem L_leads (n : Nat) (M0 : AH) {ax : Nat} {u v : Int} {A : Nat → Nat → Nat} {S : Nat → Nat} (hn : ax + 139 ≤ n) (hI : ClsI M0 ax A S) (ho : ∃ f, M0 (ax + 137) = some (cJ 1 f)) (hu : Rng u) (hv : Rng v) : Fw yL_leads cL_leads 5 (some .int) [(0, 17, 20, 13)] 8 [.ref ax, .int (iI u), .int (iI v), .ref (ax + 137)] n M0 2 12 (PoC ax n M0 (kcP u v) (bL (ldX A S u v)) A S) := by
  obtain ⟨hX, hok, -⟩ := id hI
  obtain ⟨f0, ho⟩ := ho
  have hF := Fx.post (c_leads n M0 hX hok hI.lg0 hu hv) (post' := fun r n' M' => ∃ x, r = some (.int (bI x)) ∧ (x = ldX A S u v ∧ n' = n ∧ Lg0 M' (ax + 16) ∧ Fr (ax + 16) (ax + 23) M0 M' ∧ (0 ≤ u ∧ u < 8) ∧ 0 ≤ v ∧ v < 8)) (xpost' := fun E n' M' => (E = IOB ∧ (n ≤ n' ∧ M' = M0 ∧ ¬ ((0 ≤ u ∧ u < 8) ∧ 0 ≤ v ∧ v < 8)))) (fun r n' M' h => ⟨_, h.1, rfl, h.2⟩) (fun E n' M' h => h)
  refine Fw.post (W_leads n M0 (X1 := fun n' M' => n ≤ n' ∧ M' = M0 ∧ ¬ ((0 ≤ u ∧ u < 8) ∧ 0 ≤ v ∧ v < 8)) (o := ax + 137) (f0 := f0) (hX.at 0 rfl) hF (fun x n' M' q => (q.2.2.2.1 _ (by omega)).trans ho)) (toCb1 hI ho (fun x n' M1 q => ?_) (fun n' M' q => ?_))
  · obtain ⟨q1, q2, q3, q4, q5⟩ := q
    unfold kcP
    rw [if_pos q5]
    exact ⟨rfl, q1, by omega, hI.log0 q3 q4, fun q _ a2 => q4 q (by omega)⟩
  · unfold kcP
    rw [if_neg q.2.2]
    exact ⟨rfl, q.1, q.2.1⟩
theorem L_accepts (n : Nat) (M0 : AH) {ax : Nat} {v : Int} {A : Nat → Nat → Nat} {S : Nat → Nat} (hn : ax + 139 ≤ n) (hI : ClsI M0 ax A S) (ho : ∃ f, M0 (ax + 137) = some (cJ 1 f)) (hv : Rng v) : Fw yL_accepts cL_accepts 4 (some .int) [(0, 16, 19, 15), (0, 16, 22, 13)] 9 [.ref ax, .int (iI v), .ref (ax + 137)] n M0 2 12 (PoC ax n M0 (kcX S v) (bL (acX A S v)) A S) := by
  obtain ⟨hX, hok, -⟩ := id hI
  obtain ⟨C, Q, hm⟩ := hI.mt
  obtain ⟨f0, ho⟩ := ho
  have hG := trOf_grown hok
  obtain ⟨-, m5, -, -, m2, m3, -⟩ := id hok
  have hF := Fx.post (c_accepts n M0 hX hok hm hG.kd hG.1.1 hv) (post' := fun r n' M' => ∃ x, r = some (.int (bI x)) ∧ (x = mtR (trOf A S) (C 1) (C 2) (A 2) (v.toNat * 12) (A 3 v.toNat) ∧ n' = n ∧ MtL M0 M' ax (trOf A S) ∧ S 9 = 1 ∧ 0 ≤ v ∧ v < (S 5 : Int))) (xpost' := fun E n' M' => (E = ISE ∧ (n ≤ n' ∧ M' = M0 ∧ S 9 = 0)) ∨ (E = IOB ∧ (n ≤ n' ∧ M' = M0 ∧ S 9 = 1 ∧ ¬ (0 ≤ v ∧ v < (S 5 : Int))))) (fun r n' M' h => ⟨_, h.1, rfl, h.2⟩) (fun E n' M' h => h.2.2.elim (fun q => Or.inl ⟨q.1, h.1, h.2.1, q.2⟩) (fun q => Or.inr ⟨q.1, h.1, h.2.1, q.2⟩))
  refine Fw.post (W_accepts n M0 (X1 := fun n' M' => n ≤ n' ∧ M' = M0 ∧ S 9 = 0) (X2 := fun n' M' => n ≤ n' ∧ M' = M0 ∧ S 9 = 1 ∧ ¬ (0 ≤ v ∧ v < (S 5 : Int))) (o := ax + 137) (f0 := f0) (hX.at 0 rfl) hF (fun x n' M' q => (q.2.2.1.2 _ (by omega) (by omega)).trans ho)) (toCb hI ho (fun x n' M1 q => ?_) (fun n' M' q => ?_) (fun n' M' q => ?_))
  · obtain ⟨q1, q2, q3, q4, q5⟩ := q
    have h3 := m3 v.toNat (by omega)
    rw [mt_iw (w := fun _ => 0) hG (iwG_8 hG) (fun _ _ => by decide) (fun j hj => m2 _ (by omega)) h3] at q1
    unfold kcX
    rw [if_pos q4, if_pos q5]
    exact ⟨rfl, q1, by omega, hI.mtl q3 q4, fun q _ a2 => q3.2 q (by omega) (by omega)⟩
  · unfold kcX
    rw [if_neg (by omega)]
    exact ⟨rfl, q.1, q.2.1⟩
  · unfold kcX
    rw [if_pos q.2.2.1, if_neg q.2.2.2]
    exact ⟨rfl, q.1, q.2.1⟩
theorem L_acceptsBuffer (n : Nat) (M0 : AH) {ax : Nat} {A : Nat → Nat → Nat} {S : Nat → Nat} (hn : ax + 139 ≤ n) (hI : ClsI M0 ax A S) (ho : ∃ f, M0 (ax + 137) = some (cJ 1 f)) : Fw yL_acceptsBuffer cL_acceptsBuffer 3 (some .int) [(0, 15, 18, 15)] 9 [.ref ax, .ref (ax + 137)] n M0 1 6 (PoC ax n M0 (kcH S) (bL (abX A S)) A S) := by
  obtain ⟨hX, hok, -⟩ := id hI
  obtain ⟨C, Q, hm⟩ := hI.mt
  obtain ⟨f0, ho⟩ := ho
  have hG := trOf_grown hok
  obtain ⟨m1, m5, -, mb, -⟩ := id hok
  have hF := Fx.post (c_acceptsBuffer n M0 hX hok hm hG.kd hG.1.1) (post' := fun r n' M' => ∃ x, r = some (.int (bI x)) ∧ (x = mtR (trOf A S) (C 1) (C 2) (A 1) 0 (S 1) ∧ n' = n ∧ MtL M0 M' ax (trOf A S) ∧ S 9 = 1)) (xpost' := fun E n' M' => (E = ISE ∧ (n ≤ n' ∧ M' = M0 ∧ S 9 = 0))) (fun r n' M' h => ⟨_, h.1, rfl, h.2⟩) (fun E n' M' h => h)
  refine Fw.post (W_acceptsBuffer n M0 (X1 := fun n' M' => n ≤ n' ∧ M' = M0 ∧ S 9 = 0) (o := ax + 137) (f0 := f0) (hX.at 0 rfl) hF (fun x n' M' q => (q.2.2.1.2 _ (by omega) (by omega)).trans ho)) (toCb1 hI ho (fun x n' M1 q => ?_) (fun n' M' q => ?_))
  · obtain ⟨q1, q2, q3, q4⟩ := q
    rw [mt_iw (w := fun _ => 0) hG (iwG_8 hG) (fun _ _ => by decide) (fun j hj => mb _ (by omega)) m1] at q1
    unfold kcH
    rw [if_pos q4]
    exact ⟨rfl, q1, by omega, hI.mtl q3 q4, fun q _ a2 => q3.2 q (by omega) (by omega)⟩
  · unfold kcH
    rw [if_neg (by omega)]
    exact ⟨rfl, q.1, q.2.1⟩
theorem D_leads (n : Nat) (M0 : AH) {am : Nat} {u v : Int} {R A : Nat → Nat → Nat} {S Z : Nat → Nat} {P : Nat → Int} (hM : Cl M0 am (modC am R P Z)) (hw : Vw R Z A S) (h8 : Z 8 ≤ 64) (hT : S 9 = 1 → MdT R P Z (trOf A S)) (hw8 : ∀ i, i < 12 → R 8 i < 8) (hok : MnOk A S) (hu : Rng u) (hv : Rng v) : Fn yX4_leads cX4_leads 7 (some .boolean) 1 [.ref am, .int (iI u), .int (iI v)] n M0 0 0 (PoB am n M0 (kcP u v) (ldX A S u v) A S) := by
  obtain ⟨w1, w2, w3, w4, z1, z3, z7⟩ := id hw
  have hg := lgOf_goodM hok
  have hb : ∀ j, j < 8 → moF (lgOf A S) j < 256 := foL_lt hg.1.1 (Nat.le_refl _)
  refine Fn.post (m_leads n M0 hM (hw.ok hok) hu hv) (fun r n' M' h => ?_)
  rw [w4, w3, w2, z3] at h
  unfold kcP
  rcases h with ⟨c, h⟩ | ⟨c, h⟩
  · rw [if_pos c]
    exact toBW hw h8 hT rfl (fun _ => (leads_eq hb (by omega) (by omega)).symm) (MReW.of hw8 h)
  · rw [if_neg c]
    exact toBW hw h8 hT rfl (fun q => (by cases q)) (MReW.of hw8 h)
theorem D_accepts (n : Nat) (M0 : AH) {am : Nat} {v : Int} {R A : Nat → Nat → Nat} {S Z : Nat → Nat} {P : Nat → Int} (hM : Cl M0 am (modC am R P Z)) (hw : Vw R Z A S) (h8 : Z 8 ≤ 64) (hT : S 9 = 1 → MdT R P Z (trOf A S)) (hw8 : ∀ i, i < 12 → R 8 i < 8) (hok : MnOk A S) (hv : Rng v) : Fn yX4_accepts cX4_accepts 2 (some .boolean) 1801 [.ref am, .int (iI v)] n M0 0 0 (PoB am n M0 (kcX S v) (acX A S v) A S) := by
  obtain ⟨w1, w2, w3, w4, z1, z3, z7⟩ := id hw
  have hG := trOf_grown hok
  obtain ⟨-, m5, -, -, m2, m3, -⟩ := id hok
  refine Fn.post (m_accepts n M0 (nd := trOf A S) hM (hw.ok hok) (fun h => hT (by rw [← z7]; exact h)) hG.ndq hw8 (iwG_8 hG) hv) (fun r n' M' h => ?_)
  have ek : askC Z v (Z 3) = kcX S v := by
    unfold askC kcX
    rw [z7, z3]
  rw [ek, w2, w3] at h
  rcases h with ⟨c, h⟩ | ⟨c, h⟩
  · have hin : 0 ≤ v ∧ v < (S 5 : Int) := by
      unfold kcX at c
      by_cases h1 : S 9 = 1
      · rw [if_pos h1] at c
        by_cases h2 : 0 ≤ v ∧ v < (S 5 : Int)
        · exact h2
        · rw [if_neg h2] at c; cases c
      · rw [if_neg h1] at c; cases c
    have h3 := m3 v.toNat (by omega)
    refine toBW hw h8 hT c.symm (fun _ => ?_) h
    unfold acX
    rw [Nat.mul_comm 12]
    exact iw_tail hG (iwG_8 hG) hw8 (fun _ _ => by decide) (fun j hj => m2 _ (by omega)) h3
  · exact toBW hw h8 hT rfl (fun q => absurd q c) h
theorem D_acceptsBuffer (n : Nat) (M0 : AH) {am : Nat} {R A : Nat → Nat → Nat} {S Z : Nat → Nat} {P : Nat → Int} (hM : Cl M0 am (modC am R P Z)) (hw : Vw R Z A S) (h8 : Z 8 ≤ 64) (hT : S 9 = 1 → MdT R P Z (trOf A S)) (hw8 : ∀ i, i < 12 → R 8 i < 8) (hok : MnOk A S) : Fn yX4_acceptsBuffer cX4_acceptsBuffer 2 (some .boolean) 1801 [.ref am] n M0 0 0 (PoB am n M0 (kcH S) (abX A S) A S) := by
  obtain ⟨w1, w2, w3, w4, z1, z3, z7⟩ := id hw
  have hG := trOf_grown hok
  obtain ⟨m1, m5, -, mb, -⟩ := id hok
  refine Fn.post (m_acceptsBuffer n M0 (nd := trOf A S) hM (hw.ok hok) (fun h => hT (by rw [← z7]; exact h)) hG.ndq hw8 (iwG_8 hG)) (fun r n' M' h => ?_)
  rw [z7, w1, z1] at h
  unfold kcH
  rcases h with ⟨c, h⟩ | ⟨c, h⟩
  · rw [if_pos c]
    exact toBW hw h8 hT rfl (fun _ => iw_tail hG (iwG_8 hG) hw8 (fun _ _ => by decide) (fun j hj => mb _ (by omega)) m1) h
  · rw [if_neg (by omega)]
    exact toBW hw h8 hT rfl (fun q => (by cases q)) h
end LAWB
