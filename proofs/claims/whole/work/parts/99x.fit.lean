section LAWF
theorem J.dcmp {g : GT} {ow : String} {cc : ByteArray} {nL d mc ms k z n pc : Nat} {M : AH} {L : List (Option Value)} {st : List Value} (G : Cx g ow cc nL d mc ms) {x y : UInt64} {op : CmpOp} (hd : decode cc pc = .ok (.dcmp op, 1)) (kk : J g k z n M L (pc + 1) (.int (Op.cmpValue (FP.dcmp x y) op) :: st)) : J g k z n M L pc (.double y :: .double x :: st) := by
  intro H locs ls hR hS hl
  exact lv_dcmp G.exec G.bytes hd (kk H locs ls hR hS hl)
def fiW (A : Nat → Nat → Nat) (S : Nat → Nat) (t : Nat) : Bool := iwG (trOf A S) (cwF (fun _ => 0) (A 2) (t * 12) (A 3 t)) 0 (2 ^ A 3 t - 1)
def PoF (ax n : Nat) (M : AH) (KC : Nat) (Y : UInt64) (A : Nat → Nat → Nat) (S : Nat → Nat) : Option Value → Nat → AH → Prop := fun r n' M' => r = some (.int (iI (KC : Int))) ∧ n ≤ n' ∧ ClsI M' ax A S ∧ (∃ f, M' (ax + 138) = some (cD 1 f) ∧ (KC = 0 → f 0 = Y)) ∧ ∀ q, q < n → ax + 128 ≤ q → q ≠ ax + 138 → M' q = M q
def PoD (am n : Nat) (M : AH) (KC : Nat) (Y : UInt64) (A : Nat → Nat → Nat) (S : Nat → Nat) : Option Value → Nat → AH → Prop := fun r n' M' => ∃ x R P Z, r = some (.double x) ∧ n' = n ∧ Cl M' am (modC am R P Z) ∧ Z 0 = KC ∧ (KC = 0 → x = Y) ∧ (Vw R Z A S ∧ Z 8 ≤ 64 ∧ (S 9 = 1 → MdT R P Z (trOf A S)) ∧ ∀ i, i < 12 → R 8 i < 8) ∧ Fr am (am + 9) M M'
theorem toDW {am n KC c : Nat} {M0 : AH} {Y : UInt64} {A R : Nat → Nat → Nat} {S Z : Nat → Nat} {P : Nat → Int} {X : UInt64} {r : Option Value} {n' : Nat} {M' : AH} (hw : Vw R Z A S) (h8 : Z 8 ≤ 64) (hT : S 9 = 1 → MdT R P Z (trOf A S)) (hc : c = KC) (hx : KC = 0 → X = Y) (h : MReW n M0 am R P Z (.double X) c r n' M') : PoD am n M0 KC Y A S r n' M' := by
  obtain ⟨h1, h2, ⟨w, hww, h3⟩, h4⟩ := h
  obtain ⟨w1, w2, w3, w4, z1, z3, z7⟩ := hw
  exact ⟨X, upAN R 8 w, P, upN Z 0 c, h1, h2, h3, hc, hx, ⟨⟨w1, w2, w3, w4, z1, z3, z7⟩, h8, fun q => (hT q).keep ⟨rfl, rfl, rfl⟩, hww⟩, h4⟩
theorem L_fitness (n : Nat) (M0 : AH) {ax : Nat} {A : Nat → Nat → Nat} {S : Nat → Nat} (hn : ax + 139 ≤ n) (hI : ClsI M0 ax A S) (ho : ∃ f, M0 (ax + 138) = some (cD 1 f)) : Fw yL_fitness cL_fitness 3 (some .int) [(0, 7, 10, 15)] 9 [.ref ax, .ref (ax + 138)] n M0 1 6 (PoF ax n M0 (kcH S) (fiF (fiW A S) (S 5)) A S) := by
  obtain ⟨hX, hok, -⟩ := id hI
  obtain ⟨C, Q, hm⟩ := hI.mt
  obtain ⟨f0, ho⟩ := ho
  have hG := trOf_grown hok
  obtain ⟨-, m5, -, -, m2, m3, -⟩ := id hok
  have hF := Fx.post (c_fitness n M0 (W := fiW A S) hX hok hm hG.kd hG.1.1 (fun t ht wd en _ _ => mt_iw hG (iwG_8 hG) (fun _ _ => by decide) (fun j hj => m2 _ (by have := m3 t (by omega); omega)) (m3 t (by omega)))) (post' := fun r n' M' => ∃ x, r = some (.double x) ∧ (x = fiF (fiW A S) (S 5) ∧ n' = n ∧ MtL M0 M' ax (trOf A S) ∧ S 9 = 1)) (xpost' := fun E n' M' => (E = ISE ∧ (n ≤ n' ∧ M' = M0 ∧ S 9 = 0))) (fun r n' M' h => ⟨_, h.1, rfl, h.2⟩) (fun E n' M' h => h)
  refine Fw.post (W_fitness n M0 (X1 := fun n' M' => n ≤ n' ∧ M' = M0 ∧ S 9 = 0) (o := ax + 138) (f0 := f0) (hX.at 0 rfl) hF (fun x n' M' q => (q.2.2.1.2 _ (by omega) (by omega)).trans ho)) (fun r n' M' h => ?_)
  rcases h with ⟨x, M1, f, hr, ⟨q1, q2, q3, q4⟩, hf, hx, hag⟩ | ⟨hr, q1, q2, q3⟩
  · unfold kcH
    rw [if_pos q4]
    exact ⟨hr, by omega, (hI.mtl q3 q4).keep (fun q a1 a2 => hag q (by omega)), ⟨f, hf, fun _ => hx.trans q1⟩, fun q a1 a2 a3 => (hag q a3).trans (q3.2 q (by omega) (by omega))⟩
  · unfold kcH
    rw [if_neg (by omega)]
    subst q2
    exact ⟨hr, q1, hI, ⟨f0, ho, fun h => (by cases h)⟩, fun q _ _ _ => rfl⟩
theorem D_fitness (n : Nat) (M0 : AH) {am : Nat} {R A : Nat → Nat → Nat} {S Z : Nat → Nat} {P : Nat → Int} (hM : Cl M0 am (modC am R P Z)) (hw : Vw R Z A S) (h8 : Z 8 ≤ 64) (hT : S 9 = 1 → MdT R P Z (trOf A S)) (hw8 : ∀ i, i < 12 → R 8 i < 8) (hok : MnOk A S) : Fn yX4_fitness cX4_fitness 3 (some .double) 1801 [.ref am] n M0 0 0 (PoD am n M0 (kcH S) (fiF (fiW A S) (S 5)) A S) := by
  obtain ⟨w1, w2, w3, w4, z1, z3, z7⟩ := id hw
  have hG := trOf_grown hok
  obtain ⟨-, m5, -, -, m2, m3, -⟩ := id hok
  refine Fn.post (m_fitness n M0 (nd := trOf A S) (W := fiW A S) hM (hw.ok hok) (fun h => hT (by rw [← z7]; exact h)) hG.ndq hw8 (iwG_8 hG) (fun t ht w hww => ?_)) (fun r n' M' h => ?_)
  · rw [z3] at ht
    unfold fiW
    rw [w2, w3, Nat.mul_comm 12]
    exact iw_tail hG (iwG_8 hG) hww (fun _ _ => by decide) (fun j hj => m2 _ (by have := m3 t (by omega); omega)) (m3 t (by omega))
  · rw [z7, z3] at h
    unfold kcH
    rcases h with ⟨c, h⟩ | ⟨c, h⟩
    · rw [if_pos c]
      exact toDW hw h8 hT rfl (fun _ => rfl) h
    · rw [if_neg (by omega)]
      exact toDW hw h8 hT rfl (fun q => (by cases q)) h
end LAWF
