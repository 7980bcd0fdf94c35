section LAW9
def mC (S : Nat → Nat) : Nat := if S 9 = 0 then 2315 else 0
def mS (S : Nat → Nat) : Nat := if S 9 = 0 then 20448 else 0
theorem ClsI.mined {M M' : AH} {ax : Nat} {A : Nat → Nat → Nat} {S : Nat → Nat} (h : ClsI M ax A S) (hX : Cl M' ax (minC ax A (upN S 9 1))) (hT : ∃ B' P' T', Cl M' (ax + 7) (treeC (ax + 7) B' P' T') ∧ TreeIs B' P' T' (trOf A S)) (hL : LogsAt M' (ax + 16)) (hm : ∀ q, (q = ax + 6 ∨ ax + 14 ≤ q) → q < ax + 16 → M' q = M q) : ClsI M' ax A (upN S 9 1) := by
  obtain ⟨h1, h2, h3, -, ⟨C, Q, h8, h10⟩⟩ := h
  obtain ⟨B, P, T, t1, t2⟩ := hT
  exact ⟨hX, h2.mi, hL, ⟨_, B, P, T, t1, t2, Or.inr (trOf_grown h2), fun _ => rfl⟩, ⟨C, Q, ⟨(hm _ (Or.inl rfl) (by omega)).trans h8.1, (hm _ (Or.inr (by omega)) (by omega)).trans h8.2.1, (hm _ (Or.inr (by omega)) (by omega)).trans h8.2.2⟩, h10⟩⟩
theorem D_mine (n : Nat) (M0 : AH) {am : Nat} {R A : Nat → Nat → Nat} {S Z : Nat → Nat} {P : Nat → Int} (hM : Cl M0 am (modC am R P Z)) (hw : Vw R Z A S) (hT : S 9 = 1 → MdT R P Z (trOf A S)) (hw8 : ∀ i, i < 12 → R 8 i < 8) (hok : MnOk A S) : Fn yX4_mine cX4_mine 5 (some .int) 40 [.ref am] n M0 (mC S) (mS S) (fun r n' M' => r = some (.int (iI (((trOf A S).length : Nat) : Int))) ∧ n ≤ n' ∧ MdlI M' am A (upN S 9 1) ∧ FrM am n M0 M') := by
  have hg := lgOf_goodM hok
  have hG := trOf_grown hok
  obtain ⟨w1, w2, w3, w4, z1, z3, z7⟩ := id hw
  obtain ⟨hc1, hc2⟩ := cost_root (f := 15) (lgOf_goodN hok).1 (lgOf_goodN hok).2
  rw [show 15 + 1 = 16 from rfl] at hc1 hc2
  refine Fn.post (m_mine n M0 (fun tr h => cutQ h) hM hw hok (fun h => ?_) (dp_root hg) (tree_grown hg).1 (fun h => ?_) (fun h => ?_)) (fun r n' M' h => ?_)
  · obtain ⟨t1, t2, t3, t4⟩ := hT (by rw [← z7]; exact h)
    exact ⟨t1, t3⟩
  · unfold mC
    rw [if_pos (by rw [← z7]; exact h)]
    omega
  · unfold mS
    rw [if_pos (by rw [← z7]; exact h)]
    omega
  · obtain ⟨h1, h2, ⟨R', P', Z', h3, ⟨g1, g2⟩, k1, k2, k3, k4⟩, h5⟩ := h
    refine ⟨h1, h2, ⟨R', P', Z', h3, ⟨(k1 1 (by decide) (by decide)).trans w1, (k1 4 (by decide) (by decide)).trans w2, (k1 3 (by decide) (by decide)).trans w3, (k1 2 (by decide) (by decide)).trans w4, (k2 1 (by decide) (by decide) (by decide)).trans z1, (k2 3 (by decide) (by decide) (by decide)).trans z3, k4⟩, by rw [g1]; exact hG.1.2, fun _ => ⟨g1, hG.1.2, g2, hG.2.2.1⟩, by rw [k1 8 (by decide) (by decide)]; exact hw8⟩, h5⟩
set_option maxRecDepth 100000 in
set_option maxHeartbeats 4000000 in
theorem k_mine {g : GT} {d mc ms k z n ax b i : Nat} {M : AH} {A : Nat → Nat → Nat} {S : Nat → Nat} (G : Cx g "ProcessMinerLaw" cL_law 9 d mc ms) (hd : 1900 ≤ d) (hn : ax + 139 ≤ n) (hI : ClsI M ax A S) (hM : MdlI M (ax + 128) A S) (ho : OutI M (ax + 137)) (hk : k + mC S ≤ mc) (hz : z + mS S ≤ ms) (kend : ∀ n M A' S', ax + 139 ≤ n → ClsI M ax A' S' → MdlI M (ax + 128) A' S' → OutI M (ax + 137) → S' 9 = 1 → J g (k + mC S) (z + mS S) n M (lawL b ax i none none none) 1457 []) : J g k z n M (lawL b ax i none none none) 803 [] := by
  obtain ⟨hX, hok, hLs, ⟨nd, B, PP, T, hTr, hnd, hgo, h9⟩, -⟩ := id hI
  obtain ⟨R, P, Z, hM0, hw, h8, hT, hw8⟩ := hM
  have hg := lgOf_goodM hok
  refine J.aload_n (pc := 803) G dL_law_803 rfl ?_
  refine J.callV (pc := 804) (na := 0) G (c_mine n M hX hok hLs hTr (fun h => by rw [← h9 h]; exact hnd) (tree_grown hg).1) q214 q215 q216 q217 q1 (by decide +kernel) dL_law_804 (hX.at 0 rfl) rfl rfl (Nat.le_of_ble_eq_true rfl) rfl ⟨by omega, by decide, by omega, by omega⟩ ?_
  rintro r9 n9 M1 ⟨hr9, hn9, hX1, hT1, hL1, hm1, hfr1⟩
  dsimp only [Option.toList, List.cons_append, List.nil_append]
  subst hr9
  subst hn9
  dsimp only [Option.toList, List.cons_append, List.nil_append]
  have hI1 := hI.mined hX1 hT1 hL1 hm1
  have hM1 := hM0.fr hfr1 (Or.inr (by omega))
  have ho1 : OutI M1 (ax + 137) := by
    obtain ⟨⟨f, hf⟩, ⟨f9, hf9⟩⟩ := ho
    exact ⟨⟨f, (hfr1 _ (by omega)).trans hf⟩, ⟨f9, (hfr1 _ (by omega)).trans hf9⟩⟩
  refine J.aload_n (pc := 807) G dL_law_807 rfl ?_
  refine J.callV (pc := 808) (na := 0) G (D_mine n9 M1 hM1 hw hT hw8 hok) q812 q813 q814 q815 q5 (by decide +kernel) dL_law_808 (hM1.at 0 rfl) rfl rfl (Nat.le_of_ble_eq_true rfl) rfl ⟨by omega, by decide, by omega, by omega⟩ ?_
  rintro r8 n8 M2 ⟨hr8, hn8, hMd2, hfr2⟩
  dsimp only [Option.toList, List.cons_append, List.nil_append]
  subst hr8
  dsimp only [Option.toList, List.cons_append, List.nil_append]
  have hI2 : ClsI M2 ax A (upN S 9 1) := hI1.keep (fun q a1 a2 => hfr2 q (by omega) (by omega))
  have ho2 : OutI M2 (ax + 137) := by
    obtain ⟨⟨f, hf⟩, ⟨f9, hf9⟩⟩ := ho1
    exact ⟨⟨f, (hfr2 _ (by omega) (by omega)).trans hf⟩, ⟨f9, (hfr2 _ (by omega) (by omega)).trans hf9⟩⟩
  refine J.icmp_eq_r (pc := 811) (tgt := 1457) G dL_law_811 (by decide) (fun _ => ?_) (fun h => absurd rfl h)
  exact kend n8 M2 A (upN S 9 1) (by omega) hI2 hMd2 ho2 rfl
end LAW9
