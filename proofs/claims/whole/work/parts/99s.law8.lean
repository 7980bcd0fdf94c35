section LAW8
theorem J.icmp_eq_r {g : GT} {ow : String} {cc : ByteArray} {nL d mc ms k z n pc : Nat} {M : AH} {L : List (Option Value)} {st : List Value} (G : Cx g ow cc nL d mc ms) {x y : Int32} {off : Int} {tgt : Nat} (hd : decode cc pc = .ok (.if_icmp .eq off, 3)) (ht : (pc : Int) + off = (tgt : Int)) (kt : x = y → J g k z n M L tgt st) (kf : x ≠ y → J g k z n M L (pc + 3) st) : J g k z n M L pc (.int y :: .int x :: st) := by
  intro H locs ls hR hS hl
  exact lv_icmp_eq G.exec G.bytes hd ht (fun h => kt h H locs ls hR hS hl) (fun h => kf h H locs ls hR hS hl)
/-- after a call of the model that throws nothing -/
def PoN (am n : Nat) (M : AH) (X : Value) (A : Nat → Nat → Nat) (S : Nat → Nat) : Option Value → Nat → AH → Prop := fun r n' M' => r = some X ∧ n' = n ∧ MdlI M' am A S ∧ Fr am (am + 9) M M'
theorem toN {am n c : Nat} {M0 : AH} {A R : Nat → Nat → Nat} {S Z : Nat → Nat} {P : Nat → Int} {X : Value} {r : Option Value} {n' : Nat} {M' : AH} (hw : Vw R Z A S) (h8 : Z 8 ≤ 64) (hT : S 9 = 1 → MdT R P Z (trOf A S)) (hw8 : ∀ i, i < 12 → R 8 i < 8) (h : MRead n M0 am R P Z X c r n' M') : PoN am n M0 X A S r n' M' := by
  obtain ⟨h1, h2, h3, h4⟩ := h
  obtain ⟨w1, w2, w3, w4, z1, z3, z7⟩ := hw
  exact ⟨h1, h2, ⟨R, P, upN Z 0 c, h3, ⟨w1, w2, w3, w4, z1, z3, z7⟩, h8, fun q => (hT q).keep ⟨rfl, rfl, rfl⟩, hw8⟩, h4⟩
theorem D_traceCount (n : Nat) (M0 : AH) {am : Nat} {R A : Nat → Nat → Nat} {S Z : Nat → Nat} {P : Nat → Int} (hM : Cl M0 am (modC am R P Z)) (hw : Vw R Z A S) (h8 : Z 8 ≤ 64) (hT : S 9 = 1 → MdT R P Z (trOf A S)) (hw8 : ∀ i, i < 12 → R 8 i < 8) (hok : MnOk A S) : Fn yX4_traceCount cX4_traceCount 1 (some .int) 0 [.ref am] n M0 0 0 (PoN am n M0 (.int (iI ((S 5 : Nat) : Int))) A S) := by
  refine Fn.post (m_traceCount n M0 hM hw) (fun r n' M' h => ?_)
  obtain ⟨h1, h2, x, R', Z', h3, h4, ⟨k5, k7, k8, k9⟩, A', S', hv, q1, q2, q3⟩ := h
  subst q2; subst q3; subst q1
  exact ⟨h3, h1, ⟨R', P, Z', h4, hv, by rw [k8]; exact h8, fun q => (hT q).keep ⟨k5, k7, k8⟩, by rw [k9]; exact hw8⟩, h2⟩
theorem D_labels (n : Nat) (M0 : AH) {am : Nat} {R A : Nat → Nat → Nat} {S Z : Nat → Nat} {P : Nat → Int} (hM : Cl M0 am (modC am R P Z)) (hw : Vw R Z A S) (h8 : Z 8 ≤ 64) (hT : S 9 = 1 → MdT R P Z (trOf A S)) (hw8 : ∀ i, i < 12 → R 8 i < 8) (hok : MnOk A S) : Fn yX4_labels cX4_labels 4 (some .int) 0 [.ref am] n M0 0 0 (PoN am n M0 (.int (iI (((mL (lgOf A S)).1 : Nat) : Int))) A S) := by
  obtain ⟨w1, w2, w3, w4, z1, z3, z7⟩ := id hw
  refine Fn.post (m_labels n M0 hM (hw.ok hok)) (fun r n' M' h => ?_)
  rw [w4, w3, w2, z3, ← lb_eq] at h
  exact toN hw h8 hT hw8 h
theorem D_variants (n : Nat) (M0 : AH) {am : Nat} {R A : Nat → Nat → Nat} {S Z : Nat → Nat} {P : Nat → Int} (hM : Cl M0 am (modC am R P Z)) (hw : Vw R Z A S) (h8 : Z 8 ≤ 64) (hT : S 9 = 1 → MdT R P Z (trOf A S)) (hw8 : ∀ i, i < 12 → R 8 i < 8) (hok : MnOk A S) : Fn yX4_variants cX4_variants 7 (some .int) 0 [.ref am] n M0 0 0 (PoN am n M0 (.int (iI ((vaF A (S 5) : Nat) : Int))) A S) := by
  obtain ⟨w1, w2, w3, w4, z1, z3, z7⟩ := id hw
  refine Fn.post (m_variants n M0 hM (hw.ok hok)) (fun r n' M' h => ?_)
  rw [w4, w3, w2, z3, ← va_eq] at h
  exact toN hw h8 hT hw8 h
theorem D_digest (n : Nat) (M0 : AH) {am : Nat} {R A : Nat → Nat → Nat} {S Z : Nat → Nat} {P : Nat → Int} (hM : Cl M0 am (modC am R P Z)) (hw : Vw R Z A S) (h8 : Z 8 ≤ 64) (hT : S 9 = 1 → MdT R P Z (trOf A S)) (hw8 : ∀ i, i < 12 → R 8 i < 8) (hok : MnOk A S) : Fn yX4_digest cX4_digest 5 (some .long) 1 [.ref am] n M0 0 0 (PoN am n M0 (.long (dgF A S (trOf A S))) A S) := by
  have z7 := hw.2.2.2.2.2.2
  refine Fn.post (m_digest n M0 (nd := trOf A S) hM (hw.ok hok) (fun h => hT (by rw [← z7]; exact h))) (fun r n' M' h => ?_)
  rw [← dg_eq hw] at h
  exact toN hw h8 hT hw8 h
set_option maxRecDepth 100000 in
set_option maxHeartbeats 4000000 in
theorem k_traceCount {g : GT} {d mc ms k z n ax b N i : Nat} {M : AH} {xs : Nat → Int32} {A : Nat → Nat → Nat} {S : Nat → Nat} (G : Cx g "ProcessMinerLaw" cL_law 9 d mc ms) (hd : 1900 ≤ d) (hXs : va_X b N xs (gs g) (gs g).heap) (hb : b < glo g) (hN : N ≤ 1536) (hi : i + 3 ≤ N) (hn : ax + 139 ≤ n) (hI : ClsI M ax A S) (hM : MdlI M (ax + 128) A S) (ho : OutI M (ax + 137)) (hk : k + 3 ≤ mc) (hz : z + 18 ≤ ms) (kend : LawEnd g ax b i (k + 3) (z + 18)) : J g k z n M (lawL b ax i none none none) 388 [] := by
  obtain ⟨hX, hok, -⟩ := id hI
  obtain ⟨R, P, Z, hM0, hw, h8, hT, hw8⟩ := hM
  refine J.aload_n (pc := 388) G dL_law_388 rfl ?_
  refine J.callV (pc := 389) (na := 0) G (c_traceCount n M hX) q166 q167 q168 q169 q1 (by decide +kernel) dL_law_389 (hX.at 0 rfl) rfl rfl (Nat.le_of_ble_eq_true rfl) rfl ⟨by omega, by decide, by omega, by omega⟩ ?_
  rintro r9 n9 M9 ⟨hr9, hn9, hM9⟩
  subst hr9
  rw [hn9, hM9]
  clear hn9 hM9 n9 M9
  dsimp only [Option.toList, List.cons_append, List.nil_append]
  refine J.aload_n (pc := 392) G dL_law_392 rfl ?_
  refine J.callV (pc := 393) (na := 0) G (D_traceCount n M hM0 hw h8 hT hw8 hok) q769 q770 q771 q772 q5 (by decide +kernel) dL_law_393 (hM0.at 0 rfl) rfl rfl (Nat.le_of_ble_eq_true rfl) rfl ⟨by omega, by decide, by omega, by omega⟩ ?_
  rintro r8 n8 M2 ⟨hr8, hn8, hMd2, hfr2⟩
  dsimp only [Option.toList, List.cons_append, List.nil_append]
  subst hr8
  subst hn8
  dsimp only [Option.toList, List.cons_append, List.nil_append]
  have hI2 : ClsI M2 ax A S := hI.keep (fun q a1 a2 => hfr2 q (by omega))
  have ho2 : OutI M2 (ax + 137) := by
    obtain ⟨⟨f, hf⟩, ⟨f9, hf9⟩⟩ := ho
    exact ⟨⟨f, (hfr2 _ (by omega)).trans hf⟩, ⟨f9, (hfr2 _ (by omega)).trans hf9⟩⟩
  refine J.icmp_eq_r (pc := 396) (tgt := 1457) G dL_law_396 (by decide) (fun _ => ?_) (fun h => absurd rfl h)
  exact kend.to (by omega) (by omega) (by omega) hI2 hMd2 ho2
set_option maxRecDepth 100000 in
set_option maxHeartbeats 4000000 in
theorem k_labels {g : GT} {d mc ms k z n ax b N i : Nat} {M : AH} {xs : Nat → Int32} {A : Nat → Nat → Nat} {S : Nat → Nat} (G : Cx g "ProcessMinerLaw" cL_law 9 d mc ms) (hd : 1900 ≤ d) (hXs : va_X b N xs (gs g) (gs g).heap) (hb : b < glo g) (hN : N ≤ 1536) (hi : i + 3 ≤ N) (hn : ax + 139 ≤ n) (hI : ClsI M ax A S) (hM : MdlI M (ax + 128) A S) (ho : OutI M (ax + 137)) (hk : k + 3 ≤ mc) (hz : z + 18 ≤ ms) (kend : LawEnd g ax b i (k + 3) (z + 18)) : J g k z n M (lawL b ax i none none none) 525 [] := by
  obtain ⟨hX, hok, -⟩ := id hI
  obtain ⟨R, P, Z, hM0, hw, h8, hT, hw8⟩ := hM
  refine J.aload_n (pc := 525) G dL_law_525 rfl ?_
  refine J.callV (pc := 526) (na := 0) G (c_labels n M hX hok hI.lg0) q170 q171 q172 q173 q1 (by decide +kernel) dL_law_526 (hX.at 0 rfl) rfl rfl (Nat.le_of_ble_eq_true rfl) rfl ⟨by omega, by decide, by omega, by omega⟩ ?_
  rintro r9 n9 M1 ⟨hr9, hn9, hL1, hfr1⟩
  dsimp only [Option.toList, List.cons_append, List.nil_append]
  subst hr9
  subst hn9
  dsimp only [Option.toList, List.cons_append, List.nil_append]
  have hI1 := hI.log0 hL1 hfr1
  have hM1 := hM0.fr hfr1 (Or.inr (by omega))
  have ho1 : OutI M1 (ax + 137) := by
    obtain ⟨⟨f, hf⟩, ⟨f9, hf9⟩⟩ := ho
    exact ⟨⟨f, (hfr1 _ (by omega)).trans hf⟩, ⟨f9, (hfr1 _ (by omega)).trans hf9⟩⟩
  refine J.aload_n (pc := 529) G dL_law_529 rfl ?_
  refine J.callV (pc := 530) (na := 0) G (D_labels n9 M1 hM1 hw h8 hT hw8 hok) q781 q782 q783 q784 q5 (by decide +kernel) dL_law_530 (hM1.at 0 rfl) rfl rfl (Nat.le_of_ble_eq_true rfl) rfl ⟨by omega, by decide, by omega, by omega⟩ ?_
  rintro r8 n8 M2 ⟨hr8, hn8, hMd2, hfr2⟩
  dsimp only [Option.toList, List.cons_append, List.nil_append]
  subst hr8
  subst hn8
  dsimp only [Option.toList, List.cons_append, List.nil_append]
  have hI2 : ClsI M2 ax A S := hI1.keep (fun q a1 a2 => hfr2 q (by omega))
  have ho2 : OutI M2 (ax + 137) := by
    obtain ⟨⟨f, hf⟩, ⟨f9, hf9⟩⟩ := ho1
    exact ⟨⟨f, (hfr2 _ (by omega)).trans hf⟩, ⟨f9, (hfr2 _ (by omega)).trans hf9⟩⟩
  refine J.icmp_eq_r (pc := 533) (tgt := 1457) G dL_law_533 (by decide) (fun _ => ?_) (fun h => absurd rfl h)
  exact kend.to (by omega) (by omega) (by omega) hI2 hMd2 ho2
set_option maxRecDepth 100000 in
set_option maxHeartbeats 4000000 in
theorem k_variants {g : GT} {d mc ms k z n ax b N i : Nat} {M : AH} {xs : Nat → Int32} {A : Nat → Nat → Nat} {S : Nat → Nat} (G : Cx g "ProcessMinerLaw" cL_law 9 d mc ms) (hd : 1900 ≤ d) (hXs : va_X b N xs (gs g) (gs g).heap) (hb : b < glo g) (hN : N ≤ 1536) (hi : i + 3 ≤ N) (hn : ax + 139 ≤ n) (hI : ClsI M ax A S) (hM : MdlI M (ax + 128) A S) (ho : OutI M (ax + 137)) (hk : k + 3 ≤ mc) (hz : z + 18 ≤ ms) (kend : LawEnd g ax b i (k + 3) (z + 18)) : J g k z n M (lawL b ax i none none none) 790 [] := by
  obtain ⟨hX, hok, -⟩ := id hI
  obtain ⟨R, P, Z, hM0, hw, h8, hT, hw8⟩ := hM
  refine J.aload_n (pc := 790) G dL_law_790 rfl ?_
  refine J.callV (pc := 791) (na := 0) G (c_variants n M hX hok) q202 q203 q204 q205 q1 (by decide +kernel) dL_law_791 (hX.at 0 rfl) rfl rfl (Nat.le_of_ble_eq_true rfl) rfl ⟨by omega, by decide, by omega, by omega⟩ ?_
  rintro r9 n9 M9 ⟨hr9, hn9, hM9⟩
  subst hr9
  rw [hn9, hM9]
  clear hn9 hM9 n9 M9
  dsimp only [Option.toList, List.cons_append, List.nil_append]
  refine J.aload_n (pc := 794) G dL_law_794 rfl ?_
  refine J.callV (pc := 795) (na := 0) G (D_variants n M hM0 hw h8 hT hw8 hok) q808 q809 q810 q811 q5 (by decide +kernel) dL_law_795 (hM0.at 0 rfl) rfl rfl (Nat.le_of_ble_eq_true rfl) rfl ⟨by omega, by decide, by omega, by omega⟩ ?_
  rintro r8 n8 M2 ⟨hr8, hn8, hMd2, hfr2⟩
  dsimp only [Option.toList, List.cons_append, List.nil_append]
  subst hr8
  subst hn8
  dsimp only [Option.toList, List.cons_append, List.nil_append]
  have hI2 : ClsI M2 ax A S := hI.keep (fun q a1 a2 => hfr2 q (by omega))
  have ho2 : OutI M2 (ax + 137) := by
    obtain ⟨⟨f, hf⟩, ⟨f9, hf9⟩⟩ := ho
    exact ⟨⟨f, (hfr2 _ (by omega)).trans hf⟩, ⟨f9, (hfr2 _ (by omega)).trans hf9⟩⟩
  refine J.icmp_eq_r (pc := 798) (tgt := 1457) G dL_law_798 (by decide) (fun _ => ?_) (fun h => absurd rfl h)
  exact kend.to (by omega) (by omega) (by omega) hI2 hMd2 ho2
set_option maxRecDepth 100000 in
set_option maxHeartbeats 4000000 in
theorem k_digest {g : GT} {d mc ms k z n ax b N i : Nat} {M : AH} {xs : Nat → Int32} {A : Nat → Nat → Nat} {S : Nat → Nat} (G : Cx g "ProcessMinerLaw" cL_law 9 d mc ms) (hd : 1900 ≤ d) (hXs : va_X b N xs (gs g) (gs g).heap) (hb : b < glo g) (hN : N ≤ 1536) (hi : i + 3 ≤ N) (hn : ax + 139 ≤ n) (hI : ClsI M ax A S) (hM : MdlI M (ax + 128) A S) (ho : OutI M (ax + 137)) (hk : k + 3 ≤ mc) (hz : z + 18 ≤ ms) (kend : LawEnd g ax b i (k + 3) (z + 18)) : J g k z n M (lawL b ax i none none none) 1443 [] := by
  obtain ⟨hX, hok, -⟩ := id hI
  obtain ⟨R, P, Z, hM0, hw, h8, hT, hw8⟩ := hM
  obtain ⟨-, -, -, ⟨nd, B, PP, T, hTr, hnd, hgo, h9⟩, -⟩ := id hI
  have hnd9 : S 9 = 1 → TreeIs B PP T (trOf A S) := fun h => by rw [← h9 h]; exact hnd
  refine J.aload_n (pc := 1443) G dL_law_1443 rfl ?_
  refine J.callV (pc := 1444) (na := 0) G (c_digest n M hX hok hTr hnd9) q318 q319 q320 q321 q1 (by decide +kernel) dL_law_1444 (hX.at 0 rfl) rfl rfl (Nat.le_of_ble_eq_true rfl) rfl ⟨by omega, by decide, by omega, by omega⟩ ?_
  rintro r9 n9 M9 ⟨hr9, hn9, hM9⟩
  subst hr9
  rw [hn9, hM9]
  clear hn9 hM9 n9 M9
  dsimp only [Option.toList, List.cons_append, List.nil_append]
  refine J.aload_n (pc := 1447) G dL_law_1447 rfl ?_
  refine J.callV (pc := 1448) (na := 0) G (D_digest n M hM0 hw h8 hT hw8 hok) q979 q980 q981 q982 q5 (by decide +kernel) dL_law_1448 (hM0.at 0 rfl) rfl rfl (Nat.le_of_ble_eq_true rfl) rfl ⟨by omega, by decide, by omega, by omega⟩ ?_
  rintro r8 n8 M2 ⟨hr8, hn8, hMd2, hfr2⟩
  dsimp only [Option.toList, List.cons_append, List.nil_append]
  subst hr8
  subst hn8
  dsimp only [Option.toList, List.cons_append, List.nil_append]
  have hI2 : ClsI M2 ax A S := hI.keep (fun q a1 a2 => hfr2 q (by omega))
  have ho2 : OutI M2 (ax + 137) := by
    obtain ⟨⟨f, hf⟩, ⟨f9, hf9⟩⟩ := ho
    exact ⟨⟨f, (hfr2 _ (by omega)).trans hf⟩, ⟨f9, (hfr2 _ (by omega)).trans hf9⟩⟩
  refine J.lcmp (pc := 1451) G dL_law_1451 ?_
  rw [cmp_same]
  refine J.if_eq (pc := 1452) (tgt := 1457) G dL_law_1452 (by decide) (by decide) (by decide) (fun _ => ?_) (fun h => absurd rfl h)
  exact kend.to (by omega) (by omega) (by omega) hI2 hMd2 ho2
end LAW8
