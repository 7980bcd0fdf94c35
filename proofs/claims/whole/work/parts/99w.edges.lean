section LAWE
theorem D_edges (n : Nat) (M0 : AH) {am : Nat} {e : Bool} {R A : Nat → Nat → Nat} {S Z : Nat → Nat} {P : Nat → Int} (hM : Cl M0 am (modC am R P Z)) (hw : Vw R Z A S) (h8 : Z 8 ≤ 64) (hT : S 9 = 1 → MdT R P Z (trOf A S)) (hw8 : ∀ i, i < 12 → R 8 i < 8) (hok : MnOk A S) : Fn yX4_edges cX4_edges 4 (some .int) 0 [.ref am, .int (bI e)] n M0 0 0 (PoN am n M0 (.int (iI (((if e then (mL (lgOf A S)).2.2.1 else (mL (lgOf A S)).2.1) : Nat) : Int))) A S) := by
  obtain ⟨w1, w2, w3, w4, z1, z3, z7⟩ := id hw
  refine Fn.post (m_edges n M0 hM (hw.ok hok)) (fun r n' M' h => ?_)
  rw [w4, w3, w2, z3, ← ed_eq] at h
  exact toN hw h8 hT hw8 h
set_option maxRecDepth 100000 in
set_option maxHeartbeats 4000000 in
theorem k_edges {g : GT} {d mc ms k z n ax b N i : Nat} {M : AH} {xs : Nat → Int32} {A : Nat → Nat → Nat} {S : Nat → Nat} (G : Cx g "ProcessMinerLaw" cL_law 9 d mc ms) (hd : 1900 ≤ d) (hXs : va_X b N xs (gs g) (gs g).heap) (hb : b < glo g) (hN : N ≤ 1536) (hi : i + 3 ≤ N) (hn : ax + 139 ≤ n) (hI : ClsI M ax A S) (hM : MdlI M (ax + 128) A S) (ho : OutI M (ax + 137)) (hk : k + 3 ≤ mc) (hz : z + 18 ≤ ms) (kend : LawEnd g ax b i (k + 3) (z + 18)) : J g k z n M (lawL b ax i none none none) 606 [] := by
  obtain ⟨hX, hok, -⟩ := id hI
  obtain ⟨R, P, Z, hM0, hw, h8, hT, hw8⟩ := hM
  obtain ⟨v, ev, hv1, hv2⟩ := int_self (xs (i + 1))
  have e0 : v = 0 → bI (decide (v ≠ 0)) = iI ((0 : Nat) : Int) := fun h => by rw [decide_eq_false (fun q => q h)]; decide +kernel
  have e1 : v ≠ 0 → bI (decide (v ≠ 0)) = iI ((1 : Nat) : Int) := fun h => by rw [decide_eq_true h]; decide +kernel
  generalize decide (v ≠ 0) = e at e0 e1
  have K621 : J g k z n M (lawL b ax i none none none) 621 [.int (bI e), .ref ax] := by
    refine J.callV (pc := 621) (na := 1) G (c_edges n M (e := e) hX hok hI.lg0) q198 q199 q200 q201 q1 (by decide +kernel) dL_law_621 (hX.at 0 rfl) rfl rfl (Nat.le_of_ble_eq_true rfl) rfl ⟨by omega, by decide, by omega, by omega⟩ ?_
    rintro r9 n9 M1 ⟨hr9, hn9, hL1, hfr1⟩
    dsimp only [Option.toList, List.cons_append, List.nil_append]
    subst hr9
    subst hn9
    dsimp only [Option.toList, List.cons_append, List.nil_append]
    have hI1 := hI.log0 hL1 hfr1
    have hM1 := hM0.fr hfr1 (Or.inr (by omega))
    have ho1 : OutI M1 (ax + 137) := by
      obtain ⟨⟨f, hf⟩, ⟨f9, hf9⟩⟩ := ho
      exact ⟨⟨f, (hfr1 _ (by omega)).trans hf⟩, ⟨f9, (hfr1 _ (by omega)).trans hf9⟩⟩
    generalize hX9 : iI (((if e then (mL (lgOf A S)).2.2.1 else (mL (lgOf A S)).2.1) : Nat) : Int) = X9
    have K639 : J g k z n9 M1 (lawL b ax i none none none) 639 [.int (bI e), .ref (ax + 128), .int X9] := by
      refine J.callV (pc := 639) (na := 1) G (D_edges n9 M1 (e := e) hM1 hw h8 hT hw8 hok) q793 q794 q795 q796 q5 (by decide +kernel) dL_law_639 (hM1.at 0 rfl) rfl rfl (Nat.le_of_ble_eq_true rfl) rfl ⟨by omega, by decide, by omega, by omega⟩ ?_
      rintro r8 n8 M2 ⟨hr8, hn8, hMd2, hfr2⟩
      dsimp only [Option.toList, List.cons_append, List.nil_append]
      subst hr8
      subst hn8
      dsimp only [Option.toList, List.cons_append, List.nil_append]
      have hI2 : ClsI M2 ax A S := hI1.keep (fun q a1 a2 => hfr2 q (by omega))
      have ho2 : OutI M2 (ax + 137) := by
        obtain ⟨⟨f, hf⟩, ⟨f9, hf9⟩⟩ := ho1
        exact ⟨⟨f, (hfr2 _ (by omega)).trans hf⟩, ⟨f9, (hfr2 _ (by omega)).trans hf9⟩⟩
      rw [hX9]
      refine J.icmp_eq_r (pc := 642) (tgt := 1457) G dL_law_642 (by decide) (fun _ => ?_) (fun h => absurd rfl h)
      exact kend.to (by omega) (by omega) (by omega) hI2 hMd2 ho2
    refine J.aload_n (pc := 624) G dL_law_624 rfl ?_
    refine J.aload_n (pc := 625) G dL_law_625 rfl ?_
    refine J.iload (pc := 626) G dL_law_626 rfl ?_
    refine J.iconstN (pc := 628) G dL_law_628 1 rfl ?_
    refine J.iaddN (pc := 629) G dL_law_629 ?_
    refine J.sld (pc := 630) G hXs hb dL_law_630 (i + 1) rfl (by omega) (by omega) ?_
    rw [ev]
    refine J.if_eq (pc := 631) (tgt := 638) G dL_law_631 (by decide) hv1 hv2 (fun h => ?_) (fun h => ?_)
    · refine J.iconstN (pc := 638) G dL_law_638 0 rfl ?_
      rw [← e0 h]
      exact K639
    · refine J.iconstN (pc := 634) G dL_law_634 1 rfl ?_
      refine J.goto (pc := 635) (tgt := 639) G dL_law_635 (by decide) ?_
      rw [← e1 h]
      exact K639
  refine J.aload_n (pc := 606) G dL_law_606 rfl ?_
  refine J.aload_n (pc := 607) G dL_law_607 rfl ?_
  refine J.iload (pc := 608) G dL_law_608 rfl ?_
  refine J.iconstN (pc := 610) G dL_law_610 1 rfl ?_
  refine J.iaddN (pc := 611) G dL_law_611 ?_
  refine J.sld (pc := 612) G hXs hb dL_law_612 (i + 1) rfl (by omega) (by omega) ?_
  rw [ev]
  refine J.if_eq (pc := 613) (tgt := 620) G dL_law_613 (by decide) hv1 hv2 (fun h => ?_) (fun h => ?_)
  · refine J.iconstN (pc := 620) G dL_law_620 0 rfl ?_
    rw [← e0 h]
    exact K621
  · refine J.iconstN (pc := 616) G dL_law_616 1 rfl ?_
    refine J.goto (pc := 617) (tgt := 621) G dL_law_617 (by decide) ?_
    rw [← e1 h]
    exact K621
end LAWE
