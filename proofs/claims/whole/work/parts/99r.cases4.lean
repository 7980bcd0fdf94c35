section CASES4
set_option maxRecDepth 100000 in
set_option maxHeartbeats 4000000 in
theorem k_words {g : GT} {d mc ms k z n ax b N i : Nat} {M : AH} {xs : Nat → Int32} {A : Nat → Nat → Nat} {S : Nat → Nat} (G : Cx g "ProcessMinerLaw" cL_law 9 d mc ms) (hd : 1900 ≤ d) (hXs : va_X b N xs (gs g) (gs g).heap) (hb : b < glo g) (hN : N ≤ 1536) (hi : i + 3 ≤ N) (hn : ax + 139 ≤ n) (hI : ClsI M ax A S) (hM : MdlI M (ax + 128) A S) (ho : OutI M (ax + 137)) (hk : k + 3 ≤ mc) (hz : z + 18 ≤ ms) (kend : LawEnd g ax b i (k + 3) (z + 18)) : J g k z n M (lawL b ax i none none none) 1387 [] := by
  have hok := hI.2.1
  obtain ⟨v, ev, hv⟩ := int_self (xs (i + 1))
  refine J.aload_n (pc := 1387) G dL_law_1387 rfl ?_
  refine J.aload_n (pc := 1388) G dL_law_1388 rfl ?_
  refine J.iload (pc := 1389) G dL_law_1389 rfl ?_
  refine J.iconstN (pc := 1391) G dL_law_1391 1 rfl ?_
  refine J.iaddN (pc := 1392) G dL_law_1392 ?_
  refine J.sld (pc := 1393) G hXs hb dL_law_1393 (i + 1) rfl (by omega) (by omega) ?_
  rw [ev]
  refine J.aload_n (pc := 1394) G dL_law_1394 rfl ?_
  refine J.callW (pc := 1395) (na := 3) G (L_words n M hn hI ho.1 hv) q674 q675 q676 q0 (by decide +kernel) dL_law_1395 rfl (Nat.le_of_ble_eq_true rfl) rfl ⟨by omega, by decide, by omega, by omega⟩ ?_
  rintro r9 n1 M1 ⟨hr9, hn1, hI1, ⟨f1, ho1, hy1⟩, hfr1⟩
  subst hr9
  dsimp only [Option.toList, List.cons_append, List.nil_append]
  obtain ⟨R, P, Z, hM0, hw, h8, hT, hw8⟩ := hM.keep (fun q a1 a2 => hfr1 q (by omega) (by omega) (by omega))
  refine J.istore (L' := [_, _, _, _, _, _, _, _, _]) (pc := 1398) G dL_law_1398 rfl (Nat.le_of_ble_eq_true rfl) rfl ?_
  refine J.aload_n (pc := 1400) G dL_law_1400 rfl ?_
  refine J.aload_n (pc := 1401) G dL_law_1401 rfl ?_
  refine J.iload (pc := 1402) G dL_law_1402 rfl ?_
  refine J.iconstN (pc := 1404) G dL_law_1404 1 rfl ?_
  refine J.iaddN (pc := 1405) G dL_law_1405 ?_
  refine J.sld (pc := 1406) G hXs hb dL_law_1406 (i + 1) rfl (by omega) (by omega) ?_
  rw [ev]
  refine J.callV (pc := 1407) (na := 1) G (D_words n1 M1 hM0 hw h8 hT hw8 hok hv) q975 q976 q977 q978 q5 (by decide +kernel) dL_law_1407 (hM0.at 0 rfl) rfl rfl (Nat.le_of_ble_eq_true rfl) rfl ⟨by omega, by decide, by omega, by omega⟩ ?_
  rintro r9 n9 M2 ⟨x, R2, P2, Z2, hr9, hn9, hM2, hc2, hx2, hin2, hfr2⟩
  dsimp only [Option.toList, List.cons_append, List.nil_append]
  subst hr9
  subst hn9
  dsimp only [Option.toList, List.cons_append, List.nil_append]
  have hI2 : ClsI M2 ax (A) (S) := hI1.keep (fun q a1 a2 => hfr2 q (by omega))
  have ho2 : M2 (ax + 137) = some (cJ 1 f1) := (hfr2 _ (by omega)).trans ho1
  have hoI : OutI M2 (ax + 137) := ⟨⟨f1, ho2⟩, by
    obtain ⟨f9, h9⟩ := ho.2
    exact ⟨f9, (hfr2 _ (by omega)).trans ((hfr1 _ (by omega) (by omega) (by omega)).trans h9)⟩⟩
  have hMd : MdlI M2 (ax + 128) (A) (S) := ⟨R2, P2, Z2, hM2, hin2⟩
  refine J.istore (L' := [_, _, _, _, _, _, _, _, _]) (pc := 1410) G dL_law_1410 rfl (Nat.le_of_ble_eq_true rfl) rfl ?_
  refine J.aload_n (pc := 1412) G dL_law_1412 rfl ?_
  refine J.callV (pc := 1413) (na := 0) G (m_thrown n9 M2 hM2) q735 q736 q737 q738 q5 (by decide +kernel) dL_law_1413 (hM2.at 0 rfl) rfl rfl (Nat.le_of_ble_eq_true rfl) rfl ⟨by omega, by decide, by omega, by omega⟩ ?_
  rintro r9 n9 M9 ⟨hr9, hn9, hM9⟩
  subst hr9
  rw [hn9, hM9]
  clear hn9 hM9 n9 M9
  dsimp only [Option.toList, List.cons_append, List.nil_append]
  rw [hc2]
  generalize hkc : kcW S v = KC at *
  have hkc2 : KC ≤ 2 := by
    rw [← hkc]
    unfold kcW
    (try split) <;> (try split) <;> omega
  refine J.iload (pc := 1416) G dL_law_1416 rfl ?_
  refine J.icmp_eqN (pc := 1418) (tgt := 1423) G dL_law_1418 (by decide) (by omega) (by omega) (fun _ => ?_) (fun h => absurd rfl h)
  refine J.iload (pc := 1423) G dL_law_1423 rfl ?_
  refine J.if_neN (pc := 1425) (tgt := 1440) G dL_law_1425 (by decide) (by omega) (fun h => ?_) (fun h => ?_)
  · refine J.goto (pc := 1440) (tgt := 1457) G dL_law_1440 (by decide) ?_
    exact kend.to (by omega) (by omega) (by omega) hI2 hMd hoI
  · refine J.aload_n (pc := 1428) G dL_law_1428 rfl ?_
    refine J.iconstN (pc := 1429) G dL_law_1429 0 rfl ?_
    refine J.lald (pc := 1430) G dL_law_1430 ho2 0 rfl (by decide) (by decide) ?_
    refine J.iload (pc := 1431) G dL_law_1431 rfl ?_
    refine J.i2l (pc := 1433) G dL_law_1433 ?_
    rw [hy1 (by omega), hx2 (by omega)]
    refine J.lcmp (pc := 1434) G dL_law_1434 ?_
    rw [cmp_same]
    refine J.if_eq (pc := 1435) (tgt := 1440) G dL_law_1435 (by decide) (by decide) (by decide) (fun _ => ?_) (fun h => absurd rfl h)
    refine J.goto (pc := 1440) (tgt := 1457) G dL_law_1440 (by decide) ?_
    exact kend.to (by omega) (by omega) (by omega) hI2 hMd hoI
end CASES4
