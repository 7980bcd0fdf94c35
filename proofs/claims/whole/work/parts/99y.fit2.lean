section LAWF2
set_option maxRecDepth 100000 in
set_option maxHeartbeats 4000000 in
theorem k_fitness {g : GT} {d mc ms k z n ax b N i : Nat} {M : AH} {xs : Nat → Int32} {A : Nat → Nat → Nat} {S : Nat → Nat} (G : Cx g "ProcessMinerLaw" cL_law 9 d mc ms) (hd : 1900 ≤ d) (hXs : va_X b N xs (gs g) (gs g).heap) (hb : b < glo g) (hN : N ≤ 1536) (hi : i + 3 ≤ N) (hn : ax + 139 ≤ n) (hI : ClsI M ax A S) (hM : MdlI M (ax + 128) A S) (ho : OutI M (ax + 137)) (hk : k + 3 ≤ mc) (hz : z + 18 ≤ ms) (kend : LawEnd g ax b i (k + 3) (z + 18)) : J g k z n M (lawL b ax i none none none) 1322 [] := by
  have hok := hI.2.1
  refine J.aload_n (pc := 1322) G dL_law_1322 rfl ?_
  refine J.aload (pc := 1323) G dL_law_1323 rfl ?_
  refine J.callW (pc := 1325) (na := 2) G (L_fitness n M hn hI ho.2) q667 q668 q669 q0 (by decide +kernel) dL_law_1325 rfl (Nat.le_of_ble_eq_true rfl) rfl ⟨by omega, by decide, by omega, by omega⟩ ?_
  rintro r9 n1 M1 ⟨hr9, hn1, hI1, ⟨f1, ho1, hy1⟩, hfr1⟩
  subst hr9
  dsimp only [Option.toList, List.cons_append, List.nil_append]
  obtain ⟨R, P, Z, hM0, hw, h8, hT, hw8⟩ := hM.keep (fun q a1 a2 => hfr1 q (by omega) (by omega) (by omega))
  refine J.istore (L' := [_, _, _, _, _, _, _, _, _]) (pc := 1328) G dL_law_1328 rfl (Nat.le_of_ble_eq_true rfl) rfl ?_
  refine J.aload_n (pc := 1330) G dL_law_1330 rfl ?_
  refine J.callV (pc := 1331) (na := 0) G (D_fitness n1 M1 hM0 hw h8 hT hw8 hok) q971 q972 q973 q974 q5 (by decide +kernel) dL_law_1331 (hM0.at 0 rfl) rfl rfl (Nat.le_of_ble_eq_true rfl) rfl ⟨by omega, by decide, by omega, by omega⟩ ?_
  rintro r9 n9 M2 ⟨x, R2, P2, Z2, hr9, hn9, hM2, hc2, hx2, hin2, hfr2⟩
  dsimp only [Option.toList, List.cons_append, List.nil_append]
  subst hr9
  subst hn9
  dsimp only [Option.toList, List.cons_append, List.nil_append]
  have hI2 : ClsI M2 ax A S := hI1.keep (fun q a1 a2 => hfr2 q (by omega))
  have ho2 : M2 (ax + 138) = some (cD 1 f1) := (hfr2 _ (by omega)).trans ho1
  have hoI : OutI M2 (ax + 137) := ⟨by
    obtain ⟨f9, h9⟩ := ho.1
    exact ⟨f9, (hfr2 _ (by omega)).trans ((hfr1 _ (by omega) (by omega) (by omega)).trans h9)⟩, ⟨f1, ho2⟩⟩
  have hMd : MdlI M2 (ax + 128) A S := ⟨R2, P2, Z2, hM2, hin2⟩
  refine J.dstore (pc := 1334) (L' := lawL b ax i (some (.int (iI ((kcH S : Nat) : Int)))) (some (.double x)) none) G dL_law_1334 rfl (Nat.le_of_ble_eq_true rfl) rfl ?_
  refine J.aload_n (pc := 1336) G dL_law_1336 rfl ?_
  refine J.callV (pc := 1337) (na := 0) G (m_thrown n9 M2 hM2) q735 q736 q737 q738 q5 (by decide +kernel) dL_law_1337 (hM2.at 0 rfl) rfl rfl (Nat.le_of_ble_eq_true rfl) rfl ⟨by omega, by decide, by omega, by omega⟩ ?_
  rintro r9 n9 M9 ⟨hr9, hn9, hM9⟩
  subst hr9
  rw [hn9, hM9]
  clear hn9 hM9 n9 M9
  dsimp only [Option.toList, List.cons_append, List.nil_append]
  rw [hc2]
  generalize hkc : kcH S = KC at *
  have hkc2 : KC ≤ 2 := by
    rw [← hkc]
    unfold kcH
    split <;> omega
  refine J.iload (pc := 1340) G dL_law_1340 rfl ?_
  refine J.icmp_eqN (pc := 1342) (tgt := 1347) G dL_law_1342 (by decide) (by omega) (by omega) (fun _ => ?_) (fun h => absurd rfl h)
  have fin : J g (k + 1) (z + 6) n9 M2 (lawL b ax i (some (.int (iI (KC : Int)))) (some (.double x)) none) 1384 [] := by
    refine J.goto (pc := 1384) (tgt := 1457) G dL_law_1384 (by decide) ?_
    exact kend.to (by omega) (by omega) (by omega) hI2 hMd hoI
  refine J.iload (pc := 1347) G dL_law_1347 rfl ?_
  refine J.if_neN (pc := 1349) (tgt := 1384) G dL_law_1349 (by decide) (by omega) (fun h => ?_) (fun h => ?_)
  · exact fin
  · have hxy : f1 0 = x := (hy1 (by omega)).trans (hx2 (by omega)).symm
    obtain ⟨c, ec, hc3, hc4⟩ := int_self (Op.cmpValue (FP.dcmp x x) .l)
    refine J.aload (pc := 1352) G dL_law_1352 rfl ?_
    refine J.iconstN (pc := 1354) G dL_law_1354 0 rfl ?_
    refine J.dald (pc := 1355) G dL_law_1355 ho2 0 rfl (by decide) (by decide) ?_
    rw [hxy]
    refine J.dload (pc := 1356) G dL_law_1356 rfl ?_
    refine J.dcmp (pc := 1358) G dL_law_1358 ?_
    rw [ec]
    refine J.if_eq (pc := 1359) (tgt := 1384) G dL_law_1359 (by decide) hc3 hc4 (fun _ => fin) (fun hne => ?_)
    refine J.aload (pc := 1362) G dL_law_1362 rfl ?_
    refine J.iconstN (pc := 1364) G dL_law_1364 0 rfl ?_
    refine J.dald (pc := 1365) G dL_law_1365 ho2 0 rfl (by decide) (by decide) ?_
    refine J.aload (pc := 1366) G dL_law_1366 rfl ?_
    refine J.iconstN (pc := 1368) G dL_law_1368 0 rfl ?_
    refine J.dald (pc := 1369) G dL_law_1369 ho2 0 rfl (by decide) (by decide) ?_
    rw [hxy]
    refine J.dcmp (pc := 1370) G dL_law_1370 ?_
    rw [ec]
    refine J.if_eq (pc := 1371) (tgt := 1382) G dL_law_1371 (by decide) hc3 hc4 (fun h0 => absurd h0 hne) (fun _ => ?_)
    refine J.dload (pc := 1374) G dL_law_1374 rfl ?_
    refine J.dload (pc := 1376) G dL_law_1376 rfl ?_
    refine J.dcmp (pc := 1378) G dL_law_1378 ?_
    rw [ec]
    exact J.if_ne (pc := 1379) (tgt := 1384) G dL_law_1379 (by decide) hc3 hc4 (fun _ => fin) (fun h0 => absurd h0 hne)
end LAWF2
