section CASES5
set_option maxRecDepth 100000 in
set_option maxHeartbeats 4000000 in
theorem k_leads {g : GT} {d mc ms k z n ax b N i : Nat} {M : AH} {xs : Nat → Int32} {A : Nat → Nat → Nat} {S : Nat → Nat} (G : Cx g "ProcessMinerLaw" cL_law 9 d mc ms) (hd : 1900 ≤ d) (hXs : va_X b N xs (gs g) (gs g).heap) (hb : b < glo g) (hN : N ≤ 1536) (hi : i + 3 ≤ N) (hn : ax + 139 ≤ n) (hI : ClsI M ax A S) (hM : MdlI M (ax + 128) A S) (ho : OutI M (ax + 137)) (hk : k + 3 ≤ mc) (hz : z + 18 ≤ ms) (kend : LawEnd g ax b i (k + 3) (z + 18)) : J g k z n M (lawL b ax i none none none) 715 [] := by
  have hok := hI.2.1
  obtain ⟨u, eu, hu⟩ := int_self (xs (i + 1))
  obtain ⟨v, ev, hv⟩ := int_self (xs (i + 2))
  refine J.aload_n (pc := 715) G dL_law_715 rfl ?_
  refine J.aload_n (pc := 716) G dL_law_716 rfl ?_
  refine J.iload (pc := 717) G dL_law_717 rfl ?_
  refine J.iconstN (pc := 719) G dL_law_719 1 rfl ?_
  refine J.iaddN (pc := 720) G dL_law_720 ?_
  refine J.sld (pc := 721) G hXs hb dL_law_721 (i + 1) rfl (by omega) (by omega) ?_
  rw [eu]
  refine J.aload_n (pc := 722) G dL_law_722 rfl ?_
  refine J.iload (pc := 723) G dL_law_723 rfl ?_
  refine J.iconstN (pc := 725) G dL_law_725 2 rfl ?_
  refine J.iaddN (pc := 726) G dL_law_726 ?_
  refine J.sld (pc := 727) G hXs hb dL_law_727 (i + 2) rfl (by omega) (by omega) ?_
  rw [ev]
  refine J.aload_n (pc := 728) G dL_law_728 rfl ?_
  refine J.callW (pc := 729) (na := 4) G (L_leads n M hn hI ho.1 hu hv) q508 q509 q510 q0 (by decide +kernel) dL_law_729 rfl (Nat.le_of_ble_eq_true rfl) rfl ⟨by omega, by decide, by omega, by omega⟩ ?_
  rintro r9 n1 M1 ⟨hr9, hn1, hI1, ⟨f1, ho1, hy1⟩, hfr1⟩
  subst hr9
  dsimp only [Option.toList, List.cons_append, List.nil_append]
  obtain ⟨R, P, Z, hM0, hw, h8, hT, hw8⟩ := hM.keep (fun q a1 a2 => hfr1 q (by omega) (by omega) (by omega))
  refine J.istore (L' := [_, _, _, _, _, _, _, _, _]) (pc := 732) G dL_law_732 rfl (Nat.le_of_ble_eq_true rfl) rfl ?_
  refine J.aload_n (pc := 734) G dL_law_734 rfl ?_
  refine J.aload_n (pc := 735) G dL_law_735 rfl ?_
  refine J.iload (pc := 736) G dL_law_736 rfl ?_
  refine J.iconstN (pc := 738) G dL_law_738 1 rfl ?_
  refine J.iaddN (pc := 739) G dL_law_739 ?_
  refine J.sld (pc := 740) G hXs hb dL_law_740 (i + 1) rfl (by omega) (by omega) ?_
  rw [eu]
  refine J.aload_n (pc := 741) G dL_law_741 rfl ?_
  refine J.iload (pc := 742) G dL_law_742 rfl ?_
  refine J.iconstN (pc := 744) G dL_law_744 2 rfl ?_
  refine J.iaddN (pc := 745) G dL_law_745 ?_
  refine J.sld (pc := 746) G hXs hb dL_law_746 (i + 2) rfl (by omega) (by omega) ?_
  rw [ev]
  refine J.callV (pc := 747) (na := 2) G (D_leads n1 M1 hM0 hw h8 hT hw8 hok hu hv) q801 q802 q803 q804 q5 (by decide +kernel) dL_law_747 (hM0.at 0 rfl) rfl rfl (Nat.le_of_ble_eq_true rfl) rfl ⟨by omega, by decide, by omega, by omega⟩ ?_
  rintro r9 n9 M2 ⟨x, R2, P2, Z2, hr9, hn9, hM2, hc2, hx2, hin2, hfr2⟩
  dsimp only [Option.toList, List.cons_append, List.nil_append]
  subst hr9
  subst hn9
  dsimp only [Option.toList, List.cons_append, List.nil_append]
  have hI2 : ClsI M2 ax (A) (S) := hI1.keep (fun q a1 a2 => hfr2 q (by omega))
  have ho2 : M2 (ax + 137) = some (cJ 1 f1) := (hfr2 _ (by omega)).trans ho1
  have hoI : OutI M2 (ax + 137) := ⟨⟨f1, ho2⟩, by
    obtain ⟨f9, h9⟩ := ho.2
    exact ⟨f9, (hfr2 _ (by omega)).trans ((hfr1 _ (by omega) (by omega) (by omega)).trans h9)⟩⟩
  have hMd : MdlI M2 (ax + 128) (A) (S) := ⟨R2, P2, Z2, hM2, hin2⟩
  refine J.istore (L' := [_, _, _, _, _, _, _, _, _]) (pc := 750) G dL_law_750 rfl (Nat.le_of_ble_eq_true rfl) rfl ?_
  refine J.aload_n (pc := 752) G dL_law_752 rfl ?_
  refine J.callV (pc := 753) (na := 0) G (m_thrown n9 M2 hM2) q735 q736 q737 q738 q5 (by decide +kernel) dL_law_753 (hM2.at 0 rfl) rfl rfl (Nat.le_of_ble_eq_true rfl) rfl ⟨by omega, by decide, by omega, by omega⟩ ?_
  rintro r9 n9 M9 ⟨hr9, hn9, hM9⟩
  subst hr9
  rw [hn9, hM9]
  clear hn9 hM9 n9 M9
  dsimp only [Option.toList, List.cons_append, List.nil_append]
  rw [hc2]
  generalize hkc : kcP u v = KC at *
  have hkc2 : KC ≤ 2 := by
    rw [← hkc]
    unfold kcP
    (try split) <;> (try split) <;> omega
  refine J.iload (pc := 756) G dL_law_756 rfl ?_
  refine J.icmp_eqN (pc := 758) (tgt := 763) G dL_law_758 (by decide) (by omega) (by omega) (fun _ => ?_) (fun h => absurd rfl h)
  refine J.iload (pc := 763) G dL_law_763 rfl ?_
  refine J.if_neN (pc := 765) (tgt := 787) G dL_law_765 (by decide) (by omega) (fun h => ?_) (fun h => ?_)
  · refine J.goto (pc := 787) (tgt := 1457) G dL_law_787 (by decide) ?_
    exact kend.to (by omega) (by omega) (by omega) hI2 hMd hoI
  · refine J.aload_n (pc := 768) G dL_law_768 rfl ?_
    refine J.iconstN (pc := 769) G dL_law_769 0 rfl ?_
    refine J.lald (pc := 770) G dL_law_770 ho2 0 rfl (by decide) (by decide) ?_
    refine J.iload (pc := 771) G dL_law_771 rfl ?_
    rw [hy1 (by omega), ← hx2 (by omega)]
    have fin : ∀ y : Int64, lg_cmp (bL x) y = iI ((0 : Nat) : Int) → J g (k + 3) (z + 18) n9 M2 (lawL b ax i (some (.int (iI (KC : Int)))) (some (.int (bI x))) none) 782 [.int (lg_cmp (bL x) y)] := by
      intro y hy
      rw [hy]
      refine J.if_eq (pc := 782) (tgt := 787) G dL_law_782 (by decide) (by decide) (by decide) (fun _ => ?_) (fun h => absurd rfl h)
      refine J.goto (pc := 787) (tgt := 1457) G dL_law_787 (by decide) ?_
      exact kend.to (by omega) (by omega) (by omega) hI2 hMd hoI
    refine J.if_eq_b (pc := 773) (tgt := 780) G dL_law_773 (by decide) (fun hb9 => ?_) (fun hb9 => ?_)
    · refine J.lconst (pc := 780) G dL_law_780 ?_
      refine J.lcmp (pc := 781) G dL_law_781 ?_
      exact J.wid (by omega) (by omega) (fin _ (by rw [hb9]; exact cmp_same _))
    · refine J.lconst (pc := 776) G dL_law_776 ?_
      refine J.goto (pc := 777) (tgt := 781) G dL_law_777 (by decide) ?_
      refine J.lcmp (pc := 781) G dL_law_781 ?_
      exact J.wid (by omega) (by omega) (fin _ (by rw [hb9]; exact cmp_same _))
set_option maxRecDepth 100000 in
set_option maxHeartbeats 4000000 in
theorem k_accepts {g : GT} {d mc ms k z n ax b N i : Nat} {M : AH} {xs : Nat → Int32} {A : Nat → Nat → Nat} {S : Nat → Nat} (G : Cx g "ProcessMinerLaw" cL_law 9 d mc ms) (hd : 1900 ≤ d) (hXs : va_X b N xs (gs g) (gs g).heap) (hb : b < glo g) (hN : N ≤ 1536) (hi : i + 3 ≤ N) (hn : ax + 139 ≤ n) (hI : ClsI M ax A S) (hM : MdlI M (ax + 128) A S) (ho : OutI M (ax + 137)) (hk : k + 3 ≤ mc) (hz : z + 18 ≤ ms) (kend : LawEnd g ax b i (k + 3) (z + 18)) : J g k z n M (lawL b ax i none none none) 1208 [] := by
  have hok := hI.2.1
  obtain ⟨v, ev, hv⟩ := int_self (xs (i + 1))
  refine J.aload_n (pc := 1208) G dL_law_1208 rfl ?_
  refine J.aload_n (pc := 1209) G dL_law_1209 rfl ?_
  refine J.iload (pc := 1210) G dL_law_1210 rfl ?_
  refine J.iconstN (pc := 1212) G dL_law_1212 1 rfl ?_
  refine J.iaddN (pc := 1213) G dL_law_1213 ?_
  refine J.sld (pc := 1214) G hXs hb dL_law_1214 (i + 1) rfl (by omega) (by omega) ?_
  rw [ev]
  refine J.aload_n (pc := 1215) G dL_law_1215 rfl ?_
  refine J.callW (pc := 1216) (na := 3) G (L_accepts n M hn hI ho.1 hv) q607 q608 q609 q0 (by decide +kernel) dL_law_1216 rfl (Nat.le_of_ble_eq_true rfl) rfl ⟨by omega, by decide, by omega, by omega⟩ ?_
  rintro r9 n1 M1 ⟨hr9, hn1, hI1, ⟨f1, ho1, hy1⟩, hfr1⟩
  subst hr9
  dsimp only [Option.toList, List.cons_append, List.nil_append]
  obtain ⟨R, P, Z, hM0, hw, h8, hT, hw8⟩ := hM.keep (fun q a1 a2 => hfr1 q (by omega) (by omega) (by omega))
  refine J.istore (L' := [_, _, _, _, _, _, _, _, _]) (pc := 1219) G dL_law_1219 rfl (Nat.le_of_ble_eq_true rfl) rfl ?_
  refine J.aload_n (pc := 1221) G dL_law_1221 rfl ?_
  refine J.aload_n (pc := 1222) G dL_law_1222 rfl ?_
  refine J.iload (pc := 1223) G dL_law_1223 rfl ?_
  refine J.iconstN (pc := 1225) G dL_law_1225 1 rfl ?_
  refine J.iaddN (pc := 1226) G dL_law_1226 ?_
  refine J.sld (pc := 1227) G hXs hb dL_law_1227 (i + 1) rfl (by omega) (by omega) ?_
  rw [ev]
  refine J.callV (pc := 1228) (na := 1) G (D_accepts n1 M1 hM0 hw h8 hT hw8 hok hv) q929 q930 q931 q932 q5 (by decide +kernel) dL_law_1228 (hM0.at 0 rfl) rfl rfl (Nat.le_of_ble_eq_true rfl) rfl ⟨by omega, by decide, by omega, by omega⟩ ?_
  rintro r9 n9 M2 ⟨x, R2, P2, Z2, hr9, hn9, hM2, hc2, hx2, hin2, hfr2⟩
  dsimp only [Option.toList, List.cons_append, List.nil_append]
  subst hr9
  subst hn9
  dsimp only [Option.toList, List.cons_append, List.nil_append]
  have hI2 : ClsI M2 ax (A) (S) := hI1.keep (fun q a1 a2 => hfr2 q (by omega))
  have ho2 : M2 (ax + 137) = some (cJ 1 f1) := (hfr2 _ (by omega)).trans ho1
  have hoI : OutI M2 (ax + 137) := ⟨⟨f1, ho2⟩, by
    obtain ⟨f9, h9⟩ := ho.2
    exact ⟨f9, (hfr2 _ (by omega)).trans ((hfr1 _ (by omega) (by omega) (by omega)).trans h9)⟩⟩
  have hMd : MdlI M2 (ax + 128) (A) (S) := ⟨R2, P2, Z2, hM2, hin2⟩
  refine J.istore (L' := [_, _, _, _, _, _, _, _, _]) (pc := 1231) G dL_law_1231 rfl (Nat.le_of_ble_eq_true rfl) rfl ?_
  refine J.aload_n (pc := 1233) G dL_law_1233 rfl ?_
  refine J.callV (pc := 1234) (na := 0) G (m_thrown n9 M2 hM2) q735 q736 q737 q738 q5 (by decide +kernel) dL_law_1234 (hM2.at 0 rfl) rfl rfl (Nat.le_of_ble_eq_true rfl) rfl ⟨by omega, by decide, by omega, by omega⟩ ?_
  rintro r9 n9 M9 ⟨hr9, hn9, hM9⟩
  subst hr9
  rw [hn9, hM9]
  clear hn9 hM9 n9 M9
  dsimp only [Option.toList, List.cons_append, List.nil_append]
  rw [hc2]
  generalize hkc : kcX S v = KC at *
  have hkc2 : KC ≤ 2 := by
    rw [← hkc]
    unfold kcX
    (try split) <;> (try split) <;> omega
  refine J.iload (pc := 1237) G dL_law_1237 rfl ?_
  refine J.icmp_eqN (pc := 1239) (tgt := 1244) G dL_law_1239 (by decide) (by omega) (by omega) (fun _ => ?_) (fun h => absurd rfl h)
  refine J.iload (pc := 1244) G dL_law_1244 rfl ?_
  refine J.if_neN (pc := 1246) (tgt := 1268) G dL_law_1246 (by decide) (by omega) (fun h => ?_) (fun h => ?_)
  · refine J.goto (pc := 1268) (tgt := 1457) G dL_law_1268 (by decide) ?_
    exact kend.to (by omega) (by omega) (by omega) hI2 hMd hoI
  · refine J.aload_n (pc := 1249) G dL_law_1249 rfl ?_
    refine J.iconstN (pc := 1250) G dL_law_1250 0 rfl ?_
    refine J.lald (pc := 1251) G dL_law_1251 ho2 0 rfl (by decide) (by decide) ?_
    refine J.iload (pc := 1252) G dL_law_1252 rfl ?_
    rw [hy1 (by omega), ← hx2 (by omega)]
    have fin : ∀ y : Int64, lg_cmp (bL x) y = iI ((0 : Nat) : Int) → J g (k + 3) (z + 18) n9 M2 (lawL b ax i (some (.int (iI (KC : Int)))) (some (.int (bI x))) none) 1263 [.int (lg_cmp (bL x) y)] := by
      intro y hy
      rw [hy]
      refine J.if_eq (pc := 1263) (tgt := 1268) G dL_law_1263 (by decide) (by decide) (by decide) (fun _ => ?_) (fun h => absurd rfl h)
      refine J.goto (pc := 1268) (tgt := 1457) G dL_law_1268 (by decide) ?_
      exact kend.to (by omega) (by omega) (by omega) hI2 hMd hoI
    refine J.if_eq_b (pc := 1254) (tgt := 1261) G dL_law_1254 (by decide) (fun hb9 => ?_) (fun hb9 => ?_)
    · refine J.lconst (pc := 1261) G dL_law_1261 ?_
      refine J.lcmp (pc := 1262) G dL_law_1262 ?_
      exact J.wid (by omega) (by omega) (fin _ (by rw [hb9]; exact cmp_same _))
    · refine J.lconst (pc := 1257) G dL_law_1257 ?_
      refine J.goto (pc := 1258) (tgt := 1262) G dL_law_1258 (by decide) ?_
      refine J.lcmp (pc := 1262) G dL_law_1262 ?_
      exact J.wid (by omega) (by omega) (fin _ (by rw [hb9]; exact cmp_same _))
set_option maxRecDepth 100000 in
set_option maxHeartbeats 4000000 in
theorem k_acceptsBuffer {g : GT} {d mc ms k z n ax b N i : Nat} {M : AH} {xs : Nat → Int32} {A : Nat → Nat → Nat} {S : Nat → Nat} (G : Cx g "ProcessMinerLaw" cL_law 9 d mc ms) (hd : 1900 ≤ d) (hXs : va_X b N xs (gs g) (gs g).heap) (hb : b < glo g) (hN : N ≤ 1536) (hi : i + 3 ≤ N) (hn : ax + 139 ≤ n) (hI : ClsI M ax A S) (hM : MdlI M (ax + 128) A S) (ho : OutI M (ax + 137)) (hk : k + 3 ≤ mc) (hz : z + 18 ≤ ms) (kend : LawEnd g ax b i (k + 3) (z + 18)) : J g k z n M (lawL b ax i none none none) 1271 [] := by
  have hok := hI.2.1
  refine J.aload_n (pc := 1271) G dL_law_1271 rfl ?_
  refine J.aload_n (pc := 1272) G dL_law_1272 rfl ?_
  refine J.callW (pc := 1273) (na := 2) G (L_acceptsBuffer n M hn hI ho.1) q660 q661 q662 q0 (by decide +kernel) dL_law_1273 rfl (Nat.le_of_ble_eq_true rfl) rfl ⟨by omega, by decide, by omega, by omega⟩ ?_
  rintro r9 n1 M1 ⟨hr9, hn1, hI1, ⟨f1, ho1, hy1⟩, hfr1⟩
  subst hr9
  dsimp only [Option.toList, List.cons_append, List.nil_append]
  obtain ⟨R, P, Z, hM0, hw, h8, hT, hw8⟩ := hM.keep (fun q a1 a2 => hfr1 q (by omega) (by omega) (by omega))
  refine J.istore (L' := [_, _, _, _, _, _, _, _, _]) (pc := 1276) G dL_law_1276 rfl (Nat.le_of_ble_eq_true rfl) rfl ?_
  refine J.aload_n (pc := 1278) G dL_law_1278 rfl ?_
  refine J.callV (pc := 1279) (na := 0) G (D_acceptsBuffer n1 M1 hM0 hw h8 hT hw8 hok) q967 q968 q969 q970 q5 (by decide +kernel) dL_law_1279 (hM0.at 0 rfl) rfl rfl (Nat.le_of_ble_eq_true rfl) rfl ⟨by omega, by decide, by omega, by omega⟩ ?_
  rintro r9 n9 M2 ⟨x, R2, P2, Z2, hr9, hn9, hM2, hc2, hx2, hin2, hfr2⟩
  dsimp only [Option.toList, List.cons_append, List.nil_append]
  subst hr9
  subst hn9
  dsimp only [Option.toList, List.cons_append, List.nil_append]
  have hI2 : ClsI M2 ax (A) (S) := hI1.keep (fun q a1 a2 => hfr2 q (by omega))
  have ho2 : M2 (ax + 137) = some (cJ 1 f1) := (hfr2 _ (by omega)).trans ho1
  have hoI : OutI M2 (ax + 137) := ⟨⟨f1, ho2⟩, by
    obtain ⟨f9, h9⟩ := ho.2
    exact ⟨f9, (hfr2 _ (by omega)).trans ((hfr1 _ (by omega) (by omega) (by omega)).trans h9)⟩⟩
  have hMd : MdlI M2 (ax + 128) (A) (S) := ⟨R2, P2, Z2, hM2, hin2⟩
  refine J.istore (L' := [_, _, _, _, _, _, _, _, _]) (pc := 1282) G dL_law_1282 rfl (Nat.le_of_ble_eq_true rfl) rfl ?_
  refine J.aload_n (pc := 1284) G dL_law_1284 rfl ?_
  refine J.callV (pc := 1285) (na := 0) G (m_thrown n9 M2 hM2) q735 q736 q737 q738 q5 (by decide +kernel) dL_law_1285 (hM2.at 0 rfl) rfl rfl (Nat.le_of_ble_eq_true rfl) rfl ⟨by omega, by decide, by omega, by omega⟩ ?_
  rintro r9 n9 M9 ⟨hr9, hn9, hM9⟩
  subst hr9
  rw [hn9, hM9]
  clear hn9 hM9 n9 M9
  dsimp only [Option.toList, List.cons_append, List.nil_append]
  rw [hc2]
  generalize hkc : kcH S = KC at *
  have hkc2 : KC ≤ 2 := by
    rw [← hkc]
    unfold kcH
    (try split) <;> (try split) <;> omega
  refine J.iload (pc := 1288) G dL_law_1288 rfl ?_
  refine J.icmp_eqN (pc := 1290) (tgt := 1295) G dL_law_1290 (by decide) (by omega) (by omega) (fun _ => ?_) (fun h => absurd rfl h)
  refine J.iload (pc := 1295) G dL_law_1295 rfl ?_
  refine J.if_neN (pc := 1297) (tgt := 1319) G dL_law_1297 (by decide) (by omega) (fun h => ?_) (fun h => ?_)
  · refine J.goto (pc := 1319) (tgt := 1457) G dL_law_1319 (by decide) ?_
    exact kend.to (by omega) (by omega) (by omega) hI2 hMd hoI
  · refine J.aload_n (pc := 1300) G dL_law_1300 rfl ?_
    refine J.iconstN (pc := 1301) G dL_law_1301 0 rfl ?_
    refine J.lald (pc := 1302) G dL_law_1302 ho2 0 rfl (by decide) (by decide) ?_
    refine J.iload (pc := 1303) G dL_law_1303 rfl ?_
    rw [hy1 (by omega), ← hx2 (by omega)]
    have fin : ∀ y : Int64, lg_cmp (bL x) y = iI ((0 : Nat) : Int) → J g (k + 3) (z + 18) n9 M2 (lawL b ax i (some (.int (iI (KC : Int)))) (some (.int (bI x))) none) 1314 [.int (lg_cmp (bL x) y)] := by
      intro y hy
      rw [hy]
      refine J.if_eq (pc := 1314) (tgt := 1319) G dL_law_1314 (by decide) (by decide) (by decide) (fun _ => ?_) (fun h => absurd rfl h)
      refine J.goto (pc := 1319) (tgt := 1457) G dL_law_1319 (by decide) ?_
      exact kend.to (by omega) (by omega) (by omega) hI2 hMd hoI
    refine J.if_eq_b (pc := 1305) (tgt := 1312) G dL_law_1305 (by decide) (fun hb9 => ?_) (fun hb9 => ?_)
    · refine J.lconst (pc := 1312) G dL_law_1312 ?_
      refine J.lcmp (pc := 1313) G dL_law_1313 ?_
      exact J.wid (by omega) (by omega) (fin _ (by rw [hb9]; exact cmp_same _))
    · refine J.lconst (pc := 1308) G dL_law_1308 ?_
      refine J.goto (pc := 1309) (tgt := 1313) G dL_law_1309 (by decide) ?_
      refine J.lcmp (pc := 1313) G dL_law_1313 ?_
      exact J.wid (by omega) (by omega) (fin _ (by rw [hb9]; exact cmp_same _))
end CASES5
