section CASES1
set_option maxRecDepth 100000 in
set_option maxHeartbeats 4000000 in
theorem k_endTrace {g : GT} {d mc ms k z n ax b N i : Nat} {M : AH} {xs : Nat → Int32} {A : Nat → Nat → Nat} {S : Nat → Nat} (G : Cx g "ProcessMinerLaw" cL_law 9 d mc ms) (hd : 1900 ≤ d) (hXs : va_X b N xs (gs g) (gs g).heap) (hb : b < glo g) (hN : N ≤ 1536) (hi : i + 3 ≤ N) (hn : ax + 139 ≤ n) (hI : ClsI M ax A S) (hM : MdlI M (ax + 128) A S) (ho : OutI M (ax + 137)) (hk : k + 3 ≤ mc) (hz : z + 18 ≤ ms) (kend : LawEnd g ax b i (k + 3) (z + 18)) : J g k z n M (lawL b ax i none none none) 220 [] := by
  have hok := hI.2.1
  obtain ⟨v, ev, hv⟩ := int_self (xs (i + 1))
  refine J.aload_n (pc := 220) G dL_law_220 rfl ?_
  refine J.aload_n (pc := 221) G dL_law_221 rfl ?_
  refine J.iload (pc := 222) G dL_law_222 rfl ?_
  refine J.iconstN (pc := 224) G dL_law_224 1 rfl ?_
  refine J.iaddN (pc := 225) G dL_law_225 ?_
  refine J.sld (pc := 226) G hXs hb dL_law_226 (i + 1) rfl (by omega) (by omega) ?_
  rw [ev]
  refine J.aload_n (pc := 227) G dL_law_227 rfl ?_
  refine J.callW (pc := 228) (na := 3) G (L_endTrace n M hn hI ho.1 hv) q426 q427 q428 q0 (by decide +kernel) dL_law_228 rfl (Nat.le_of_ble_eq_true rfl) rfl ⟨by omega, by decide, by omega, by omega⟩ ?_
  rintro r9 n1 M1 ⟨hr9, hn1, hI1, ⟨f1, ho1, hy1⟩, hfr1⟩
  subst hr9
  dsimp only [Option.toList, List.cons_append, List.nil_append]
  obtain ⟨R, P, Z, hM0, hw, h8, hT, hw8⟩ := hM.keep (fun q a1 a2 => hfr1 q (by omega) (by omega) (by omega))
  refine J.istore (L' := [_, _, _, _, _, _, _, _, _]) (pc := 231) G dL_law_231 rfl (Nat.le_of_ble_eq_true rfl) rfl ?_
  refine J.aload_n (pc := 233) G dL_law_233 rfl ?_
  refine J.aload_n (pc := 234) G dL_law_234 rfl ?_
  refine J.iload (pc := 235) G dL_law_235 rfl ?_
  refine J.iconstN (pc := 237) G dL_law_237 1 rfl ?_
  refine J.iaddN (pc := 238) G dL_law_238 ?_
  refine J.sld (pc := 239) G hXs hb dL_law_239 (i + 1) rfl (by omega) (by omega) ?_
  rw [ev]
  refine J.callV (pc := 240) (na := 1) G (D_endTrace n1 M1 hM0 hw h8 hT hw8 hok hv) q750 q751 q752 q753 q5 (by decide +kernel) dL_law_240 (hM0.at 0 rfl) rfl rfl (Nat.le_of_ble_eq_true rfl) rfl ⟨by omega, by decide, by omega, by omega⟩ ?_
  rintro r9 n9 M2 ⟨x, R2, P2, Z2, hr9, hn9, hM2, hc2, hx2, hin2, hfr2⟩
  dsimp only [Option.toList, List.cons_append, List.nil_append]
  subst hr9
  subst hn9
  dsimp only [Option.toList, List.cons_append, List.nil_append]
  have hI2 : ClsI M2 ax (aT A S v) (sT S v) := hI1.keep (fun q a1 a2 => hfr2 q (by omega))
  have ho2 : M2 (ax + 137) = some (cJ 1 f1) := (hfr2 _ (by omega)).trans ho1
  have hoI : OutI M2 (ax + 137) := ⟨⟨f1, ho2⟩, by
    obtain ⟨f9, h9⟩ := ho.2
    exact ⟨f9, (hfr2 _ (by omega)).trans ((hfr1 _ (by omega) (by omega) (by omega)).trans h9)⟩⟩
  have hMd : MdlI M2 (ax + 128) (aT A S v) (sT S v) := ⟨R2, P2, Z2, hM2, hin2⟩
  refine J.istore (L' := [_, _, _, _, _, _, _, _, _]) (pc := 243) G dL_law_243 rfl (Nat.le_of_ble_eq_true rfl) rfl ?_
  refine J.aload_n (pc := 245) G dL_law_245 rfl ?_
  refine J.callV (pc := 246) (na := 0) G (m_thrown n9 M2 hM2) q735 q736 q737 q738 q5 (by decide +kernel) dL_law_246 (hM2.at 0 rfl) rfl rfl (Nat.le_of_ble_eq_true rfl) rfl ⟨by omega, by decide, by omega, by omega⟩ ?_
  rintro r9 n9 M9 ⟨hr9, hn9, hM9⟩
  subst hr9
  rw [hn9, hM9]
  clear hn9 hM9 n9 M9
  dsimp only [Option.toList, List.cons_append, List.nil_append]
  rw [hc2]
  generalize hkc : kcT S v = KC at *
  have hkc2 : KC ≤ 2 := by
    rw [← hkc]
    unfold kcT
    (try split) <;> (try split) <;> omega
  refine J.iload (pc := 249) G dL_law_249 rfl ?_
  refine J.icmp_eqN (pc := 251) (tgt := 256) G dL_law_251 (by decide) (by omega) (by omega) (fun _ => ?_) (fun h => absurd rfl h)
  refine J.iload (pc := 256) G dL_law_256 rfl ?_
  refine J.if_neN (pc := 258) (tgt := 273) G dL_law_258 (by decide) (by omega) (fun h => ?_) (fun h => ?_)
  · refine J.goto (pc := 273) (tgt := 1457) G dL_law_273 (by decide) ?_
    exact kend.to (by omega) (by omega) (by omega) hI2 hMd hoI
  · refine J.aload_n (pc := 261) G dL_law_261 rfl ?_
    refine J.iconstN (pc := 262) G dL_law_262 0 rfl ?_
    refine J.lald (pc := 263) G dL_law_263 ho2 0 rfl (by decide) (by decide) ?_
    refine J.iload (pc := 264) G dL_law_264 rfl ?_
    refine J.i2l (pc := 266) G dL_law_266 ?_
    rw [hy1 (by omega), hx2 (by omega)]
    refine J.lcmp (pc := 267) G dL_law_267 ?_
    rw [cmp_same]
    refine J.if_eq (pc := 268) (tgt := 273) G dL_law_268 (by decide) (by decide) (by decide) (fun _ => ?_) (fun h => absurd rfl h)
    refine J.goto (pc := 273) (tgt := 1457) G dL_law_273 (by decide) ?_
    exact kend.to (by omega) (by omega) (by omega) hI2 hMd hoI
set_option maxRecDepth 100000 in
set_option maxHeartbeats 4000000 in
theorem k_setTimes {g : GT} {d mc ms k z n ax b N i : Nat} {M : AH} {xs : Nat → Int32} {A : Nat → Nat → Nat} {S : Nat → Nat} (G : Cx g "ProcessMinerLaw" cL_law 9 d mc ms) (hd : 1900 ≤ d) (hXs : va_X b N xs (gs g) (gs g).heap) (hb : b < glo g) (hN : N ≤ 1536) (hi : i + 3 ≤ N) (hn : ax + 139 ≤ n) (hI : ClsI M ax A S) (hM : MdlI M (ax + 128) A S) (ho : OutI M (ax + 137)) (hk : k + 3 ≤ mc) (hz : z + 18 ≤ ms) (kend : LawEnd g ax b i (k + 3) (z + 18)) : J g k z n M (lawL b ax i none none none) 276 [] := by
  have hok := hI.2.1
  obtain ⟨u, eu, hu⟩ := int_self (xs (i + 1))
  obtain ⟨v, ev, hv⟩ := int_self (xs (i + 2))
  refine J.aload_n (pc := 276) G dL_law_276 rfl ?_
  refine J.aload_n (pc := 277) G dL_law_277 rfl ?_
  refine J.iload (pc := 278) G dL_law_278 rfl ?_
  refine J.iconstN (pc := 280) G dL_law_280 1 rfl ?_
  refine J.iaddN (pc := 281) G dL_law_281 ?_
  refine J.sld (pc := 282) G hXs hb dL_law_282 (i + 1) rfl (by omega) (by omega) ?_
  rw [eu]
  refine J.aload_n (pc := 283) G dL_law_283 rfl ?_
  refine J.iload (pc := 284) G dL_law_284 rfl ?_
  refine J.iconstN (pc := 286) G dL_law_286 2 rfl ?_
  refine J.iaddN (pc := 287) G dL_law_287 ?_
  refine J.sld (pc := 288) G hXs hb dL_law_288 (i + 2) rfl (by omega) (by omega) ?_
  rw [ev]
  refine J.aload_n (pc := 289) G dL_law_289 rfl ?_
  refine J.callW (pc := 290) (na := 4) G (L_setTimes n M hn hI ho.1 hu hv) q454 q455 q456 q0 (by decide +kernel) dL_law_290 rfl (Nat.le_of_ble_eq_true rfl) rfl ⟨by omega, by decide, by omega, by omega⟩ ?_
  rintro r9 n1 M1 ⟨hr9, hn1, hI1, ⟨f1, ho1, hy1⟩, hfr1⟩
  subst hr9
  dsimp only [Option.toList, List.cons_append, List.nil_append]
  obtain ⟨R, P, Z, hM0, hw, h8, hT, hw8⟩ := hM.keep (fun q a1 a2 => hfr1 q (by omega) (by omega) (by omega))
  refine J.istore (L' := [_, _, _, _, _, _, _, _, _]) (pc := 293) G dL_law_293 rfl (Nat.le_of_ble_eq_true rfl) rfl ?_
  refine J.aload_n (pc := 295) G dL_law_295 rfl ?_
  refine J.aload_n (pc := 296) G dL_law_296 rfl ?_
  refine J.iload (pc := 297) G dL_law_297 rfl ?_
  refine J.iconstN (pc := 299) G dL_law_299 1 rfl ?_
  refine J.iaddN (pc := 300) G dL_law_300 ?_
  refine J.sld (pc := 301) G hXs hb dL_law_301 (i + 1) rfl (by omega) (by omega) ?_
  rw [eu]
  refine J.aload_n (pc := 302) G dL_law_302 rfl ?_
  refine J.iload (pc := 303) G dL_law_303 rfl ?_
  refine J.iconstN (pc := 305) G dL_law_305 2 rfl ?_
  refine J.iaddN (pc := 306) G dL_law_306 ?_
  refine J.sld (pc := 307) G hXs hb dL_law_307 (i + 2) rfl (by omega) (by omega) ?_
  rw [ev]
  refine J.callV (pc := 308) (na := 2) G (D_setTimes n1 M1 hM0 hw h8 hT hw8 hok hu hv) q757 q758 q759 q760 q5 (by decide +kernel) dL_law_308 (hM0.at 0 rfl) rfl rfl (Nat.le_of_ble_eq_true rfl) rfl ⟨by omega, by decide, by omega, by omega⟩ ?_
  rintro r9 n9 M2 ⟨x, R2, P2, Z2, hr9, hn9, hM2, hc2, hx2, hin2, hfr2⟩
  dsimp only [Option.toList, List.cons_append, List.nil_append]
  subst hr9
  subst hn9
  dsimp only [Option.toList, List.cons_append, List.nil_append]
  have hI2 : ClsI M2 ax (aM A S u v) (sM S u v) := hI1.keep (fun q a1 a2 => hfr2 q (by omega))
  have ho2 : M2 (ax + 137) = some (cJ 1 f1) := (hfr2 _ (by omega)).trans ho1
  have hoI : OutI M2 (ax + 137) := ⟨⟨f1, ho2⟩, by
    obtain ⟨f9, h9⟩ := ho.2
    exact ⟨f9, (hfr2 _ (by omega)).trans ((hfr1 _ (by omega) (by omega) (by omega)).trans h9)⟩⟩
  have hMd : MdlI M2 (ax + 128) (aM A S u v) (sM S u v) := ⟨R2, P2, Z2, hM2, hin2⟩
  refine J.istore (L' := [_, _, _, _, _, _, _, _, _]) (pc := 311) G dL_law_311 rfl (Nat.le_of_ble_eq_true rfl) rfl ?_
  refine J.aload_n (pc := 313) G dL_law_313 rfl ?_
  refine J.callV (pc := 314) (na := 0) G (m_thrown n9 M2 hM2) q735 q736 q737 q738 q5 (by decide +kernel) dL_law_314 (hM2.at 0 rfl) rfl rfl (Nat.le_of_ble_eq_true rfl) rfl ⟨by omega, by decide, by omega, by omega⟩ ?_
  rintro r9 n9 M9 ⟨hr9, hn9, hM9⟩
  subst hr9
  rw [hn9, hM9]
  clear hn9 hM9 n9 M9
  dsimp only [Option.toList, List.cons_append, List.nil_append]
  rw [hc2]
  generalize hkc : kcM S u v = KC at *
  have hkc2 : KC ≤ 2 := by
    rw [← hkc]
    unfold kcM
    (try split) <;> (try split) <;> omega
  refine J.iload (pc := 317) G dL_law_317 rfl ?_
  refine J.icmp_eqN (pc := 319) (tgt := 324) G dL_law_319 (by decide) (by omega) (by omega) (fun _ => ?_) (fun h => absurd rfl h)
  refine J.iload (pc := 324) G dL_law_324 rfl ?_
  refine J.if_neN (pc := 326) (tgt := 341) G dL_law_326 (by decide) (by omega) (fun h => ?_) (fun h => ?_)
  · refine J.goto (pc := 341) (tgt := 1457) G dL_law_341 (by decide) ?_
    exact kend.to (by omega) (by omega) (by omega) hI2 hMd hoI
  · refine J.aload_n (pc := 329) G dL_law_329 rfl ?_
    refine J.iconstN (pc := 330) G dL_law_330 0 rfl ?_
    refine J.lald (pc := 331) G dL_law_331 ho2 0 rfl (by decide) (by decide) ?_
    refine J.iload (pc := 332) G dL_law_332 rfl ?_
    refine J.i2l (pc := 334) G dL_law_334 ?_
    rw [hy1 (by omega), hx2 (by omega)]
    refine J.lcmp (pc := 335) G dL_law_335 ?_
    rw [cmp_same]
    refine J.if_eq (pc := 336) (tgt := 341) G dL_law_336 (by decide) (by decide) (by decide) (fun _ => ?_) (fun h => absurd rfl h)
    refine J.goto (pc := 341) (tgt := 1457) G dL_law_341 (by decide) ?_
    exact kend.to (by omega) (by omega) (by omega) hI2 hMd hoI
set_option maxRecDepth 100000 in
set_option maxHeartbeats 4000000 in
theorem k_dropTrace {g : GT} {d mc ms k z n ax b N i : Nat} {M : AH} {xs : Nat → Int32} {A : Nat → Nat → Nat} {S : Nat → Nat} (G : Cx g "ProcessMinerLaw" cL_law 9 d mc ms) (hd : 1900 ≤ d) (hXs : va_X b N xs (gs g) (gs g).heap) (hb : b < glo g) (hN : N ≤ 1536) (hi : i + 3 ≤ N) (hn : ax + 139 ≤ n) (hI : ClsI M ax A S) (hM : MdlI M (ax + 128) A S) (ho : OutI M (ax + 137)) (hk : k + 3 ≤ mc) (hz : z + 18 ≤ ms) (kend : LawEnd g ax b i (k + 3) (z + 18)) : J g k z n M (lawL b ax i none none none) 344 [] := by
  have hok := hI.2.1
  refine J.aload_n (pc := 344) G dL_law_344 rfl ?_
  refine J.aload_n (pc := 345) G dL_law_345 rfl ?_
  refine J.callW (pc := 346) (na := 2) G (L_dropTrace n M hn hI ho.1) q466 q467 q468 q0 (by decide +kernel) dL_law_346 rfl (Nat.le_of_ble_eq_true rfl) rfl ⟨by omega, by decide, by omega, by omega⟩ ?_
  rintro r9 n1 M1 ⟨hr9, hn1, hI1, ⟨f1, ho1, hy1⟩, hfr1⟩
  subst hr9
  dsimp only [Option.toList, List.cons_append, List.nil_append]
  obtain ⟨R, P, Z, hM0, hw, h8, hT, hw8⟩ := hM.keep (fun q a1 a2 => hfr1 q (by omega) (by omega) (by omega))
  refine J.istore (L' := [_, _, _, _, _, _, _, _, _]) (pc := 349) G dL_law_349 rfl (Nat.le_of_ble_eq_true rfl) rfl ?_
  refine J.aload_n (pc := 351) G dL_law_351 rfl ?_
  refine J.callV (pc := 352) (na := 0) G (D_dropTrace n1 M1 hM0 hw h8 hT hw8 hok) q765 q766 q767 q768 q5 (by decide +kernel) dL_law_352 (hM0.at 0 rfl) rfl rfl (Nat.le_of_ble_eq_true rfl) rfl ⟨by omega, by decide, by omega, by omega⟩ ?_
  rintro r9 n9 M2 ⟨x, R2, P2, Z2, hr9, hn9, hM2, hc2, hx2, hin2, hfr2⟩
  dsimp only [Option.toList, List.cons_append, List.nil_append]
  subst hr9
  subst hn9
  dsimp only [Option.toList, List.cons_append, List.nil_append]
  have hI2 : ClsI M2 ax (A) (sD S) := hI1.keep (fun q a1 a2 => hfr2 q (by omega))
  have ho2 : M2 (ax + 137) = some (cJ 1 f1) := (hfr2 _ (by omega)).trans ho1
  have hoI : OutI M2 (ax + 137) := ⟨⟨f1, ho2⟩, by
    obtain ⟨f9, h9⟩ := ho.2
    exact ⟨f9, (hfr2 _ (by omega)).trans ((hfr1 _ (by omega) (by omega) (by omega)).trans h9)⟩⟩
  have hMd : MdlI M2 (ax + 128) (A) (sD S) := ⟨R2, P2, Z2, hM2, hin2⟩
  refine J.istore (L' := [_, _, _, _, _, _, _, _, _]) (pc := 355) G dL_law_355 rfl (Nat.le_of_ble_eq_true rfl) rfl ?_
  refine J.aload_n (pc := 357) G dL_law_357 rfl ?_
  refine J.callV (pc := 358) (na := 0) G (m_thrown n9 M2 hM2) q735 q736 q737 q738 q5 (by decide +kernel) dL_law_358 (hM2.at 0 rfl) rfl rfl (Nat.le_of_ble_eq_true rfl) rfl ⟨by omega, by decide, by omega, by omega⟩ ?_
  rintro r9 n9 M9 ⟨hr9, hn9, hM9⟩
  subst hr9
  rw [hn9, hM9]
  clear hn9 hM9 n9 M9
  dsimp only [Option.toList, List.cons_append, List.nil_append]
  rw [hc2]
  generalize hkc : kcD S = KC at *
  have hkc2 : KC ≤ 2 := by
    rw [← hkc]
    unfold kcD
    (try split) <;> (try split) <;> omega
  refine J.iload (pc := 361) G dL_law_361 rfl ?_
  refine J.icmp_eqN (pc := 363) (tgt := 368) G dL_law_363 (by decide) (by omega) (by omega) (fun _ => ?_) (fun h => absurd rfl h)
  refine J.iload (pc := 368) G dL_law_368 rfl ?_
  refine J.if_neN (pc := 370) (tgt := 385) G dL_law_370 (by decide) (by omega) (fun h => ?_) (fun h => ?_)
  · refine J.goto (pc := 385) (tgt := 1457) G dL_law_385 (by decide) ?_
    exact kend.to (by omega) (by omega) (by omega) hI2 hMd hoI
  · refine J.aload_n (pc := 373) G dL_law_373 rfl ?_
    refine J.iconstN (pc := 374) G dL_law_374 0 rfl ?_
    refine J.lald (pc := 375) G dL_law_375 ho2 0 rfl (by decide) (by decide) ?_
    refine J.iload (pc := 376) G dL_law_376 rfl ?_
    refine J.i2l (pc := 378) G dL_law_378 ?_
    rw [hy1 (by omega), hx2 (by omega)]
    refine J.lcmp (pc := 379) G dL_law_379 ?_
    rw [cmp_same]
    refine J.if_eq (pc := 380) (tgt := 385) G dL_law_380 (by decide) (by decide) (by decide) (fun _ => ?_) (fun h => absurd rfl h)
    refine J.goto (pc := 385) (tgt := 1457) G dL_law_385 (by decide) ?_
    exact kend.to (by omega) (by omega) (by omega) hI2 hMd hoI
end CASES1
