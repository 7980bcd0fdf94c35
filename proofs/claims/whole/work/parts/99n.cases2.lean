section CASES2
set_option maxRecDepth 100000 in
set_option maxHeartbeats 4000000 in
theorem k_length {g : GT} {d mc ms k z n ax b N i : Nat} {M : AH} {xs : Nat → Int32} {A : Nat → Nat → Nat} {S : Nat → Nat} (G : Cx g "ProcessMinerLaw" cL_law 9 d mc ms) (hd : 1900 ≤ d) (hXs : va_X b N xs (gs g) (gs g).heap) (hb : b < glo g) (hN : N ≤ 1536) (hi : i + 3 ≤ N) (hn : ax + 139 ≤ n) (hI : ClsI M ax A S) (hM : MdlI M (ax + 128) A S) (ho : OutI M (ax + 137)) (hk : k + 3 ≤ mc) (hz : z + 18 ≤ ms) (kend : LawEnd g ax b i (k + 3) (z + 18)) : J g k z n M (lawL b ax i none none none) 401 [] := by
  have hok := hI.2.1
  obtain ⟨v, ev, hv⟩ := int_self (xs (i + 1))
  refine J.aload_n (pc := 401) G dL_law_401 rfl ?_
  refine J.aload_n (pc := 402) G dL_law_402 rfl ?_
  refine J.iload (pc := 403) G dL_law_403 rfl ?_
  refine J.iconstN (pc := 405) G dL_law_405 1 rfl ?_
  refine J.iaddN (pc := 406) G dL_law_406 ?_
  refine J.sld (pc := 407) G hXs hb dL_law_407 (i + 1) rfl (by omega) (by omega) ?_
  rw [ev]
  refine J.aload_n (pc := 408) G dL_law_408 rfl ?_
  refine J.callW (pc := 409) (na := 3) G (L_length n M hn hI ho.1 hv) q474 q475 q476 q0 (by decide +kernel) dL_law_409 rfl (Nat.le_of_ble_eq_true rfl) rfl ⟨by omega, by decide, by omega, by omega⟩ ?_
  rintro r9 n1 M1 ⟨hr9, hn1, hI1, ⟨f1, ho1, hy1⟩, hfr1⟩
  subst hr9
  dsimp only [Option.toList, List.cons_append, List.nil_append]
  obtain ⟨R, P, Z, hM0, hw, h8, hT, hw8⟩ := hM.keep (fun q a1 a2 => hfr1 q (by omega) (by omega) (by omega))
  refine J.istore (L' := [_, _, _, _, _, _, _, _, _]) (pc := 412) G dL_law_412 rfl (Nat.le_of_ble_eq_true rfl) rfl ?_
  refine J.aload_n (pc := 414) G dL_law_414 rfl ?_
  refine J.aload_n (pc := 415) G dL_law_415 rfl ?_
  refine J.iload (pc := 416) G dL_law_416 rfl ?_
  refine J.iconstN (pc := 418) G dL_law_418 1 rfl ?_
  refine J.iaddN (pc := 419) G dL_law_419 ?_
  refine J.sld (pc := 420) G hXs hb dL_law_420 (i + 1) rfl (by omega) (by omega) ?_
  rw [ev]
  refine J.callV (pc := 421) (na := 1) G (D_length n1 M1 hM0 hw h8 hT hw8 hok hv) q773 q774 q775 q776 q5 (by decide +kernel) dL_law_421 (hM0.at 0 rfl) rfl rfl (Nat.le_of_ble_eq_true rfl) rfl ⟨by omega, by decide, by omega, by omega⟩ ?_
  rintro r9 n9 M2 ⟨x, R2, P2, Z2, hr9, hn9, hM2, hc2, hx2, hin2, hfr2⟩
  dsimp only [Option.toList, List.cons_append, List.nil_append]
  subst hr9
  subst hn9
  dsimp only [Option.toList, List.cons_append, List.nil_append]
  have hI2 : ClsI M2 ax (A) (S) := hI1.keep (fun q a1 a2 => hfr2 q (by omega))
  have ho2 : M2 (ax + 137) = some (cJ 1 f1) := (hfr2 _ (by omega)).trans ho1
  have hoI : OutI M2 (ax + 137) := ⟨⟨f1, ho2⟩, by
    obtain ⟨f9, h9⟩ := ho.2
    exact ⟨f9, (hfr2 _ (by omega)).trans ((hfr1 _ (by omega) (by omega) (by omega)).trans h9)⟩⟩
  have hMd : MdlI M2 (ax + 128) (A) (S) := ⟨R2, P2, Z2, hM2, hin2⟩
  refine J.istore (L' := [_, _, _, _, _, _, _, _, _]) (pc := 424) G dL_law_424 rfl (Nat.le_of_ble_eq_true rfl) rfl ?_
  refine J.aload_n (pc := 426) G dL_law_426 rfl ?_
  refine J.callV (pc := 427) (na := 0) G (m_thrown n9 M2 hM2) q735 q736 q737 q738 q5 (by decide +kernel) dL_law_427 (hM2.at 0 rfl) rfl rfl (Nat.le_of_ble_eq_true rfl) rfl ⟨by omega, by decide, by omega, by omega⟩ ?_
  rintro r9 n9 M9 ⟨hr9, hn9, hM9⟩
  subst hr9
  rw [hn9, hM9]
  clear hn9 hM9 n9 M9
  dsimp only [Option.toList, List.cons_append, List.nil_append]
  rw [hc2]
  generalize hkc : kcL S v = KC at *
  have hkc2 : KC ≤ 2 := by
    rw [← hkc]
    unfold kcL
    (try split) <;> (try split) <;> omega
  refine J.iload (pc := 430) G dL_law_430 rfl ?_
  refine J.icmp_eqN (pc := 432) (tgt := 437) G dL_law_432 (by decide) (by omega) (by omega) (fun _ => ?_) (fun h => absurd rfl h)
  refine J.iload (pc := 437) G dL_law_437 rfl ?_
  refine J.if_neN (pc := 439) (tgt := 454) G dL_law_439 (by decide) (by omega) (fun h => ?_) (fun h => ?_)
  · refine J.goto (pc := 454) (tgt := 1457) G dL_law_454 (by decide) ?_
    exact kend.to (by omega) (by omega) (by omega) hI2 hMd hoI
  · refine J.aload_n (pc := 442) G dL_law_442 rfl ?_
    refine J.iconstN (pc := 443) G dL_law_443 0 rfl ?_
    refine J.lald (pc := 444) G dL_law_444 ho2 0 rfl (by decide) (by decide) ?_
    refine J.iload (pc := 445) G dL_law_445 rfl ?_
    refine J.i2l (pc := 447) G dL_law_447 ?_
    rw [hy1 (by omega), hx2 (by omega)]
    refine J.lcmp (pc := 448) G dL_law_448 ?_
    rw [cmp_same]
    refine J.if_eq (pc := 449) (tgt := 454) G dL_law_449 (by decide) (by decide) (by decide) (fun _ => ?_) (fun h => absurd rfl h)
    refine J.goto (pc := 454) (tgt := 1457) G dL_law_454 (by decide) ?_
    exact kend.to (by omega) (by omega) (by omega) hI2 hMd hoI
set_option maxRecDepth 100000 in
set_option maxHeartbeats 4000000 in
theorem k_labelAt {g : GT} {d mc ms k z n ax b N i : Nat} {M : AH} {xs : Nat → Int32} {A : Nat → Nat → Nat} {S : Nat → Nat} (G : Cx g "ProcessMinerLaw" cL_law 9 d mc ms) (hd : 1900 ≤ d) (hXs : va_X b N xs (gs g) (gs g).heap) (hb : b < glo g) (hN : N ≤ 1536) (hi : i + 3 ≤ N) (hn : ax + 139 ≤ n) (hI : ClsI M ax A S) (hM : MdlI M (ax + 128) A S) (ho : OutI M (ax + 137)) (hk : k + 3 ≤ mc) (hz : z + 18 ≤ ms) (kend : LawEnd g ax b i (k + 3) (z + 18)) : J g k z n M (lawL b ax i none none none) 457 [] := by
  have hok := hI.2.1
  obtain ⟨u, eu, hu⟩ := int_self (xs (i + 1))
  obtain ⟨v, ev, hv⟩ := int_self (xs (i + 2))
  refine J.aload_n (pc := 457) G dL_law_457 rfl ?_
  refine J.aload_n (pc := 458) G dL_law_458 rfl ?_
  refine J.iload (pc := 459) G dL_law_459 rfl ?_
  refine J.iconstN (pc := 461) G dL_law_461 1 rfl ?_
  refine J.iaddN (pc := 462) G dL_law_462 ?_
  refine J.sld (pc := 463) G hXs hb dL_law_463 (i + 1) rfl (by omega) (by omega) ?_
  rw [eu]
  refine J.aload_n (pc := 464) G dL_law_464 rfl ?_
  refine J.iload (pc := 465) G dL_law_465 rfl ?_
  refine J.iconstN (pc := 467) G dL_law_467 2 rfl ?_
  refine J.iaddN (pc := 468) G dL_law_468 ?_
  refine J.sld (pc := 469) G hXs hb dL_law_469 (i + 2) rfl (by omega) (by omega) ?_
  rw [ev]
  refine J.aload_n (pc := 470) G dL_law_470 rfl ?_
  refine J.callW (pc := 471) (na := 4) G (L_labelAt n M hn hI ho.1 hu hv) q481 q482 q483 q0 (by decide +kernel) dL_law_471 rfl (Nat.le_of_ble_eq_true rfl) rfl ⟨by omega, by decide, by omega, by omega⟩ ?_
  rintro r9 n1 M1 ⟨hr9, hn1, hI1, ⟨f1, ho1, hy1⟩, hfr1⟩
  subst hr9
  dsimp only [Option.toList, List.cons_append, List.nil_append]
  obtain ⟨R, P, Z, hM0, hw, h8, hT, hw8⟩ := hM.keep (fun q a1 a2 => hfr1 q (by omega) (by omega) (by omega))
  refine J.istore (L' := [_, _, _, _, _, _, _, _, _]) (pc := 474) G dL_law_474 rfl (Nat.le_of_ble_eq_true rfl) rfl ?_
  refine J.aload_n (pc := 476) G dL_law_476 rfl ?_
  refine J.aload_n (pc := 477) G dL_law_477 rfl ?_
  refine J.iload (pc := 478) G dL_law_478 rfl ?_
  refine J.iconstN (pc := 480) G dL_law_480 1 rfl ?_
  refine J.iaddN (pc := 481) G dL_law_481 ?_
  refine J.sld (pc := 482) G hXs hb dL_law_482 (i + 1) rfl (by omega) (by omega) ?_
  rw [eu]
  refine J.aload_n (pc := 483) G dL_law_483 rfl ?_
  refine J.iload (pc := 484) G dL_law_484 rfl ?_
  refine J.iconstN (pc := 486) G dL_law_486 2 rfl ?_
  refine J.iaddN (pc := 487) G dL_law_487 ?_
  refine J.sld (pc := 488) G hXs hb dL_law_488 (i + 2) rfl (by omega) (by omega) ?_
  rw [ev]
  refine J.callV (pc := 489) (na := 2) G (D_labelAt n1 M1 hM0 hw h8 hT hw8 hok hu hv) q777 q778 q779 q780 q5 (by decide +kernel) dL_law_489 (hM0.at 0 rfl) rfl rfl (Nat.le_of_ble_eq_true rfl) rfl ⟨by omega, by decide, by omega, by omega⟩ ?_
  rintro r9 n9 M2 ⟨x, R2, P2, Z2, hr9, hn9, hM2, hc2, hx2, hin2, hfr2⟩
  dsimp only [Option.toList, List.cons_append, List.nil_append]
  subst hr9
  subst hn9
  dsimp only [Option.toList, List.cons_append, List.nil_append]
  have hI2 : ClsI M2 ax (A) (S) := hI1.keep (fun q a1 a2 => hfr2 q (by omega))
  have ho2 : M2 (ax + 137) = some (cJ 1 f1) := (hfr2 _ (by omega)).trans ho1
  have hoI : OutI M2 (ax + 137) := ⟨⟨f1, ho2⟩, by
    obtain ⟨f9, h9⟩ := ho.2
    exact ⟨f9, (hfr2 _ (by omega)).trans ((hfr1 _ (by omega) (by omega) (by omega)).trans h9)⟩⟩
  have hMd : MdlI M2 (ax + 128) (A) (S) := ⟨R2, P2, Z2, hM2, hin2⟩
  refine J.istore (L' := [_, _, _, _, _, _, _, _, _]) (pc := 492) G dL_law_492 rfl (Nat.le_of_ble_eq_true rfl) rfl ?_
  refine J.aload_n (pc := 494) G dL_law_494 rfl ?_
  refine J.callV (pc := 495) (na := 0) G (m_thrown n9 M2 hM2) q735 q736 q737 q738 q5 (by decide +kernel) dL_law_495 (hM2.at 0 rfl) rfl rfl (Nat.le_of_ble_eq_true rfl) rfl ⟨by omega, by decide, by omega, by omega⟩ ?_
  rintro r9 n9 M9 ⟨hr9, hn9, hM9⟩
  subst hr9
  rw [hn9, hM9]
  clear hn9 hM9 n9 M9
  dsimp only [Option.toList, List.cons_append, List.nil_append]
  rw [hc2]
  generalize hkc : kcA A S u v = KC at *
  have hkc2 : KC ≤ 2 := by
    rw [← hkc]
    unfold kcA
    (try split) <;> (try split) <;> omega
  refine J.iload (pc := 498) G dL_law_498 rfl ?_
  refine J.icmp_eqN (pc := 500) (tgt := 505) G dL_law_500 (by decide) (by omega) (by omega) (fun _ => ?_) (fun h => absurd rfl h)
  refine J.iload (pc := 505) G dL_law_505 rfl ?_
  refine J.if_neN (pc := 507) (tgt := 522) G dL_law_507 (by decide) (by omega) (fun h => ?_) (fun h => ?_)
  · refine J.goto (pc := 522) (tgt := 1457) G dL_law_522 (by decide) ?_
    exact kend.to (by omega) (by omega) (by omega) hI2 hMd hoI
  · refine J.aload_n (pc := 510) G dL_law_510 rfl ?_
    refine J.iconstN (pc := 511) G dL_law_511 0 rfl ?_
    refine J.lald (pc := 512) G dL_law_512 ho2 0 rfl (by decide) (by decide) ?_
    refine J.iload (pc := 513) G dL_law_513 rfl ?_
    refine J.i2l (pc := 515) G dL_law_515 ?_
    rw [hy1 (by omega), hx2 (by omega)]
    refine J.lcmp (pc := 516) G dL_law_516 ?_
    rw [cmp_same]
    refine J.if_eq (pc := 517) (tgt := 522) G dL_law_517 (by decide) (by decide) (by decide) (fun _ => ?_) (fun h => absurd rfl h)
    refine J.goto (pc := 522) (tgt := 1457) G dL_law_522 (by decide) ?_
    exact kend.to (by omega) (by omega) (by omega) hI2 hMd hoI
set_option maxRecDepth 100000 in
set_option maxHeartbeats 4000000 in
theorem k_follows {g : GT} {d mc ms k z n ax b N i : Nat} {M : AH} {xs : Nat → Int32} {A : Nat → Nat → Nat} {S : Nat → Nat} (G : Cx g "ProcessMinerLaw" cL_law 9 d mc ms) (hd : 1900 ≤ d) (hXs : va_X b N xs (gs g) (gs g).heap) (hb : b < glo g) (hN : N ≤ 1536) (hi : i + 3 ≤ N) (hn : ax + 139 ≤ n) (hI : ClsI M ax A S) (hM : MdlI M (ax + 128) A S) (ho : OutI M (ax + 137)) (hk : k + 3 ≤ mc) (hz : z + 18 ≤ ms) (kend : LawEnd g ax b i (k + 3) (z + 18)) : J g k z n M (lawL b ax i none none none) 538 [] := by
  have hok := hI.2.1
  obtain ⟨u, eu, hu⟩ := int_self (xs (i + 1))
  obtain ⟨v, ev, hv⟩ := int_self (xs (i + 2))
  refine J.aload_n (pc := 538) G dL_law_538 rfl ?_
  refine J.aload_n (pc := 539) G dL_law_539 rfl ?_
  refine J.iload (pc := 540) G dL_law_540 rfl ?_
  refine J.iconstN (pc := 542) G dL_law_542 1 rfl ?_
  refine J.iaddN (pc := 543) G dL_law_543 ?_
  refine J.sld (pc := 544) G hXs hb dL_law_544 (i + 1) rfl (by omega) (by omega) ?_
  rw [eu]
  refine J.aload_n (pc := 545) G dL_law_545 rfl ?_
  refine J.iload (pc := 546) G dL_law_546 rfl ?_
  refine J.iconstN (pc := 548) G dL_law_548 2 rfl ?_
  refine J.iaddN (pc := 549) G dL_law_549 ?_
  refine J.sld (pc := 550) G hXs hb dL_law_550 (i + 2) rfl (by omega) (by omega) ?_
  rw [ev]
  refine J.aload_n (pc := 551) G dL_law_551 rfl ?_
  refine J.callW (pc := 552) (na := 4) G (L_follows n M hn hI ho.1 hu hv) q489 q490 q491 q0 (by decide +kernel) dL_law_552 rfl (Nat.le_of_ble_eq_true rfl) rfl ⟨by omega, by decide, by omega, by omega⟩ ?_
  rintro r9 n1 M1 ⟨hr9, hn1, hI1, ⟨f1, ho1, hy1⟩, hfr1⟩
  subst hr9
  dsimp only [Option.toList, List.cons_append, List.nil_append]
  obtain ⟨R, P, Z, hM0, hw, h8, hT, hw8⟩ := hM.keep (fun q a1 a2 => hfr1 q (by omega) (by omega) (by omega))
  refine J.istore (L' := [_, _, _, _, _, _, _, _, _]) (pc := 555) G dL_law_555 rfl (Nat.le_of_ble_eq_true rfl) rfl ?_
  refine J.aload_n (pc := 557) G dL_law_557 rfl ?_
  refine J.aload_n (pc := 558) G dL_law_558 rfl ?_
  refine J.iload (pc := 559) G dL_law_559 rfl ?_
  refine J.iconstN (pc := 561) G dL_law_561 1 rfl ?_
  refine J.iaddN (pc := 562) G dL_law_562 ?_
  refine J.sld (pc := 563) G hXs hb dL_law_563 (i + 1) rfl (by omega) (by omega) ?_
  rw [eu]
  refine J.aload_n (pc := 564) G dL_law_564 rfl ?_
  refine J.iload (pc := 565) G dL_law_565 rfl ?_
  refine J.iconstN (pc := 567) G dL_law_567 2 rfl ?_
  refine J.iaddN (pc := 568) G dL_law_568 ?_
  refine J.sld (pc := 569) G hXs hb dL_law_569 (i + 2) rfl (by omega) (by omega) ?_
  rw [ev]
  refine J.callV (pc := 570) (na := 2) G (D_follows n1 M1 hM0 hw h8 hT hw8 hok hu hv) q785 q786 q787 q788 q5 (by decide +kernel) dL_law_570 (hM0.at 0 rfl) rfl rfl (Nat.le_of_ble_eq_true rfl) rfl ⟨by omega, by decide, by omega, by omega⟩ ?_
  rintro r9 n9 M2 ⟨x, R2, P2, Z2, hr9, hn9, hM2, hc2, hx2, hin2, hfr2⟩
  dsimp only [Option.toList, List.cons_append, List.nil_append]
  subst hr9
  subst hn9
  dsimp only [Option.toList, List.cons_append, List.nil_append]
  have hI2 : ClsI M2 ax (A) (S) := hI1.keep (fun q a1 a2 => hfr2 q (by omega))
  have ho2 : M2 (ax + 137) = some (cJ 1 f1) := (hfr2 _ (by omega)).trans ho1
  have hoI : OutI M2 (ax + 137) := ⟨⟨f1, ho2⟩, by
    obtain ⟨f9, h9⟩ := ho.2
    exact ⟨f9, (hfr2 _ (by omega)).trans ((hfr1 _ (by omega) (by omega) (by omega)).trans h9)⟩⟩
  have hMd : MdlI M2 (ax + 128) (A) (S) := ⟨R2, P2, Z2, hM2, hin2⟩
  refine J.istore (L' := [_, _, _, _, _, _, _, _, _]) (pc := 573) G dL_law_573 rfl (Nat.le_of_ble_eq_true rfl) rfl ?_
  refine J.aload_n (pc := 575) G dL_law_575 rfl ?_
  refine J.callV (pc := 576) (na := 0) G (m_thrown n9 M2 hM2) q735 q736 q737 q738 q5 (by decide +kernel) dL_law_576 (hM2.at 0 rfl) rfl rfl (Nat.le_of_ble_eq_true rfl) rfl ⟨by omega, by decide, by omega, by omega⟩ ?_
  rintro r9 n9 M9 ⟨hr9, hn9, hM9⟩
  subst hr9
  rw [hn9, hM9]
  clear hn9 hM9 n9 M9
  dsimp only [Option.toList, List.cons_append, List.nil_append]
  rw [hc2]
  generalize hkc : kcP u v = KC at *
  have hkc2 : KC ≤ 2 := by
    rw [← hkc]
    unfold kcP
    (try split) <;> (try split) <;> omega
  refine J.iload (pc := 579) G dL_law_579 rfl ?_
  refine J.icmp_eqN (pc := 581) (tgt := 586) G dL_law_581 (by decide) (by omega) (by omega) (fun _ => ?_) (fun h => absurd rfl h)
  refine J.iload (pc := 586) G dL_law_586 rfl ?_
  refine J.if_neN (pc := 588) (tgt := 603) G dL_law_588 (by decide) (by omega) (fun h => ?_) (fun h => ?_)
  · refine J.goto (pc := 603) (tgt := 1457) G dL_law_603 (by decide) ?_
    exact kend.to (by omega) (by omega) (by omega) hI2 hMd hoI
  · refine J.aload_n (pc := 591) G dL_law_591 rfl ?_
    refine J.iconstN (pc := 592) G dL_law_592 0 rfl ?_
    refine J.lald (pc := 593) G dL_law_593 ho2 0 rfl (by decide) (by decide) ?_
    refine J.iload (pc := 594) G dL_law_594 rfl ?_
    refine J.i2l (pc := 596) G dL_law_596 ?_
    rw [hy1 (by omega), hx2 (by omega)]
    refine J.lcmp (pc := 597) G dL_law_597 ?_
    rw [cmp_same]
    refine J.if_eq (pc := 598) (tgt := 603) G dL_law_598 (by decide) (by decide) (by decide) (fun _ => ?_) (fun h => absurd rfl h)
    refine J.goto (pc := 603) (tgt := 1457) G dL_law_603 (by decide) ?_
    exact kend.to (by omega) (by omega) (by omega) hI2 hMd hoI
set_option maxRecDepth 100000 in
set_option maxHeartbeats 4000000 in
theorem k_relation {g : GT} {d mc ms k z n ax b N i : Nat} {M : AH} {xs : Nat → Int32} {A : Nat → Nat → Nat} {S : Nat → Nat} (G : Cx g "ProcessMinerLaw" cL_law 9 d mc ms) (hd : 1900 ≤ d) (hXs : va_X b N xs (gs g) (gs g).heap) (hb : b < glo g) (hN : N ≤ 1536) (hi : i + 3 ≤ N) (hn : ax + 139 ≤ n) (hI : ClsI M ax A S) (hM : MdlI M (ax + 128) A S) (ho : OutI M (ax + 137)) (hk : k + 3 ≤ mc) (hz : z + 18 ≤ ms) (kend : LawEnd g ax b i (k + 3) (z + 18)) : J g k z n M (lawL b ax i none none none) 647 [] := by
  have hok := hI.2.1
  obtain ⟨u, eu, hu⟩ := int_self (xs (i + 1))
  obtain ⟨v, ev, hv⟩ := int_self (xs (i + 2))
  refine J.aload_n (pc := 647) G dL_law_647 rfl ?_
  refine J.aload_n (pc := 648) G dL_law_648 rfl ?_
  refine J.iload (pc := 649) G dL_law_649 rfl ?_
  refine J.iconstN (pc := 651) G dL_law_651 1 rfl ?_
  refine J.iaddN (pc := 652) G dL_law_652 ?_
  refine J.sld (pc := 653) G hXs hb dL_law_653 (i + 1) rfl (by omega) (by omega) ?_
  rw [eu]
  refine J.aload_n (pc := 654) G dL_law_654 rfl ?_
  refine J.iload (pc := 655) G dL_law_655 rfl ?_
  refine J.iconstN (pc := 657) G dL_law_657 2 rfl ?_
  refine J.iaddN (pc := 658) G dL_law_658 ?_
  refine J.sld (pc := 659) G hXs hb dL_law_659 (i + 2) rfl (by omega) (by omega) ?_
  rw [ev]
  refine J.aload_n (pc := 660) G dL_law_660 rfl ?_
  refine J.callW (pc := 661) (na := 4) G (L_relation n M hn hI ho.1 hu hv) q500 q501 q502 q0 (by decide +kernel) dL_law_661 rfl (Nat.le_of_ble_eq_true rfl) rfl ⟨by omega, by decide, by omega, by omega⟩ ?_
  rintro r9 n1 M1 ⟨hr9, hn1, hI1, ⟨f1, ho1, hy1⟩, hfr1⟩
  subst hr9
  dsimp only [Option.toList, List.cons_append, List.nil_append]
  obtain ⟨R, P, Z, hM0, hw, h8, hT, hw8⟩ := hM.keep (fun q a1 a2 => hfr1 q (by omega) (by omega) (by omega))
  refine J.istore (L' := [_, _, _, _, _, _, _, _, _]) (pc := 664) G dL_law_664 rfl (Nat.le_of_ble_eq_true rfl) rfl ?_
  refine J.aload_n (pc := 666) G dL_law_666 rfl ?_
  refine J.aload_n (pc := 667) G dL_law_667 rfl ?_
  refine J.iload (pc := 668) G dL_law_668 rfl ?_
  refine J.iconstN (pc := 670) G dL_law_670 1 rfl ?_
  refine J.iaddN (pc := 671) G dL_law_671 ?_
  refine J.sld (pc := 672) G hXs hb dL_law_672 (i + 1) rfl (by omega) (by omega) ?_
  rw [eu]
  refine J.aload_n (pc := 673) G dL_law_673 rfl ?_
  refine J.iload (pc := 674) G dL_law_674 rfl ?_
  refine J.iconstN (pc := 676) G dL_law_676 2 rfl ?_
  refine J.iaddN (pc := 677) G dL_law_677 ?_
  refine J.sld (pc := 678) G hXs hb dL_law_678 (i + 2) rfl (by omega) (by omega) ?_
  rw [ev]
  refine J.callV (pc := 679) (na := 2) G (D_relation n1 M1 hM0 hw h8 hT hw8 hok hu hv) q797 q798 q799 q800 q5 (by decide +kernel) dL_law_679 (hM0.at 0 rfl) rfl rfl (Nat.le_of_ble_eq_true rfl) rfl ⟨by omega, by decide, by omega, by omega⟩ ?_
  rintro r9 n9 M2 ⟨x, R2, P2, Z2, hr9, hn9, hM2, hc2, hx2, hin2, hfr2⟩
  dsimp only [Option.toList, List.cons_append, List.nil_append]
  subst hr9
  subst hn9
  dsimp only [Option.toList, List.cons_append, List.nil_append]
  have hI2 : ClsI M2 ax (A) (S) := hI1.keep (fun q a1 a2 => hfr2 q (by omega))
  have ho2 : M2 (ax + 137) = some (cJ 1 f1) := (hfr2 _ (by omega)).trans ho1
  have hoI : OutI M2 (ax + 137) := ⟨⟨f1, ho2⟩, by
    obtain ⟨f9, h9⟩ := ho.2
    exact ⟨f9, (hfr2 _ (by omega)).trans ((hfr1 _ (by omega) (by omega) (by omega)).trans h9)⟩⟩
  have hMd : MdlI M2 (ax + 128) (A) (S) := ⟨R2, P2, Z2, hM2, hin2⟩
  refine J.istore (L' := [_, _, _, _, _, _, _, _, _]) (pc := 682) G dL_law_682 rfl (Nat.le_of_ble_eq_true rfl) rfl ?_
  refine J.aload_n (pc := 684) G dL_law_684 rfl ?_
  refine J.callV (pc := 685) (na := 0) G (m_thrown n9 M2 hM2) q735 q736 q737 q738 q5 (by decide +kernel) dL_law_685 (hM2.at 0 rfl) rfl rfl (Nat.le_of_ble_eq_true rfl) rfl ⟨by omega, by decide, by omega, by omega⟩ ?_
  rintro r9 n9 M9 ⟨hr9, hn9, hM9⟩
  subst hr9
  rw [hn9, hM9]
  clear hn9 hM9 n9 M9
  dsimp only [Option.toList, List.cons_append, List.nil_append]
  rw [hc2]
  generalize hkc : kcP u v = KC at *
  have hkc2 : KC ≤ 2 := by
    rw [← hkc]
    unfold kcP
    (try split) <;> (try split) <;> omega
  refine J.iload (pc := 688) G dL_law_688 rfl ?_
  refine J.icmp_eqN (pc := 690) (tgt := 695) G dL_law_690 (by decide) (by omega) (by omega) (fun _ => ?_) (fun h => absurd rfl h)
  refine J.iload (pc := 695) G dL_law_695 rfl ?_
  refine J.if_neN (pc := 697) (tgt := 712) G dL_law_697 (by decide) (by omega) (fun h => ?_) (fun h => ?_)
  · refine J.goto (pc := 712) (tgt := 1457) G dL_law_712 (by decide) ?_
    exact kend.to (by omega) (by omega) (by omega) hI2 hMd hoI
  · refine J.aload_n (pc := 700) G dL_law_700 rfl ?_
    refine J.iconstN (pc := 701) G dL_law_701 0 rfl ?_
    refine J.lald (pc := 702) G dL_law_702 ho2 0 rfl (by decide) (by decide) ?_
    refine J.iload (pc := 703) G dL_law_703 rfl ?_
    refine J.i2l (pc := 705) G dL_law_705 ?_
    rw [hy1 (by omega), hx2 (by omega)]
    refine J.lcmp (pc := 706) G dL_law_706 ?_
    rw [cmp_same]
    refine J.if_eq (pc := 707) (tgt := 712) G dL_law_707 (by decide) (by decide) (by decide) (fun _ => ?_) (fun h => absurd rfl h)
    refine J.goto (pc := 712) (tgt := 1457) G dL_law_712 (by decide) ?_
    exact kend.to (by omega) (by omega) (by omega) hI2 hMd hoI
end CASES2
