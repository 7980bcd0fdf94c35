section LOOP
set_option maxRecDepth 100000 in
theorem mine_room {k r s mc : Nat} (h : k + (if s = 0 then 1150 else 0) ≤ 1300 + 1170 * r) (hm : 1300 + 1170 * (r + 1) ≤ mc) : k + (if s = 0 then 2315 else 0) ≤ mc := by
  by_cases q : s = 0
  · rw [if_pos q] at h ⊢; omega
  · rw [if_neg q] at h ⊢; omega
set_option maxRecDepth 100000 in
set_option maxHeartbeats 4000000 in
theorem law_loop {g : GT} {d mc ms ax b N : Nat} {xs : Nat → Int32} (G : Cx g "ProcessMinerLaw" cL_law 9 d mc ms) (hd : 1900 ≤ d) (hXs : va_X b N xs (gs g) (gs g).heap) (hb : b < glo g) (hN : N ≤ 1536) (hmc : 600400 ≤ mc) (hms : 5400000 ≤ ms) (hend : ∀ k z n M L, k ≤ mc → z ≤ ms → J g k z n M L 1464 [.int (iI ((1 : Nat) : Int))]) : ∀ m r k z n M A S, N + 3 - 3 * r ≤ m → 3 * r ≤ N → k + (if S 9 = 0 then 1150 else 0) ≤ 1300 + 1170 * r → z + (if S 9 = 0 then 10300 else 0) ≤ 19000 + 10350 * r → ax + 139 ≤ n → ClsI M ax A S → MdlI M (ax + 128) A S → OutI M (ax + 137) → J g k z n M (lawL b ax (3 * r) none none none) 28 [] := by
  intro m
  induction m with
  | zero => intro r k z n M A S h1 h2; omega
  | succ m ih =>
    intro r k z n M A S h1 h2 hk9 hz9 hn hI hM ho
    have hs9 := hI.2.1.2.2.1
    have hk8 : k ≤ 1300 + 1170 * r := by omega
    have hz8 : z ≤ 19000 + 10350 * r := by omega
    refine J.iload (pc := 28) G dL_law_28 rfl ?_
    refine J.aload_n (pc := 30) G dL_law_30 rfl ?_
    refine J.slen (pc := 31) G hXs hb dL_law_31 ?_
    refine J.iconstN (pc := 32) G dL_law_32 3 rfl ?_
    refine J.isub (pc := 33) G dL_law_33 ?_
    refine J.icmp_gt (pc := 34) (tgt := 1463) G dL_law_34 (by decide) (by omega) (by omega) (by omega) (by omega) (fun h => ?_) (fun h => ?_)
    · refine J.iconstN (pc := 1463) G dL_law_1463 1 rfl ?_
      exact hend _ _ _ _ _ (by omega) (by omega)
    · have hi : 3 * r + 3 ≤ N := by omega
      have back : ∀ k' z', k' ≤ 998725 → ∀ n' M' A' S', ax + 139 ≤ n' → ClsI M' ax A' S' → MdlI M' (ax + 128) A' S' → OutI M' (ax + 137) → k' + (if S' 9 = 0 then 1150 else 0) ≤ 1300 + 1170 * (r + 1) → z' + (if S' 9 = 0 then 10300 else 0) ≤ 19000 + 10350 * (r + 1) → J g k' z' n' M' (lawL b ax (3 * r) none none none) 1457 [] := by
        intro k' z' _ n' M' A' S' a1 a2 a3 a4 a5 a6
        refine J.iincN (pc := 1457) (L' := lawL b ax (3 * (r + 1)) none none none) G dL_law_1457 3 rfl rfl rfl rfl ?_
        refine J.goto (pc := 1460) (tgt := 28) G dL_law_1460 (by decide) ?_
        exact ih (r + 1) k' z' n' M' A' S' (by omega) (by omega) a5 a6 a1 a2 a3 a4
      have kend : LawEnd g ax b (3 * r) (k + 3) (z + 18) := fun n' M' A' S' a1 a2 a3 a4 => back _ _ (by omega) n' M' A' S' a1 a2 a3 a4 (by split <;> omega) (by split <;> omega)
      have hk : k + 3 ≤ mc := by omega
      have hz : z + 18 ≤ ms := by omega
      refine J.aload_n (pc := 37) G dL_law_37 rfl ?_
      refine J.iload (pc := 38) G dL_law_38 rfl ?_
      refine J.sld (pc := 40) G hXs hb dL_law_40 (3 * r) rfl (by omega) (by omega) ?_
      refine J.bipushN (pc := 41) G dL_law_41 31 (by decide +kernel) ?_
      refine J.iand_r (pc := 43) G dL_law_43 ?_
      obtain ⟨a, ha, ea⟩ := and31 (xs (3 * r))
      refine J.topv (b := iI (a : Int)) ea ?_
      clear ea
      rcases (show a = 0 ∨ a = 1 ∨ a = 2 ∨ a = 3 ∨ a = 4 ∨ a = 5 ∨ a = 6 ∨ a = 7 ∨ a = 8 ∨ a = 9 ∨ a = 10 ∨ a = 11 ∨ a = 12 ∨ a = 13 ∨ a = 14 ∨ a = 15 ∨ a = 16 ∨ a = 17 ∨ a = 18 ∨ a = 19 ∨ a = 20 ∨ a = 21 ∨ a = 22 ∨ a = 23 ∨ a = 24 ∨ a = 25 ∨ 26 ≤ a by omega) with rfl | rfl | rfl | rfl | rfl | rfl | rfl | rfl | rfl | rfl | rfl | rfl | rfl | rfl | rfl | rfl | rfl | rfl | rfl | rfl | rfl | rfl | rfl | rfl | rfl | rfl | h26
      · refine J.tableIn (pc := 44) (tgt := 164) G dL_law_44 (by decide) (by decide) (by decide) (by decide) rfl (by decide) ?_
        exact k_event G hd hXs hb hN hi hn hI hM ho hk hz kend
      · refine J.tableIn (pc := 44) (tgt := 220) G dL_law_44 (by decide) (by decide) (by decide) (by decide) rfl (by decide) ?_
        exact k_endTrace G hd hXs hb hN hi hn hI hM ho hk hz kend
      · refine J.tableIn (pc := 44) (tgt := 276) G dL_law_44 (by decide) (by decide) (by decide) (by decide) rfl (by decide) ?_
        exact k_setTimes G hd hXs hb hN hi hn hI hM ho hk hz kend
      · refine J.tableIn (pc := 44) (tgt := 344) G dL_law_44 (by decide) (by decide) (by decide) (by decide) rfl (by decide) ?_
        exact k_dropTrace G hd hXs hb hN hi hn hI hM ho hk hz kend
      · refine J.tableIn (pc := 44) (tgt := 388) G dL_law_44 (by decide) (by decide) (by decide) (by decide) rfl (by decide) ?_
        exact k_traceCount (xs := xs) (N := N) G hd hXs hb hN hi hn hI hM ho hk hz kend
      · refine J.tableIn (pc := 44) (tgt := 401) G dL_law_44 (by decide) (by decide) (by decide) (by decide) rfl (by decide) ?_
        exact k_length G hd hXs hb hN hi hn hI hM ho hk hz kend
      · refine J.tableIn (pc := 44) (tgt := 457) G dL_law_44 (by decide) (by decide) (by decide) (by decide) rfl (by decide) ?_
        exact k_labelAt G hd hXs hb hN hi hn hI hM ho hk hz kend
      · refine J.tableIn (pc := 44) (tgt := 525) G dL_law_44 (by decide) (by decide) (by decide) (by decide) rfl (by decide) ?_
        exact k_labels (xs := xs) (N := N) G hd hXs hb hN hi hn hI hM ho hk hz kend
      · refine J.tableIn (pc := 44) (tgt := 538) G dL_law_44 (by decide) (by decide) (by decide) (by decide) rfl (by decide) ?_
        exact k_follows G hd hXs hb hN hi hn hI hM ho hk hz kend
      · refine J.tableIn (pc := 44) (tgt := 606) G dL_law_44 (by decide) (by decide) (by decide) (by decide) rfl (by decide) ?_
        exact k_edges G hd hXs hb hN hi hn hI hM ho hk hz kend
      · refine J.tableIn (pc := 44) (tgt := 647) G dL_law_44 (by decide) (by decide) (by decide) (by decide) rfl (by decide) ?_
        exact k_relation G hd hXs hb hN hi hn hI hM ho hk hz kend
      · refine J.tableIn (pc := 44) (tgt := 715) G dL_law_44 (by decide) (by decide) (by decide) (by decide) rfl (by decide) ?_
        exact k_leads G hd hXs hb hN hi hn hI hM ho hk hz kend
      · refine J.tableIn (pc := 44) (tgt := 790) G dL_law_44 (by decide) (by decide) (by decide) (by decide) rfl (by decide) ?_
        exact k_variants (xs := xs) (N := N) G hd hXs hb hN hi hn hI hM ho hk hz kend
      · refine J.tableIn (pc := 44) (tgt := 803) G dL_law_44 (by decide) (by decide) (by decide) (by decide) rfl (by decide) ?_
        refine k_mine G hd hn hI hM ho (by unfold mC; exact mine_room hk9 (by omega)) (by unfold mS; split <;> omega) (fun n' M' A' S' a1 a2 a3 a4 a5 => back _ _ (by unfold mC; split <;> omega) n' M' A' S' a1 a2 a3 a4 ?_ ?_)
        · rw [if_neg (by omega)]
          unfold mC
          by_cases q : S 9 = 0
          · rw [if_pos q] at hk9 ⊢; omega
          · rw [if_neg q]; omega
        · rw [if_neg (by omega)]
          unfold mS
          by_cases q : S 9 = 0
          · rw [if_pos q] at hz9 ⊢; omega
          · rw [if_neg q]; omega
      · refine J.tableIn (pc := 44) (tgt := 816) G dL_law_44 (by decide) (by decide) (by decide) (by decide) rfl (by decide) ?_
        exact k_kind G hd hXs hb hN hi hn hI hM ho hk hz kend
      · refine J.tableIn (pc := 44) (tgt := 872) G dL_law_44 (by decide) (by decide) (by decide) (by decide) rfl (by decide) ?_
        exact k_labelsOf G hd hXs hb hN hi hn hI hM ho hk hz kend
      · refine J.tableIn (pc := 44) (tgt := 928) G dL_law_44 (by decide) (by decide) (by decide) (by decide) rfl (by decide) ?_
        exact k_parent G hd hXs hb hN hi hn hI hM ho hk hz kend
      · refine J.tableIn (pc := 44) (tgt := 984) G dL_law_44 (by decide) (by decide) (by decide) (by decide) rfl (by decide) ?_
        exact k_children G hd hXs hb hN hi hn hI hM ho hk hz kend
      · refine J.tableIn (pc := 44) (tgt := 1040) G dL_law_44 (by decide) (by decide) (by decide) (by decide) rfl (by decide) ?_
        exact k_child G hd hXs hb hN hi hn hI hM ho hk hz kend
      · refine J.tableIn (pc := 44) (tgt := 1108) G dL_law_44 (by decide) (by decide) (by decide) (by decide) rfl (by decide) ?_
        exact k_shortest G hd hXs hb hN hi hn hI hM ho hk hz kend
      · refine J.tableIn (pc := 44) (tgt := 1164) G dL_law_44 (by decide) (by decide) (by decide) (by decide) rfl (by decide) ?_
        exact k_height G hd hXs hb hN hi hn hI hM ho hk hz kend
      · refine J.tableIn (pc := 44) (tgt := 1208) G dL_law_44 (by decide) (by decide) (by decide) (by decide) rfl (by decide) ?_
        exact k_accepts G hd hXs hb hN hi hn hI hM ho hk hz kend
      · refine J.tableIn (pc := 44) (tgt := 1271) G dL_law_44 (by decide) (by decide) (by decide) (by decide) rfl (by decide) ?_
        exact k_acceptsBuffer G hd hXs hb hN hi hn hI hM ho hk hz kend
      · refine J.tableIn (pc := 44) (tgt := 1322) G dL_law_44 (by decide) (by decide) (by decide) (by decide) rfl (by decide) ?_
        exact k_fitness G hd hXs hb hN hi hn hI hM ho hk hz kend
      · refine J.tableIn (pc := 44) (tgt := 1387) G dL_law_44 (by decide) (by decide) (by decide) (by decide) rfl (by decide) ?_
        exact k_words G hd hXs hb hN hi hn hI hM ho hk hz kend
      · refine J.tableIn (pc := 44) (tgt := 1443) G dL_law_44 (by decide) (by decide) (by decide) (by decide) rfl (by decide) ?_
        exact k_digest (xs := xs) (N := N) G hd hXs hb hN hi hn hI hM ho hk hz kend
      · refine J.tableOut (pc := 44) (tgt := 1457) G dL_law_44 (by omega) (by omega) (by omega) (by decide) ?_
        exact J.wid (by omega) (by omega) (kend n M A S hn hI hM ho)
end LOOP
