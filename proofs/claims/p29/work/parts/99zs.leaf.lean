section PLEAF
set_option maxRecDepth 100000 in
set_option maxHeartbeats 4000000 in
/-- the leaves are counted -/
theorem lw_leaf {g : GT} {d mc ms n ax b many k z lv : Nat} {A : Nat → Nat → Nat} {S : Nat → Nat} {f : Nat → Option Nat} {B : Nat → Nat} {x5 x6 : Option Value} (G : Cx g "ProcessMinerLaw" cL_law 10 d mc ms) (hd : 30 ≤ d) (hlv : ax + 130 ≤ lv) (hx : (∃ q : Int32, x5 = some (.int q)) ∧ ∃ q : Int32, x6 = some (.int q)) (hlr : ∀ u, u < many → f u ≠ some lv) (hk : k + 512 ≤ mc) (hz : z + 3072 ≤ ms) (kk : ∀ M h, LwI M n ax many A S f B → M lv = some (cN 8 h) → (∀ a, a < 8 → h a = lfN (trOf A S) a (trOf A S).length) → J g (k + 512) (z + 3072) n M (lwL b ax many x5 x6 (some (.ref lv)) (iV (anN (trOf A S) (trOf A S).length)) (iV (trOf A S).length)) 277 []) : ∀ dd i M h, (trOf A S).length - i = dd → i ≤ (trOf A S).length → LwI M n ax many A S f B → M lv = some (cN 8 h) → (∀ a, a < 8 → h a = lfN (trOf A S) a i) → J g (k + 8 * i) (z + 48 * i) n M (lwL b ax many x5 x6 (some (.ref lv)) (iV (anN (trOf A S) i)) (iV i)) 214 [] := by
  obtain ⟨⟨q5, rfl⟩, ⟨q6, rfl⟩⟩ := hx
  intro dd
  induction dd with
  | zero =>
    intro i M h he hi hL hM hh
    obtain ⟨l1, l2, hI, s5, s9, -⟩ := id hL
    have h64 := (trOf_grown hI.2.1).1.2
    obtain rfl : i = (trOf A S).length := by omega
    refine J.iload (pc := 214) G dL_law_214 rfl ?_
    refine J.aload_n (pc := 216) G dL_law_216 rfl ?_
    refine J.callV (pc := 217) (na := 0) G ((K_mine n M hI)) q214 q215 q216 q217 q1 (by decide +kernel) dL_law_217 (hI.1.at 0 rfl) rfl rfl (Nat.le_of_ble_eq_true rfl) rfl ⟨by omega, by decide, by omega, by omega⟩ ?_
    rintro r9 n9 M1 ⟨hr9, hn9, hI1, hFr1⟩
    subst hr9
    rw [hn9]
    clear hn9 n9
    dsimp only [Option.toList, List.cons_append, List.nil_append]
    rw [up9 s9] at hI1
    refine J.icmp_geN (pc := 220) (tgt := 277) G dL_law_220 (by decide) (by omega) (by omega) (fun hc => ?_) (fun hc => ?_)
    · exact J.wid (by omega) (by omega) (kk M1 h (hL.go hI1 hFr1) ((hFr1 _ (by omega)).trans hM) hh)
    · omega
  | succ dd ih =>
    intro i M h he hi hL hM hh
    obtain ⟨l1, l2, hI, s5, s9, -⟩ := id hL
    have hG := trOf_grown hI.2.1
    have h64 := hG.1.2
    have hi9 : i < (trOf A S).length := by omega
    have hs8 : ndS (trOf A S) i < 256 := (hG.2.1 i hi9).2.1
    have hk6 : ndK (trOf A S) i ≤ 6 := (hG.sh i hi9).1
    have ha8 := anN_lt (nd := trOf A S) (fun j hj => (hG.2.1 j hj).2.1) i hi
    refine J.iload (pc := 214) G dL_law_214 rfl ?_
    refine J.aload_n (pc := 216) G dL_law_216 rfl ?_
    refine J.callV (pc := 217) (na := 0) G ((K_mine n M hI)) q214 q215 q216 q217 q1 (by decide +kernel) dL_law_217 (hI.1.at 0 rfl) rfl rfl (Nat.le_of_ble_eq_true rfl) rfl ⟨by omega, by decide, by omega, by omega⟩ ?_
    rintro r9 n9 M1 ⟨hr9, hn9, hI1, hFr1⟩
    subst hr9
    rw [hn9]
    clear hn9 n9
    dsimp only [Option.toList, List.cons_append, List.nil_append]
    rw [up9 s9] at hI1
    have hL1 := hL.go hI1 hFr1
    have hM1 : M1 lv = some (cN 8 h) := (hFr1 _ (by omega)).trans hM
    refine J.icmp_geN (pc := 220) (tgt := 277) G dL_law_220 (by decide) (by omega) (by omega) (fun hc => ?_) (fun hc => ?_)
    · omega
    have h271 : ∀ M h, LwI M n ax many A S f B → M lv = some (cN 8 h) → (∀ a, a < 8 → h a = lfN (trOf A S) a (i + 1)) → J g (k + 8 * i + 8) (z + 48 * i + 48) n M (lwL b ax many (some (.int q5)) (some (.int q6)) (some (.ref lv)) (iV (anN (trOf A S) (i + 1))) (iV i)) 271 [] := by
      intro M h hL hM hh
      refine J.iincN (L' := [_, _, _, _, _, _, _, _, _, _]) (pc := 271) G dL_law_271 1 rfl rfl rfl rfl ?_
      refine J.goto (tgt := 214) (pc := 274) G dL_law_274 (by decide) ?_
      exact J.wid (by omega) (by omega) (ih (i + 1) M h (by omega) (by omega) hL hM hh)
    have h245 : J g (k + 8 * i + 4) (z + 48 * i + 24) n M1 (lwL b ax many (some (.int q5)) (some (.int q6)) (some (.ref lv)) (iV (anN (trOf A S) (i + 1))) (iV i)) 245 [] := by
      refine J.aload_n (pc := 245) G dL_law_245 rfl ?_
      refine J.iload (pc := 246) G dL_law_246 rfl ?_
      refine J.callXV (pc := 248) (na := 1) G ((K_kind n M1 hI1 s9 hi9)) q519 q520 q521 q522 q1 (by decide +kernel) dL_law_248 (hI1.1.at 0 rfl) rfl rfl (Nat.le_of_ble_eq_true rfl) rfl ⟨by omega, by decide, by omega, by omega⟩ (fun E9 n9 M9 h9 => h9.elim) ?_
      rintro r9 n9 M9 ⟨hr9, hn9, hM9⟩
      subst hr9
      rw [hn9, hM9]
      clear hn9 hM9 n9 M9
      dsimp only [Option.toList, List.cons_append, List.nil_append]
      refine J.iconstN (pc := 251) G dL_law_251 1 rfl ?_
      refine J.icmp_neN (pc := 252) (tgt := 271) G dL_law_252 (by decide) (by omega) (by omega) (fun hc1 => ?_) (fun hc1 => ?_)
      · refine J.wid (by omega) (by omega) (h271 M1 h hL1 hM1 (fun a ha => ?_))
        rw [lfN_s, if_neg (fun q => hc1 q.1), Nat.add_zero]
        exact hh a ha
      · obtain ⟨c, hc8, hset⟩ := lf_one hG hi9 hc1
        have hpos : 0 < ndS (trOf A S) i := by rw [hset]; exact Nat.two_pow_pos c
        have hlo : loF (ndS (trOf A S) i) = c := by rw [hset]; exact loF_pow hc8
        refine J.aload (pc := 255) G dL_law_255 rfl ?_
        refine J.aload_n (pc := 257) G dL_law_257 rfl ?_
        refine J.iload (pc := 258) G dL_law_258 rfl ?_
        refine J.callXV (pc := 260) (na := 1) G ((K_labelsOf n M1 hI1 s9 hi9)) q536 q537 q538 q539 q1 (by decide +kernel) dL_law_260 (hI1.1.at 0 rfl) rfl rfl (Nat.le_of_ble_eq_true rfl) rfl ⟨by omega, by decide, by omega, by omega⟩ (fun E9 n9 M9 h9 => h9.elim) ?_
        rintro r9 n9 M9 ⟨hr9, hn9, hM9⟩
        subst hr9
        rw [hn9, hM9]
        clear hn9 hM9 n9 M9
        dsimp only [Option.toList, List.cons_append, List.nil_append]
        refine J.callS (pc := 263) (na := 1) G ((c_ntz n M1 hs8 hpos)) q1006 q863 q864 q12 (by decide +kernel) dL_law_263 rfl (Nat.le_of_ble_eq_true rfl) rfl ⟨by omega, by decide, by omega, by omega⟩ ?_
        rintro r9 n9 M9 ⟨hr9, hn9, hM9⟩
        subst hr9
        rw [hn9, hM9]
        clear hn9 hM9 n9 M9
        dsimp only [Option.toList, List.cons_append, List.nil_append]
        rw [hlo]
        refine J.dup2 (pc := 266) G dL_law_266 rfl rfl ?_
        refine J.ialdN (pc := 267) G dL_law_267 hM1 (by omega) (by decide) ?_
        refine J.iconstN (pc := 268) G dL_law_268 1 rfl ?_
        refine J.iaddN (pc := 269) G dL_law_269 ?_
        refine J.iastN (pc := 270) G dL_law_270 hM1 (by omega) (by decide) (fun M2 hput hag => ?_)
        have hI2 : ClsI M2 ax A S := hI1.keep (fun q a1 a2 => hag q (by omega))
        have hL2 : LwI M2 n ax many A S f B := by
          obtain ⟨e1, e2, e3, e4, e5, e6, e7, e8, e9⟩ := hL1
          refine ⟨e1, e2, hI2, e4, e5, (hag _ (by omega)).trans e6, (hag _ (by omega)).trans e7, fun u hu => ?_, e9⟩
          obtain ⟨r, h9, r1, r2, r3, r4⟩ := e8 u hu
          exact ⟨r, h9, r1, r2, r3, (hag r (fun q => hlr u hu (by rw [r1, q]))).trans r4⟩
        refine J.wid (by omega) (by omega) (h271 M2 _ hL2 hput (fun a ha => ?_))
        rw [lfN_s]
        by_cases e : a = c
        · rw [e, upN_s, if_pos ⟨hc1, hlo⟩, hh c hc8]
        · rw [upN_n e, if_neg (fun q => e (by rw [← q.2, hlo])), Nat.add_zero]
          exact hh a ha
    refine J.aload_n (pc := 223) G dL_law_223 rfl ?_
    refine J.iload (pc := 224) G dL_law_224 rfl ?_
    refine J.callXV (pc := 226) (na := 1) G ((K_kind n M1 hI1 s9 hi9)) q519 q520 q521 q522 q1 (by decide +kernel) dL_law_226 (hI1.1.at 0 rfl) rfl rfl (Nat.le_of_ble_eq_true rfl) rfl ⟨by omega, by decide, by omega, by omega⟩ (fun E9 n9 M9 h9 => h9.elim) ?_
    rintro r9 n9 M9 ⟨hr9, hn9, hM9⟩
    subst hr9
    rw [hn9, hM9]
    clear hn9 hM9 n9 M9
    dsimp only [Option.toList, List.cons_append, List.nil_append]
    refine J.bipushN (pc := 229) G dL_law_229 6 (by decide +kernel) ?_
    refine J.icmp_neN (pc := 231) (tgt := 245) G dL_law_231 (by decide) (by omega) (by omega) (fun hc6 => ?_) (fun hc6 => ?_)
    · rw [show anN (trOf A S) i = anN (trOf A S) (i + 1) by rw [anN_s, if_neg hc6]]
      exact J.wid (by omega) (by omega) h245
    · refine J.iload (pc := 234) G dL_law_234 rfl ?_
      refine J.aload_n (pc := 236) G dL_law_236 rfl ?_
      refine J.iload (pc := 237) G dL_law_237 rfl ?_
      refine J.callXV (pc := 239) (na := 1) G ((K_labelsOf n M1 hI1 s9 hi9)) q536 q537 q538 q539 q1 (by decide +kernel) dL_law_239 (hI1.1.at 0 rfl) rfl rfl (Nat.le_of_ble_eq_true rfl) rfl ⟨by omega, by decide, by omega, by omega⟩ (fun E9 n9 M9 h9 => h9.elim) ?_
      rintro r9 n9 M9 ⟨hr9, hn9, hM9⟩
      subst hr9
      rw [hn9, hM9]
      clear hn9 hM9 n9 M9
      dsimp only [Option.toList, List.cons_append, List.nil_append]
      refine J.iorN (pc := 242) G dL_law_242 ?_
      refine J.istore (L' := [_, _, _, _, _, _, _, _, _, _]) (pc := 243) G dL_law_243 rfl (Nat.le_of_ble_eq_true rfl) rfl ?_
      rw [show anN (trOf A S) i ||| ndS (trOf A S) i = anN (trOf A S) (i + 1) by rw [anN_s, if_pos hc6]]
      exact J.wid (by omega) (by omega) h245
set_option maxRecDepth 100000 in
set_option maxHeartbeats 4000000 in
/-- each label is looked at -/
theorem lw_end {g : GT} {d mc ms n ax b many k z lv : Nat} {A : Nat → Nat → Nat} {S : Nat → Nat} {f : Nat → Option Nat} {B h : Nat → Nat} {x5 x6 : Option Value} (G : Cx g "ProcessMinerLaw" cL_law 10 d mc ms) (hd : 30 ≤ d) (hlv : ax + 130 ≤ lv) (hk : k ≤ mc) (hz : z ≤ ms) (hh : ∀ a, a < 8 → h a = lfN (trOf A S) a (trOf A S).length) (kk : ∀ M L, J g k z n M L 318 [.int (iI ((1 : Nat) : Int))]) : ∀ dd a M, 8 - a = dd → a ≤ 8 → LwI M n ax many A S f B → M lv = some (cN 8 h) → J g k z n M (lwL b ax many x5 x6 (some (.ref lv)) (iV (anN (trOf A S) (trOf A S).length)) (iV a)) 280 [] := by
  intro dd
  induction dd with
  | zero =>
    intro a M he ha hL hM
    refine J.iload (pc := 280) G dL_law_280 rfl ?_
    refine J.bipushN (pc := 282) G dL_law_282 8 (by decide +kernel) ?_
    refine J.icmp_geN (pc := 284) (tgt := 317) G dL_law_284 (by decide) (by omega) (by omega) (fun hc => ?_) (fun hc => ?_)
    · refine J.iconstN (pc := 317) G dL_law_317 1 rfl ?_
      exact kk _ _
    · omega
  | succ dd ih =>
    intro a M he ha hL hM
    obtain ⟨l1, l2, hI, s5, s9, -⟩ := id hL
    have hG := trOf_grown hI.2.1
    have hs8 : ndS (trOf A S) 0 < 256 := (hG.2.1 0 hG.1.1).2.1
    have hlf := hh a (by omega)
    rw [leaf_law hG (by omega)] at hlf
    have hbit : (andn (ndS (trOf A S) 0) (anN (trOf A S) (trOf A S).length)) >>> a &&& 1 = h a := by
      rw [has_bit, andn_bit, hlf]
    have h1 : h a < 2 := by
      rw [hlf]
      split <;> omega
    have han : andn (ndS (trOf A S) 0) (anN (trOf A S) (trOf A S).length) < 256 := andn_lt8 hs8
    refine J.iload (pc := 280) G dL_law_280 rfl ?_
    refine J.bipushN (pc := 282) G dL_law_282 8 (by decide +kernel) ?_
    refine J.icmp_geN (pc := 284) (tgt := 317) G dL_law_284 (by decide) (by omega) (by omega) (fun hc => ?_) (fun hc => ?_)
    · omega
    refine J.aload (pc := 287) G dL_law_287 rfl ?_
    refine J.iload (pc := 289) G dL_law_289 rfl ?_
    refine J.ialdN (pc := 291) G dL_law_291 hM (by omega) (by decide) ?_
    refine J.aload_n (pc := 292) G dL_law_292 rfl ?_
    refine J.callV (pc := 293) (na := 0) G ((K_labels n M hI)) q170 q171 q172 q173 q1 (by decide +kernel) dL_law_293 (hI.1.at 0 rfl) rfl rfl (Nat.le_of_ble_eq_true rfl) rfl ⟨by omega, by decide, by omega, by omega⟩ ?_
    rintro r9 n9 M1 ⟨hr9, hn9, hI1, hFr1⟩
    subst hr9
    rw [hn9]
    clear hn9 n9
    dsimp only [Option.toList, List.cons_append, List.nil_append]
    refine J.iload (pc := 296) G dL_law_296 rfl ?_
    refine J.andnN (pc := 298) G dL_law_298 dL_law_299 dL_law_300 ?_
    refine J.iload (pc := 301) G dL_law_301 rfl ?_
    refine J.ishrN (pc := 303) G dL_law_303 (by omega) (by omega) ?_
    refine J.iconstN (pc := 304) G dL_law_304 1 rfl ?_
    refine J.iandN (pc := 305) G dL_law_305 ?_
    rw [hbit]
    refine J.icmp_eqN (pc := 306) (tgt := 311) G dL_law_306 (by decide) (by omega) (by omega) (fun hc2 => ?_) (fun hc2 => ?_)
    · refine J.iincN (L' := [_, _, _, _, _, _, _, _, _, _]) (pc := 311) G dL_law_311 1 rfl rfl rfl rfl ?_
      refine J.goto (tgt := 280) (pc := 314) G dL_law_314 (by decide) ?_
      exact ih (a + 1) M1 (by omega) (by omega) (hL.go hI1 hFr1) ((hFr1 _ (by omega)).trans hM)
    · exact absurd rfl hc2
set_option maxRecDepth 100000 in
set_option maxHeartbeats 4000000 in
theorem law_start {g : GT} {d mc ms b N n : Nat} {xs : Nat → Int32} (G : Cx g "ProcessMinerLaw" cL_law 10 d mc ms) (hd : 30 ≤ d) (hXs : va_X b N xs (gs g) (gs g).heap) (hbs : b < glo g) (hN : N ≤ 260) (hmc : 1000 ≤ mc) (hms : 20000 ≤ ms) (hend : ∀ k z n M L, k ≤ mc → z ≤ ms → J g k z n M L 318 [.int (iI ((1 : Nat) : Int))]) : J g 0 0 n (fun _ => none) [some (.ref b), none, none, none, none, none, none, none, none, none] 0 [] := by
  refine J.new (pc := 0) (ci := 3) (fs := [.null, .int 0, .null, .null, .null, .int 0, .null, .null, .null, .int 0]) G inX3 rfl tyX3 tyX3_ok q15 q16 q1 dL_law_0 (by decide) (by omega) (by omega) (fun M hput hag => ?_)
  clear hag
  refine J.dup (pc := 3) G dL_law_3 rfl ?_
  refine J.callI (pc := 4) (na := 0) G (c_initMiner M hput) q17 q18 q19 q1 rfl (by decide +kernel) dL_law_4 rfl (Nat.le_of_ble_eq_true rfl) rfl ⟨by omega, by decide, by omega, by omega⟩ ?_
  rintro r9 n9 M1 ⟨hr9, hn9, hX, hT, hQ, hL, hfr1⟩
  dsimp only [Option.toList, List.cons_append, List.nil_append]
  subst hr9
  subst hn9
  dsimp only [Option.toList, List.cons_append, List.nil_append]
  have hI := ClsI.zero hX hT hQ hL
  clear hX hT hQ hL hput
  refine J.astore_n (L' := [_, _, _, _, _, _, _, _, _, _]) (pc := 7) G dL_law_7 rfl (Nat.le_of_ble_eq_true rfl) rfl ?_
  refine J.bipushN (pc := 8) G dL_law_8 8 (by decide +kernel) ?_
  refine J.newR (pc := 10) G q1007 dL_law_10 (by decide) (by omega) (by omega) (fun M2 hput2 hag2 => ?_)
  have hI := hI.keep (M' := M2) (fun q a1 a2 => hag2 q (by omega))
  refine J.astore_n (L' := [_, _, _, _, _, _, _, _, _, _]) (pc := 13) G dL_law_13 rfl (Nat.le_of_ble_eq_true rfl) rfl ?_
  refine J.bipushN (pc := 14) G dL_law_14 8 (by decide +kernel) ?_
  refine J.newI (pc := 16) G q62 dL_law_16 (by decide) (by omega) (by omega) (fun M3 hput3 hag3 => ?_)
  have hI := hI.keep (M' := M3) (fun q a1 a2 => hag3 q (by omega))
  have hT3 : M3 (n + 128) = some (cR 3 8 (fun _ => none)) := (hag3 _ (by omega)).trans hput2
  have hB3 : M3 (n + 129) = some (cN 8 (fun _ => 0)) := hput3
  refine J.astore_n (L' := [_, _, _, _, _, _, _, _, _, _]) (pc := 18) G dL_law_18 rfl (Nat.le_of_ble_eq_true rfl) rfl ?_
  refine J.aload_n (pc := 19) G dL_law_19 rfl ?_
  refine J.aload_n (pc := 20) G dL_law_20 rfl ?_
  refine J.iconstN (pc := 21) G dL_law_21 0 rfl ?_
  refine J.aload_n (pc := 22) G dL_law_22 rfl ?_
  refine J.aload_n (pc := 23) G dL_law_23 rfl ?_
  refine J.callFs (pc := 24) (na := 5) G ((c_build (n + 128 + 1 + 1) M3 hN (by omega) hI hT3 hB3)) hXs hbs q995 q996 q997 q0 (by decide +kernel) dL_law_24 rfl (Nat.le_of_ble_eq_true rfl) rfl ⟨by omega, by decide, by omega, by omega⟩ ?_
  rintro r9 n9 M4 ⟨many, A, S, f, B, hr9, hn9, hmany, hI4, s5, s9, hT4, hB4, hR4, hBA⟩
  dsimp only [Option.toList, List.cons_append, List.nil_append]
  subst hr9
  dsimp only [Option.toList, List.cons_append, List.nil_append]
  refine J.istore (L' := [_, _, _, _, _, _, _, _, _, _]) (pc := 27) G dL_law_27 rfl (Nat.le_of_ble_eq_true rfl) rfl ?_
  refine J.iload (pc := 29) G dL_law_29 rfl ?_
  refine J.if_ge (pc := 31) (tgt := 36) G dL_law_31 (by decide) (by omega) (by omega) (fun _ => ?_) (fun h => absurd h (by omega))
  refine J.aload_n (pc := 36) G dL_law_36 rfl ?_
  refine J.callV (pc := 37) (na := 0) G ((K_mine n9 M4 hI4)) q214 q215 q216 q217 q1 (by decide +kernel) dL_law_37 (hI4.1.at 0 rfl) rfl rfl (Nat.le_of_ble_eq_true rfl) rfl ⟨by omega, by decide, by omega, by omega⟩ ?_
  rintro r9 n9 M5 ⟨hr9, hn9, hI5, hFr5⟩
  subst hr9
  rw [hn9]
  clear hn9 n9
  dsimp only [Option.toList, List.cons_append, List.nil_append]
  have hLw : LwI M5 n9 n many A (upN S 9 1) f B := ⟨hn9, hmany, hI5, s5, rfl, (hFr5 _ (by omega)).trans hT4, (hFr5 _ (by omega)).trans hB4, hR4.fr hFr5, hBA⟩
  clear hI5 hFr5 hBA hR4 hB4 hT4 hI4
  generalize upN S 9 1 = S at hLw
  obtain ⟨-, -, hI, s5, s9, -⟩ := id hLw
  refine J.pop (pc := 40) G dL_law_40 rfl ?_
  refine J.iconstN (pc := 41) G dL_law_41 0 rfl ?_
  refine J.istore (L' := [_, _, _, _, _, _, _, _, _, _]) (pc := 42) G dL_law_42 rfl (Nat.le_of_ble_eq_true rfl) rfl ?_
  refine J.aload_n (pc := 44) G dL_law_44 rfl ?_
  refine J.iconstN (pc := 45) G dL_law_45 0 rfl ?_
  refine J.callXV (pc := 46) (na := 1) G ((K_shortest n9 M5 hI s9)) q569 q570 q571 q572 q1 (by decide +kernel) dL_law_46 (hI.1.at 0 rfl) rfl rfl (Nat.le_of_ble_eq_true rfl) rfl ⟨by omega, by decide, by omega, by omega⟩ (fun E9 n9 M9 h9 => h9.elim) ?_
  rintro r9 n9 M6 ⟨hr9, hn9, hI6, hFr6⟩
  subst hr9
  rw [hn9]
  clear hn9 n9
  dsimp only [Option.toList, List.cons_append, List.nil_append]
  have hL6 := hLw.go hI6 hFr6
  refine J.istore (L' := [_, _, _, _, _, _, _, _, _, _]) (pc := 49) G dL_law_49 rfl (Nat.le_of_ble_eq_true rfl) rfl ?_
  refine J.iconstN (pc := 51) G dL_law_51 0 rfl ?_
  refine J.istore (L' := [_, _, _, _, _, _, _, _, _, _]) (pc := 52) G dL_law_52 rfl (Nat.le_of_ble_eq_true rfl) rfl ?_
  refine J.wid (k' := 280 + 2 * 0) (z' := 7400 + 12 * 0) (by omega) (by omega) ?_
  refine lw_acc (k := 280) (z := 7400) G hd (by omega) (by omega) (fun M7 hL7 => ?_) many 0 M6 (by omega) (by omega) hL6
  refine lw_fit G hd (by omega) (by omega) hL7 (fun M8 hL8 => ?_)
  refine J.iconstN (pc := 153) G dL_law_153 0 rfl ?_
  refine J.istore (L' := [_, _, _, _, _, _, _, _, _, _]) (pc := 154) G dL_law_154 rfl (Nat.le_of_ble_eq_true rfl) rfl ?_
  refine J.wid (k' := 300 + 4 * 0) (z' := 7600 + 24 * 0) (by omega) (by omega) ?_
  refine lw_words (k := 300) (z := 7600) G hd (by omega) (by omega) (fun M9 hL9 => ?_) 4 0 M8 (by omega) (by omega) hL8
  refine J.bipushN (pc := 202) G dL_law_202 8 (by decide +kernel) ?_
  refine J.newI (pc := 204) G q62 dL_law_204 (by decide) (by omega) (by omega) (fun M10 hput10 hag10 => ?_)
  have hL10 : LwI M10 (n9 + 1) n many A S f B := by
    obtain ⟨e1, e2, e3, e4, e5, e6, e7, e8, e9⟩ := hL9
    refine ⟨by omega, e2, e3.keep (fun q a1 a2 => hag10 q (by omega)), e4, e5, (hag10 _ (by omega)).trans e6, (hag10 _ (by omega)).trans e7, fun u hu => ?_, e9⟩
    obtain ⟨r, h9, r1, r2, r3, r4⟩ := e8 u hu
    exact ⟨r, h9, r1, r2, by omega, (hag10 r (by omega)).trans r4⟩
  have hlr : ∀ u, u < many → f u ≠ some n9 := fun u hu q => by
    obtain ⟨r, h9, r1, r2, r3, r4⟩ := hL9.2.2.2.2.2.2.2.1 u hu
    rw [r1] at q
    cases q
    omega
  refine J.astore (L' := [_, _, _, _, _, _, _, _, _, _]) (pc := 206) G dL_law_206 rfl (Nat.le_of_ble_eq_true rfl) rfl ?_
  refine J.iconstN (pc := 208) G dL_law_208 0 rfl ?_
  refine J.istore (L' := [_, _, _, _, _, _, _, _, _, _]) (pc := 209) G dL_law_209 rfl (Nat.le_of_ble_eq_true rfl) rfl ?_
  refine J.iconstN (pc := 211) G dL_law_211 0 rfl ?_
  refine J.istore (L' := [_, _, _, _, _, _, _, _, _, _]) (pc := 212) G dL_law_212 rfl (Nat.le_of_ble_eq_true rfl) rfl ?_
  refine J.wid (k' := 400 + 8 * 0) (z' := 8000 + 48 * 0) (by omega) (by omega) ?_
  refine lw_leaf (k := 400) (z := 8000) (lv := n9) G hd (by omega) ⟨⟨_, rfl⟩, ⟨_, rfl⟩⟩ hlr (by omega) (by omega) (fun M11 h11 hL11 hM11 hh11 => ?_) (trOf A S).length 0 M10 (fun _ => 0) (by omega) (by omega) hL10 hput10 (fun a ha => rfl)
  refine J.iconstN (pc := 277) G dL_law_277 0 rfl ?_
  refine J.istore (L' := [_, _, _, _, _, _, _, _, _, _]) (pc := 278) G dL_law_278 rfl (Nat.le_of_ble_eq_true rfl) rfl ?_
  exact lw_end (lv := n9) G hd (by omega) (by omega) (by omega) hh11 (fun M L => hend _ _ _ M L (by omega) (by omega)) 8 0 M11 (by omega) (by omega) hL11 hM11
end PLEAF
