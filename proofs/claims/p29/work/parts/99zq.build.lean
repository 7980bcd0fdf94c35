section PBUILD
set_option maxRecDepth 100000 in
set_option maxHeartbeats 4000000 in
/-- a row is told to the miner and kept -/
theorem bd_put {g : GT} {d mc ms n ax b form many t size ro r len k z : Nat} {M0 : AH} {x : Int32} {h : Nat → Nat} {f : Nat → Option Nat} {A0 : Nat → Nat → Nat} (G : Cx g "ProcessMinerLaw" cL_build 15 d mc ms) (hd : 20 ≤ d) (ht : t < 8) (hlen : len ≤ 6) (hro : M0 ro = some (cN 12 h)) (h8 : ∀ j, j < 12 → h j < 8) (htr : M0 (ax + 128) = some (cR 3 8 f)) (hf : f t = some r) (e1 : ax + 128 ≤ ro) (e2 : ro ≠ r) (e3 : ax + 128 < r) (hk : k + 12 ≤ mc) (hz : z + 72 ≤ ms) (kk : ∀ M A S h2, ClsI M ax A S → A 3 = A0 3 → A 4 = A0 4 → S 1 = len → S 5 = t → S 9 = 0 → M r = some (cN len h2) → (∀ q, (q < ax ∨ ax + 128 ≤ q) → q ≠ r → M q = M0 q) → J g (k + 12) (z + 72) n M (bdL ax b form many t (some (.int x)) (iV size) (some (.ref ro)) (iV len) (iV len) none none) 313 []) : ∀ dd i M A S h2, len - i = dd → i ≤ len → ClsI M ax A S → A 3 = A0 3 → A 4 = A0 4 → S 1 = i → S 5 = t → S 9 = 0 → M r = some (cN len h2) → (∀ q, (q < ax ∨ ax + 128 ≤ q) → q ≠ r → M q = M0 q) → J g (k + 2 * i) (z + 12 * i) n M (bdL ax b form many t (some (.int x)) (iV size) (some (.ref ro)) (iV len) (iV i) none none) 270 [] := by
  intro dd
  induction dd with
  | zero =>
    intro i M A S h2 he hi hI a3 a4 s1 s5 s9 hr hq
    obtain rfl : i = len := by omega
    refine J.iload (pc := 270) G dL_build_270 rfl ?_
    refine J.iload (pc := 272) G dL_build_272 rfl ?_
    refine J.icmp_geN (pc := 274) (tgt := 313) G dL_build_274 (by decide) (by omega) (by omega) (fun hc => ?_) (fun hc => ?_)
    · exact J.wid (by omega) (by omega) (kk M A S h2 hI a3 a4 s1 s5 s9 hr hq)
    · omega
  | succ dd ih =>
    intro i M A S h2 he hi hI a3 a4 s1 s5 s9 hr hq
    refine J.iload (pc := 270) G dL_build_270 rfl ?_
    refine J.iload (pc := 272) G dL_build_272 rfl ?_
    refine J.icmp_geN (pc := 274) (tgt := 313) G dL_build_274 (by decide) (by omega) (by omega) (fun hc => ?_) (fun hc => ?_)
    · omega
    refine J.aload_n (pc := 277) G dL_build_277 rfl ?_
    refine J.iload (pc := 278) G dL_build_278 rfl ?_
    refine J.aald (pc := 280) G dL_build_280 ((hq (ax + 128) (by omega) (by omega)).trans htr) (Or.inl rfl) t rfl (by omega) (by decide) hf ?_
    refine J.iload (pc := 281) G dL_build_281 rfl ?_
    refine J.aload (pc := 283) G dL_build_283 rfl ?_
    refine J.iload (pc := 285) G dL_build_285 rfl ?_
    refine J.ialdN (pc := 287) G dL_build_287 ((hq ro (by omega) e2).trans hro) (by omega) (by decide) ?_
    refine J.iastN (pc := 288) G dL_build_288 hr (by omega) (by omega) (fun M1 hput hag => ?_)
    have hI1 := hI.keep (M' := M1) (fun q a1 a2 => hag q (by omega))
    have hro1 : M1 ro = some (cN 12 h) := (hag ro e2).trans ((hq ro (by omega) e2).trans hro)
    refine J.aload_n (pc := 289) G dL_build_289 rfl ?_
    refine J.aload (pc := 290) G dL_build_290 rfl ?_
    refine J.iload (pc := 292) G dL_build_292 rfl ?_
    refine J.ialdN (pc := 294) G dL_build_294 hro1 (by omega) (by decide) ?_
    refine J.callXV (pc := 295) (na := 1) G ((K_event n M1 hI1 (h8 _ (by omega)) (by omega))) q335 q336 q337 q338 q1 (by decide +kernel) dL_build_295 (hI1.1.at 0 rfl) rfl rfl (Nat.le_of_ble_eq_true rfl) rfl ⟨by omega, by decide, by omega, by omega⟩ (fun E9 n9 M9 h9 => h9.elim) ?_
    rintro r9 n9 M2 ⟨hr9, hn9, hI2, hFr2⟩
    subst hr9
    rw [hn9]
    clear hn9 n9
    dsimp only [Option.toList, List.cons_append, List.nil_append]
    refine J.iload (pc := 298) G dL_build_298 rfl ?_
    refine J.iconstN (pc := 300) G dL_build_300 1 rfl ?_
    refine J.iaddN (pc := 301) G dL_build_301 ?_
    refine J.icmp_eqN (pc := 302) (tgt := 307) G dL_build_302 (by decide) (by omega) (by omega) (fun hc2 => ?_) (fun hc2 => ?_)
    · refine J.iincN (L' := [_, _, _, _, _, _, _, _, _, _, _, _, _, _, _]) (pc := 307) G dL_build_307 1 rfl rfl rfl rfl ?_
      refine J.goto (tgt := 270) (pc := 310) G dL_build_310 (by decide) ?_
      refine J.wid (by omega) (by omega) (ih (i + 1) M2 _ _ _ (by omega) (by omega) hI2 a3 a4 ?_ s5 s9 ((hFr2 r (by omega)).trans hput) (fun q h1 h3 => (hFr2 q (by omega)).trans ((hag q h3).trans (hq q h1 h3))))
      show S 1 + 1 = i + 1
      omega
    · omega
/-- the rows that the law keeps -/
def RwI (M : AH) (n ax : Nat) (f : Nat → Option Nat) (A : Nat → Nat → Nat) (t : Nat) : Prop := ∀ u, u < t → ∃ r h, f u = some r ∧ ax + 130 ≤ r ∧ r < n ∧ M r = some (cN (A 3 u) h)
theorem bdL_sub {ax b form many t : Nat} {x8 x9 x10 x11 x12 x13 x14 : Option Value} : ∀ (j : Nat) (v : Value), (bdL ax b form many t none none none none none none none)[j]? = some (some v) → (bdL ax b form many t x8 x9 x10 x11 x12 x13 x14)[j]? = some (some v)
  | 0, _, h => h
  | 1, _, h => h
  | 2, _, h => h
  | 3, _, h => h
  | 4, _, h => h
  | 5, _, h => h
  | 6, _, h => h
  | 7, _, h => h
  | 8, _, h => (by cases h)
  | 9, _, h => (by cases h)
  | 10, _, h => (by cases h)
  | 11, _, h => (by cases h)
  | 12, _, h => (by cases h)
  | 13, _, h => (by cases h)
  | 14, _, h => (by cases h)
  | _ + 15, _, h => (by cases h)
set_option maxRecDepth 100000 in
set_option maxHeartbeats 4000000 in
theorem bd_loop {g : GT} {d mc ms ax b N form many : Nat} {xs : Nat → Int32} (G : Cx g "ProcessMinerLaw" cL_build 15 d mc ms) (hXs : va_X b N xs (gs g) (gs g).heap) (hbs : b < glo g) (hN : N ≤ 260) (hd : 20 ≤ d) (hform : form < 6) (hmany : many ≤ 7) (hmc : 128 ≤ mc) (hms : 816 ≤ ms) (kk : ∀ k z n M A S f B, k ≤ mc → z ≤ ms → ax + 130 ≤ n → ClsI M ax A S → S 5 = many → S 9 = 0 → M (ax + 128) = some (cR 3 8 f) → M (ax + 129) = some (cN 8 B) → RwI M n ax f A many → (∀ u, u < many → B u = A 4 u) → J g k z n M (bdL ax b form many many none none none none none none none) 368 []) : ∀ dd t n M A S f B, many - t = dd → t ≤ many → ax + 130 ≤ n → ClsI M ax A S → S 1 = 0 → S 5 = t → S 9 = 0 → M (ax + 128) = some (cR 3 8 f) → M (ax + 129) = some (cN 8 B) → RwI M n ax f A t → (∀ u, u < t → B u = A 4 u) → J g (16 * t) (102 * t) n M (bdL ax b form many t none none none none none none none) 29 [] := by
  intro dd
  induction dd with
  | zero =>
    intro t n M A S f B he ht hn hI s1 s5 s9 hT hB hR hBA
    obtain rfl : t = many := by omega
    refine J.iload (pc := 29) G dL_build_29 rfl ?_
    refine J.iload (pc := 31) G dL_build_31 rfl ?_
    refine J.icmp_geN (pc := 33) (tgt := 368) G dL_build_33 (by decide) (by omega) (by omega) (fun hc => ?_) (fun hc => ?_)
    · exact kk _ _ n M A S f B (by omega) (by omega) hn hI s5 s9 hT hB hR hBA
    · omega
  | succ dd ih =>
    intro t n M A S f B he ht hn hI s1 s5 s9 hT hB hR hBA
    refine J.iload (pc := 29) G dL_build_29 rfl ?_
    refine J.iload (pc := 31) G dL_build_31 rfl ?_
    refine J.icmp_geN (pc := 33) (tgt := 368) G dL_build_33 (by decide) (by omega) (by omega) (fun hc => ?_) (fun hc => ?_)
    · omega
    refine J.aload_n (pc := 36) G dL_build_36 rfl ?_
    refine J.iload_n (pc := 37) G dL_build_37 rfl ?_
    refine J.iconstN (pc := 38) G dL_build_38 1 rfl ?_
    refine J.iaddN (pc := 39) G dL_build_39 ?_
    refine J.iload (pc := 40) G dL_build_40 rfl ?_
    refine J.iaddN (pc := 42) G dL_build_42 ?_
    refine J.callFs (pc := 43) (na := 2) G ((c_cell n M hN (by omega))) hXs hbs q998 q999 q1000 q0 (by decide +kernel) dL_build_43 rfl (Nat.le_of_ble_eq_true rfl) rfl ⟨by omega, by decide, by omega, by omega⟩ ?_
    rintro r9 n9 M9 ⟨⟨x, hr9⟩, hn9, hM9⟩
    subst hr9
    rw [hn9, hM9]
    clear hn9 hM9 n9 M9
    dsimp only [Option.toList, List.cons_append, List.nil_append]
    have h62 : ∀ m : Nat, 0 < m → m ≤ 7 → J g (16 * t) (102 * t) n M (bdL ax b form many t (some (.int x)) none none none none none none) 62 [.int (iI (m : Int)), .int x] := by
      intro m hm0 hm7
      refine J.callS (pc := 62) (na := 2) G ((c_below n M hm0 (by omega))) q1002 q1003 q1004 q0 (by decide +kernel) dL_build_62 rfl (Nat.le_of_ble_eq_true rfl) rfl ⟨by omega, by decide, by omega, by omega⟩ ?_
      rintro r9 n9 M9 ⟨⟨size, hsz, hr9⟩, hn9, hM9⟩
      subst hr9
      rw [hn9, hM9]
      clear hn9 hM9 n9 M9
      dsimp only [Option.toList, List.cons_append, List.nil_append]
      refine J.istore (L' := [_, _, _, _, _, _, _, _, _, _, _, _, _, _, _]) (pc := 65) G dL_build_65 rfl (Nat.le_of_ble_eq_true rfl) rfl ?_
      refine J.bipushN (pc := 67) G dL_build_67 12 (by decide +kernel) ?_
      refine J.newI (pc := 69) G q62 dL_build_69 (by decide) (by omega) (by omega) (fun M1 hput1 hag1 => ?_)
      refine J.astore (L' := [_, _, _, _, _, _, _, _, _, _, _, _, _, _, _]) (pc := 71) G dL_build_71 rfl (Nat.le_of_ble_eq_true rfl) rfl ?_
      refine J.iconstN (pc := 73) G dL_build_73 0 rfl ?_
      refine J.istore (L' := [_, _, _, _, _, _, _, _, _, _, _, _, _, _, _]) (pc := 74) G dL_build_74 rfl (Nat.le_of_ble_eq_true rfl) rfl ?_
      refine J.iconstN (pc := 76) G dL_build_76 0 rfl ?_
      refine J.istore (L' := [_, _, _, _, _, _, _, _, _, _, _, _, _, _, _]) (pc := 77) G dL_build_77 rfl (Nat.le_of_ble_eq_true rfl) rfl ?_
      refine bd_row (size := size) (ro := n) (M0 := M1) G hd hform (by omega) (by omega) (by omega) (fun M2 h hM2 h8 hq2 => ?_) size 0 M1 (fun _ => 0) (by omega) (by omega) hput1 (fun _ _ => Nat.succ_pos 7) (fun _ _ => rfl)
      have hq3 : ∀ q, q ≠ n → M2 q = M q := fun q hne => (hq2 q hne).trans (hag1 q hne)
      have hI2 : ClsI M2 ax A S := hI.keep (fun q a1 a2 => hq3 q (by omega))
      have h259 : ∀ len : Nat, len ≤ 6 → J g (16 * t + 1) (102 * t + 12) (n + 1) M2 (bdL ax b form many t (some (.int x)) (iV size) (some (.ref n)) (iV len) (iV size) none none) 259 [] := by
        intro len hlen
        refine J.aload_n (pc := 259) G dL_build_259 rfl ?_
        refine J.iload (pc := 260) G dL_build_260 rfl ?_
        refine J.iload (pc := 262) G dL_build_262 rfl ?_
        refine J.newI (pc := 264) G q62 dL_build_264 (by omega) (by omega) (by omega) (fun M3 hput3 hag3 => ?_)
        have hT3 : M3 (ax + 128) = some (cR 3 8 f) := (hag3 _ (by omega)).trans ((hq3 _ (by omega)).trans hT)
        refine J.aastR (pc := 266) G dL_build_266 hT3 hput3 t rfl (by omega) (by decide) (fun M4 hput4 hag4 => ?_)
        have hI4 : ClsI M4 ax A S := hI2.keep (fun q a1 a2 => (hag4 q (by omega)).trans (hag3 q (by omega)))
        have hr4 : M4 (n + 1) = some (cN len (fun _ => 0)) := (hag4 _ (by omega)).trans hput3
        have hro4 : M4 n = some (cN 12 h) := (hag4 _ (by omega)).trans ((hag3 _ (by omega)).trans hM2)
        have hft : va_up f t (some (n + 1)) t = some (n + 1) := by simp [va_up]
        refine J.iconstN (pc := 267) G dL_build_267 0 rfl ?_
        refine J.istore (L' := [_, _, _, _, _, _, _, _, _, _, _, _, _, _, _]) (pc := 268) G dL_build_268 rfl (Nat.le_of_ble_eq_true rfl) rfl ?_
        refine J.wid (k' := 16 * t + 2 + 2 * 0) (z' := 102 * t + 18 + 12 * 0) (by omega) (by omega) ?_
        refine bd_put (r := n + 1) (ro := n) (len := len) (k := 16 * t + 2) (z := 102 * t + 18) (M0 := M4) (A0 := A) G hd (by omega) hlen hro4 h8 hput4 hft (by omega) (by omega) (by omega) (by omega) (by omega) (fun M5 A5 S5 h2 hI5 a3 a4 t1 t5 t9 hr5 hq5 => ?_) len 0 M4 A S _ (by omega) (by omega) hI4 rfl rfl s1 s5 s9 hr4 (fun _ _ _ => rfl)
        have hT5 : M5 (ax + 128) = some (cR 3 8 (va_up f t (some (n + 1)))) := (hq5 _ (by omega) (by omega)).trans hput4
        have hB5 : M5 (ax + 129) = some (cN 8 B) := (hq5 _ (by omega) (by omega)).trans ((hag4 _ (by omega)).trans ((hag3 _ (by omega)).trans ((hq3 _ (by omega)).trans hB)))
        have h345 : ∀ v : Nat, v ≤ 5 → J g (16 * t + 14) (102 * t + 90) (n + 1 + 1) M5 (bdL ax b form many t (some (.int x)) (iV size) (some (.ref n)) (iV len) (iV len) none none) 345 [.int (iI (v : Int)), .int (iI (t : Int)), .ref (ax + 129)] := by
          intro v hv
          refine J.iastN (pc := 345) G dL_build_345 hB5 (by omega) (by decide) (fun M6 hput6 hag6 => ?_)
          have hI6 : ClsI M6 ax A5 S5 := hI5.keep (fun q a1 a2 => hag6 q (by omega))
          refine J.aload_n (pc := 346) G dL_build_346 rfl ?_
          refine J.aload (pc := 347) G dL_build_347 rfl ?_
          refine J.iload (pc := 349) G dL_build_349 rfl ?_
          refine J.ialdN (pc := 351) G dL_build_351 hput6 (by omega) (by decide) ?_
          rw [upN_s]
          refine J.callXV (pc := 352) (na := 1) G ((K_endTrace (n + 1 + 1) M6 hI6 (by omega) (by omega))) q430 q431 q432 q433 q1 (by decide +kernel) dL_build_352 (hI6.1.at 0 rfl) rfl rfl (Nat.le_of_ble_eq_true rfl) rfl ⟨by omega, by decide, by omega, by omega⟩ (fun E9 n9 M9 h9 => h9.elim) ?_
          rintro r9 n9 M7 ⟨hr9, hn9, hI7, hFr7⟩
          subst hr9
          rw [hn9]
          clear hn9 n9
          dsimp only [Option.toList, List.cons_append, List.nil_append]
          refine J.iload (pc := 355) G dL_build_355 rfl ?_
          refine J.icmp_eqN (pc := 357) (tgt := 362) G dL_build_357 (by decide) (by omega) (by omega) (fun hc7 => ?_) (fun hc7 => ?_)
          · refine J.iincN (L' := [_, _, _, _, _, _, _, _, _, _, _, _, _, _, _]) (pc := 362) G dL_build_362 1 rfl rfl rfl rfl ?_
            refine J.goto (tgt := 29) (pc := 365) G dL_build_365 (by decide) ?_
            refine J.sub (L' := bdL ax b form many (t + 1) none none none none none none none) rfl bdL_sub ?_
            refine J.wid (by omega) (by omega) (ih (t + 1) (n + 1 + 1) M7 _ _ (va_up f t (some (n + 1))) (upN B t v) (by omega) (by omega) (by omega) hI7 rfl ?_ rfl ((hFr7 _ (by omega)).trans ((hag6 _ (by omega)).trans hT5)) ((hFr7 _ (by omega)).trans hput6) (fun u hu => ?_) (fun u hu => ?_))
            · show S5 5 + 1 = t + 1
              omega
            · by_cases e : u = t
              · refine ⟨n + 1, h2, by rw [e]; exact hft, by omega, by omega, ?_⟩
                rw [hFr7 _ (by omega), hag6 _ (by omega), hr5]
                show _ = some (cN (upN (A5 3) (S5 5) (S5 1) u) h2)
                rw [show u = S5 5 by omega, upN_s, t1]
              · obtain ⟨r, h9, r1, r2, r3, r4⟩ := hR u (by omega)
                refine ⟨r, h9, by simp [va_up, e, r1], r2, by omega, ?_⟩
                rw [hFr7 _ (by omega), hag6 _ (by omega), hq5 _ (by omega) (by omega), hag4 _ (by omega), hag3 _ (by omega), hq3 _ (by omega), r4]
                show _ = some (cN (upN (A5 3) (S5 5) (S5 1) u) h9)
                rw [upN_n (by omega), a3]
            · show upN B t v u = upN (A5 4) (S5 5) v u
              by_cases e : u = t
              · rw [e, upN_s, ← t5, upN_s]
              · rw [upN_n e, upN_n (by omega), a4]
                exact hBA u (by omega)
          · omega
        refine J.wid (k' := 16 * t + 14) (z' := 102 * t + 90) (by omega) (by omega) ?_
        refine J.aload (pc := 313) G dL_build_313 rfl ?_
        refine J.iload (pc := 315) G dL_build_315 rfl ?_
        refine J.iload (pc := 317) G dL_build_317 rfl ?_
        refine J.bipushN (pc := 319) G dL_build_319 21 (by decide +kernel) ?_
        refine J.ishr_r (pc := 321) G dL_build_321 ?_
        refine J.bipushN (pc := 322) G dL_build_322 6 (by decide +kernel) ?_
        refine J.callS (pc := 324) (na := 2) G ((c_below (n + 1 + 1) M5 (by decide) (by decide))) q1002 q1003 q1004 q0 (by decide +kernel) dL_build_324 rfl (Nat.le_of_ble_eq_true rfl) rfl ⟨by omega, by decide, by omega, by omega⟩ ?_
        rintro r9 n9 M9 ⟨⟨j, hj, hr9⟩, hn9, hM9⟩
        subst hr9
        rw [hn9, hM9]
        clear hn9 hM9 n9 M9
        dsimp only [Option.toList, List.cons_append, List.nil_append]
        refine J.if_neN (pc := 327) (tgt := 334) G dL_build_327 (by decide) (by omega) (fun hc6 => ?_) (fun hc6 => ?_)
        · refine J.iconstN (pc := 334) G dL_build_334 1 rfl ?_
          refine J.iload (pc := 335) G dL_build_335 rfl ?_
          refine J.bipushN (pc := 337) G dL_build_337 24 (by decide +kernel) ?_
          refine J.ishr_r (pc := 339) G dL_build_339 ?_
          refine J.iconstN (pc := 340) G dL_build_340 5 rfl ?_
          refine J.callS (pc := 341) (na := 2) G ((c_below (n + 1 + 1) M5 (by decide) (by decide))) q1002 q1003 q1004 q0 (by decide +kernel) dL_build_341 rfl (Nat.le_of_ble_eq_true rfl) rfl ⟨by omega, by decide, by omega, by omega⟩ ?_
          rintro r9 n9 M9 ⟨⟨j2, hj2, hr9⟩, hn9, hM9⟩
          subst hr9
          rw [hn9, hM9]
          clear hn9 hM9 n9 M9
          dsimp only [Option.toList, List.cons_append, List.nil_append]
          refine J.iaddN (pc := 344) G dL_build_344 ?_
          exact h345 (1 + j2) (by omega)
        · refine J.iconstN (pc := 330) G dL_build_330 0 rfl ?_
          refine J.goto (tgt := 345) (pc := 331) G dL_build_331 (by decide) ?_
          exact h345 0 (by omega)
      refine J.iload (pc := 238) G dL_build_238 rfl ?_
      refine J.iconstN (pc := 240) G dL_build_240 3 rfl ?_
      refine J.icmp_neN (pc := 241) (tgt := 259) G dL_build_241 (by decide) (by omega) (by omega) (fun hc3 => ?_) (fun hc3 => ?_)
      · exact h259 size (by omega)
      · refine J.iload (pc := 244) G dL_build_244 rfl ?_
        refine J.iconstN (pc := 246) G dL_build_246 2 rfl ?_
        refine J.iremN (pc := 247) G dL_build_247 (by omega) (by decide) (by decide) ?_
        refine J.if_neN (pc := 248) (tgt := 259) G dL_build_248 (by decide) (by omega) (fun hc4 => ?_) (fun hc4 => ?_)
        · exact h259 size (by omega)
        · refine J.iload (pc := 251) G dL_build_251 rfl ?_
          refine J.if_leN (pc := 253) (tgt := 259) G dL_build_253 (by decide) (by omega) (fun hc5 => ?_) (fun hc5 => ?_)
          · exact h259 size (by omega)
          · refine J.iinc (L' := [_, _, _, _, _, _, _, _, _, _, _, _, _, _, _]) (pc := 256) G dL_build_256 rfl rfl rfl ?_
            refine J.loc (L' := bdL ax b form many t (some (.int x)) (iV size) (some (.ref n)) (iV (size - 1)) (iV size) none none) (by rw [show (size : Int) + (-1) = ((size - 1 : Nat) : Int) by omega]) ?_
            exact h259 (size - 1) (by omega)
    refine J.istore (L' := [_, _, _, _, _, _, _, _, _, _, _, _, _, _, _]) (pc := 46) G dL_build_46 rfl (Nat.le_of_ble_eq_true rfl) rfl ?_
    refine J.iload (pc := 48) G dL_build_48 rfl ?_
    refine J.iload (pc := 50) G dL_build_50 rfl ?_
    refine J.if_neN (pc := 52) (tgt := 60) G dL_build_52 (by decide) (by omega) (fun hf => ?_) (fun hf => ?_)
    · refine J.bipushN (pc := 60) G dL_build_60 6 (by decide +kernel) ?_
      exact h62 6 (by decide) (by decide)
    · refine J.bipushN (pc := 55) G dL_build_55 7 (by decide +kernel) ?_
      refine J.goto (tgt := 62) (pc := 57) G dL_build_57 (by decide) ?_
      exact h62 7 (by decide) (by decide)
set_option maxRecDepth 100000 in
set_option maxHeartbeats 4000000 in
theorem c_build (n : Nat) (M : AH) {ax b N : Nat} {xs : Nat → Int32} (hN : N ≤ 260) (hn : ax + 130 ≤ n) (hI : ClsI M ax (fun _ _ => 0) (fun _ => 0)) {f0 : Nat → Option Nat} {B0 : Nat → Nat} (hT : M (ax + 128) = some (cR 3 8 f0)) (hB : M (ax + 129) = some (cN 8 B0)) : Fs b N xs yL_build cL_build 15 (some .int) 20 [.ref ax, .ref b, .int (iI ((0 : Nat) : Int)), .ref (ax + 128), .ref (ax + 129)] n M 128 816 (fun r n' M' => ∃ many A S f B, r = some (.int (iI ((many : Nat) : Int))) ∧ ax + 130 ≤ n' ∧ many ≤ 7 ∧ ClsI M' ax A S ∧ S 5 = many ∧ S 9 = 0 ∧ M' (ax + 128) = some (cR 3 8 f) ∧ M' (ax + 129) = some (cN 8 B) ∧ RwI M' n' ax f A many ∧ ∀ u, u < many → B u = A 4 u) := by
  refine Fs.of (by decide) [some _, some _, some _, some _, some _, none, none, none, none, none, none, none, none, none, none] rfl rfl (Nat.le_of_ble_eq_true rfl) ?_
  intro g G hO hXs hbs
  refine J.aload_n (pc := 0) G dL_build_0 rfl ?_
  refine J.iload_n (pc := 1) G dL_build_1 rfl ?_
  refine J.callFs (pc := 2) (na := 2) G ((c_cell n M hN (by omega))) hXs hbs q998 q999 q1000 q0 (by decide +kernel) dL_build_2 rfl (Nat.le_of_ble_eq_true rfl) rfl ⟨by omega, by decide, by omega, by omega⟩ ?_
  rintro r9 n9 M9 ⟨⟨x, hr9⟩, hn9, hM9⟩
  subst hr9
  rw [hn9, hM9]
  clear hn9 hM9 n9 M9
  dsimp only [Option.toList, List.cons_append, List.nil_append]
  refine J.bipushN (pc := 5) G dL_build_5 6 (by decide +kernel) ?_
  refine J.callS (pc := 7) (na := 2) G ((c_below n M (by decide) (by decide))) q1002 q1003 q1004 q0 (by decide +kernel) dL_build_7 rfl (Nat.le_of_ble_eq_true rfl) rfl ⟨by omega, by decide, by omega, by omega⟩ ?_
  rintro r9 n9 M9 ⟨⟨form, hform, hr9⟩, hn9, hM9⟩
  subst hr9
  rw [hn9, hM9]
  clear hn9 hM9 n9 M9
  dsimp only [Option.toList, List.cons_append, List.nil_append]
  refine J.istore (L' := [_, _, _, _, _, _, _, _, _, _, _, _, _, _, _]) (pc := 10) G dL_build_10 rfl (Nat.le_of_ble_eq_true rfl) rfl ?_
  refine J.aload_n (pc := 12) G dL_build_12 rfl ?_
  refine J.iload_n (pc := 13) G dL_build_13 rfl ?_
  refine J.callFs (pc := 14) (na := 2) G ((c_cell n M hN (by omega))) hXs hbs q998 q999 q1000 q0 (by decide +kernel) dL_build_14 rfl (Nat.le_of_ble_eq_true rfl) rfl ⟨by omega, by decide, by omega, by omega⟩ ?_
  rintro r9 n9 M9 ⟨⟨x2, hr9⟩, hn9, hM9⟩
  subst hr9
  rw [hn9, hM9]
  clear hn9 hM9 n9 M9
  dsimp only [Option.toList, List.cons_append, List.nil_append]
  refine J.iconstN (pc := 17) G dL_build_17 3 rfl ?_
  refine J.ishr_r (pc := 18) G dL_build_18 ?_
  refine J.bipushN (pc := 19) G dL_build_19 8 (by decide +kernel) ?_
  refine J.callS (pc := 21) (na := 2) G ((c_below n M (by decide) (by decide))) q1002 q1003 q1004 q0 (by decide +kernel) dL_build_21 rfl (Nat.le_of_ble_eq_true rfl) rfl ⟨by omega, by decide, by omega, by omega⟩ ?_
  rintro r9 n9 M9 ⟨⟨many, hmany, hr9⟩, hn9, hM9⟩
  subst hr9
  rw [hn9, hM9]
  clear hn9 hM9 n9 M9
  dsimp only [Option.toList, List.cons_append, List.nil_append]
  refine J.istore (L' := [_, _, _, _, _, _, _, _, _, _, _, _, _, _, _]) (pc := 24) G dL_build_24 rfl (Nat.le_of_ble_eq_true rfl) rfl ?_
  refine J.iconstN (pc := 26) G dL_build_26 0 rfl ?_
  refine J.istore (L' := [_, _, _, _, _, _, _, _, _, _, _, _, _, _, _]) (pc := 27) G dL_build_27 rfl (Nat.le_of_ble_eq_true rfl) rfl ?_
  refine J.wid (k' := 16 * 0) (z' := 102 * 0) (by omega) (by omega) ?_
  refine bd_loop (form := form) (many := many) G hXs hbs hN (Nat.le_refl _) hform (by omega) (by omega) (by omega) (fun k z n9 M9 A S f B hk hz hn9 hI9 s5 s9 hT9 hB9 hR9 hBA => ?_) many 0 n M _ _ f0 B0 (by omega) (by omega) hn hI rfl rfl rfl hT hB (fun u hu => absurd hu (Nat.not_lt_zero u)) (fun u hu => absurd hu (Nat.not_lt_zero u))
  refine J.aload_n (pc := 368) G dL_build_368 rfl ?_
  refine J.callV (pc := 369) (na := 0) G ((c_traceCount n9 M9 hI9.1)) q166 q167 q168 q169 q1 (by decide +kernel) dL_build_369 (hI9.1.at 0 rfl) rfl rfl (Nat.le_of_ble_eq_true rfl) rfl ⟨by omega, by decide, by omega, by omega⟩ ?_
  rintro r9 n9 M9 ⟨hr9, hn9, hM9⟩
  subst hr9
  rw [hn9, hM9]
  clear hn9 hM9 n9 M9
  dsimp only [Option.toList, List.cons_append, List.nil_append]
  refine J.iload (pc := 372) G dL_build_372 rfl ?_
  refine J.icmp_neN (pc := 374) (tgt := 382) G dL_build_374 (by decide) (by omega) (by omega) (fun hc => ?_) (fun hc => ?_)
  · omega
  · refine J.iload (pc := 377) G dL_build_377 rfl ?_
    refine J.goto (tgt := 383) (pc := 379) G dL_build_379 (by decide) ?_
    exact J.iret (pc := 383) G hO dL_build_383 hk hz ⟨many, A, S, f, B, rfl, hn9, by omega, hI9, s5, s9, hT9, hB9, hR9, hBA⟩
end PBUILD
