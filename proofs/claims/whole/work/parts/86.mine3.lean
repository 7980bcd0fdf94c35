section MINE3
def nbI (nx : Nat → Nat) (a k : Nat) : Nat := it (fun b v => if (nx a).testBit b = true ∧ (nx b).testBit a = true then v else v ||| 2 ^ b) 0 k
/-- a row whose members from a place on are moved up by one, so far -/
def shF (e : Nat → Nat) (j x : Nat) : Nat → Nat := fun i => if j ≤ i ∧ i + 1 < x then e (i + 1) else e i
theorem shF_0 {e : Nat → Nat} {j : Nat} : shF e j (j + 1) = e := by
  funext i
  unfold shF
  rw [if_neg (by omega)]
theorem shF_s {e : Nat → Nat} {j x : Nat} (h : j + 1 ≤ x) : upN (shF e j x) (x - 1) (shF e j x x) = shF e j (x + 1) := by
  funext i
  by_cases h1 : i = x - 1
  · subst h1
    rw [upN_s]
    unfold shF
    rw [if_neg (by omega), if_pos (by omega), show x - 1 + 1 = x by omega]
  · rw [upN_n h1]
    unfold shF
    by_cases h2 : j ≤ i ∧ i + 1 < x
    · rw [if_pos h2, if_pos (by omega)]
    · rw [if_neg h2, if_neg (by omega)]
theorem jl_stop {b e : Nat} {qs : List Nat} (h : ¬ (fl b e qs < qs.length ∧ 2 ≤ qs.length)) : ∀ fu, jl b e fu qs = qs
  | 0 => rfl
  | fu + 1 => by rw [jl, if_neg h]
theorem jn_row {e : Nat → Nat} {qs : List Nat} {j v : Nat} (h : Pl e qs) (h1 : 1 ≤ j) (hj : j < qs.length) (hv : v = gd qs 0 ||| gd qs j) : Pl (shF (upN e 0 v) j qs.length) (jn qs j) := by
  intro i hi
  rw [jn_len hj] at hi
  show _ = gd (jn qs j) i
  rw [jn_gd h1 hj]
  unfold shF
  by_cases h2 : i < j
  · rw [if_neg (by omega), if_pos h2]
    by_cases h3 : i = 0
    · subst h3
      rw [if_pos rfl, upN_s, hv]
    · rw [if_neg h3, upN_n h3]
      exact h i (by omega)
  · rw [if_pos (by omega), if_neg h2, upN_n (by omega)]
    exact h (i + 1) (by omega)
set_option maxRecDepth 100000 in
set_option maxHeartbeats 4000000 in
theorem m_mineBoth {a f : Nat} (hrec : GrowM a f) (n : Nat) (M0 : AH) {b fr mc ms : Nat} {p : Int} {tr : List (List Nat)} {nd : List Nd} {R : Nat → Nat → Nat} {P : Nat → Int} {Z : Nat → Nat} (hg : LgB M0 b (a + 9) tr) (hbn : ∀ q x, M0 q = some x → q < n) (hgd : GoodM tr) (hM : Cl M0 a (modC a R P Z)) (hT : MdG R P Z nd) (hp : Rng p) (hfo : M0 fr = some (cN 8 (moF tr))) (hfa : a + 9 ≤ fr) (hok : 2 ≤ (mp4 tr).length → nd.length < 64 ∧ fldOk f tr 4 (mp4 tr) (nd.length : Int) (nd ++ [(4, p, moL tr)])) (hc2 : 3 ≤ mc) (hs2 : 24 ≤ ms) (hmc : 2 ≤ (mp4 tr).length → 3 + csC (cC f) tr 4 (mp4 tr) (mp4 tr).length ≤ mc) (hms : 2 ≤ (mp4 tr).length → 24 + csS (cS f) tr 4 (mp4 tr) (mp4 tr).length ≤ ms) : Fn yX4_mineBoth cX4_mineBoth 14 (some .boolean) (2 * f + 5) [.ref a, .ref b, .int (iI (moL tr : Int)), .ref fr, .int (iI p)] n M0 mc ms (MCut a n f M0 R P Z tr 4 (mp4 tr) (2 ≤ (mp4 tr).length) p nd) := by
  refine Fn.of (by decide) [some _, some _, some _, some _, some _, none, none, none, none, none, none, none, none, none] rfl rfl (Nat.le_of_ble_eq_true rfl) ?_
  intro g G hin hO
  obtain ⟨hgl, hl12⟩ := id hgd
  obtain ⟨hlab, ht1, ht2⟩ := id hgl
  have hall := lbL_lt hlab
  have hfo8 := foL_lt hlab (Nat.le_refl tr.length)
  have hbig : a + 9 ≤ n := by
    have := hbn _ _ (hM.at 8 rfl)
    omega
  have hfrn := hbn _ _ hfo
  refine J.bipushN (pc := 0) G dX4_mineBoth_0 8 (by decide +kernel) ?_
  refine J.newI (pc := 2) G q62 dX4_mineBoth_2 (by decide) (by omega) (by omega) (fun M1 hjn hag1 => ?_)
  refine J.astore (L' := [_, _, _, _, _, _, _, _, _, _, _, _, _, _]) (pc := 4) G dX4_mineBoth_4 rfl (Nat.le_of_ble_eq_true rfl) rfl ?_
  refine J.iconstN (pc := 6) G dX4_mineBoth_6 0 rfl ?_
  refine J.istore (L' := [_, _, _, _, _, _, _, _, _, _, _, _, _, _]) (pc := 7) G dX4_mineBoth_7 rfl (Nat.le_of_ble_eq_true rfl) rfl ?_
  have K74 : ∀ M : AH, M n = some (cN 8 (fillN (nearB (moF tr)) (fun _ => 0) 8)) → (∀ x, x < n → M x = M0 x) → ∀ l6 l7, J g (0 + 1) (0 + 8) (n + 1) M [some (.ref a), some (.ref b), some (.int (iI (moL tr : Int))), some (.ref fr), some (.int (iI p)), some (.ref n), l6, l7, none, none, none, none, none, none] 74 [] := by
    clear hag1 hjn M1
    intro M hjn hag l6 l7
    have hjn8 : ∀ i, i < 8 → fillN (nearB (moF tr)) (fun _ => 0) 8 i < 256 := fun i hi => by rw [fillN_in hi]; exact nearB_lt8
    have hpl := paL_len (set := moL tr) (jn := fillN (nearB (moF tr)) (fun _ => 0) 8)
    have hpa := paL_all (jn := fillN (nearB (moF tr)) (fun _ => 0) 8) (show moL tr < 256 from hall)
    refine J.iload_n (pc := 74) G dX4_mineBoth_74 rfl ?_
    refine J.aload (pc := 75) G dX4_mineBoth_75 rfl ?_
    refine J.callS (pc := 77) (na := 2) G (m_parts (n + 1) M (jr := n) (set := moL tr) (jn := fillN (nearB (moF tr)) (fun _ => 0) 8) hjn (by omega) hjn8 hall) q843 q844 q845 q5 (by decide +kernel) dX4_mineBoth_77 rfl (Nat.le_of_ble_eq_true rfl) rfl ⟨by omega, by decide, by omega, by omega⟩ ?_
    rintro r9 n9 M1 ⟨hr9, hn9, hps, hag1⟩
    dsimp only [Option.toList, List.cons_append, List.nil_append]
    subst hr9
    subst hn9
    dsimp only [Option.toList, List.cons_append, List.nil_append]
    have emq : paL (moL tr) (fillN (nearB (moF tr)) (fun _ => 0) 8) = mq4 tr := rfl
    have emp : jl (moB tr) (moE tr) 8 (mq4 tr) = mp4 tr := rfl
    rw [emq] at hps hpl hpa
    generalize mq4 tr = ps at hps hpl hpa emp
    have hM1 : Cl M1 a (modC a R P Z) := (hM.al hbn hag).keep (fun q g1 g2 => hag1 q (by simp at g2; omega))
    have hag0 : ∀ q, q < n → M1 q = M0 q := fun q g1 => (hag1 q (by omega)).trans (hag q g1)
    have hgM1 : LgB M1 b (a + 9) tr := hg.keep hbn (fun x g1 g2 => hag0 x g2)
    clear hjn hjn8 hag hag1 hM
    have h120 : tr.length < 1000 := by omega
    have hl120 : ∀ t, t < tr.length → (tr.getD t []).length < 1000 := fun t ht => by have := hl12 t ht; omega
    refine J.astore (L' := [_, _, _, _, _, _, _, _, _, _, _, _, _, _]) (pc := 80) G dX4_mineBoth_80 rfl (Nat.le_of_ble_eq_true rfl) rfl ?_
    refine J.aload_n (pc := 82) G dX4_mineBoth_82 rfl ?_
    refine J.iconstN (pc := 83) G dX4_mineBoth_83 0 rfl ?_
    refine J.topv (b := bI false) rfl ?_
    refine J.callS (pc := 84) (na := 2) G (m_edgesIn (n + 1 + 2) M1 (b := b) (e := false) (tr := tr) hgM1.lg hlab h120 hl120) q870 q871 q872 q5 (by decide +kernel) dX4_mineBoth_84 rfl (Nat.le_of_ble_eq_true rfl) rfl ⟨by omega, by decide, by omega, by omega⟩ ?_
    rintro r9 n9 M9 ⟨hr9, hn9, hM9⟩
    subst hr9
    rw [hn9, hM9]
    clear hn9 hM9 n9 M9
    dsimp only [Option.toList, List.cons_append, List.nil_append]
    refine J.istore (L' := [_, _, _, _, _, _, _, _, _, _, _, _, _, _]) (pc := 87) G dX4_mineBoth_87 rfl (Nat.le_of_ble_eq_true rfl) rfl ?_
    refine J.aload_n (pc := 89) G dX4_mineBoth_89 rfl ?_
    refine J.iconstN (pc := 90) G dX4_mineBoth_90 1 rfl ?_
    refine J.topv (b := bI true) rfl ?_
    refine J.callS (pc := 91) (na := 2) G (m_edgesIn (n + 1 + 2) M1 (b := b) (e := true) (tr := tr) hgM1.lg hlab h120 hl120) q870 q871 q872 q5 (by decide +kernel) dX4_mineBoth_91 rfl (Nat.le_of_ble_eq_true rfl) rfl ⟨by omega, by decide, by omega, by omega⟩ ?_
    rintro r9 n9 M9 ⟨hr9, hn9, hM9⟩
    subst hr9
    rw [hn9, hM9]
    clear hn9 hM9 n9 M9
    dsimp only [Option.toList, List.cons_append, List.nil_append]
    have eb : egL tr false tr.length = moB tr := rfl
    have ee : egL tr true tr.length = moE tr := rfl
    rw [eb, ee]
    generalize moB tr = be at emp ⊢
    generalize moE tr = en at emp ⊢
    refine J.istore (L' := [_, _, _, _, _, _, _, _, _, _, _, _, _, _]) (pc := 94) G dX4_mineBoth_94 rfl (Nat.le_of_ble_eq_true rfl) rfl ?_
    refine J.aload (pc := 96) G dX4_mineBoth_96 rfl ?_
    refine J.alenI (pc := 98) G dX4_mineBoth_98 hps ?_
    refine J.istore (L' := [_, _, _, _, _, _, _, _, _, _, _, _, _, _]) (pc := 99) G dX4_mineBoth_99 rfl (Nat.le_of_ble_eq_true rfl) rfl ?_
    refine J.iconstN (pc := 101) G dX4_mineBoth_101 0 rfl ?_
    refine J.istore (L' := [_, _, _, _, _, _, _, _, _, _, _, _, _, _]) (pc := 102) G dX4_mineBoth_102 rfl (Nat.le_of_ble_eq_true rfl) rfl ?_
    have K247 : ∀ (M : AH) (e : Nat → Nat), M (n + 1 + 1) = some (cN ps.length e) → Pl e (mp4 tr) → (mp4 tr).length ≤ ps.length → (∀ q, q < n → M q = M0 q) → Cl M a (modC a R P Z) → ∀ (x10 : Int32) l11 l12 l13, J g (0 + 1 + 2) (0 + 8 + 16) (n + 1 + 2) M [some (.ref a), some (.ref b), some (.int (iI (moL tr : Int))), some (.ref fr), some (.int (iI p)), some (.ref n), some (.ref (n + 1 + 1)), some (.int (iI (be : Int))), some (.int (iI (en : Int))), some (.int (iI ((mp4 tr).length : Int))), some (.int x10), l11, l12, l13] 247 [] := by
      clear hps hM1 hag0 hgM1 M1
      have hal := (jl_inv be en 8 ps hpl (fun i hi => (hpa i hi).2)).2
      rw [emp] at hal
      clear emp hpa
      intro M e hps hPe hle hag hM x10 l11 l12 l13
      generalize mp4 tr = fin at hO hok hmc hms hal hPe hle ⊢
      refine J.iload (pc := 247) G dX4_mineBoth_247 rfl ?_
      refine J.iconstN (pc := 249) G dX4_mineBoth_249 2 rfl ?_
      refine J.icmp_geN (pc := 250) (tgt := 255) G dX4_mineBoth_250 (by decide) (by omega) (by decide) (fun h2 => ?_) (fun h2 => ?_)
      · obtain ⟨hok1, hok2⟩ := hok h2
        have hmc := hmc h2
        have hms := hms h2
        have h8 := hT.1
        refine J.aload_n (pc := 255) G dX4_mineBoth_255 rfl ?_
        refine J.iconstN (pc := 256) G dX4_mineBoth_256 4 rfl ?_
        refine J.iload (pc := 257) G dX4_mineBoth_257 rfl ?_
        refine J.iload_n (pc := 259) G dX4_mineBoth_259 rfl ?_
        refine J.callV (pc := 260) (na := 3) G (m_add (n + 1 + 2) M (kd := 4) (set := moL tr) (p := p) hM (by omega)) q828 q830 qp43 q831 q5 (by decide +kernel) dX4_mineBoth_260 (hM.at 0 rfl) rfl rfl (Nat.le_of_ble_eq_true rfl) rfl ⟨by omega, by decide, by omega, by omega⟩ ?_
        rintro r9 n9 M2 ⟨hr9, hn9, ⟨hM2, hFr2⟩⟩
        subst hr9
        rw [hn9]
        clear hn9 n9
        dsimp only [Option.toList, List.cons_append, List.nil_append]
        rw [h8]
        have hT2 := hT.add (kd := 4) (set := moL tr) (p := p)
        have hps2 : M2 (n + 1 + 1) = some (cN ps.length e) := (hFr2 (n + 1 + 1) (by omega)).trans hps
        have hFr0 : FrM a n M0 M2 := FrM.tr (FrM.al hag) (FrM.fr (n := n) hFr2) (Nat.le_refl _)
        clear hT hM hag hps hFr2 M
        refine J.istore (L' := [_, _, _, _, _, _, _, _, _, _, _, _, _, _]) (pc := 263) G dX4_mineBoth_263 rfl (Nat.le_of_ble_eq_true rfl) rfl ?_
        refine J.iconstN (pc := 265) G dX4_mineBoth_265 0 rfl ?_
        refine J.istore (L' := [_, _, _, _, _, _, _, _, _, _, _, _, _, _]) (pc := 266) G dX4_mineBoth_266 rfl (Nat.le_of_ble_eq_true rfl) rfl ?_
        have K1 : ∀ s : Nat × Nat × AH × (Nat → Nat → Nat) × (Nat → Int) × (Nat → Nat), (s.1 ≤ fin.length ∧ n + 3 ≤ s.2.1 ∧ Cl s.2.2.1 a (modC a s.2.2.2.1 s.2.2.2.2.1 s.2.2.2.2.2) ∧ MdG s.2.2.2.1 s.2.2.2.2.1 s.2.2.2.2.2 (fld f tr 4 fin (nd.length : Int) (nd ++ [(4, p, moL tr)]) s.1) ∧ KpW R Z s.2.2.2.1 s.2.2.2.2.2 ∧ s.2.2.1 (n + 1 + 1) = some (cN ps.length e) ∧ FrM a n M0 s.2.2.1) → J g (3 + csC (cC f) tr 4 fin s.1) (24 + csS (cS f) tr 4 fin s.1) s.2.1 s.2.2.1 [some (.ref a), some (.ref b), some (.int (iI (moL tr : Int))), some (.ref fr), some (.int (iI p)), some (.ref n), some (.ref (n + 1 + 1)), some (.int (iI (be : Int))), some (.int (iI (en : Int))), some (.int (iI (fin.length : Int))), some (.int x10), some (.int (iI (nd.length : Int))), some (.int (iI (s.1 : Int))), l13] 268 [] := by
          refine loopJ (fun s => fin.length - s.1) _ _ ?_
          rintro ⟨i, nc, M, R1, P1, Z1⟩ ⟨hi, hnc, hM, hT, hK, hps, hFr⟩ ih
          dsimp only at hi hnc hM hT hK hps hFr ih ⊢
          refine J.iload (pc := 268) G dX4_mineBoth_268 rfl ?_
          refine J.iload (pc := 270) G dX4_mineBoth_270 rfl ?_
          refine J.icmp_geN (pc := 272) (tgt := 297) G dX4_mineBoth_272 (by decide) (by omega) (by omega) (fun h5 => ?_) (fun h5 => ?_)
          · have hie : i = fin.length := by omega
            subst hie
            refine J.iconstN (pc := 297) G dX4_mineBoth_297 1 rfl ?_
            exact J.zret1 (pc := 298) G hO dX4_mineBoth_298 (by omega) (by omega) ⟨by omega, hFr, Or.inl ⟨h2, rfl, R1, P1, Z1, hM, hT, hK⟩⟩
          · refine J.dom (fun hbc => ?_)
            have hgi := hal i h5
            have ei : e i = gd fin i := hPe i h5
            obtain ⟨hd1, hd2⟩ := hok2 i h5
            have hst := csC_to (F := cC f) (tr := tr) (kd := 4) (ps := fin) (show i + 1 ≤ fin.length by omega)
            have hss := csS_to (F := cS f) (tr := tr) (kd := 4) (ps := fin) (show i + 1 ≤ fin.length by omega)
            have e1 : csC (cC f) tr 4 fin (i + 1) = csC (cC f) tr 4 fin i + (opC tr 4 (gd fin i) + cC f (takeF tr (gd fin i) 4)) := rfl
            have e2 : csS (cS f) tr 4 fin (i + 1) = csS (cS f) tr 4 fin i + (opS tr 4 (gd fin i) + cS f (takeF tr (gd fin i) 4)) := rfl
            have e3 : opC tr 4 (gd fin i) = tr.length + 2 := rfl
            have e4 : opS tr 4 (gd fin i) = 2 * tr.length + tot (takeI (gd fin i) false true tr tr.length) := rfl
            have e5 : takeF tr (gd fin i) 4 = takeI (gd fin i) false true tr tr.length := rfl
            have hstep : fld f tr 4 fin (nd.length : Int) (nd ++ [(4, p, moL tr)]) (i + 1) = growF f (takeF tr (gd fin i) 4) (nd.length : Int) (fld f tr 4 fin (nd.length : Int) (nd ++ [(4, p, moL tr)]) i) := rfl
            have hgM : LgB M b (a + 9) tr := hg.keep hbn (fun x g1 g2 => hFr x g2 (by omega))
            generalize fld f tr 4 fin (nd.length : Int) (nd ++ [(4, p, moL tr)]) i = nq at hT hd2 hstep
            refine J.aload_n (pc := 275) G dX4_mineBoth_275 rfl ?_
            refine J.aload_n (pc := 276) G dX4_mineBoth_276 rfl ?_
            refine J.aload (pc := 277) G dX4_mineBoth_277 rfl ?_
            refine J.iload (pc := 279) G dX4_mineBoth_279 rfl ?_
            refine J.ialdN (pc := 281) G dX4_mineBoth_281 hps (by omega) (by omega) ?_
            rw [ei]
            refine J.iconstN (pc := 282) G dX4_mineBoth_282 1 rfl ?_
            refine J.topv (b := bI true) rfl ?_
            refine J.callS (pc := 283) (na := 3) G (m_only nc M (b := b) (set := gd fin i) (we := true) (tr := tr) hgM.lg hbc hgi hlab (by omega) hl120) q832 q833 q834 q5 (by decide +kernel) dX4_mineBoth_283 rfl (Nat.le_of_ble_eq_true rfl) rfl ⟨by omega, by decide, by omega, by omega⟩ ?_
            rintro r9 n9 M3 ⟨hr9, hn9, hlg3, hag3⟩
            dsimp only [Option.toList, List.cons_append, List.nil_append]
            subst hr9
            subst hn9
            dsimp only [Option.toList, List.cons_append, List.nil_append]
            rw [← e5] at hlg3 e4 ⊢
            have hM3 := hM.al hbc hag3
            refine J.dom (fun hbc3 => ?_)
            refine J.iload (pc := 286) G dX4_mineBoth_286 rfl ?_
            refine J.callV (pc := 288) (na := 2) G (hrec (nc + 2 + (takeF tr (gd fin i) 4).length) M3 (nc + 1 + (takeF tr (gd fin i) 4).length) (nd.length : Int) (takeF tr (gd fin i) 4) nq R1 P1 Z1 (hlg3.wide (by omega)) hbc3 (takeF_goodM hgd) hM3 hT ⟨by omega, by omega⟩ hd1 hd2) q821 q823 qp42 q824 q5 (by decide +kernel) dX4_mineBoth_288 (hM3.at 0 rfl) rfl rfl (Nat.le_of_ble_eq_true rfl) rfl ⟨by omega, by decide, by omega, by omega⟩ ?_
            rintro r8 n8 M4 ⟨hr8, hn8, ⟨R4, P4, Z4, hM4, hT4, hK4⟩, hFr4⟩
            dsimp only [Option.toList, List.cons_append, List.nil_append]
            subst hr8
            dsimp only [Option.toList, List.cons_append, List.nil_append]
            refine J.iincN (L' := [_, _, _, _, _, _, _, _, _, _, _, _, _, _]) (pc := 291) G dX4_mineBoth_291 1 rfl rfl rfl rfl ?_
            refine J.goto (pc := 294) (tgt := 268) G dX4_mineBoth_294 (by decide) ?_
            refine J.wid (k' := 3 + csC (cC f) tr 4 fin (i + 1)) (z' := 24 + csS (cS f) tr 4 fin (i + 1)) (by omega) (by omega) ?_
            exact ih (i + 1, n8, M4, R4, P4, Z4) ⟨by dsimp only; omega, by dsimp only; omega, hM4, by dsimp only; rw [hstep]; exact hT4, hK.tr hK4, (hFr4 (n + 1 + 1) (by omega) (by omega)).trans ((hag3 _ (by omega)).trans hps), hFr.tr (FrM.tr (FrM.al hag3) hFr4 (by omega)) (by omega)⟩ (by dsimp only; omega)
        refine J.wid (k' := 3 + csC (cC f) tr 4 fin 0) (z' := 24 + csS (cS f) tr 4 fin 0) (by show _ ≤ 3 + 0; omega) (by show _ ≤ 24 + 0; omega) ?_
        exact K1 (0, n + 1 + 2, M2, _, _, _) ⟨Nat.zero_le _, Nat.le_refl _, hM2, hT2, KpW.add, hps2, hFr0⟩
      · refine J.iconstN (pc := 253) G dX4_mineBoth_253 0 rfl ?_
        exact J.zret0 (pc := 254) G hO dX4_mineBoth_254 (by omega) (by omega) ⟨by omega, FrM.al hag, Or.inr ⟨by omega, rfl, hM⟩⟩
    have K1 : ∀ s : Nat × List Nat × Nat × AH, (jl be en s.1 s.2.1 = mp4 tr ∧ s.2.1.length ≤ s.1 + 1 ∧ s.2.1.length ≤ ps.length ∧ All8 s.2.1 ∧ (s.2.2.1 = 0 ∨ (s.2.2.1 = s.2.1.length ∧ s.2.1 = mp4 tr)) ∧ (∃ e, s.2.2.2 (n + 1 + 1) = some (cN ps.length e) ∧ Pl e s.2.1) ∧ (∀ q, q < n → s.2.2.2 q = M0 q) ∧ Cl s.2.2.2 a (modC a R P Z)) → ∀ l11 l12 l13, J g (0 + 1 + 2) (0 + 8 + 16) (n + 1 + 2) s.2.2.2 [some (.ref a), some (.ref b), some (.int (iI (moL tr : Int))), some (.ref fr), some (.int (iI p)), some (.ref n), some (.ref (n + 1 + 1)), some (.int (iI (be : Int))), some (.int (iI (en : Int))), some (.int (iI (s.2.1.length : Int))), some (.int (iI (s.2.2.1 : Int))), l11, l12, l13] 104 [] := by
      refine loopJ (fun s => 2 * s.2.1.length + (if s.2.2.1 = 0 then 1 else 0)) _ _ ?_
      clear hps hM1 hag0 hgM1 M1
      rintro ⟨fu, qs, wk, M⟩ ⟨hjl, hfu, hql, hal, hwk, ⟨e, hps, hPe⟩, hag, hM⟩ ih l11 l12 l13
      dsimp only at hjl hfu hql hal hwk hps hPe hag hM ih ⊢
      have K247' : qs = mp4 tr → J g (0 + 1 + 2) (0 + 8 + 16) (n + 1 + 2) M [some (.ref a), some (.ref b), some (.int (iI (moL tr : Int))), some (.ref fr), some (.int (iI p)), some (.ref n), some (.ref (n + 1 + 1)), some (.int (iI (be : Int))), some (.int (iI (en : Int))), some (.int (iI (qs.length : Int))), some (.int (iI (wk : Int))), l11, l12, l13] 247 [] := by
        intro e9
        rw [e9]
        rw [e9] at hPe hql
        exact K247 M e hps hPe hql hag hM _ _ _ _
      refine J.iload (pc := 104) G dX4_mineBoth_104 rfl ?_
      refine J.iconstN (pc := 106) G dX4_mineBoth_106 1 rfl ?_
      refine J.icmp_leN (pc := 107) (tgt := 247) G dX4_mineBoth_107 (by decide) (by omega) (by decide) (fun h5 => ?_) (fun h5 => ?_)
      · exact K247' (by rw [← hjl, jl_stop (by omega)])
      · refine J.iload (pc := 110) G dX4_mineBoth_110 rfl ?_
        refine J.iload (pc := 112) G dX4_mineBoth_112 rfl ?_
        refine J.icmp_geN (pc := 114) (tgt := 247) G dX4_mineBoth_114 (by decide) (by omega) (by omega) (fun h6 => ?_) (fun h6 => ?_)
        · rcases hwk with q9 | ⟨-, q9⟩
          · omega
          · exact K247' q9
        · have hwk0 : wk = 0 := by rcases hwk with q9 | ⟨q9, -⟩ <;> omega
          subst hwk0
          rw [if_pos rfl] at ih
          clear hwk K247'
          refine J.iconstN (pc := 117) G dX4_mineBoth_117 0 rfl ?_
          refine J.istore (L' := [_, _, _, _, _, _, _, _, _, _, _, _, _, _]) (pc := 118) G dX4_mineBoth_118 rfl (Nat.le_of_ble_eq_true rfl) rfl ?_
          have K155 : ∀ w : Nat, w = fl be en qs → J g (0 + 1 + 2) (0 + 8 + 16) (n + 1 + 2) M [some (.ref a), some (.ref b), some (.int (iI (moL tr : Int))), some (.ref fr), some (.int (iI p)), some (.ref n), some (.ref (n + 1 + 1)), some (.int (iI (be : Int))), some (.int (iI (en : Int))), some (.int (iI (qs.length : Int))), some (.int (iI (w : Int))), l11, l12, l13] 155 [] := by
            intro w hw
            have hwl : w ≤ qs.length := by rw [hw]; exact (fiU_spec qs.length).1
            refine J.iload (pc := 155) G dX4_mineBoth_155 rfl ?_
            refine J.iload (pc := 157) G dX4_mineBoth_157 rfl ?_
            refine J.icmp_neN (pc := 159) (tgt := 165) G dX4_mineBoth_159 (by decide) (by omega) (by omega) (fun h7 => ?_) (fun h7 => ?_)
            · obtain ⟨fu', hf'⟩ : ∃ fu', fu = fu' + 1 := ⟨fu - 1, by omega⟩
              subst hf'
              rw [jl, if_pos ⟨by omega, by omega⟩, ← hw] at hjl
              have K175 : ∀ fi j : Nat, fi = (if w = 0 then 1 else 0) → j = (if w = 0 then 1 else w) → J g (0 + 1 + 2) (0 + 8 + 16) (n + 1 + 2) M [some (.ref a), some (.ref b), some (.int (iI (moL tr : Int))), some (.ref fr), some (.int (iI p)), some (.ref n), some (.ref (n + 1 + 1)), some (.int (iI (be : Int))), some (.int (iI (en : Int))), some (.int (iI (qs.length : Int))), some (.int (iI (w : Int))), l11, l12, l13] 175 [.int (iI (fi : Int))] := by
                intro fi j hfi hj
                rw [← hj] at hjl
                have hj1 : 1 ≤ j := by rw [hj]; split <;> omega
                have hjq : j < qs.length := by rw [hj]; split <;> omega
                have hfq : fi < qs.length := by rw [hfi]; split <;> omega
                have hmin : min w fi = 0 := by rw [hfi]; split <;> omega
                have hmax : max w fi = j := by rw [hfi, hj]; split <;> omega
                have ew : e w = gd qs w := hPe w (by omega)
                have ef : e fi = gd qs fi := hPe fi hfq
                have hbo : gd qs w ||| gd qs fi = gd qs 0 ||| gd qs j := by
                  rw [hfi, hj]
                  split
                  · rename_i q9; rw [q9]
                  · exact Nat.or_comm _ _
                refine J.istore (L' := [_, _, _, _, _, _, _, _, _, _, _, _, _, _]) (pc := 175) G dX4_mineBoth_175 rfl (Nat.le_of_ble_eq_true rfl) rfl ?_
                refine J.aload (pc := 177) G dX4_mineBoth_177 rfl ?_
                refine J.iload (pc := 179) G dX4_mineBoth_179 rfl ?_
                refine J.ialdN (pc := 181) G dX4_mineBoth_181 hps (by omega) (by omega) ?_
                rw [ew]
                refine J.aload (pc := 182) G dX4_mineBoth_182 rfl ?_
                refine J.iload (pc := 184) G dX4_mineBoth_184 rfl ?_
                refine J.ialdN (pc := 186) G dX4_mineBoth_186 hps (by omega) (by omega) ?_
                rw [ef]
                refine J.iorN (pc := 187) G dX4_mineBoth_187 ?_
                refine J.istore (L' := [_, _, _, _, _, _, _, _, _, _, _, _, _, _]) (pc := 188) G dX4_mineBoth_188 rfl (Nat.le_of_ble_eq_true rfl) rfl ?_
                refine J.aload (pc := 190) G dX4_mineBoth_190 rfl ?_
                refine J.iload (pc := 192) G dX4_mineBoth_192 rfl ?_
                refine J.iload (pc := 194) G dX4_mineBoth_194 rfl ?_
                refine J.mmin (pc := 196) G q873 dX4_mineBoth_196 (by omega) (Nat.le_of_ble_eq_true rfl) rfl (by omega) (by omega) (by omega) (by omega) ?_
                rw [hmin]
                refine J.iload (pc := 199) G dX4_mineBoth_199 rfl ?_
                refine J.iastN (pc := 201) G dX4_mineBoth_201 hps (by omega) (by omega) (fun M2 hput hag2 => ?_)
                rw [hbo] at hput
                rw [hbo]
                refine J.iload (pc := 202) G dX4_mineBoth_202 rfl ?_
                refine J.iload (pc := 204) G dX4_mineBoth_204 rfl ?_
                refine J.mmax (pc := 206) G q874 dX4_mineBoth_206 (by omega) (Nat.le_of_ble_eq_true rfl) rfl (by omega) (by omega) (by omega) (by omega) ?_
                rw [hmax]
                refine J.iconstN (pc := 209) G dX4_mineBoth_209 1 rfl ?_
                refine J.iaddN (pc := 210) G dX4_mineBoth_210 ?_
                refine J.istore (L' := [_, _, _, _, _, _, _, _, _, _, _, _, _, _]) (pc := 211) G dX4_mineBoth_211 rfl (Nat.le_of_ble_eq_true rfl) rfl ?_
                have hag9 : ∀ q, q < n → M2 q = M0 q := fun q g1 => (hag2 q (by omega)).trans (hag q g1)
                have hM9 : Cl M2 a (modC a R P Z) := hM.keep (fun q g1 g2 => hag2 q (by simp at g2; omega))
                have K3 : ∀ s : Nat × AH, (j + 1 ≤ s.1 ∧ s.1 ≤ qs.length ∧ s.2 (n + 1 + 1) = some (cN ps.length (shF (upN e 0 (gd qs 0 ||| gd qs j)) j s.1)) ∧ (∀ q, q < n → s.2 q = M0 q) ∧ Cl s.2 a (modC a R P Z)) → J g (0 + 1 + 2) (0 + 8 + 16) (n + 1 + 2) s.2 [some (.ref a), some (.ref b), some (.int (iI (moL tr : Int))), some (.ref fr), some (.int (iI p)), some (.ref n), some (.ref (n + 1 + 1)), some (.int (iI (be : Int))), some (.int (iI (en : Int))), some (.int (iI (qs.length : Int))), some (.int (iI (w : Int))), some (.int (iI (fi : Int))), some (.int (iI ((gd qs 0 ||| gd qs j : Nat) : Int))), some (.int (iI (s.1 : Int)))] 213 [] := by
                  refine loopJ (fun s => qs.length - s.1) _ _ ?_
                  clear hag9 hM9 hput hag2 M2
                  rintro ⟨x, M⟩ ⟨hx1, hx2, hrow, hag, hM⟩ ih3
                  dsimp only at hx1 hx2 hrow hag hM ih3 ⊢
                  refine J.iload (pc := 213) G dX4_mineBoth_213 rfl ?_
                  refine J.iload (pc := 215) G dX4_mineBoth_215 rfl ?_
                  refine J.icmp_geN (pc := 217) (tgt := 238) G dX4_mineBoth_217 (by decide) (by omega) (by omega) (fun h8 => ?_) (fun h8 => ?_)
                  · have hxe : x = qs.length := by omega
                    subst hxe
                    have hPn := jn_row hPe hj1 hjq (v := gd qs 0 ||| gd qs j) rfl
                    have hln := jn_len hjq
                    refine J.iinc (L' := [_, _, _, _, _, _, _, _, _, _, _, _, _, _]) (pc := 238) G dX4_mineBoth_238 rfl rfl rfl ?_
                    refine J.iconstN (pc := 241) G dX4_mineBoth_241 0 rfl ?_
                    refine J.istore (L' := [_, _, _, _, _, _, _, _, _, _, _, _, _, _]) (pc := 242) G dX4_mineBoth_242 rfl (Nat.le_of_ble_eq_true rfl) rfl ?_
                    refine J.goto (pc := 244) (tgt := 104) G dX4_mineBoth_244 (by decide) ?_
                    have := ih (fu', jn qs j, 0, M) ⟨hjl, by dsimp only; omega, by dsimp only; omega, jn_all hj1 hjq hal, Or.inl rfl, ⟨_, hrow, hPn⟩, hag, hM⟩ (by dsimp only; rw [if_pos rfl]; omega) (some (.int (iI (fi : Int)))) (some (.int (iI ((gd qs 0 ||| gd qs j : Nat) : Int)))) (some (.int (iI (qs.length : Int))))
                    dsimp only at this
                    rw [hln, show (((qs.length - 1 : Nat)) : Int) = (qs.length : Int) + -1 by omega] at this
                    exact this
                  · refine J.aload (pc := 220) G dX4_mineBoth_220 rfl ?_
                    refine J.iload (pc := 222) G dX4_mineBoth_222 rfl ?_
                    refine J.iconstN (pc := 224) G dX4_mineBoth_224 1 rfl ?_
                    refine J.isubN (pc := 225) G dX4_mineBoth_225 (by omega) ?_
                    refine J.aload (pc := 226) G dX4_mineBoth_226 rfl ?_
                    refine J.iload (pc := 228) G dX4_mineBoth_228 rfl ?_
                    refine J.ialdN (pc := 230) G dX4_mineBoth_230 hrow (by omega) (by omega) ?_
                    refine J.iastN (pc := 231) G dX4_mineBoth_231 hrow (by omega) (by omega) (fun M3 hput3 hag3 => ?_)
                    rw [shF_s hx1] at hput3
                    refine J.iincN (L' := [_, _, _, _, _, _, _, _, _, _, _, _, _, _]) (pc := 232) G dX4_mineBoth_232 1 rfl rfl rfl rfl ?_
                    refine J.goto (pc := 235) (tgt := 213) G dX4_mineBoth_235 (by decide) ?_
                    exact ih3 (x + 1, M3) ⟨by dsimp only; omega, by dsimp only; omega, hput3, fun q g1 => (hag3 q (by omega)).trans (hag q g1), hM.keep (fun q g1 g2 => hag3 q (by simp at g2; omega))⟩ (by dsimp only; omega)
                exact K3 (j + 1, M2) ⟨Nat.le_refl _, by dsimp only; omega, by dsimp only; rw [shF_0]; exact hput, hag9, hM9⟩
              refine J.iload (pc := 165) G dX4_mineBoth_165 rfl ?_
              refine J.if_neN (pc := 167) (tgt := 174) G dX4_mineBoth_167 (by decide) (by omega) (fun h8 => ?_) (fun h8 => ?_)
              · refine J.iconstN (pc := 174) G dX4_mineBoth_174 0 rfl ?_
                exact K175 0 w (by rw [if_neg (by omega)]) (by rw [if_neg (by omega)])
              · refine J.iconstN (pc := 170) G dX4_mineBoth_170 1 rfl ?_
                refine J.goto (pc := 171) (tgt := 175) G dX4_mineBoth_171 (by decide) ?_
                exact K175 1 1 (by rw [if_pos h8]) (by rw [if_pos h8])
            · refine J.goto (pc := 162) (tgt := 104) G dX4_mineBoth_162 (by decide) ?_
              refine ih (fu, qs, w, M) ⟨hjl, hfu, hql, hal, Or.inr ⟨h7, ?_⟩, ⟨e, hps, hPe⟩, hag, hM⟩ (by dsimp only; rw [if_neg (by omega)]; omega) _ _ _
              dsimp only
              rw [← hjl, jl_stop (by omega)]
          have K2 : ∀ w : Nat, (w ≤ qs.length ∧ ∀ j, j < w → lackU be en qs j = false) → J g (0 + 1 + 2) (0 + 8 + 16) (n + 1 + 2) M [some (.ref a), some (.ref b), some (.int (iI (moL tr : Int))), some (.ref fr), some (.int (iI p)), some (.ref n), some (.ref (n + 1 + 1)), some (.int (iI (be : Int))), some (.int (iI (en : Int))), some (.int (iI (qs.length : Int))), some (.int (iI (w : Int))), l11, l12, l13] 120 [] := by
            refine loopJ (fun w => qs.length - w) _ _ ?_
            rintro w ⟨hw, hno⟩ ih2
            refine J.iload (pc := 120) G dX4_mineBoth_120 rfl ?_
            refine J.iload (pc := 122) G dX4_mineBoth_122 rfl ?_
            refine J.icmp_geN (pc := 124) (tgt := 155) G dX4_mineBoth_124 (by decide) (by omega) (by omega) (fun h7 => ?_) (fun h7 => ?_)
            · have hwe : w = qs.length := by omega
              subst hwe
              exact K155 _ (by unfold fl; rw [firstU_no hno])
            · have ew : e w = gd qs w := hPe w h7
              have h256 := hal w h7
              have ha1 : gd qs w &&& be ≤ gd qs w := Nat.and_le_left
              have ha2 : gd qs w &&& en ≤ gd qs w := Nat.and_le_left
              have hhit : lackU be en qs w = true → w = fl be en qs := fun h => by unfold fl; rw [firstU_hit hno h h7]
              unfold lackU at hhit
              refine J.aload (pc := 127) G dX4_mineBoth_127 rfl ?_
              refine J.iload (pc := 129) G dX4_mineBoth_129 rfl ?_
              refine J.ialdN (pc := 131) G dX4_mineBoth_131 hps (by omega) (by omega) ?_
              rw [ew]
              refine J.iload (pc := 132) G dX4_mineBoth_132 rfl ?_
              refine J.iandN (pc := 134) G dX4_mineBoth_134 ?_
              refine J.if_eqN (pc := 135) (tgt := 155) G dX4_mineBoth_135 (by decide) (by omega) (fun h8 => ?_) (fun h8 => ?_)
              · exact K155 w (hhit (by rw [decide_eq_true h8]; rfl))
              · refine J.aload (pc := 138) G dX4_mineBoth_138 rfl ?_
                refine J.iload (pc := 140) G dX4_mineBoth_140 rfl ?_
                refine J.ialdN (pc := 142) G dX4_mineBoth_142 hps (by omega) (by omega) ?_
                rw [ew]
                refine J.iload (pc := 143) G dX4_mineBoth_143 rfl ?_
                refine J.iandN (pc := 145) G dX4_mineBoth_145 ?_
                refine J.if_eqN (pc := 146) (tgt := 155) G dX4_mineBoth_146 (by decide) (by omega) (fun h9 => ?_) (fun h9 => ?_)
                · exact K155 w (hhit (by rw [decide_eq_true h9, Bool.or_true]))
                · refine J.iincN (L' := [_, _, _, _, _, _, _, _, _, _, _, _, _, _]) (pc := 149) G dX4_mineBoth_149 1 rfl rfl rfl rfl ?_
                  refine J.goto (pc := 152) (tgt := 120) G dX4_mineBoth_152 (by decide) ?_
                  exact ih2 (w + 1) ⟨by omega, fun j hj => by
                    by_cases q9 : j = w
                    · rw [q9]
                      unfold lackU
                      rw [decide_eq_false (by omega), decide_eq_false (by omega)]
                      rfl
                    · exact hno j (by omega)⟩ (by omega)
          exact K2 0 ⟨Nat.zero_le _, fun j hj => absurd hj (Nat.not_lt_zero j)⟩
    exact K1 (8, ps, 0, M1) ⟨emp, by dsimp only; omega, Nat.le_refl _, fun i hi => (hpa i hi).2, Or.inl rfl, ⟨gd ps, hps, fun j _ => rfl⟩, hag0, hM1⟩ _ _ _
  have K4 : ∀ s : Nat × AH, (s.1 ≤ 8 ∧ s.2 n = some (cN 8 (fillN (nearB (moF tr)) (fun _ => 0) s.1)) ∧ ∀ x, x < n → s.2 x = M0 x) → ∀ l7, J g (0 + 1) (0 + 8) (n + 1) s.2 [some (.ref a), some (.ref b), some (.int (iI (moL tr : Int))), some (.ref fr), some (.int (iI p)), some (.ref n), some (.int (iI (s.1 : Int))), l7, none, none, none, none, none, none] 9 [] := by
    refine loopJ (fun s => 8 - s.1) _ _ ?_
    clear hag1 hjn M1
    rintro ⟨u, M⟩ ⟨hu, hjn, hag⟩ ih l7
    dsimp only at hu hjn hag ih ⊢
    refine J.iload (pc := 9) G dX4_mineBoth_9 rfl ?_
    refine J.bipushN (pc := 11) G dX4_mineBoth_11 8 (by decide +kernel) ?_
    refine J.icmp_geN (pc := 13) (tgt := 74) G dX4_mineBoth_13 (by decide) (by omega) (by omega) (fun h5 => ?_) (fun h5 => ?_)
    · have hu8 : u = 8 := by omega
      subst hu8
      exact K74 M hjn hag _ _
    · have hru : moF tr u < 256 := hfo8 u h5
      refine J.iconstN (pc := 16) G dX4_mineBoth_16 0 rfl ?_
      refine J.istore (L' := [_, _, _, _, _, _, _, _, _, _, _, _, _, _]) (pc := 17) G dX4_mineBoth_17 rfl (Nat.le_of_ble_eq_true rfl) rfl ?_
      have K5 : ∀ s : Nat × AH, (s.1 ≤ 8 ∧ s.2 n = some (cN 8 (upN (fillN (nearB (moF tr)) (fun _ => 0) u) u (nbI (moF tr) u s.1))) ∧ ∀ x, x < n → s.2 x = M0 x) → J g (0 + 1) (0 + 8) (n + 1) s.2 [some (.ref a), some (.ref b), some (.int (iI (moL tr : Int))), some (.ref fr), some (.int (iI p)), some (.ref n), some (.int (iI (u : Int))), some (.int (iI (s.1 : Int))), none, none, none, none, none, none] 19 [] := by
        refine loopJ (fun s => 8 - s.1) _ _ ?_
        clear hjn hag M
        rintro ⟨v, M⟩ ⟨hv, hjn, hag⟩ ih2
        dsimp only at hv hjn hag ih2 ⊢
        have hs2 : nbI (moF tr) u (v + 1) = if (moF tr u).testBit v = true ∧ (moF tr v).testBit u = true then nbI (moF tr) u v else nbI (moF tr) u v ||| 2 ^ v := rfl
        have hfo := (hag fr hfrn).trans hfo
        refine J.iload (pc := 19) G dX4_mineBoth_19 rfl ?_
        refine J.bipushN (pc := 21) G dX4_mineBoth_21 8 (by decide +kernel) ?_
        refine J.icmp_geN (pc := 23) (tgt := 68) G dX4_mineBoth_23 (by decide) (by omega) (by omega) (fun h6 => ?_) (fun h6 => ?_)
        · have hv8 : v = 8 := by omega
          subst hv8
          have e8 : nbI (moF tr) u 8 = nearB (moF tr) u := rfl
          rw [e8, fillN_s] at hjn
          refine J.iincN (L' := [_, _, _, _, _, _, _, _, _, _, _, _, _, _]) (pc := 68) G dX4_mineBoth_68 1 rfl rfl rfl rfl ?_
          refine J.goto (pc := 71) (tgt := 9) G dX4_mineBoth_71 (by decide) ?_
          exact ih (u + 1, M) ⟨by dsimp only; omega, hjn, hag⟩ (by dsimp only; omega) _
        · have hrv : moF tr v < 256 := hfo8 v h6
          have nx : ∀ M : AH, M n = some (cN 8 (upN (fillN (nearB (moF tr)) (fun _ => 0) u) u (nbI (moF tr) u (v + 1)))) → (∀ x, x < n → M x = M0 x) → J g (0 + 1) (0 + 8) (n + 1) M [some (.ref a), some (.ref b), some (.int (iI (moL tr : Int))), some (.ref fr), some (.int (iI p)), some (.ref n), some (.int (iI (u : Int))), some (.int (iI (v : Int))), none, none, none, none, none, none] 62 [] := by
            intro M a1 a2
            refine J.iincN (L' := [_, _, _, _, _, _, _, _, _, _, _, _, _, _]) (pc := 62) G dX4_mineBoth_62 1 rfl rfl rfl rfl ?_
            refine J.goto (pc := 65) (tgt := 19) G dX4_mineBoth_65 (by decide) ?_
            exact ih2 (v + 1, M) ⟨by dsimp only; omega, a1, a2⟩ (by dsimp only; omega)
          have K50 : ¬ ((moF tr u).testBit v = true ∧ (moF tr v).testBit u = true) → J g (0 + 1) (0 + 8) (n + 1) M [some (.ref a), some (.ref b), some (.int (iI (moL tr : Int))), some (.ref fr), some (.int (iI p)), some (.ref n), some (.int (iI (u : Int))), some (.int (iI (v : Int))), none, none, none, none, none, none] 50 [] := by
            intro hno
            rw [if_neg hno] at hs2
            refine J.aload (pc := 50) G dX4_mineBoth_50 rfl ?_
            refine J.iload (pc := 52) G dX4_mineBoth_52 rfl ?_
            refine J.dup2 (pc := 54) G dX4_mineBoth_54 rfl rfl ?_
            refine J.ialdN (pc := 55) G dX4_mineBoth_55 hjn h5 (by decide) ?_
            rw [upN_s]
            refine J.iconstN (pc := 56) G dX4_mineBoth_56 1 rfl ?_
            refine J.iload (pc := 57) G dX4_mineBoth_57 rfl ?_
            refine J.ishl1 (pc := 59) G dX4_mineBoth_59 (by omega) ?_
            refine J.iorN (pc := 60) G dX4_mineBoth_60 ?_
            refine J.iastN (pc := 61) G dX4_mineBoth_61 hjn h5 (by decide) (fun M2 hput2 hag2 => ?_)
            rw [upN2, ← hs2] at hput2
            exact nx M2 hput2 (fun x hx => (hag2 x (by omega)).trans (hag x hx))
          refine J.aload_n (pc := 26) G dX4_mineBoth_26 rfl ?_
          refine J.iload (pc := 27) G dX4_mineBoth_27 rfl ?_
          refine J.ialdN (pc := 29) G dX4_mineBoth_29 hfo h5 (by decide) ?_
          refine J.iload (pc := 30) G dX4_mineBoth_30 rfl ?_
          refine J.callS (pc := 32) (na := 2) G (m_has (n + 1) M (m := moF tr u) (l := v) (by omega) (by omega)) q805 q806 q807 q5 (by decide +kernel) dX4_mineBoth_32 rfl (Nat.le_of_ble_eq_true rfl) rfl ⟨by omega, by decide, by omega, by omega⟩ ?_
          rintro r9 n9 M9 ⟨hr9, hn9, hM9⟩
          subst hr9
          rw [hn9, hM9]
          clear hn9 hM9 n9 M9
          dsimp only [Option.toList, List.cons_append, List.nil_append]
          refine J.if_eq_b (pc := 35) (tgt := 50) G dX4_mineBoth_35 (by decide) (fun hb1 => ?_) (fun hb1 => ?_)
          · exact K50 (fun q => by rw [q.1] at hb1; cases hb1)
          · refine J.aload_n (pc := 38) G dX4_mineBoth_38 rfl ?_
            refine J.iload (pc := 39) G dX4_mineBoth_39 rfl ?_
            refine J.ialdN (pc := 41) G dX4_mineBoth_41 hfo h6 (by decide) ?_
            refine J.iload (pc := 42) G dX4_mineBoth_42 rfl ?_
            refine J.callS (pc := 44) (na := 2) G (m_has (n + 1) M (m := moF tr v) (l := u) (by omega) (by omega)) q805 q806 q807 q5 (by decide +kernel) dX4_mineBoth_44 rfl (Nat.le_of_ble_eq_true rfl) rfl ⟨by omega, by decide, by omega, by omega⟩ ?_
            rintro r9 n9 M9 ⟨hr9, hn9, hM9⟩
            subst hr9
            rw [hn9, hM9]
            clear hn9 hM9 n9 M9
            dsimp only [Option.toList, List.cons_append, List.nil_append]
            refine J.if_ne_b (pc := 47) (tgt := 62) G dX4_mineBoth_47 (by decide) (fun hb2 => ?_) (fun hb2 => ?_)
            · rw [if_pos ⟨hb1, hb2⟩] at hs2
              exact nx M (by rw [hs2]; exact hjn) hag
            · exact K50 (fun q => by rw [q.2] at hb2; cases hb2)
      refine K5 (0, M) ⟨Nat.zero_le _, ?_, hag⟩
      dsimp only
      rw [upN_same (by show fillN (nearB (moF tr)) (fun _ => 0) u u = 0; unfold fillN; rw [if_neg (Nat.lt_irrefl u)])]
      exact hjn
  exact K4 (0, M1) ⟨Nat.zero_le _, by dsimp only; rw [fillN_0]; exact hjn, fun x hx => hag1 x (by omega)⟩ _
end MINE3
