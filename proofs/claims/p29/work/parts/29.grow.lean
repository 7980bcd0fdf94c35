section GROW1
theorem linkV_cong {f f' : Nat → Nat} (h : ∀ j, j < 8 → f j = f' j) {a : Nat} (ha : a < 8) : linkV f a = linkV f' a := by
  unfold linkV
  rw [h a ha]
  exact it_cong 8 (fun b v hb => by rw [h b hb])
theorem nearB_cong {f f' : Nat → Nat} (h : ∀ j, j < 8 → f j = f' j) {a : Nat} (ha : a < 8) : nearB f a = nearB f' a := by
  unfold nearB
  exact it_cong 8 (fun b v hb => by rw [h a ha, h b hb])
theorem btf_cong {f f' : Nat → Nat} (h : ∀ j, j < 8 → f j = f' j) (b e p : Nat) : btf f b e p = btf f' b e p := by
  unfold btf
  exact anyU_cong (fun j hj => by rw [h j hj])
theorem agI_cong {f f' : Nat → Nat} (h : ∀ j, j < 8 → f j = f' j) (b e : Nat) (qs : List Nat) (k : Nat) : agI f b e qs k = agI f' b e qs k := by
  unfold agI
  exact it_cong k (fun t s _ => by rw [btf_cong h])
theorem cutF_cong {f f' : Nat → Nat} (h : ∀ j, j < 8 → f j = f' j) (u b e m : Nat) : cutF f u b e m = cutF f' u b e m := by
  have h1 : pCh f u = pCh f' u := grps_cong (fun j hj => linkV_cong h hj)
  have h2 : pOr f u = pOr f' u := by
    unfold pOr
    rw [grps_cong (fun j hj => nearO_cong (rall_cong h) hj), srt_cong (rall_cong h)]
  have h3 : pBo f u b e = pBo f' u b e := by
    unfold pBo
    rw [grps_cong (fun j hj => nearB_cong h hj)]
  have h4 : pAg f u b e = pAg f' u b e := by
    unfold pAg
    rw [grps_cong (fun j hj => linkV_cong h hj), agI_cong h]
  have h5 : anyU (fun x => decide (f x ≠ 0)) 8 = anyU (fun x => decide (f' x ≠ 0)) 8 := anyU_cong (fun j hj => by rw [h j hj])
  unfold cutF
  rw [h1, h2, h3, h4, h5]
/-- how a log is cut -/
def cutT (tr : List (List Nat)) : Nat × List Nat := cutF (mL tr).2.2.2.2 (mL tr).1 (mL tr).2.1 (mL tr).2.2.1 (mL tr).2.2.2.1
def grow1 (tr : List (List Nat)) (p : Int) (nd : List Nd) : List Nd := nd ++ [((cutT tr).1, p, (mL tr).1)]
def grow2 (tr : List (List Nat)) (p : Int) (nd : List Nd) : List Nd := if (cutT tr).1 = 2 ∧ 0 < (mL tr).2.2.2.1 then grow1 tr p nd ++ [(0, (nd.length : Int), 0)] else grow1 tr p nd
def grow3 (tr : List (List Nat)) (p : Int) (nd : List Nd) : List Nd := if (cutT tr).1 = 5 ∧ (cutT tr).2.length = 0 then (grow2 tr p nd ++ [(1, (nd.length : Int), (mL tr).1)]) ++ [(0, (nd.length : Int), 0)] else grow2 tr p nd
/-- the tree of a log, put behind what is there -/
def growF : Nat → List (List Nat) → Int → List Nd → List Nd
  | 0, _, _, nd => nd
  | f + 1, tr, p, nd => it (fun i q => growF f (takeF tr (gd (cutT tr).2 i) (cutT tr).1) (nd.length : Int) q) (grow3 tr p nd) (cutT tr).2.length
/-- there is room for each node -/
def growOk : Nat → List (List Nat) → Int → List Nd → Prop
  | 0, _, _, _ => True
  | f + 1, tr, p, nd => AddOk nd p ∧ ((cutT tr).1 = 2 ∧ 0 < (mL tr).2.2.2.1 → AddOk (grow1 tr p nd) (nd.length : Int)) ∧ ((cutT tr).1 = 5 ∧ (cutT tr).2.length = 0 → AddOk (grow2 tr p nd) (nd.length : Int) ∧ AddOk (grow2 tr p nd ++ [(1, (nd.length : Int), (mL tr).1)]) (nd.length : Int)) ∧ ∀ i, i < (cutT tr).2.length → growOk f (takeF tr (gd (cutT tr).2 i) (cutT tr).1) (nd.length : Int) (it (fun i q => growF f (takeF tr (gd (cutT tr).2 i) (cutT tr).1) (nd.length : Int) q) (grow3 tr p nd) i)
theorem cutF_kind {f : Nat → Nat} {u b e m : Nat} : (cutF f u b e m).1 ≤ 6 := by
  unfold cutF
  repeat' split
  all_goals (dsimp only; omega)
def LogsAt (M : AH) (lb : Nat) : Prop := ∀ i, i < 16 → ∃ A S, Cl M (lb + 7 * i) (logC (lb + 7 * i) A S)
theorem LogsAt.put {M M' : AH} {lb d : Nat} {A : Nat → Nat → Nat} {S : Nat → Nat} (h : LogsAt M lb) (hFr : Fr (lb + 7 * d) (lb + 7 * d + 7) M M') (hn : Cl M' (lb + 7 * d) (logC (lb + 7 * d) A S)) : LogsAt M' lb := by
  intro i hi
  by_cases e : i = d
  · subst e; exact ⟨A, S, hn⟩
  · obtain ⟨A1, S1, h1⟩ := h i hi
    exact ⟨A1, S1, h1.fr hFr (by simp; omega)⟩
theorem LogsAt.fr {M M' : AH} {lb lo hi : Nat} (h : LogsAt M lb) (hFr : Fr lo hi M M') (hd : hi ≤ lb) : LogsAt M' lb := by
  intro i hi9
  obtain ⟨A1, S1, h1⟩ := h i hi9
  exact ⟨A1, S1, h1.fr hFr (by simp; omega)⟩
/-- what growing at a depth leaves as it was -/
def FrG (tb lb d : Nat) (M0 M : AH) : Prop := ∀ q, (q < tb ∨ (tb + 7 ≤ q ∧ q < lb + 7 * d) ∨ lb + 112 ≤ q) → M q = M0 q
theorem FrG.tr {tb lb d : Nat} {M0 M1 M2 : AH} (h : FrG tb lb d M0 M1) (h2 : FrG tb lb d M1 M2) : FrG tb lb d M0 M2 := fun q hq => (h2 q hq).trans (h q hq)
theorem FrG.deep {tb lb d : Nat} {M0 M1 : AH} (h : FrG tb lb (d + 1) M0 M1) : FrG tb lb d M0 M1 := fun q hq => h q (by omega)
theorem FrG.tree {tb lb d : Nat} {M0 M1 : AH} (h : Fr tb (tb + 7) M0 M1) (hb : tb + 7 ≤ lb) : FrG tb lb d M0 M1 := fun q hq => h q (by omega)
theorem FrG.log {tb lb d : Nat} {M0 M1 : AH} (h : Fr (lb + 7 * d) (lb + 7 * d + 7) M0 M1) (hd : d < 16) (hb : tb + 7 ≤ lb) : FrG tb lb d M0 M1 := fun q hq => h q (by omega)
theorem LogM.keep {A A' : Nat → Nat → Nat} {S : Nat → Nat} {tr : List (List Nat)} {m : Nat} (h : LogM A S tr) (hK : KeepA A A') : LogM A' (upN S 12 m) tr := by
  obtain ⟨⟨g3, g2, g5, g1, gw⟩, hms, hnx⟩ := h
  obtain ⟨k1, k2, k3⟩ := hK
  exact ⟨⟨g3, g2, by rw [k2]; exact g5, by rw [k1]; exact g1, by rw [k1]; exact gw⟩, hms, by rw [k3]; exact hnx⟩
/-- growing with so much depth left -/
def GrowC (lv tb lb f : Nat) : Prop := ∀ (n : Nat) (M0 : AH) (dep : Nat) (p : Int) (tr : List (List Nat)) (nd : List Nd) (A B : Nat → Nat → Nat) (S T : Nat → Nat) (P : Nat → Int), dep + (f + 1) = 16 → M0 lv = some (cR 4 16 (fun i => some (lb + 7 * i))) → LogsAt M0 lb → Cl M0 (lb + 7 * dep) (logC (lb + 7 * dep) A S) → LogM A S tr → GoodL tr → Cl M0 tb (treeC tb B P T) → TreeIs B P T nd → growOk (f + 1) tr p nd → Fn yX3_grow cX3_grow 8 none (5 + f) [.ref lv, .ref tb, .int (iI (dep : Int)), .int (iI p)] n M0 0 0 (fun r n' M' => r = none ∧ n' = n ∧ (∃ B' P' T', Cl M' tb (treeC tb B' P' T') ∧ TreeIs B' P' T' (growF (f + 1) tr p nd)) ∧ LogsAt M' lb ∧ FrG tb lb dep M0 M')
theorem TreeIs.len {A : Nat → Nat → Nat} {P : Nat → Int} {S : Nat → Nat} {nd : List Nd} (h : TreeIs A P S nd) : nd.length ≤ 64 := h.2.1
set_option maxRecDepth 100000 in
set_option maxHeartbeats 4000000 in
theorem c_growS {lv tb lb : Nat} (hlv9 : lv < tb) (htl : tb + 7 ≤ lb) (f : Nat) (hrec : ∀ f', f = f' + 1 → GrowC lv tb lb f') : GrowC lv tb lb f := by
  intro n M0 dep p tr nd A B S T P hdep hlv hlogs hL hlm hgd hT hnd hok
  refine Fn.of (by decide) [some _, some _, some _, some _, none, none, none, none] rfl rfl (Nat.le_of_ble_eq_true rfl) ?_
  intro g G hin hO
  obtain ⟨hok1, hok2, hok3, hok4⟩ := hok
  have hlen0 := hnd.len
  have hpr : -2147483648 ≤ p ∧ p < 2147483648 := by rcases hok1.2 with q | ⟨q, h1, h2, -⟩ <;> omega
  obtain ⟨hlg, hms, hnx⟩ := id hlm
  have h8 := mL_8 hgd.1
  obtain ⟨ms4, ms5, ms6, ms7⟩ := id hms
  have hnb : ∀ j, j < 8 → A 3 j < 256 := fun j hj => by rw [hnx j hj]; exact h8.2.2.2.2 j hj
  have ecut : cutF (A 3) (S 4) (S 5) (S 6) (S 7) = cutT tr := by rw [cutF_cong hnx, ms4, ms5, ms6, ms7]; rfl
  refine J.iload_n (pc := 0) G dX3_grow_0 rfl ?_
  refine J.if_lt (pc := 1) (tgt := 10) G dX3_grow_1 (by decide) (by omega) (by omega) (fun h => by omega) (fun h => ?_)
  refine J.iload_n (pc := 4) G dX3_grow_4 rfl ?_
  refine J.aload_n (pc := 5) G dX3_grow_5 rfl ?_
  refine J.alenR (pc := 6) G dX3_grow_6 hlv (by decide) ?_
  refine J.icmp_ltN (pc := 7) (tgt := 11) G dX3_grow_7 (by decide) (by omega) (by decide) (fun h => ?_) (fun h => by omega)
  refine J.aload_n (pc := 11) G dX3_grow_11 rfl ?_
  refine J.iload_n (pc := 12) G dX3_grow_12 rfl ?_
  refine J.aald (pc := 13) G dX3_grow_13 hlv (Or.inr rfl) dep rfl (by omega) (by decide) rfl ?_
  refine J.astore (L' := [_, _, _, _, _, _, _, _]) (pc := 14) G dX3_grow_14 rfl (Nat.le_of_ble_eq_true rfl) rfl ?_
  refine J.aload (pc := 16) G dX3_grow_16 rfl ?_
  refine J.callV (pc := 18) (na := 0) G (c_cut n M0 hL hnb (by rw [ms4]; exact h8.1) (by rw [ms5]; exact h8.2.1) (by rw [ms6]; exact h8.2.2.1) (by rw [ms7]; exact h8.2.2.2.1)) q221 q222 q223 q224 q4 (by decide +kernel) dX3_grow_18 (hL.at 0 rfl) rfl rfl (Nat.le_of_ble_eq_true rfl) rfl ⟨by omega, by decide, by omega, by omega⟩ ?_
  rintro r9 n9 M ⟨hr9, hn9, ⟨hC, hFr1⟩⟩
  subst hr9
  rw [hn9]
  clear hn9 n9
  dsimp only [Option.toList, List.cons_append, List.nil_append]
  rw [ecut] at hC ⊢
  obtain ⟨A1, hK1, hL1, hp1, hlen1, hall1⟩ := hC
  have hlm1 := hlm.keep (m := (cutT tr).2.length) hK1
  have hT1 : Cl M tb (treeC tb B P T) := hT.fr hFr1 (by simp; omega)
  have hlv1 : M lv = some (cR 4 16 (fun i => some (lb + 7 * i))) := by rw [hFr1 lv (by omega)]; exact hlv
  have hlogs1 := hlogs.put hFr1 hL1
  have hG1 : FrG tb lb dep M0 M := FrG.log hFr1 (by omega) htl
  clear hFr1 hL hT hlv hlogs
  have hkd : (cutT tr).1 ≤ 6 := cutF_kind
  generalize hS1 : upN S 12 (cutT tr).2.length = S1 at hL1 hlm1
  have s12 : S1 12 = (cutT tr).2.length := by rw [← hS1]; exact upN_s
  have s4 : S1 4 = (mL tr).1 := by rw [← hS1, ← ms4]; rfl
  have s7 : S1 7 = (mL tr).2.2.2.1 := by rw [← hS1, ← ms7]; rfl
  have h71 : (mL tr).2.2.2.1 ≤ 1 := h8.2.2.2.1
  have hL := hL1
  refine J.istore (L' := [_, _, _, _, _, _, _, _]) (pc := 21) G dX3_grow_21 rfl (Nat.le_of_ble_eq_true rfl) rfl ?_
  refine J.aload_n (pc := 23) G dX3_grow_23 rfl ?_
  refine J.iload (pc := 24) G dX3_grow_24 rfl ?_
  refine J.aload (pc := 26) G dX3_grow_26 rfl ?_
  refine J.getf (pc := 28) (ci := 0) G inX0 rfl 4 q92 dX3_grow_28 (hL.at 0 rfl) (by decide) rfl ?_
  rw [s4]
  refine J.iload_n (pc := 31) G dX3_grow_31 rfl ?_
  refine J.callV (pc := 32) (na := 3) G (c_add n M (kd := (cutT tr).1) (set := (mL tr).1) (p := p) hT1 hnd hok1) q298 q299 q300 q301 q2 (by decide +kernel) dX3_grow_32 (hT1.at 0 rfl) rfl rfl (Nat.le_of_ble_eq_true rfl) rfl ⟨by omega, by decide, by omega, by omega⟩ ?_
  rintro r9 n9 M2 ⟨hr9, hn9, ⟨⟨B2, P2, T2, hT2, hnd2⟩, hFr2⟩⟩
  subst hr9
  rw [hn9]
  clear hn9 n9
  dsimp only [Option.toList, List.cons_append, List.nil_append]
  have hnd2 : TreeIs B2 P2 T2 (grow1 tr p nd) := hnd2
  have hL2 : Cl M2 (lb + 7 * dep) (logC (lb + 7 * dep) A1 S1) := hL1.fr hFr2 (by simp; omega)
  have hlv2 : M2 lv = some (cR 4 16 (fun i => some (lb + 7 * i))) := by rw [hFr2 lv (by omega)]; exact hlv1
  have hlogs2 := hlogs1.fr hFr2 htl
  have hG2 := hG1.tr (FrG.tree hFr2 htl)
  clear hFr2 hL1 hT1 hlv1 hlogs1 hG1 hL
  -- the part behind the heads: the loop over the parts
  have tail : ∀ (M : AH) (B3 : Nat → Nat → Nat) (P3 : Nat → Int) (T3 : Nat → Nat), Cl M tb (treeC tb B3 P3 T3) → TreeIs B3 P3 T3 (grow3 tr p nd) → Cl M (lb + 7 * dep) (logC (lb + 7 * dep) A1 S1) → M lv = some (cR 4 16 (fun i => some (lb + 7 * i))) → LogsAt M lb → FrG tb lb dep M0 M → J g 0 0 n M [some (.ref lv), some (.ref tb), some (.int (iI (dep : Int))), some (.int (iI p)), some (.ref (lb + 7 * dep)), some (.int (iI ((cutT tr).1 : Int))), some (.int (iI (nd.length : Int))), none] 96 [] := by
    intro M B3 P3 T3 hT hnd3 hL hlv hlogs hG
    refine J.iconstN (pc := 96) G dX3_grow_96 0 rfl ?_
    refine J.istore (L' := [_, _, _, _, _, _, _, _]) (pc := 97) G dX3_grow_97 rfl (Nat.le_of_ble_eq_true rfl) rfl ?_
    have K1 : ∀ s : Nat × AH, (s.1 ≤ (cutT tr).2.length ∧ (∃ B' P' T', Cl s.2 tb (treeC tb B' P' T') ∧ TreeIs B' P' T' (it (fun i q => growF f (takeF tr (gd (cutT tr).2 i) (cutT tr).1) (nd.length : Int) q) (grow3 tr p nd) s.1)) ∧ Cl s.2 (lb + 7 * dep) (logC (lb + 7 * dep) A1 S1) ∧ s.2 lv = some (cR 4 16 (fun i => some (lb + 7 * i))) ∧ LogsAt s.2 lb ∧ FrG tb lb dep M0 s.2) → J g 0 0 n s.2 [some (.ref lv), some (.ref tb), some (.int (iI (dep : Int))), some (.int (iI p)), some (.ref (lb + 7 * dep)), some (.int (iI ((cutT tr).1 : Int))), some (.int (iI (nd.length : Int))), some (.int (iI (s.1 : Int)))] 99 [] := by
      refine loopJ (fun s => (cutT tr).2.length - s.1) _ _ ?_
      rintro ⟨i, M⟩ ⟨hi, ⟨B', P', T', hT, hndi⟩, hL, hlv, hlogs, hG⟩ ih
      dsimp only at hi hT hndi hL hlv hlogs hG ih ⊢
      have hstep : it (fun i q => growF f (takeF tr (gd (cutT tr).2 i) (cutT tr).1) (nd.length : Int) q) (grow3 tr p nd) (i + 1) = growF f (takeF tr (gd (cutT tr).2 i) (cutT tr).1) (nd.length : Int) (it (fun i q => growF f (takeF tr (gd (cutT tr).2 i) (cutT tr).1) (nd.length : Int) q) (grow3 tr p nd) i) := rfl
      have hoki := hok4 i
      have hend : i = (cutT tr).2.length → it (fun i q => growF f (takeF tr (gd (cutT tr).2 i) (cutT tr).1) (nd.length : Int) q) (grow3 tr p nd) i = growF (f + 1) tr p nd := fun e => by rw [e]; rfl
      generalize it (fun i q => growF f (takeF tr (gd (cutT tr).2 i) (cutT tr).1) (nd.length : Int) q) (grow3 tr p nd) i = nq at hndi hstep hoki hend
      refine J.iload (pc := 99) G dX3_grow_99 rfl ?_
      refine J.aload (pc := 101) G dX3_grow_101 rfl ?_
      refine J.getf (pc := 103) (ci := 0) G inX0 rfl 12 q107 dX3_grow_103 (hL.at 0 rfl) (by decide) rfl ?_
      rw [s12]
      refine J.icmp_geN (pc := 106) (tgt := 153) G dX3_grow_106 (by decide) (by omega) (by omega) (fun h5 => ?_) (fun h5 => ?_)
      · have e := hend (by omega)
        exact J.vret (pc := 153) G hO dX3_grow_153 (Nat.le_refl _) (Nat.le_refl _) ⟨rfl, rfl, ⟨B', P', T', hT, by rw [← e]; exact hndi⟩, hlogs, hG⟩
      · have hi2 : i < (cutT tr).2.length := by omega
        have gp : A1 6 i = gd (cutT tr).2 i := hp1 i hi2
        have gp8 : gd (cutT tr).2 i < 256 := hall1 i hi2
        have nxt : ∀ (M : AH) (B' : Nat → Nat → Nat) (P' : Nat → Int) (T' : Nat → Nat), Cl M tb (treeC tb B' P' T') → TreeIs B' P' T' (growF f (takeF tr (gd (cutT tr).2 i) (cutT tr).1) (nd.length : Int) nq) → Cl M (lb + 7 * dep) (logC (lb + 7 * dep) A1 S1) → M lv = some (cR 4 16 (fun i => some (lb + 7 * i))) → LogsAt M lb → FrG tb lb dep M0 M → J g 0 0 n M [some (.ref lv), some (.ref tb), some (.int (iI (dep : Int))), some (.int (iI p)), some (.ref (lb + 7 * dep)), some (.int (iI ((cutT tr).1 : Int))), some (.int (iI (nd.length : Int))), some (.int (iI (i : Int)))] 147 [] := by
          intro M B' P' T' hT hndi hL hlv hlogs hG
          refine J.iincN (L' := [_, _, _, _, _, _, _, _]) (pc := 147) G dX3_grow_147 1 rfl rfl rfl rfl ?_
          refine J.goto (tgt := 99) (pc := 150) G dX3_grow_150 (by decide) ?_
          exact ih (i + 1, M) ⟨by dsimp only; omega, ⟨B', P', T', hT, by dsimp only; rw [hstep]; exact hndi⟩, hL, hlv, hlogs, hG⟩ (by dsimp only; omega)
        refine J.iload_n (pc := 109) G dX3_grow_109 rfl ?_
        refine J.iconstN (pc := 110) G dX3_grow_110 1 rfl ?_
        refine J.iaddN (pc := 111) G dX3_grow_111 ?_
        refine J.aload_n (pc := 112) G dX3_grow_112 rfl ?_
        refine J.alenR (pc := 113) G dX3_grow_113 hlv (by decide) ?_
        refine J.icmp_geN (pc := 114) (tgt := 147) G dX3_grow_114 (by decide) (by omega) (by decide) (fun h6 => ?_) (fun h6 => ?_)
        · have hf0 : f = 0 := by omega
          refine nxt M B' P' T' hT ?_ hL hlv hlogs hG
          rw [hf0]; exact hndi
        · obtain ⟨f', hf'⟩ : ∃ f', f = f' + 1 := ⟨f - 1, by omega⟩
          have hgood := takeF_good (part := gd (cutT tr).2 i) (kind := (cutT tr).1) hgd
          refine J.aload_n (pc := 117) G dX3_grow_117 rfl ?_
          refine J.iload_n (pc := 118) G dX3_grow_118 rfl ?_
          refine J.iconstN (pc := 119) G dX3_grow_119 1 rfl ?_
          refine J.iaddN (pc := 120) G dX3_grow_120 ?_
          refine J.aald (pc := 121) G dX3_grow_121 hlv (Or.inr rfl) (dep + 1) rfl (by omega) (by decide) rfl ?_
          obtain ⟨A9, S9, hL9⟩ := hlogs (dep + 1) (by omega)
          refine J.aload (pc := 122) G dX3_grow_122 rfl ?_
          refine J.aload (pc := 124) G dX3_grow_124 rfl ?_
          refine J.getf (pc := 126) (ci := 0) G inX0 rfl 11 q105 dX3_grow_126 (hL.at 0 rfl) (by decide) rfl ?_
          refine J.iload (pc := 129) G dX3_grow_129 rfl ?_
          refine J.ialdN (pc := 131) G dX3_grow_131 (hL.at 6 rfl) (by omega) (by decide) ?_
          rw [gp]
          refine J.iload (pc := 132) G dX3_grow_132 rfl ?_
          refine J.callV (pc := 134) (na := 3) G (c_take n M (part := gd (cutT tr).2 i) (kind := (cutT tr).1) hL9 hL (by omega) hlm1.1 hgd gp8 hkd) q302 q303 q304 q305 q4 (by decide +kernel) dX3_grow_134 (hL9.at 0 rfl) rfl rfl (Nat.le_of_ble_eq_true rfl) rfl ⟨by omega, by decide, by omega, by omega⟩ ?_
          rintro r9 n9 M5 ⟨hr9, hn9, ⟨⟨A5, S5, hL5, hlm5⟩, hFr5⟩⟩
          subst hr9
          rw [hn9]
          clear hn9 n9
          dsimp only [Option.toList, List.cons_append, List.nil_append]
          have hL6 : Cl M5 (lb + 7 * dep) (logC (lb + 7 * dep) A1 S1) := hL.fr hFr5 (by simp; omega)
          have hT6 : Cl M5 tb (treeC tb B' P' T') := hT.fr hFr5 (by simp; omega)
          have hlv6 : M5 lv = some (cR 4 16 (fun i => some (lb + 7 * i))) := by rw [hFr5 lv (by omega)]; exact hlv
          have hlogs6 := hlogs.put hFr5 hL5
          have hG6 := hG.tr (FrG.deep (FrG.log hFr5 (by omega) htl))
          have hoki2 := hoki hi2
          subst hf'
          refine J.aload_n (pc := 137) G dX3_grow_137 rfl ?_
          refine J.aload_n (pc := 138) G dX3_grow_138 rfl ?_
          refine J.iload_n (pc := 139) G dX3_grow_139 rfl ?_
          refine J.iconstN (pc := 140) G dX3_grow_140 1 rfl ?_
          refine J.iaddN (pc := 141) G dX3_grow_141 ?_
          refine J.iload (pc := 142) G dX3_grow_142 rfl ?_
          refine J.callS (pc := 144) (na := 4) G (hrec f' rfl n M5 (dep + 1) (nd.length : Int) (takeF tr (gd (cutT tr).2 i) (cutT tr).1) nq A5 B' S5 T' P' (by omega) hlv6 hlogs6 hL5 hlm5 hgood hT6 hndi hoki2) q218 q219 q220 q1 (by decide +kernel) dX3_grow_144 rfl (Nat.le_of_ble_eq_true rfl) rfl ⟨by omega, by decide, by omega, by omega⟩ ?_
          rintro r9 n9 M7 ⟨hr9, hn9, ⟨⟨B7, P7, T7, hT7, hnd7⟩, hlogs7, hG7⟩⟩
          subst hr9
          rw [hn9]
          clear hn9 n9
          dsimp only [Option.toList, List.cons_append, List.nil_append]
          have hL7 : Cl M7 (lb + 7 * dep) (logC (lb + 7 * dep) A1 S1) := hL6.keep (fun q h1 h2 => hG7 q (by simp at h2; omega))
          have hlv7 : M7 lv = some (cR 4 16 (fun i => some (lb + 7 * i))) := by rw [hG7 lv (by omega)]; exact hlv6
          exact nxt M7 B7 P7 T7 hT7 hnd7 hL7 hlv7 hlogs7 (hG6.tr hG7.deep)
    exact K1 (0, M) ⟨Nat.zero_le _, ⟨B3, P3, T3, hT, hnd3⟩, hL, hlv, hlogs, hG⟩
  -- a single label: AGAIN of LABEL and NOTHING
  have mid : ∀ (M : AH) (B3 : Nat → Nat → Nat) (P3 : Nat → Int) (T3 : Nat → Nat), Cl M tb (treeC tb B3 P3 T3) → TreeIs B3 P3 T3 (grow2 tr p nd) → Cl M (lb + 7 * dep) (logC (lb + 7 * dep) A1 S1) → M lv = some (cR 4 16 (fun i => some (lb + 7 * i))) → LogsAt M lb → FrG tb lb dep M0 M → J g 0 0 n M [some (.ref lv), some (.ref tb), some (.int (iI (dep : Int))), some (.int (iI p)), some (.ref (lb + 7 * dep)), some (.int (iI ((cutT tr).1 : Int))), some (.int (iI (nd.length : Int))), none] 60 [] := by
    intro M B3 P3 T3 hT hnd3 hL hlv hlogs hG
    refine J.iload (pc := 60) G dX3_grow_60 rfl ?_
    refine J.iconstN (pc := 62) G dX3_grow_62 5 rfl ?_
    refine J.icmp_neN (pc := 63) (tgt := 96) G dX3_grow_63 (by decide) (by omega) (by omega) (fun h5 => ?_) (fun h5 => ?_)
    · refine tail M B3 P3 T3 hT ?_ hL hlv hlogs hG
      unfold grow3; rw [if_neg (by omega)]; exact hnd3
    · refine J.aload (pc := 66) G dX3_grow_66 rfl ?_
      refine J.getf (pc := 68) (ci := 0) G inX0 rfl 12 q107 dX3_grow_68 (hL.at 0 rfl) (by decide) rfl ?_
      rw [s12]
      refine J.if_neN (pc := 71) (tgt := 96) G dX3_grow_71 (by decide) (by omega) (fun h6 => ?_) (fun h6 => ?_)
      · refine tail M B3 P3 T3 hT ?_ hL hlv hlogs hG
        unfold grow3; rw [if_neg (by omega)]; exact hnd3
      · obtain ⟨o1, o2⟩ := hok3 ⟨h5, h6⟩
        refine J.aload_n (pc := 74) G dX3_grow_74 rfl ?_
        refine J.iconstN (pc := 75) G dX3_grow_75 1 rfl ?_
        refine J.aload (pc := 76) G dX3_grow_76 rfl ?_
        refine J.getf (pc := 78) (ci := 0) G inX0 rfl 4 q92 dX3_grow_78 (hL.at 0 rfl) (by decide) rfl ?_
        rw [s4]
        refine J.iload (pc := 81) G dX3_grow_81 rfl ?_
        refine J.callV (pc := 83) (na := 3) G (c_add n M (kd := 1) (set := (mL tr).1) (p := (nd.length : Int)) hT hnd3 o1) q298 q299 q300 q301 q2 (by decide +kernel) dX3_grow_83 (hT.at 0 rfl) rfl rfl (Nat.le_of_ble_eq_true rfl) rfl ⟨by omega, by decide, by omega, by omega⟩ ?_
        rintro r9 n9 M8 ⟨hr9, hn9, ⟨⟨B8, P8, T8, hT8, hnd8⟩, hFr8⟩⟩
        subst hr9
        rw [hn9]
        clear hn9 n9
        dsimp only [Option.toList, List.cons_append, List.nil_append]
        have hL8 : Cl M8 (lb + 7 * dep) (logC (lb + 7 * dep) A1 S1) := hL.fr hFr8 (by simp; omega)
        have hlv8 : M8 lv = some (cR 4 16 (fun i => some (lb + 7 * i))) := by rw [hFr8 lv (by omega)]; exact hlv
        have hlogs8 := hlogs.fr hFr8 htl
        have hG8 := hG.tr (FrG.tree hFr8 htl)
        refine J.pop (pc := 86) G dX3_grow_86 rfl ?_
        refine J.aload_n (pc := 87) G dX3_grow_87 rfl ?_
        refine J.iconstN (pc := 88) G dX3_grow_88 0 rfl ?_
        refine J.iconstN (pc := 89) G dX3_grow_89 0 rfl ?_
        refine J.iload (pc := 90) G dX3_grow_90 rfl ?_
        refine J.callV (pc := 92) (na := 3) G (c_add n M8 (kd := 0) (set := 0) (p := (nd.length : Int)) hT8 hnd8 o2) q298 q299 q300 q301 q2 (by decide +kernel) dX3_grow_92 (hT8.at 0 rfl) rfl rfl (Nat.le_of_ble_eq_true rfl) rfl ⟨by omega, by decide, by omega, by omega⟩ ?_
        rintro r9 n9 M9 ⟨hr9, hn9, ⟨⟨B9, P9, T9, hT9, hnd9⟩, hFr9⟩⟩
        subst hr9
        rw [hn9]
        clear hn9 n9
        dsimp only [Option.toList, List.cons_append, List.nil_append]
        have hL9 : Cl M9 (lb + 7 * dep) (logC (lb + 7 * dep) A1 S1) := hL8.fr hFr9 (by simp; omega)
        have hlv9' : M9 lv = some (cR 4 16 (fun i => some (lb + 7 * i))) := by rw [hFr9 lv (by omega)]; exact hlv8
        refine J.pop (pc := 95) G dX3_grow_95 rfl ?_
        refine tail M9 B9 P9 T9 hT9 ?_ hL9 hlv9' (hlogs8.fr hFr9 htl) (hG8.tr (FrG.tree hFr9 htl))
        unfold grow3; rw [if_pos ⟨h5, h6⟩]; exact hnd9
  refine J.istore (L' := [_, _, _, _, _, _, _, _]) (pc := 35) G dX3_grow_35 rfl (Nat.le_of_ble_eq_true rfl) rfl ?_
  refine J.iload (pc := 37) G dX3_grow_37 rfl ?_
  refine J.iconstN (pc := 39) G dX3_grow_39 2 rfl ?_
  refine J.icmp_neN (pc := 40) (tgt := 60) G dX3_grow_40 (by decide) (by omega) (by omega) (fun h5 => ?_) (fun h5 => ?_)
  · refine mid M2 B2 P2 T2 hT2 ?_ hL2 hlv2 hlogs2 hG2
    unfold grow2; rw [if_neg (by omega)]; exact hnd2
  · have hL := hL2
    refine J.aload (pc := 43) G dX3_grow_43 rfl ?_
    refine J.getf (pc := 45) (ci := 0) G inX0 rfl 7 q98 dX3_grow_45 (hL.at 0 rfl) (by decide) rfl ?_
    rw [s7]
    refine J.if_eqN (pc := 48) (tgt := 60) G dX3_grow_48 (by decide) (by omega) (fun h6 => ?_) (fun h6 => ?_)
    · refine mid M2 B2 P2 T2 hT2 ?_ hL2 hlv2 hlogs2 hG2
      unfold grow2; rw [if_neg (by omega)]; exact hnd2
    · have o1 := hok2 ⟨h5, h6⟩
      refine J.aload_n (pc := 51) G dX3_grow_51 rfl ?_
      refine J.iconstN (pc := 52) G dX3_grow_52 0 rfl ?_
      refine J.iconstN (pc := 53) G dX3_grow_53 0 rfl ?_
      refine J.iload (pc := 54) G dX3_grow_54 rfl ?_
      refine J.callV (pc := 56) (na := 3) G (c_add n M2 (kd := 0) (set := 0) (p := (nd.length : Int)) hT2 hnd2 o1) q298 q299 q300 q301 q2 (by decide +kernel) dX3_grow_56 (hT2.at 0 rfl) rfl rfl (Nat.le_of_ble_eq_true rfl) rfl ⟨by omega, by decide, by omega, by omega⟩ ?_
      rintro r9 n9 M8 ⟨hr9, hn9, ⟨⟨B8, P8, T8, hT8, hnd8⟩, hFr8⟩⟩
      subst hr9
      rw [hn9]
      clear hn9 n9
      dsimp only [Option.toList, List.cons_append, List.nil_append]
      have hL8 : Cl M8 (lb + 7 * dep) (logC (lb + 7 * dep) A1 S1) := hL2.fr hFr8 (by simp; omega)
      have hlv8 : M8 lv = some (cR 4 16 (fun i => some (lb + 7 * i))) := by rw [hFr8 lv (by omega)]; exact hlv2
      refine J.pop (pc := 59) G dX3_grow_59 rfl ?_
      refine mid M8 B8 P8 T8 hT8 ?_ hL8 hlv8 (hlogs2.fr hFr8 htl) (hG2.tr (FrG.tree hFr8 htl))
      unfold grow2; rw [if_pos ⟨h5, h6⟩]; exact hnd8
theorem c_grow {lv tb lb : Nat} (hlv9 : lv < tb) (htl : tb + 7 ≤ lb) : ∀ f, GrowC lv tb lb f
  | 0 => c_growS hlv9 htl 0 (fun f' h => absurd h (by omega))
  | f + 1 => c_growS hlv9 htl (f + 1) (fun f' h => by rw [← Nat.succ.inj h]; exact c_grow hlv9 htl f)
end GROW1
