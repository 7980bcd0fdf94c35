section MINE2
theorem orI_pre {rc : Nat → Nat} {ps : List Nat} {pl : Nat} {l : List Nat} {k : Nat} : ∀ e, ∃ rest, orI rc ps pl l (k + e) = orI rc ps pl l k ++ rest
  | 0 => ⟨[], by rw [List.append_nil]; rfl⟩
  | e + 1 => by
    obtain ⟨r, h⟩ := orI_pre (rc := rc) (ps := ps) (pl := pl) (l := l) (k := k) e
    have hs : orI rc ps pl l (k + (e + 1)) = if ahF rc ps (gd ps (k + e)) ps.length = pl then orI rc ps pl l (k + e) ++ [gd ps (k + e)] else orI rc ps pl l (k + e) := rfl
    rw [hs, h]
    split
    · exact ⟨r ++ [gd ps (k + e)], by rw [List.append_assoc]⟩
    · exact ⟨r, rfl⟩
theorem orM_s {rc : Nat → Nat} {ps : List Nat} {k : Nat} : orM rc ps (k + 1) = orI rc ps k (orM rc ps k) ps.length := rfl
theorem orM_pre {rc : Nat → Nat} {ps : List Nat} {k : Nat} : ∀ e, ∃ rest, orM rc ps (k + e) = orM rc ps k ++ rest
  | 0 => ⟨[], by rw [List.append_nil]; rfl⟩
  | e + 1 => by
    obtain ⟨r, h⟩ := orM_pre (rc := rc) (ps := ps) (k := k) e
    obtain ⟨r2, h2⟩ := orI_pre (rc := rc) (ps := ps) (pl := k + e) (l := orM rc ps (k + e)) (k := 0) ps.length
    rw [Nat.zero_add] at h2
    have h3 : orI rc ps (k + e) (orM rc ps (k + e)) 0 = orM rc ps (k + e) := rfl
    refine ⟨r ++ r2, ?_⟩
    show orI rc ps (k + e) (orM rc ps (k + e)) ps.length = _
    rw [h2, h3, h, List.append_assoc]
theorem or_pre {rc : Nat → Nat} {ps : List Nat} {pl k : Nat} (hpl : pl < ps.length) (hk : k ≤ ps.length) : ∃ rest, orM rc ps ps.length = orI rc ps pl (orM rc ps pl) k ++ rest := by
  obtain ⟨r1, h1⟩ := orM_pre (rc := rc) (ps := ps) (k := pl + 1) (ps.length - (pl + 1))
  obtain ⟨r2, h2⟩ := orI_pre (rc := rc) (ps := ps) (pl := pl) (l := orM rc ps pl) (k := k) (ps.length - k)
  rw [show pl + 1 + (ps.length - (pl + 1)) = ps.length by omega, orM_s] at h1
  rw [show k + (ps.length - k) = ps.length by omega] at h2
  exact ⟨r2 ++ r1, by rw [h1, h2, List.append_assoc]⟩
theorem gd_mid {l : List Nat} {x : Nat} {r : List Nat} : gd (l ++ [x] ++ r) l.length = x ∧ l.length < (l ++ [x] ++ r).length := by
  refine ⟨?_, by simp⟩
  unfold gd
  rw [List.getD_eq_getElem?_getD, List.append_assoc, List.getElem?_append_right (Nat.le_refl _)]
  simp
def noI (rc : Nat → Nat) (a k : Nat) : Nat := it (fun b v => if (rc a).testBit b = (rc b).testBit a then v ||| 2 ^ b else v) 0 k
set_option maxRecDepth 100000 in
set_option maxHeartbeats 4000000 in
theorem m_mineOrder {a f : Nat} (hrec : GrowM a f) (n : Nat) (M0 : AH) {b fr mc ms : Nat} {p : Int} {tr : List (List Nat)} {nd : List Nd} {R : Nat → Nat → Nat} {P : Nat → Int} {Z : Nat → Nat} (hg : LgB M0 b (a + 9) tr) (hbn : ∀ q x, M0 q = some x → q < n) (hgd : GoodM tr) (hM : Cl M0 a (modC a R P Z)) (hT : MdG R P Z nd) (hp : Rng p) (hfo : M0 fr = some (cN 8 (moF tr))) (hfa : a + 9 ≤ fr) (hok : 2 ≤ (mq3 tr).length → nd.length < 64 ∧ fldOk f tr 3 (mp3 tr) (nd.length : Int) (nd ++ [(3, p, moL tr)])) (hc2 : 4 ≤ mc) (hs2 : 32 ≤ ms) (hmc : 2 ≤ (mq3 tr).length → 4 + csC (cC f) tr 3 (mp3 tr) (mp3 tr).length ≤ mc) (hms : 2 ≤ (mq3 tr).length → 32 + csS (cS f) tr 3 (mp3 tr) (mp3 tr).length ≤ ms) : Fn yX4_mineOrder cX4_mineOrder 19 (some .boolean) (2 * f + 5) [.ref a, .ref b, .int (iI (moL tr : Int)), .ref fr, .int (iI p)] n M0 mc ms (MCut a n f M0 R P Z tr 3 (mp3 tr) (2 ≤ (mq3 tr).length) p nd) := by
  refine Fn.of (by decide) [some _, some _, some _, some _, some _, none, none, none, none, none, none, none, none, none, none, none, none, none, none] rfl rfl (Nat.le_of_ble_eq_true rfl) ?_
  intro g G hin hO
  obtain ⟨hgl, hl12⟩ := id hgd
  obtain ⟨hlab, ht1, ht2⟩ := id hgl
  have hall := lbL_lt hlab
  have hfo8 := foL_lt hlab (Nat.le_refl tr.length)
  have hbig : a + 9 ≤ n := by
    have := hbn _ _ (hM.at 8 rfl)
    omega
  refine J.aload_n (pc := 0) G dX4_mineOrder_0 rfl ?_
  refine J.cloneI (pc := 1) G q856 dX4_mineOrder_1 (by omega) (Nat.le_of_ble_eq_true rfl) rfl hfo (by omega) (by omega) (fun M1 hld hag1 => ?_)
  refine J.castI (pc := 4) G q816 dX4_mineOrder_4 hld ?_
  refine J.astore (L' := [_, _, _, _, _, _, _, _, _, _, _, _, _, _, _, _, _, _, _]) (pc := 7) G dX4_mineOrder_7 rfl (Nat.le_of_ble_eq_true rfl) rfl ?_
  refine J.iconstN (pc := 9) G dX4_mineOrder_9 0 rfl ?_
  refine J.istore (L' := [_, _, _, _, _, _, _, _, _, _, _, _, _, _, _, _, _, _, _]) (pc := 10) G dX4_mineOrder_10 rfl (Nat.le_of_ble_eq_true rfl) rfl ?_
  have K67 : ∀ M : AH, M n = some (cN 8 (rall (moF tr))) → (∀ x, x < n → M x = M0 x) → ∀ l6 l7, J g (0 + 1) (0 + 8) (n + 1) M [some (.ref a), some (.ref b), some (.int (iI (moL tr : Int))), some (.ref fr), some (.int (iI p)), some (.ref n), l6, l7, none, none, none, none, none, none, none, none, none, none, none] 67 [] := by
    clear hag1 hld M1
    intro M hld hag l6 l7
    have hrc8 := rall_lt hfo8
    have erc : rall (foL tr tr.length) = rall (moF tr) := rfl
    rw [erc] at hrc8
    have emq : paL (moL tr) (fillN (nearO (rall (moF tr))) (fun _ => 0) 8) = mq3 tr := rfl
    have emp : orM (rall (moF tr)) (mq3 tr) (mq3 tr).length = mp3 tr := rfl
    generalize rall (moF tr) = rc at hld hrc8 emq emp
    have K140 : ∀ M : AH, M (n + 1) = some (cN 8 (fillN (nearO rc) (fun _ => 0) 8)) → M n = some (cN 8 rc) → (∀ x, x < n → M x = M0 x) → ∀ l7 l8, J g (0 + 1 + 1) (0 + 8 + 8) (n + 1 + 1) M [some (.ref a), some (.ref b), some (.int (iI (moL tr : Int))), some (.ref fr), some (.int (iI p)), some (.ref n), some (.ref (n + 1)), l7, l8, none, none, none, none, none, none, none, none, none, none] 140 [] := by
      clear hag hld M
      intro M hjn hld hag l7 l8
      have hjn8 : ∀ i, i < 8 → fillN (nearO rc) (fun _ => 0) 8 i < 256 := fun i hi => by rw [fillN_in hi]; exact nearO_lt8
      have hpl := paL_len (set := moL tr) (jn := fillN (nearO rc) (fun _ => 0) 8)
      have hpa := paL_all (jn := fillN (nearO rc) (fun _ => 0) 8) (show moL tr < 256 from hall)
      refine J.iload_n (pc := 140) G dX4_mineOrder_140 rfl ?_
      refine J.aload (pc := 141) G dX4_mineOrder_141 rfl ?_
      refine J.callS (pc := 143) (na := 2) G (m_parts (n + 1 + 1) M (jr := n + 1) (set := moL tr) (jn := fillN (nearO rc) (fun _ => 0) 8) hjn (by omega) hjn8 hall) q843 q844 q845 q5 (by decide +kernel) dX4_mineOrder_143 rfl (Nat.le_of_ble_eq_true rfl) rfl ⟨by omega, by decide, by omega, by omega⟩ ?_
      rintro r9 n9 M1 ⟨hr9, hn9, hps, hag1⟩
      dsimp only [Option.toList, List.cons_append, List.nil_append]
      subst hr9
      subst hn9
      dsimp only [Option.toList, List.cons_append, List.nil_append]
      rw [emq] at hps hpl hpa
      generalize mq3 tr = ps at hO hok hmc hms hps hpl hpa emp
      generalize mp3 tr = fin at hO hok hmc hms emp
      have hM1 : Cl M1 a (modC a R P Z) := (hM.al hbn hag).keep (fun q g1 g2 => hag1 q (by simp at g2; omega))
      have hld := (hag1 n (by omega)).trans hld
      have hFr0 : FrM a n M0 M1 := fun q g1 g2 => (hag1 q (by omega)).trans (hag q g1)
      clear hjn hjn8 hag hag1
      refine J.astore (L' := [_, _, _, _, _, _, _, _, _, _, _, _, _, _, _, _, _, _, _]) (pc := 146) G dX4_mineOrder_146 rfl (Nat.le_of_ble_eq_true rfl) rfl ?_
      refine J.aload (pc := 148) G dX4_mineOrder_148 rfl ?_
      refine J.alenI (pc := 150) G dX4_mineOrder_150 hps ?_
      refine J.iconstN (pc := 151) G dX4_mineOrder_151 2 rfl ?_
      refine J.icmp_geN (pc := 152) (tgt := 157) G dX4_mineOrder_152 (by decide) (by omega) (by decide) (fun h2 => ?_) (fun h2 => ?_)
      · obtain ⟨hok1, hok2⟩ := hok h2
        have hmc := hmc h2
        have hms := hms h2
        have h8 := hT.1
        refine J.aload_n (pc := 157) G dX4_mineOrder_157 rfl ?_
        refine J.iconstN (pc := 158) G dX4_mineOrder_158 3 rfl ?_
        refine J.iload (pc := 159) G dX4_mineOrder_159 rfl ?_
        refine J.iload_n (pc := 161) G dX4_mineOrder_161 rfl ?_
        refine J.callV (pc := 162) (na := 3) G (m_add (n + 1 + 1 + 2) M1 (kd := 3) (set := moL tr) (p := p) hM1 (by omega)) q828 q830 qp43 q831 q5 (by decide +kernel) dX4_mineOrder_162 (hM1.at 0 rfl) rfl rfl (Nat.le_of_ble_eq_true rfl) rfl ⟨by omega, by decide, by omega, by omega⟩ ?_
        rintro r9 n9 M2 ⟨hr9, hn9, ⟨hM2, hFr2⟩⟩
        subst hr9
        rw [hn9]
        clear hn9 n9
        dsimp only [Option.toList, List.cons_append, List.nil_append]
        rw [h8]
        have hT2 := hT.add (kd := 3) (set := moL tr) (p := p)
        have hps2 : M2 (n + 1 + 1 + 1) = some (cN ps.length (gd ps)) := (hFr2 (n + 1 + 1 + 1) (by omega)).trans hps
        have hld2 : M2 n = some (cN 8 rc) := (hFr2 n (by omega)).trans hld
        have hFr2' : FrM a n M0 M2 := hFr0.tr (FrM.fr (n := n) hFr2) (Nat.le_refl _)
        clear hps hld hFr0 hFr2 hM1 M1 hT
        refine J.istore (L' := [_, _, _, _, _, _, _, _, _, _, _, _, _, _, _, _, _, _, _]) (pc := 165) G dX4_mineOrder_165 rfl (Nat.le_of_ble_eq_true rfl) rfl ?_
        refine J.iconstN (pc := 167) G dX4_mineOrder_167 0 rfl ?_
        refine J.istore (L' := [_, _, _, _, _, _, _, _, _, _, _, _, _, _, _, _, _, _, _]) (pc := 168) G dX4_mineOrder_168 rfl (Nat.le_of_ble_eq_true rfl) rfl ?_
        have K1 : ∀ s : Nat × Nat × AH × (Nat → Nat → Nat) × (Nat → Int) × (Nat → Nat), (s.1 ≤ ps.length ∧ n + 4 ≤ s.2.1 ∧ Cl s.2.2.1 a (modC a s.2.2.2.1 s.2.2.2.2.1 s.2.2.2.2.2) ∧ MdG s.2.2.2.1 s.2.2.2.2.1 s.2.2.2.2.2 (fld f tr 3 fin (nd.length : Int) (nd ++ [(3, p, moL tr)]) (orM rc ps s.1).length) ∧ KpW R Z s.2.2.2.1 s.2.2.2.2.2 ∧ s.2.2.1 (n + 1 + 1 + 1) = some (cN ps.length (gd ps)) ∧ s.2.2.1 n = some (cN 8 rc) ∧ FrM a n M0 s.2.2.1) → ∀ l10 l11 l12 l13 l14 l15 l16 l17 l18, J g (4 + csC (cC f) tr 3 fin (orM rc ps s.1).length) (32 + csS (cS f) tr 3 fin (orM rc ps s.1).length) s.2.1 s.2.2.1 [some (.ref a), some (.ref b), some (.int (iI (moL tr : Int))), some (.ref fr), some (.int (iI p)), some (.ref n), some (.ref (n + 1)), some (.ref (n + 1 + 1 + 1)), some (.int (iI (nd.length : Int))), some (.int (iI (s.1 : Int))), l10, l11, l12, l13, l14, l15, l16, l17, l18] 170 [] := by
          refine loopJ (fun s => ps.length - s.1) _ _ ?_
          clear hps2 hld2 hFr2' hM2 hT2 M2
          rintro ⟨pl, nc, M, R1, P1, Z1⟩ ⟨hi, hnc, hM, hT, hK, hps, hld, hFr⟩ ih l10 l11 l12 l13 l14 l15 l16 l17 l18
          dsimp only at hi hnc hM hT hK hps hld hFr ih ⊢
          refine J.iload (pc := 170) G dX4_mineOrder_170 rfl ?_
          refine J.aload (pc := 172) G dX4_mineOrder_172 rfl ?_
          refine J.alenI (pc := 174) G dX4_mineOrder_174 hps ?_
          refine J.icmp_geN (pc := 175) (tgt := 307) G dX4_mineOrder_175 (by decide) (by omega) (by omega) (fun h5 => ?_) (fun h5 => ?_)
          · have hie : pl = ps.length := by omega
            subst hie
            rw [emp] at hT
            refine J.iconstN (pc := 307) G dX4_mineOrder_307 1 rfl ?_
            have hfl := csC_to (F := cC f) (tr := tr) (kd := 3) (ps := fin) (show (orM rc ps ps.length).length ≤ fin.length by rw [emp]; exact Nat.le_refl _)
            have hfs := csS_to (F := cS f) (tr := tr) (kd := 3) (ps := fin) (show (orM rc ps ps.length).length ≤ fin.length by rw [emp]; exact Nat.le_refl _)
            exact J.zret1 (pc := 308) G hO dX4_mineOrder_308 (by omega) (by omega) ⟨by omega, hFr, Or.inl ⟨h2, rfl, R1, P1, Z1, hM, hT, hK⟩⟩
          · refine J.aload (pc := 178) G dX4_mineOrder_178 rfl ?_
            refine J.astore (L' := [_, _, _, _, _, _, _, _, _, _, _, _, _, _, _, _, _, _, _]) (pc := 180) G dX4_mineOrder_180 rfl (Nat.le_of_ble_eq_true rfl) rfl ?_
            refine J.aload (pc := 182) G dX4_mineOrder_182 rfl ?_
            refine J.alenI (pc := 184) G dX4_mineOrder_184 hps ?_
            refine J.istore (L' := [_, _, _, _, _, _, _, _, _, _, _, _, _, _, _, _, _, _, _]) (pc := 185) G dX4_mineOrder_185 rfl (Nat.le_of_ble_eq_true rfl) rfl ?_
            refine J.iconstN (pc := 187) G dX4_mineOrder_187 0 rfl ?_
            refine J.istore (L' := [_, _, _, _, _, _, _, _, _, _, _, _, _, _, _, _, _, _, _]) (pc := 188) G dX4_mineOrder_188 rfl (Nat.le_of_ble_eq_true rfl) rfl ?_
            have K2 : ∀ s : Nat × Nat × AH × (Nat → Nat → Nat) × (Nat → Int) × (Nat → Nat), (s.1 ≤ ps.length ∧ n + 4 ≤ s.2.1 ∧ Cl s.2.2.1 a (modC a s.2.2.2.1 s.2.2.2.2.1 s.2.2.2.2.2) ∧ MdG s.2.2.2.1 s.2.2.2.2.1 s.2.2.2.2.2 (fld f tr 3 fin (nd.length : Int) (nd ++ [(3, p, moL tr)]) (orI rc ps pl (orM rc ps pl) s.1).length) ∧ KpW R Z s.2.2.2.1 s.2.2.2.2.2 ∧ s.2.2.1 (n + 1 + 1 + 1) = some (cN ps.length (gd ps)) ∧ s.2.2.1 n = some (cN 8 rc) ∧ FrM a n M0 s.2.2.1) → ∀ l13 l14 l15 l16 l17 l18, J g (4 + csC (cC f) tr 3 fin (orI rc ps pl (orM rc ps pl) s.1).length) (32 + csS (cS f) tr 3 fin (orI rc ps pl (orM rc ps pl) s.1).length) s.2.1 s.2.2.1 [some (.ref a), some (.ref b), some (.int (iI (moL tr : Int))), some (.ref fr), some (.int (iI p)), some (.ref n), some (.ref (n + 1)), some (.ref (n + 1 + 1 + 1)), some (.int (iI (nd.length : Int))), some (.int (iI (pl : Int))), some (.ref (n + 1 + 1 + 1)), some (.int (iI (ps.length : Int))), some (.int (iI (s.1 : Int))), l13, l14, l15, l16, l17, l18] 190 [] := by
              refine loopJ (fun s => ps.length - s.1) _ _ ?_
              clear hps hld hFr hM hT hK
              rintro ⟨k, nc, M, R1, P1, Z1⟩ ⟨hk, hnc, hM, hT, hK, hps, hld, hFr⟩ ih2 l13 l14 l15 l16 l17 l18
              dsimp only at hk hnc hM hT hK hps hld hFr ih2 ⊢
              have hstep : orI rc ps pl (orM rc ps pl) (k + 1) = if ahF rc ps (gd ps k) ps.length = pl then orI rc ps pl (orM rc ps pl) k ++ [gd ps k] else orI rc ps pl (orM rc ps pl) k := rfl
              have hpre : k < ps.length → ∃ rest, fin = orI rc ps pl (orM rc ps pl) (k + 1) ++ rest := fun hk9 => by rw [← emp]; exact or_pre h5 hk9
              have hend : k = ps.length → orI rc ps pl (orM rc ps pl) k = orM rc ps (pl + 1) := fun e => by rw [e]; rfl
              have hpre0 : ∃ rest, fin = orI rc ps pl (orM rc ps pl) k ++ rest := by rw [← emp]; exact or_pre h5 hk
              generalize orI rc ps pl (orM rc ps pl) k = l at hT hstep hend hpre0 ⊢
              have hll : l.length ≤ fin.length := by
                obtain ⟨r0, hr0⟩ := hpre0
                rw [hr0, List.length_append]
                omega
              have hfl := csC_to (F := cC f) (tr := tr) (kd := 3) (ps := fin) hll
              have hfs := csS_to (F := cS f) (tr := tr) (kd := 3) (ps := fin) hll
              refine J.iload (pc := 190) G dX4_mineOrder_190 rfl ?_
              refine J.iload (pc := 192) G dX4_mineOrder_192 rfl ?_
              refine J.icmp_geN (pc := 194) (tgt := 301) G dX4_mineOrder_194 (by decide) (by omega) (by omega) (fun h6 => ?_) (fun h6 => ?_)
              · have hend := hend (by omega)
                subst hend
                refine J.iincN (L' := [_, _, _, _, _, _, _, _, _, _, _, _, _, _, _, _, _, _, _]) (pc := 301) G dX4_mineOrder_301 1 rfl rfl rfl rfl ?_
                refine J.goto (pc := 304) (tgt := 170) G dX4_mineOrder_304 (by decide) ?_
                exact ih (pl + 1, nc, M, R1, P1, Z1) ⟨by dsimp only; omega, hnc, hM, hT, hK, hps, hld, hFr⟩ (by dsimp only; omega) _ _ _ _ _ _ _ _ _
              · obtain ⟨rest, hpre⟩ := hpre h6
                have hgk := hpa k h6
                have ek : ∀ s' : List Nat, s' = orI rc ps pl (orM rc ps pl) (k + 1) → ∀ (nc : Nat) (M : AH) (R1 : Nat → Nat → Nat) (P1 : Nat → Int) (Z1 : Nat → Nat), n + 4 ≤ nc → Cl M a (modC a R1 P1 Z1) → MdG R1 P1 Z1 (fld f tr 3 fin (nd.length : Int) (nd ++ [(3, p, moL tr)]) s'.length) → KpW R Z R1 Z1 → M (n + 1 + 1 + 1) = some (cN ps.length (gd ps)) → M n = some (cN 8 rc) → FrM a n M0 M → ∀ l13 l14 l15 l16 l17 l18, J g (4 + csC (cC f) tr 3 fin s'.length) (32 + csS (cS f) tr 3 fin s'.length) nc M [some (.ref a), some (.ref b), some (.int (iI (moL tr : Int))), some (.ref fr), some (.int (iI p)), some (.ref n), some (.ref (n + 1)), some (.ref (n + 1 + 1 + 1)), some (.int (iI (nd.length : Int))), some (.int (iI (pl : Int))), some (.ref (n + 1 + 1 + 1)), some (.int (iI (ps.length : Int))), some (.int (iI (k : Int))), l13, l14, l15, l16, l17, l18] 295 [] := by
                  intro s' hs' nc M R1 P1 Z1 a1 a2 a3 a4 a5 a6 a7 l13 l14 l15 l16 l17 l18
                  subst hs'
                  refine J.iincN (L' := [_, _, _, _, _, _, _, _, _, _, _, _, _, _, _, _, _, _, _]) (pc := 295) G dX4_mineOrder_295 1 rfl rfl rfl rfl ?_
                  refine J.goto (pc := 298) (tgt := 190) G dX4_mineOrder_298 (by decide) ?_
                  exact ih2 (k + 1, nc, M, R1, P1, Z1) ⟨by dsimp only; omega, a1, a2, a3, a4, a5, a6, a7⟩ (by dsimp only; omega) _ _ _ _ _ _
                refine J.aload (pc := 197) G dX4_mineOrder_197 rfl ?_
                refine J.iload (pc := 199) G dX4_mineOrder_199 rfl ?_
                refine J.ialdN (pc := 201) G dX4_mineOrder_201 hps h6 (by omega) ?_
                refine J.istore (L' := [_, _, _, _, _, _, _, _, _, _, _, _, _, _, _, _, _, _, _]) (pc := 202) G dX4_mineOrder_202 rfl (Nat.le_of_ble_eq_true rfl) rfl ?_
                refine J.iconstN (pc := 204) G dX4_mineOrder_204 0 rfl ?_
                refine J.istore (L' := [_, _, _, _, _, _, _, _, _, _, _, _, _, _, _, _, _, _, _]) (pc := 205) G dX4_mineOrder_205 rfl (Nat.le_of_ble_eq_true rfl) rfl ?_
                refine J.aload (pc := 207) G dX4_mineOrder_207 rfl ?_
                refine J.astore (L' := [_, _, _, _, _, _, _, _, _, _, _, _, _, _, _, _, _, _, _]) (pc := 209) G dX4_mineOrder_209 rfl (Nat.le_of_ble_eq_true rfl) rfl ?_
                refine J.aload (pc := 211) G dX4_mineOrder_211 rfl ?_
                refine J.alenI (pc := 213) G dX4_mineOrder_213 hps ?_
                refine J.istore (L' := [_, _, _, _, _, _, _, _, _, _, _, _, _, _, _, _, _, _, _]) (pc := 214) G dX4_mineOrder_214 rfl (Nat.le_of_ble_eq_true rfl) rfl ?_
                refine J.iconstN (pc := 216) G dX4_mineOrder_216 0 rfl ?_
                refine J.istore (L' := [_, _, _, _, _, _, _, _, _, _, _, _, _, _, _, _, _, _, _]) (pc := 217) G dX4_mineOrder_217 rfl (Nat.le_of_ble_eq_true rfl) rfl ?_
                generalize hx : gd ps k = x at hgk hstep ⊢
                have K275 : ∀ l17 l18, J g (4 + csC (cC f) tr 3 fin l.length) (32 + csS (cS f) tr 3 fin l.length) nc M [some (.ref a), some (.ref b), some (.int (iI (moL tr : Int))), some (.ref fr), some (.int (iI p)), some (.ref n), some (.ref (n + 1)), some (.ref (n + 1 + 1 + 1)), some (.int (iI (nd.length : Int))), some (.int (iI (pl : Int))), some (.ref (n + 1 + 1 + 1)), some (.int (iI (ps.length : Int))), some (.int (iI (k : Int))), some (.int (iI (x : Int))), some (.int (iI (ahF rc ps x ps.length : Int))), some (.ref (n + 1 + 1 + 1)), some (.int (iI (ps.length : Int))), l17, l18] 275 [] := by
                  intro l17 l18
                  have hab : ahF rc ps x ps.length ≤ ps.length := it_inv (f := fun i s => if gd ps i ≠ x ∧ (rc (loF (gd ps i))).testBit (loF x) = true then s + 1 else s) (s := 0) (fun i s => s ≤ i) ps.length (Nat.le_refl _) (fun i s _ hs => by split <;> omega)
                  refine J.iload (pc := 275) G dX4_mineOrder_275 rfl ?_
                  refine J.iload (pc := 277) G dX4_mineOrder_277 rfl ?_
                  refine J.icmp_neN (pc := 279) (tgt := 295) G dX4_mineOrder_279 (by decide) (by omega) (by omega) (fun h7 => ?_) (fun h7 => ?_)
                  · rw [if_neg h7] at hstep
                    exact ek l hstep.symm nc M R1 P1 Z1 hnc hM hT hK hps hld hFr _ _ _ _ _ _
                  · rw [if_pos h7] at hstep
                    rw [hstep] at hpre
                    obtain ⟨hm1, hm2⟩ := gd_mid (l := l) (x := x) (r := rest)
                    rw [← hpre] at hm1 hm2
                    refine J.dom (fun hbc => ?_)
                    obtain ⟨hd1, hd2⟩ := hok2 l.length hm2
                    have hst := csC_to (F := cC f) (tr := tr) (kd := 3) (ps := fin) (show l.length + 1 ≤ fin.length by omega)
                    have hss := csS_to (F := cS f) (tr := tr) (kd := 3) (ps := fin) (show l.length + 1 ≤ fin.length by omega)
                    have e1 : csC (cC f) tr 3 fin (l.length + 1) = csC (cC f) tr 3 fin l.length + (opC tr 3 (gd fin l.length) + cC f (takeF tr (gd fin l.length) 3)) := rfl
                    have e2 : csS (cS f) tr 3 fin (l.length + 1) = csS (cS f) tr 3 fin l.length + (opS tr 3 (gd fin l.length) + cS f (takeF tr (gd fin l.length) 3)) := rfl
                    have hstf : fld f tr 3 fin (nd.length : Int) (nd ++ [(3, p, moL tr)]) (l.length + 1) = growF f (takeF tr (gd fin l.length) 3) (nd.length : Int) (fld f tr 3 fin (nd.length : Int) (nd ++ [(3, p, moL tr)]) l.length) := rfl
                    rw [hm1] at hd1 hd2 e1 e2 hstf
                    have e3 : opC tr 3 x = tr.length + 2 := rfl
                    have e4 : opS tr 3 x = 2 * tr.length + tot (takeI x false true tr tr.length) := rfl
                    have e5 : takeF tr x 3 = takeI x false true tr tr.length := rfl
                    have hgM : LgB M b (a + 9) tr := hg.keep hbn (fun x g1 g2 => hFr x g2 (by omega))
                    generalize fld f tr 3 fin (nd.length : Int) (nd ++ [(3, p, moL tr)]) l.length = nq at hT hd2 hstf
                    refine J.aload_n (pc := 282) G dX4_mineOrder_282 rfl ?_
                    refine J.aload_n (pc := 283) G dX4_mineOrder_283 rfl ?_
                    refine J.iload (pc := 284) G dX4_mineOrder_284 rfl ?_
                    refine J.iconstN (pc := 286) G dX4_mineOrder_286 1 rfl ?_
                    refine J.topv (b := bI true) rfl ?_
                    refine J.callS (pc := 287) (na := 3) G (m_only nc M (b := b) (set := x) (we := true) (tr := tr) hgM.lg hbc hgk.2 hlab (by omega) (fun t ht => by have := hl12 t ht; omega)) q832 q833 q834 q5 (by decide +kernel) dX4_mineOrder_287 rfl (Nat.le_of_ble_eq_true rfl) rfl ⟨by omega, by decide, by omega, by omega⟩ ?_
                    rintro r9 n9 M3 ⟨hr9, hn9, hlg3, hag3⟩
                    dsimp only [Option.toList, List.cons_append, List.nil_append]
                    subst hr9
                    subst hn9
                    dsimp only [Option.toList, List.cons_append, List.nil_append]
                    rw [← e5] at hlg3 e4 ⊢
                    have hM3 := hM.al hbc hag3
                    refine J.dom (fun hbc3 => ?_)
                    refine J.iload (pc := 290) G dX4_mineOrder_290 rfl ?_
                    refine J.callV (pc := 292) (na := 2) G (hrec (nc + 2 + (takeF tr x 3).length) M3 (nc + 1 + (takeF tr x 3).length) (nd.length : Int) (takeF tr x 3) nq R1 P1 Z1 (hlg3.wide (by omega)) hbc3 (takeF_goodM hgd) hM3 hT ⟨by omega, by omega⟩ hd1 hd2) q821 q823 qp42 q824 q5 (by decide +kernel) dX4_mineOrder_292 (hM3.at 0 rfl) rfl rfl (Nat.le_of_ble_eq_true rfl) rfl ⟨by omega, by decide, by omega, by omega⟩ ?_
                    rintro r8 n8 M4 ⟨hr8, hn8, ⟨R4, P4, Z4, hM4, hT4, hK4⟩, hFr4⟩
                    dsimp only [Option.toList, List.cons_append, List.nil_append]
                    subst hr8
                    dsimp only [Option.toList, List.cons_append, List.nil_append]
                    have hla : (l ++ [x]).length = l.length + 1 := by rw [List.length_append]; rfl
                    refine J.wid (k' := 4 + csC (cC f) tr 3 fin (l ++ [x]).length) (z' := 32 + csS (cS f) tr 3 fin (l ++ [x]).length) (by rw [hla]; omega) (by rw [hla]; omega) ?_
                    exact ek (l ++ [x]) hstep.symm n8 M4 R4 P4 Z4 (by omega) hM4 (by rw [hla, hstf]; exact hT4) (hK.tr hK4) ((hFr4 _ (by omega) (by omega)).trans ((hag3 _ (by omega)).trans hps)) ((hFr4 _ (by omega) (by omega)).trans ((hag3 _ (by omega)).trans hld)) (hFr.tr (FrM.tr (FrM.al hag3) hFr4 (by omega)) (by omega)) _ _ _ _ _ _
                have K3 : ∀ q : Nat, q ≤ ps.length → ∀ l18, J g (4 + csC (cC f) tr 3 fin l.length) (32 + csS (cS f) tr 3 fin l.length) nc M [some (.ref a), some (.ref b), some (.int (iI (moL tr : Int))), some (.ref fr), some (.int (iI p)), some (.ref n), some (.ref (n + 1)), some (.ref (n + 1 + 1 + 1)), some (.int (iI (nd.length : Int))), some (.int (iI (pl : Int))), some (.ref (n + 1 + 1 + 1)), some (.int (iI (ps.length : Int))), some (.int (iI (k : Int))), some (.int (iI (x : Int))), some (.int (iI (ahF rc ps x q : Int))), some (.ref (n + 1 + 1 + 1)), some (.int (iI (ps.length : Int))), some (.int (iI (q : Int))), l18] 219 [] := by
                  refine loopJ (fun q => ps.length - q) _ _ ?_
                  intro q hq ih3 l18
                  have hs3 : ahF rc ps x (q + 1) = if gd ps q ≠ x ∧ (rc (loF (gd ps q))).testBit (loF x) = true then ahF rc ps x q + 1 else ahF rc ps x q := rfl
                  refine J.iload (pc := 219) G dX4_mineOrder_219 rfl ?_
                  refine J.iload (pc := 221) G dX4_mineOrder_221 rfl ?_
                  refine J.icmp_geN (pc := 223) (tgt := 275) G dX4_mineOrder_223 (by decide) (by omega) (by omega) (fun h7 => ?_) (fun h7 => ?_)
                  · have hqe : q = ps.length := by omega
                    subst hqe
                    exact K275 _ _
                  · have hgq := hpa q h7
                    have hlq := (loF_spec hgq.2 hgq.1).1
                    have hlx := (loF_spec hgk.2 hgk.1).1
                    have hrq := hrc8 _ hlq
                    generalize ahF rc ps x q = s0 at hs3 ⊢
                    have nx : ∀ y : Nat, ahF rc ps x (q + 1) = s0 + y → J g (4 + csC (cC f) tr 3 fin l.length) (32 + csS (cS f) tr 3 fin l.length) nc M [some (.ref a), some (.ref b), some (.int (iI (moL tr : Int))), some (.ref fr), some (.int (iI p)), some (.ref n), some (.ref (n + 1)), some (.ref (n + 1 + 1 + 1)), some (.int (iI (nd.length : Int))), some (.int (iI (pl : Int))), some (.ref (n + 1 + 1 + 1)), some (.int (iI (ps.length : Int))), some (.int (iI (k : Int))), some (.int (iI (x : Int))), some (.int (iI (s0 : Int))), some (.ref (n + 1 + 1 + 1)), some (.int (iI (ps.length : Int))), some (.int (iI (q : Int))), some (.int (iI (gd ps q : Int)))] 266 [.int (iI (y : Int)), .int (iI (s0 : Int))] := by
                      intro y hy
                      refine J.iaddN (pc := 266) G dX4_mineOrder_266 ?_
                      refine J.istore (L' := [_, _, _, _, _, _, _, _, _, _, _, _, _, _, _, _, _, _, _]) (pc := 267) G dX4_mineOrder_267 rfl (Nat.le_of_ble_eq_true rfl) rfl ?_
                      refine J.iincN (L' := [_, _, _, _, _, _, _, _, _, _, _, _, _, _, _, _, _, _, _]) (pc := 269) G dX4_mineOrder_269 1 rfl rfl rfl rfl ?_
                      refine J.goto (pc := 272) (tgt := 219) G dX4_mineOrder_272 (by decide) ?_
                      rw [← hy]
                      exact ih3 (q + 1) (by omega) (by omega) _
                    have K265 : ¬ (gd ps q ≠ x ∧ (rc (loF (gd ps q))).testBit (loF x) = true) → J g (4 + csC (cC f) tr 3 fin l.length) (32 + csS (cS f) tr 3 fin l.length) nc M [some (.ref a), some (.ref b), some (.int (iI (moL tr : Int))), some (.ref fr), some (.int (iI p)), some (.ref n), some (.ref (n + 1)), some (.ref (n + 1 + 1 + 1)), some (.int (iI (nd.length : Int))), some (.int (iI (pl : Int))), some (.ref (n + 1 + 1 + 1)), some (.int (iI (ps.length : Int))), some (.int (iI (k : Int))), some (.int (iI (x : Int))), some (.int (iI (s0 : Int))), some (.ref (n + 1 + 1 + 1)), some (.int (iI (ps.length : Int))), some (.int (iI (q : Int))), some (.int (iI (gd ps q : Int)))] 265 [.int (iI (s0 : Int))] := by
                      intro hno
                      rw [if_neg hno] at hs3
                      refine J.iconstN (pc := 265) G dX4_mineOrder_265 0 rfl ?_
                      exact nx 0 (by rw [hs3, Nat.add_zero])
                    refine J.aload (pc := 226) G dX4_mineOrder_226 rfl ?_
                    refine J.iload (pc := 228) G dX4_mineOrder_228 rfl ?_
                    refine J.ialdN (pc := 230) G dX4_mineOrder_230 hps h7 (by omega) ?_
                    refine J.istore (L' := [_, _, _, _, _, _, _, _, _, _, _, _, _, _, _, _, _, _, _]) (pc := 231) G dX4_mineOrder_231 rfl (Nat.le_of_ble_eq_true rfl) rfl ?_
                    refine J.iload (pc := 233) G dX4_mineOrder_233 rfl ?_
                    refine J.iload (pc := 235) G dX4_mineOrder_235 rfl ?_
                    refine J.iload (pc := 237) G dX4_mineOrder_237 rfl ?_
                    refine J.icmp_eqN (pc := 239) (tgt := 265) G dX4_mineOrder_239 (by decide) (by omega) (by omega) (fun h9 => K265 (fun q => q.1 h9)) (fun h9 => ?_)
                    refine J.aload (pc := 242) G dX4_mineOrder_242 rfl ?_
                    refine J.iload (pc := 244) G dX4_mineOrder_244 rfl ?_
                    refine J.callS (pc := 246) (na := 1) G (c_ntz nc M (m := gd ps q) hgq.2 hgq.1) q862 q863 q864 q12 (by decide +kernel) dX4_mineOrder_246 rfl (Nat.le_of_ble_eq_true rfl) rfl ⟨by omega, by decide, by omega, by omega⟩ ?_
                    rintro r9 n9 M9 ⟨hr9, hn9, hM9⟩
                    subst hr9
                    rw [hn9, hM9]
                    clear hn9 hM9 n9 M9
                    dsimp only [Option.toList, List.cons_append, List.nil_append]
                    refine J.ialdN (pc := 249) G dX4_mineOrder_249 hld hlq (by decide) ?_
                    refine J.iload (pc := 250) G dX4_mineOrder_250 rfl ?_
                    refine J.callS (pc := 252) (na := 1) G (c_ntz nc M (m := x) hgk.2 hgk.1) q862 q863 q864 q12 (by decide +kernel) dX4_mineOrder_252 rfl (Nat.le_of_ble_eq_true rfl) rfl ⟨by omega, by decide, by omega, by omega⟩ ?_
                    rintro r9 n9 M9 ⟨hr9, hn9, hM9⟩
                    subst hr9
                    rw [hn9, hM9]
                    clear hn9 hM9 n9 M9
                    dsimp only [Option.toList, List.cons_append, List.nil_append]
                    refine J.callS (pc := 255) (na := 2) G (m_has nc M (m := rc (loF (gd ps q))) (l := loF x) (by omega) (by omega)) q805 q806 q807 q5 (by decide +kernel) dX4_mineOrder_255 rfl (Nat.le_of_ble_eq_true rfl) rfl ⟨by omega, by decide, by omega, by omega⟩ ?_
                    rintro r9 n9 M9 ⟨hr9, hn9, hM9⟩
                    subst hr9
                    rw [hn9, hM9]
                    clear hn9 hM9 n9 M9
                    dsimp only [Option.toList, List.cons_append, List.nil_append]
                    refine J.if_eq_b (pc := 258) (tgt := 265) G dX4_mineOrder_258 (by decide) (fun hb1 => ?_) (fun hb1 => ?_)
                    · exact K265 (fun q => by rw [q.2] at hb1; cases hb1)
                    · refine J.iconstN (pc := 261) G dX4_mineOrder_261 1 rfl ?_
                      refine J.goto (pc := 262) (tgt := 266) G dX4_mineOrder_262 (by decide) ?_
                      rw [if_pos ⟨h9, hb1⟩] at hs3
                      exact nx 1 hs3
                exact K3 0 (Nat.zero_le _) _
            exact K2 (0, nc, M, R1, P1, Z1) ⟨Nat.zero_le _, hnc, hM, hT, hK, hps, hld, hFr⟩ _ _ _ _ _ _
        refine J.wid (k' := 4 + csC (cC f) tr 3 fin 0) (z' := 32 + csS (cS f) tr 3 fin 0) (by show _ ≤ 4 + 0; omega) (by show _ ≤ 32 + 0; omega) ?_
        exact K1 (0, n + 1 + 1 + 2, M2, _, _, _) ⟨Nat.zero_le _, Nat.le_refl _, hM2, hT2, KpW.add, hps2, hld2, hFr2'⟩ _ _ _ _ _ _ _ _ _
      · refine J.iconstN (pc := 155) G dX4_mineOrder_155 0 rfl ?_
        exact J.zret0 (pc := 156) G hO dX4_mineOrder_156 (by omega) (by omega) ⟨by omega, hFr0, Or.inr ⟨by omega, rfl, hM1⟩⟩
    refine J.bipushN (pc := 67) G dX4_mineOrder_67 8 (by decide +kernel) ?_
    refine J.newI (pc := 69) G q62 dX4_mineOrder_69 (by decide) (by omega) (by omega) (fun M1 hjn hag1 => ?_)
    refine J.astore (L' := [_, _, _, _, _, _, _, _, _, _, _, _, _, _, _, _, _, _, _]) (pc := 71) G dX4_mineOrder_71 rfl (Nat.le_of_ble_eq_true rfl) rfl ?_
    refine J.iconstN (pc := 73) G dX4_mineOrder_73 0 rfl ?_
    refine J.istore (L' := [_, _, _, _, _, _, _, _, _, _, _, _, _, _, _, _, _, _, _]) (pc := 74) G dX4_mineOrder_74 rfl (Nat.le_of_ble_eq_true rfl) rfl ?_
    have K4 : ∀ s : Nat × AH, (s.1 ≤ 8 ∧ s.2 (n + 1) = some (cN 8 (fillN (nearO rc) (fun _ => 0) s.1)) ∧ s.2 n = some (cN 8 rc) ∧ ∀ x, x < n → s.2 x = M0 x) → ∀ l8, J g (0 + 1 + 1) (0 + 8 + 8) (n + 1 + 1) s.2 [some (.ref a), some (.ref b), some (.int (iI (moL tr : Int))), some (.ref fr), some (.int (iI p)), some (.ref n), some (.ref (n + 1)), some (.int (iI (s.1 : Int))), l8, none, none, none, none, none, none, none, none, none, none] 76 [] := by
      refine loopJ (fun s => 8 - s.1) _ _ ?_
      rintro ⟨u, M⟩ ⟨hu, hjn, hld, hag⟩ ih l8
      dsimp only at hu hjn hld hag ih ⊢
      refine J.iload (pc := 76) G dX4_mineOrder_76 rfl ?_
      refine J.bipushN (pc := 78) G dX4_mineOrder_78 8 (by decide +kernel) ?_
      refine J.icmp_geN (pc := 80) (tgt := 140) G dX4_mineOrder_80 (by decide) (by omega) (by omega) (fun h5 => ?_) (fun h5 => ?_)
      · have hu8 : u = 8 := by omega
        subst hu8
        exact K140 M hjn hld hag _ _
      · have hru := hrc8 u h5
        refine J.iconstN (pc := 83) G dX4_mineOrder_83 0 rfl ?_
        refine J.istore (L' := [_, _, _, _, _, _, _, _, _, _, _, _, _, _, _, _, _, _, _]) (pc := 84) G dX4_mineOrder_84 rfl (Nat.le_of_ble_eq_true rfl) rfl ?_
        have K5 : ∀ s : Nat × AH, (s.1 ≤ 8 ∧ s.2 (n + 1) = some (cN 8 (upN (fillN (nearO rc) (fun _ => 0) u) u (noI rc u s.1))) ∧ s.2 n = some (cN 8 rc) ∧ ∀ x, x < n → s.2 x = M0 x) → J g (0 + 1 + 1) (0 + 8 + 8) (n + 1 + 1) s.2 [some (.ref a), some (.ref b), some (.int (iI (moL tr : Int))), some (.ref fr), some (.int (iI p)), some (.ref n), some (.ref (n + 1)), some (.int (iI (u : Int))), some (.int (iI (s.1 : Int))), none, none, none, none, none, none, none, none, none, none] 86 [] := by
          refine loopJ (fun s => 8 - s.1) _ _ ?_
          clear hjn hld hag M
          rintro ⟨v, M⟩ ⟨hv, hjn, hld, hag⟩ ih2
          dsimp only at hv hjn hld hag ih2 ⊢
          have hs2 : noI rc u (v + 1) = if (rc u).testBit v = (rc v).testBit u then noI rc u v ||| 2 ^ v else noI rc u v := rfl
          refine J.iload (pc := 86) G dX4_mineOrder_86 rfl ?_
          refine J.bipushN (pc := 88) G dX4_mineOrder_88 8 (by decide +kernel) ?_
          refine J.icmp_geN (pc := 90) (tgt := 134) G dX4_mineOrder_90 (by decide) (by omega) (by omega) (fun h6 => ?_) (fun h6 => ?_)
          · have hv8 : v = 8 := by omega
            subst hv8
            have e8 : noI rc u 8 = nearO rc u := rfl
            rw [e8, fillN_s] at hjn
            refine J.iincN (L' := [_, _, _, _, _, _, _, _, _, _, _, _, _, _, _, _, _, _, _]) (pc := 134) G dX4_mineOrder_134 1 rfl rfl rfl rfl ?_
            refine J.goto (pc := 137) (tgt := 76) G dX4_mineOrder_137 (by decide) ?_
            exact ih (u + 1, M) ⟨by dsimp only; omega, hjn, hld, hag⟩ (by dsimp only; omega) _
          · have hrv := hrc8 v h6
            have nx : ∀ M : AH, M (n + 1) = some (cN 8 (upN (fillN (nearO rc) (fun _ => 0) u) u (noI rc u (v + 1)))) → M n = some (cN 8 rc) → (∀ x, x < n → M x = M0 x) → J g (0 + 1 + 1) (0 + 8 + 8) (n + 1 + 1) M [some (.ref a), some (.ref b), some (.int (iI (moL tr : Int))), some (.ref fr), some (.int (iI p)), some (.ref n), some (.ref (n + 1)), some (.int (iI (u : Int))), some (.int (iI (v : Int))), none, none, none, none, none, none, none, none, none, none] 128 [] := by
              intro M a1 a2 a3
              refine J.iincN (L' := [_, _, _, _, _, _, _, _, _, _, _, _, _, _, _, _, _, _, _]) (pc := 128) G dX4_mineOrder_128 1 rfl rfl rfl rfl ?_
              refine J.goto (pc := 131) (tgt := 86) G dX4_mineOrder_131 (by decide) ?_
              exact ih2 (v + 1, M) ⟨by dsimp only; omega, a1, a2, a3⟩ (by dsimp only; omega)
            refine J.aload (pc := 93) G dX4_mineOrder_93 rfl ?_
            refine J.iload (pc := 95) G dX4_mineOrder_95 rfl ?_
            refine J.ialdN (pc := 97) G dX4_mineOrder_97 hld h5 (by decide) ?_
            refine J.iload (pc := 98) G dX4_mineOrder_98 rfl ?_
            refine J.callS (pc := 100) (na := 2) G (m_has (n + 1 + 1) M (m := rc u) (l := v) (by omega) (by omega)) q805 q806 q807 q5 (by decide +kernel) dX4_mineOrder_100 rfl (Nat.le_of_ble_eq_true rfl) rfl ⟨by omega, by decide, by omega, by omega⟩ ?_
            rintro r9 n9 M9 ⟨hr9, hn9, hM9⟩
            subst hr9
            rw [hn9, hM9]
            clear hn9 hM9 n9 M9
            dsimp only [Option.toList, List.cons_append, List.nil_append]
            refine J.aload (pc := 103) G dX4_mineOrder_103 rfl ?_
            refine J.iload (pc := 105) G dX4_mineOrder_105 rfl ?_
            refine J.ialdN (pc := 107) G dX4_mineOrder_107 hld h6 (by decide) ?_
            refine J.iload (pc := 108) G dX4_mineOrder_108 rfl ?_
            refine J.callS (pc := 110) (na := 2) G (m_has (n + 1 + 1) M (m := rc v) (l := u) (by omega) (by omega)) q805 q806 q807 q5 (by decide +kernel) dX4_mineOrder_110 rfl (Nat.le_of_ble_eq_true rfl) rfl ⟨by omega, by decide, by omega, by omega⟩ ?_
            rintro r9 n9 M9 ⟨hr9, hn9, hM9⟩
            subst hr9
            rw [hn9, hM9]
            clear hn9 hM9 n9 M9
            dsimp only [Option.toList, List.cons_append, List.nil_append]
            refine J.icmp_ne_b (pc := 113) (tgt := 128) G dX4_mineOrder_113 (by decide) (fun hc => ?_) (fun hc => ?_)
            · rw [if_neg hc] at hs2
              exact nx M (by rw [hs2]; exact hjn) hld hag
            · rw [if_pos hc] at hs2
              refine J.aload (pc := 116) G dX4_mineOrder_116 rfl ?_
              refine J.iload (pc := 118) G dX4_mineOrder_118 rfl ?_
              refine J.dup2 (pc := 120) G dX4_mineOrder_120 rfl rfl ?_
              refine J.ialdN (pc := 121) G dX4_mineOrder_121 hjn h5 (by decide) ?_
              rw [upN_s]
              refine J.iconstN (pc := 122) G dX4_mineOrder_122 1 rfl ?_
              refine J.iload (pc := 123) G dX4_mineOrder_123 rfl ?_
              refine J.ishl1 (pc := 125) G dX4_mineOrder_125 (by omega) ?_
              refine J.iorN (pc := 126) G dX4_mineOrder_126 ?_
              refine J.iastN (pc := 127) G dX4_mineOrder_127 hjn h5 (by decide) (fun M2 hput2 hag2 => ?_)
              rw [upN2, ← hs2] at hput2
              exact nx M2 hput2 ((hag2 n (by omega)).trans hld) (fun x hx => (hag2 x (by omega)).trans (hag x hx))
        refine K5 (0, M) ⟨Nat.zero_le _, ?_, hld, hag⟩
        dsimp only
        rw [upN_same (by show fillN (nearO rc) (fun _ => 0) u u = 0; unfold fillN; rw [if_neg (Nat.lt_irrefl u)])]
        exact hjn
    exact K4 (0, M1) ⟨Nat.zero_le _, by dsimp only; rw [fillN_0]; exact hjn, (hag1 n (by omega)).trans hld, fun x hx => (hag1 x (by omega)).trans (hag x hx)⟩ _
  have K6 : ∀ s : Nat × AH, (s.1 ≤ 8 ∧ s.2 n = some (cN 8 (it (fun w r => it (fun a r => rstep w a r) r 8) (moF tr) s.1)) ∧ ∀ x, x < n → s.2 x = M0 x) → ∀ l7, J g (0 + 1) (0 + 8) (n + 1) s.2 [some (.ref a), some (.ref b), some (.int (iI (moL tr : Int))), some (.ref fr), some (.int (iI p)), some (.ref n), some (.int (iI (s.1 : Int))), l7, none, none, none, none, none, none, none, none, none, none, none] 12 [] := by
    refine loopJ (fun s => 8 - s.1) _ _ ?_
    clear hag1 hld M1
    rintro ⟨w, M⟩ ⟨hw, hld, hag⟩ ih l7
    dsimp only at hw hld hag ih ⊢
    have hs1 : it (fun w r => it (fun a r => rstep w a r) r 8) (moF tr) (w + 1) = it (fun a r => rstep w a r) (it (fun w r => it (fun a r => rstep w a r) r 8) (moF tr) w) 8 := rfl
    have hr8 : ∀ j, j < 8 → it (fun w r => it (fun a r => rstep w a r) r 8) (moF tr) w j < 256 := it_inv (f := fun w r => it (fun a r => rstep w a r) r 8) (s := moF tr) (fun _ (r : Nat → Nat) => ∀ j, j < 8 → r j < 256) w hfo8 (fun i r hi hr => it_inv (f := fun a r => rstep i a r) (s := r) (fun _ (r : Nat → Nat) => ∀ j, j < 8 → r j < 256) 8 hr (fun _ r2 _ h2 => rstep_lt (by omega) h2))
    refine J.iload (pc := 12) G dX4_mineOrder_12 rfl ?_
    refine J.bipushN (pc := 14) G dX4_mineOrder_14 8 (by decide +kernel) ?_
    refine J.icmp_geN (pc := 16) (tgt := 67) G dX4_mineOrder_16 (by decide) (by omega) (by omega) (fun h5 => ?_) (fun h5 => ?_)
    · have hw8 : w = 8 := by omega
      subst hw8
      exact K67 M hld hag _ _
    · generalize it (fun w r => it (fun a r => rstep w a r) r 8) (moF tr) w = r0 at hld hs1 hr8
      refine J.iconstN (pc := 19) G dX4_mineOrder_19 0 rfl ?_
      refine J.istore (L' := [_, _, _, _, _, _, _, _, _, _, _, _, _, _, _, _, _, _, _]) (pc := 20) G dX4_mineOrder_20 rfl (Nat.le_of_ble_eq_true rfl) rfl ?_
      have K7 : ∀ s : Nat × AH, (s.1 ≤ 8 ∧ s.2 n = some (cN 8 (it (fun a r => rstep w a r) r0 s.1)) ∧ ∀ x, x < n → s.2 x = M0 x) → J g (0 + 1) (0 + 8) (n + 1) s.2 [some (.ref a), some (.ref b), some (.int (iI (moL tr : Int))), some (.ref fr), some (.int (iI p)), some (.ref n), some (.int (iI (w : Int))), some (.int (iI (s.1 : Int))), none, none, none, none, none, none, none, none, none, none, none] 22 [] := by
        refine loopJ (fun s => 8 - s.1) _ _ ?_
        clear hld hag M
        rintro ⟨v, M⟩ ⟨hv, hld, hag⟩ ih2
        dsimp only at hv hld hag ih2 ⊢
        have hs2 : it (fun a r => rstep w a r) r0 (v + 1) = rstep w v (it (fun a r => rstep w a r) r0 v) := rfl
        have hr9 : ∀ j, j < 8 → it (fun a r => rstep w a r) r0 v j < 256 := it_inv (f := fun a r => rstep w a r) (s := r0) (fun _ (r : Nat → Nat) => ∀ j, j < 8 → r j < 256) v hr8 (fun _ r2 _ h2 => rstep_lt (by omega) h2)
        refine J.iload (pc := 22) G dX4_mineOrder_22 rfl ?_
        refine J.bipushN (pc := 24) G dX4_mineOrder_24 8 (by decide +kernel) ?_
        refine J.icmp_geN (pc := 26) (tgt := 61) G dX4_mineOrder_26 (by decide) (by omega) (by omega) (fun h6 => ?_) (fun h6 => ?_)
        · have hv8 : v = 8 := by omega
          subst hv8
          rw [← hs1] at hld
          refine J.iincN (L' := [_, _, _, _, _, _, _, _, _, _, _, _, _, _, _, _, _, _, _]) (pc := 61) G dX4_mineOrder_61 1 rfl rfl rfl rfl ?_
          refine J.goto (pc := 64) (tgt := 12) G dX4_mineOrder_64 (by decide) ?_
          exact ih (w + 1, M) ⟨by dsimp only; omega, hld, hag⟩ (by dsimp only; omega) _
        · generalize it (fun a r => rstep w a r) r0 v = r at hld hs2 hr9
          have hrv := hr9 v h6
          unfold rstep at hs2
          have nx : ∀ M : AH, M n = some (cN 8 (it (fun a r => rstep w a r) r0 (v + 1))) → (∀ x, x < n → M x = M0 x) → J g (0 + 1) (0 + 8) (n + 1) M [some (.ref a), some (.ref b), some (.int (iI (moL tr : Int))), some (.ref fr), some (.int (iI p)), some (.ref n), some (.int (iI (w : Int))), some (.int (iI (v : Int))), none, none, none, none, none, none, none, none, none, none, none] 55 [] := by
            intro M a1 a2
            refine J.iincN (L' := [_, _, _, _, _, _, _, _, _, _, _, _, _, _, _, _, _, _, _]) (pc := 55) G dX4_mineOrder_55 1 rfl rfl rfl rfl ?_
            refine J.goto (pc := 58) (tgt := 22) G dX4_mineOrder_58 (by decide) ?_
            exact ih2 (v + 1, M) ⟨by dsimp only; omega, a1, a2⟩ (by dsimp only; omega)
          refine J.aload (pc := 29) G dX4_mineOrder_29 rfl ?_
          refine J.iload (pc := 31) G dX4_mineOrder_31 rfl ?_
          refine J.ialdN (pc := 33) G dX4_mineOrder_33 hld h6 (by decide) ?_
          refine J.iload (pc := 34) G dX4_mineOrder_34 rfl ?_
          refine J.callS (pc := 36) (na := 2) G (m_has (n + 1) M (m := r v) (l := w) (by omega) (by omega)) q805 q806 q807 q5 (by decide +kernel) dX4_mineOrder_36 rfl (Nat.le_of_ble_eq_true rfl) rfl ⟨by omega, by decide, by omega, by omega⟩ ?_
          rintro r9 n9 M9 ⟨hr9, hn9, hM9⟩
          subst hr9
          rw [hn9, hM9]
          clear hn9 hM9 n9 M9
          dsimp only [Option.toList, List.cons_append, List.nil_append]
          refine J.if_eq_b (pc := 39) (tgt := 55) G dX4_mineOrder_39 (by decide) (fun hb1 => ?_) (fun hb1 => ?_)
          · rw [if_neg (by rw [hb1]; decide)] at hs2
            exact nx M (by unfold rstep; rw [hs2]; exact hld) hag
          · rw [if_pos hb1] at hs2
            refine J.aload (pc := 42) G dX4_mineOrder_42 rfl ?_
            refine J.iload (pc := 44) G dX4_mineOrder_44 rfl ?_
            refine J.dup2 (pc := 46) G dX4_mineOrder_46 rfl rfl ?_
            refine J.ialdN (pc := 47) G dX4_mineOrder_47 hld h6 (by decide) ?_
            refine J.aload (pc := 48) G dX4_mineOrder_48 rfl ?_
            refine J.iload (pc := 50) G dX4_mineOrder_50 rfl ?_
            refine J.ialdN (pc := 52) G dX4_mineOrder_52 hld h5 (by decide) ?_
            refine J.iorN (pc := 53) G dX4_mineOrder_53 ?_
            refine J.iastN (pc := 54) G dX4_mineOrder_54 hld h6 (by decide) (fun M2 hput2 hag2 => ?_)
            exact nx M2 (by unfold rstep; rw [hs2]; exact hput2) (fun x hx => (hag2 x (by omega)).trans (hag x hx))
      exact K7 (0, M) ⟨Nat.zero_le _, hld, hag⟩
  exact K6 (0, M1) ⟨Nat.zero_le _, hld, fun x hx => hag1 x (by omega)⟩ _
end MINE2
