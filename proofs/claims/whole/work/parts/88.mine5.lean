section MINE5
def gr2 (tr : List (List Nat)) (p : Int) (nd : List Nd) (kd : Nat) : List Nd := if kd = 2 ∧ 0 < (mL tr).2.2.2.1 then (nd ++ [(kd, p, moL tr)]) ++ [(0, (nd.length : Int), 0)] else nd ++ [(kd, p, moL tr)]
def gr3 (tr : List (List Nat)) (p : Int) (nd : List Nd) (kd : Nat) (ps : List Nat) : List Nd := if kd = 5 ∧ ps.length = 0 then (gr2 tr p nd kd ++ [(1, (nd.length : Int), moL tr)]) ++ [(0, (nd.length : Int), 0)] else gr2 tr p nd kd
theorem grow_cut {f : Nat} {tr : List (List Nat)} {p : Int} {nd : List Nd} {kd : Nat} {ps : List Nat} (q : CutQ tr) (h : cutM tr = (kd, ps)) : growF (f + 1) tr p nd = fld f tr kd ps (nd.length : Int) (gr3 tr p nd kd ps) ps.length := by
  show it _ (grow3 tr p nd) _ = _
  unfold grow3 grow2 grow1
  rw [q.1, h, q.2.1]
  rfl
theorem growOk_cut {f : Nat} {tr : List (List Nat)} {p : Int} {nd : List Nd} {kd : Nat} {ps : List Nat} (q : CutQ tr) (h : cutM tr = (kd, ps)) (hg : growOk (f + 1) tr p nd) : nd.length < 64 ∧ (kd = 2 ∧ 0 < (mL tr).2.2.2.1 → (nd ++ [(kd, p, moL tr)]).length < 64) ∧ (kd = 5 ∧ ps.length = 0 → (gr2 tr p nd kd).length < 64 ∧ (gr2 tr p nd kd ++ [((1 : Nat), (nd.length : Int), moL tr)]).length < 64) ∧ ∀ i, i < ps.length → growOk f (takeF tr (gd ps i) kd) (nd.length : Int) (fld f tr kd ps (nd.length : Int) (gr3 tr p nd kd ps) i) := by
  obtain ⟨h1, h2, h3, h4⟩ := hg
  unfold grow3 grow2 grow1 at h4
  unfold grow2 grow1 at h3
  unfold grow1 at h2
  rw [q.1, h, q.2.1] at h2 h3 h4
  exact ⟨h1.1, fun e => (h2 e).1, fun e => ⟨(h3 e).1.1, (h3 e).2.1⟩, h4⟩
theorem dp_cut {f : Nat} {tr : List (List Nat)} {kd : Nat} {ps : List Nat} (q : CutQ tr) (h : cutM tr = (kd, ps)) (hd : dpOk (f + 1) tr) : ∀ i, i < ps.length → dpOk f (takeF tr (gd ps i) kd) := by
  have : ∀ i, i < (cutT tr).2.length → dpOk f (takeF tr (gd (cutT tr).2 i) (cutT tr).1) := hd
  rw [q.1, h] at this
  exact this
theorem cC_cut {f : Nat} {tr : List (List Nat)} {kd : Nat} {ps : List Nat} (q : CutQ tr) (h : cutM tr = (kd, ps)) : cC (f + 1) tr = 12 + csC (cC f) tr kd ps ps.length := by
  show 12 + csC (cC f) tr (cutT tr).1 (cutT tr).2 (cutT tr).2.length = _
  rw [q.1, h]
theorem cS_cut {f : Nat} {tr : List (List Nat)} {kd : Nat} {ps : List Nat} (q : CutQ tr) (h : cutM tr = (kd, ps)) : cS (f + 1) tr = 96 + csS (cS f) tr kd ps ps.length := by
  show 96 + csS (cS f) tr (cutT tr).1 (cutT tr).2 (cutT tr).2.length = _
  rw [q.1, h]
theorem cC_12 {f : Nat} {tr : List (List Nat)} : 12 ≤ cC (f + 1) tr := Nat.le_add_right _ _
theorem cS_96 {f : Nat} {tr : List (List Nat)} : 96 ≤ cS (f + 1) tr := Nat.le_add_right _ _
theorem mp5_ne {tr : List (List Nat)} (h : (mp5 tr).length = 0) : False := by
  unfold mp5 at h
  rw [List.length_cons] at h
  exact absurd h (Nat.succ_ne_zero _)
theorem popc_pos1 {m : Nat} (h : m < 256) (h0 : 0 < m) : 1 ≤ popc m := popc_pos (by omega) (by omega)
set_option maxRecDepth 100000 in
set_option maxHeartbeats 4000000 in
theorem m_mineIntoS {a f : Nat} (hcq : ∀ tr, GoodM tr → CutQ tr) (hrec : GrowM a f) : GrowM a (f + 1) := by
  intro n M0 b p tr nd R P Z hg hbn hgd hM hT hp hdp hgo
  have q := hcq tr hgd
  have hcC := fun kd ps (h : cutM tr = (kd, ps)) => cC_cut (f := f) q h
  have hcS := fun kd ps (h : cutM tr = (kd, ps)) => cS_cut (f := f) q h
  have hb12 := cC_12 (f := f) (tr := tr)
  have hb96 := cS_96 (f := f) (tr := tr)
  generalize cC (f + 1) tr = mc at hcC hb12 ⊢
  generalize cS (f + 1) tr = ms at hcS hb96 ⊢
  refine Fn.of (by decide) [some _, some _, some _, none, none, none, none, none, none, none] rfl rfl (Nat.le_of_ble_eq_true rfl) ?_
  intro g G hin hO
  obtain ⟨hgl, hl12⟩ := id hgd
  obtain ⟨hlab, ht1, ht2⟩ := id hgl
  have hall : moL tr < 256 := lbL_lt hlab
  have hbig : a + 9 ≤ n := by
    have := hbn _ _ (hM.at 8 rfl)
    omega
  have h120 : tr.length < 1000 := by omega
  have hl120 : ∀ t, t < tr.length → (tr.getD t []).length < 1000 := fun t ht => by have := hl12 t ht; omega
  have h8 := hT.1
  have hn64 := hgo.1.1
  obtain ⟨fr0, hb0, hr0⟩ := id hg.lg
  refine J.aload_n (pc := 0) G dX4_mineInto_0 rfl ?_
  refine J.callS (pc := 1) (na := 1) G (m_labelsIn n M0 (b := b) (tr := tr) hg.lg hlab h120 hl120) q825 q826 q827 q5 (by decide +kernel) dX4_mineInto_1 rfl (Nat.le_of_ble_eq_true rfl) rfl ⟨by omega, by decide, by omega, by omega⟩ ?_
  rintro r9 n9 M9 ⟨hr9, hn9, hM9⟩
  subst hr9
  rw [hn9, hM9]
  clear hn9 hM9 n9 M9
  dsimp only [Option.toList, List.cons_append, List.nil_append]
  have em : lbL tr tr.length = moL tr := rfl
  rw [em]
  refine J.istore_n (L' := [_, _, _, _, _, _, _, _, _, _]) (pc := 4) G dX4_mineInto_4 rfl (Nat.le_of_ble_eq_true rfl) rfl ?_
  refine J.iload_n (pc := 5) G dX4_mineInto_5 rfl ?_
  refine J.if_neN (pc := 6) (tgt := 18) G dX4_mineInto_6 (by decide) (by omega) (fun h0 => ?_) (fun h0 => ?_)
  · have K128 : emB tr tr.length = false → ∀ x6 x7 x8 x9, J g 0 0 n M0 [some (.ref a), some (.ref b), some (.int (iI p)), some (.int (iI (moL tr : Int))), some (.int (bI false)), some (.int (bI (siB tr tr.length))), x6, x7, x8, x9] 128 [] := by
      intro hem x6 x7 x8 x9
      have hno : ¬ 0 < (mL tr).2.2.2.1 := fun h => by
        have := (q.2.2.1 (by omega)).mp h
        rw [hem] at this; cases this
      have hc0 : cutM tr = if popc (moL tr) = 1 then (if siB tr tr.length then (1, []) else (5, [])) else
          if 2 ≤ (mp2 tr).length then (2, mp2 tr) else
          if 2 ≤ (mq3 tr).length then (3, mp3 tr) else
          if 2 ≤ (mp4 tr).length then (4, mp4 tr) else
          if (mq5 tr).1 ≠ moL tr then (5, mp5 tr) else (6, []) := by
        unfold cutM
        rw [if_neg (by omega), hem, if_neg (by decide)]
      -- heads of a cut that has parts
      have hg3 : ∀ (kd : Nat) (ps : List Nat), ¬ (kd = 5 ∧ ps.length = 0) → gr3 tr p nd kd ps = nd ++ [(kd, p, moL tr)] := by
        intro kd ps h
        unfold gr3 gr2
        rw [if_neg h, if_neg (fun h => hno h.2)]
      have hg3' : ∀ (kd : Nat) (ps : List Nat), gr2 tr p nd kd = nd ++ [(kd, p, moL tr)] := by
        intro kd ps
        unfold gr2
        rw [if_neg (fun h => hno h.2)]
      refine J.iload_n (pc := 128) G dX4_mineInto_128 rfl ?_
      refine J.callS (pc := 129) (na := 1) G (c_bitCount n M0 (m := moL tr) (by omega)) q835 q230 q231 q12 (by decide +kernel) dX4_mineInto_129 rfl (Nat.le_of_ble_eq_true rfl) rfl ⟨by omega, by decide, by omega, by omega⟩ ?_
      rintro r9 n9 M9 ⟨hr9, hn9, hM9⟩
      subst hr9
      rw [hn9, hM9]
      clear hn9 hM9 n9 M9
      dsimp only [Option.toList, List.cons_append, List.nil_append]
      refine J.iconstN (pc := 132) G dX4_mineInto_132 1 rfl ?_
      have hpc := popc_le (moL tr)
      refine J.icmp_neN (pc := 133) (tgt := 178) G dX4_mineInto_133 (by decide) (by omega) (by omega) (fun h1 => ?_) (fun h1 => ?_)
      · rw [if_neg h1] at hc0
        have hCh := fun (n : Nat) (M0 : AH) (b fr mc ms : Nat) (p : Int) (nd : List Nd) (R : Nat → Nat → Nat) (P : Nat → Int) (Z : Nat → Nat) => @m_mineChoice a f hrec n M0 b fr mc ms p tr nd R P Z
        have hOr := fun (n : Nat) (M0 : AH) (b fr mc ms : Nat) (p : Int) (nd : List Nd) (R : Nat → Nat → Nat) (P : Nat → Int) (Z : Nat → Nat) => @m_mineOrder a f hrec n M0 b fr mc ms p tr nd R P Z
        have hBo := fun (n : Nat) (M0 : AH) (b fr mc ms : Nat) (p : Int) (nd : List Nd) (R : Nat → Nat → Nat) (P : Nat → Int) (Z : Nat → Nat) => @m_mineBoth a f hrec n M0 b fr mc ms p tr nd R P Z
        have hAg := fun (n : Nat) (M0 : AH) (b fr mc ms : Nat) (p : Int) (nd : List Nd) (R : Nat → Nat → Nat) (P : Nat → Int) (Z : Nat → Nat) => @m_mineAgain a f hrec n M0 b fr mc ms p tr nd R P Z
        have h5ne := fun h => mp5_ne (tr := tr) h
        generalize mp2 tr = l2 at hc0 hCh
        generalize mq3 tr = q3 at hc0 hOr
        generalize mp3 tr = l3 at hc0 hOr
        generalize mp4 tr = l4 at hc0 hBo
        generalize mp5 tr = l5 at hc0 hAg h5ne
        generalize (mq5 tr).1 = f5 at hc0 hAg
        refine J.aload_n (pc := 178) G dX4_mineInto_178 rfl ?_
        refine J.callS (pc := 179) (na := 1) G (m_followers n M0 (b := b) (tr := tr) hg.lg hbn hlab h120 hl120) q836 q837 q838 q5 (by decide +kernel) dX4_mineInto_179 rfl (Nat.le_of_ble_eq_true rfl) rfl ⟨by omega, by decide, by omega, by omega⟩ ?_
        rintro r9 n9 M1 ⟨hr9, hn9, hfo, hag1⟩
        dsimp only [Option.toList, List.cons_append, List.nil_append]
        subst hr9
        subst hn9
        dsimp only [Option.toList, List.cons_append, List.nil_append]
        have hfo : M1 n = some (cN 8 (moF tr)) := hfo
        have hM1 := hM.al hbn hag1
        refine J.astore (L' := [_, _, _, _, _, _, _, _, _, _]) (pc := 182) G dX4_mineInto_182 rfl (Nat.le_of_ble_eq_true rfl) rfl ?_
        refine J.aload_n (pc := 184) G dX4_mineInto_184 rfl ?_
        refine J.aload_n (pc := 185) G dX4_mineInto_185 rfl ?_
        refine J.iload_n (pc := 186) G dX4_mineInto_186 rfl ?_
        refine J.aload (pc := 187) G dX4_mineInto_187 rfl ?_
        refine J.iload_n (pc := 189) G dX4_mineInto_189 rfl ?_
        -- the end behind a cut that was made
        have K241 : ∀ (kd : Nat) (ps : List Nat) (k z nc : Nat) (M : AH) (R' : Nat → Nat → Nat) (P' : Nat → Int) (Z' : Nat → Nat), cutM tr = (kd, ps) → ¬ (kd = 5 ∧ ps.length = 0) → k ≤ mc → z ≤ ms → n ≤ nc → FrM a n M0 M → Cl M a (modC a R' P' Z') → MdG R' P' Z' (fld f tr kd ps (nd.length : Int) (nd ++ [(kd, p, moL tr)]) ps.length) → KpW R Z R' Z' → J g k z nc M [some (.ref a), some (.ref b), some (.int (iI p)), some (.int (iI (moL tr : Int))), some (.int (bI false)), some (.int (bI (siB tr tr.length))), some (.ref n), x7, x8, x9] 241 [] := by
          intro kd ps k z nc M R' P' Z' hc hk5 hk hz hnc hFr hM hT' hK
          exact J.vret (pc := 241) G hO dX4_mineInto_241 hk hz ⟨rfl, hnc, ⟨R', P', Z', hM, by rw [grow_cut q hc, hg3 kd ps hk5]; exact hT', hK⟩, hFr⟩
        have hfld : ∀ (kd : Nat) (ps : List Nat), cutM tr = (kd, ps) → ¬ (kd = 5 ∧ ps.length = 0) → nd.length < 64 ∧ fldOk f tr kd ps (nd.length : Int) (nd ++ [(kd, p, moL tr)]) := by
          intro kd ps hc hk5
          obtain ⟨-, -, -, g4⟩ := growOk_cut q hc hgo
          rw [hg3 kd ps hk5] at g4
          exact ⟨hn64, fun i hi => ⟨dp_cut q hc hdp i hi, g4 i hi⟩⟩
        have kp : ∀ (nc : Nat) (M : AH), n + 1 ≤ nc → FrM a (n + 1) M1 M → FrM a n M0 M ∧ LgB M b (a + 9) tr ∧ M n = some (cN 8 (moF tr)) := by
          intro nc M hnc hFr
          have h9 : FrM a n M0 M := fun x g1 g2 => (hFr x (by omega) g2).trans (hag1 x g1)
          exact ⟨h9, hg.keep hbn (fun x g1 g2 => h9 x g2 (by omega)), (hFr n (by omega) (by omega)).trans hfo⟩
        have K232 : ∀ (nc : Nat) (M : AH), cutM tr = (6, []) → n + 1 ≤ nc → FrM a (n + 1) M1 M → Cl M a (modC a R P Z) → J g 12 96 nc M [some (.ref a), some (.ref b), some (.int (iI p)), some (.int (iI (moL tr : Int))), some (.int (bI false)), some (.int (bI (siB tr tr.length))), some (.ref n), x7, x8, x9] 232 [] := by
          intro nc M hc hnc hFr hM
          have h1C := hcC _ _ hc
          have h1S := hcS _ _ hc
          obtain ⟨k1, -, -⟩ := kp nc M hnc hFr
          refine J.aload_n (pc := 232) G dX4_mineInto_232 rfl ?_
          refine J.bipushN (pc := 233) G dX4_mineInto_233 6 (by decide +kernel) ?_
          refine J.iload_n (pc := 235) G dX4_mineInto_235 rfl ?_
          refine J.iload_n (pc := 236) G dX4_mineInto_236 rfl ?_
          refine J.callV (pc := 237) (na := 3) G (m_add nc M (kd := 6) (set := moL tr) (p := p) hM (by omega)) q828 q830 qp43 q831 q5 (by decide +kernel) dX4_mineInto_237 (hM.at 0 rfl) rfl rfl (Nat.le_of_ble_eq_true rfl) rfl ⟨by omega, by decide, by omega, by omega⟩ ?_
          rintro r9 n9 M2 ⟨hr9, hn9, ⟨hM2, hFr2⟩⟩
          subst hr9
          rw [hn9]
          clear hn9 n9
          dsimp only [Option.toList, List.cons_append, List.nil_append]
          refine J.pop (pc := 240) G dX4_mineInto_240 rfl ?_
          exact K241 6 [] _ _ nc M2 _ _ _ hc (by decide) (by omega) (by omega) (by omega) (k1.tr (FrM.fr (n := n) hFr2) (Nat.le_refl _)) hM2 (hT.add (kd := 6) (set := moL tr) (p := p)) KpW.add
        have K220 : ∀ (nc : Nat) (M : AH), cutM tr = (if f5 ≠ moL tr then (5, l5) else (6, [])) → n + 1 ≤ nc → FrM a (n + 1) M1 M → Cl M a (modC a R P Z) → J g 10 80 nc M [some (.ref a), some (.ref b), some (.int (iI p)), some (.int (iI (moL tr : Int))), some (.int (bI false)), some (.int (bI (siB tr tr.length))), some (.ref n), x7, x8, x9] 220 [] := by
          intro nc M hc hnc hFr hM
          obtain ⟨k1, k2, k3⟩ := kp nc M hnc hFr
          refine J.dom (fun hbc => ?_)
          refine J.aload_n (pc := 220) G dX4_mineInto_220 rfl ?_
          refine J.aload_n (pc := 221) G dX4_mineInto_221 rfl ?_
          refine J.iload_n (pc := 222) G dX4_mineInto_222 rfl ?_
          refine J.aload (pc := 223) G dX4_mineInto_223 rfl ?_
          refine J.iload_n (pc := 225) G dX4_mineInto_225 rfl ?_
          by_cases h2 : f5 ≠ moL tr
          · rw [if_pos h2] at hc
            have h1C := hcC _ _ hc
            have h1S := hcS _ _ hc
            have h5 : ¬ ((5 : Nat) = 5 ∧ l5.length = 0) := fun h => h5ne h.2
            refine J.callV (pc := 226) (na := 4) G (hAg nc M b n (2 + csC (cC f) tr 5 l5 l5.length) (16 + csS (cS f) tr 5 l5 l5.length) p nd R P Z k2 hbc hgd hM hT hp k3 (by omega) (fun _ => hfld 5 _ hc h5) (by omega) (by omega) (fun _ => Nat.le_refl _) (fun _ => Nat.le_refl _)) q875 q877 qp47 q878 q5 (by decide +kernel) dX4_mineInto_226 (hM.at 0 rfl) rfl rfl (Nat.le_of_ble_eq_true rfl) rfl ⟨by omega, by decide, by omega, by omega⟩ ?_
            rintro r9 n9 M2 ⟨hn9, hFr9, hcs9⟩
            dsimp only [Option.toList, List.cons_append, List.nil_append]
            rcases hcs9 with ⟨-, hr9, R2, P2, Z2, hM2, hT2, hK2⟩ | ⟨hno9, -, -⟩
            · subst hr9
              dsimp only [Option.toList, List.cons_append, List.nil_append]
              refine J.if_ne_b (pc := 229) (tgt := 241) G dX4_mineInto_229 (by decide) (fun _ => ?_) (fun h => by cases h)
              exact K241 5 l5 _ _ n9 M2 R2 P2 Z2 hc h5 (by omega) (by omega) (by omega) (k1.tr hFr9 (by omega)) hM2 hT2 hK2
            · exact absurd h2 hno9
          · rw [if_neg h2] at hc
            have h1C := hcC _ _ hc
            have h1S := hcS _ _ hc
            refine J.callV (pc := 226) (na := 4) G (hAg nc M b n (2) (16) p nd R P Z k2 hbc hgd hM hT hp k3 (by omega) (fun h => absurd h h2) (by omega) (by omega) (fun h => absurd h h2) (fun h => absurd h h2)) q875 q877 qp47 q878 q5 (by decide +kernel) dX4_mineInto_226 (hM.at 0 rfl) rfl rfl (Nat.le_of_ble_eq_true rfl) rfl ⟨by omega, by decide, by omega, by omega⟩ ?_
            rintro r9 n9 M2 ⟨hn9, hFr9, hcs9⟩
            dsimp only [Option.toList, List.cons_append, List.nil_append]
            rcases hcs9 with ⟨hc9, -⟩ | ⟨-, hr9, hM2⟩
            · exact absurd hc9 h2
            · subst hr9
              dsimp only [Option.toList, List.cons_append, List.nil_append]
              refine J.if_ne_b (pc := 229) (tgt := 241) G dX4_mineInto_229 (by decide) (fun h => by cases h) (fun _ => ?_)
              exact K232 n9 M2 hc (by omega) (hFr.tr hFr9 (by omega)) hM2
        have K208 : ∀ (nc : Nat) (M : AH), cutM tr = (if 2 ≤ l4.length then (4, l4) else if f5 ≠ moL tr then (5, l5) else (6, [])) → n + 1 ≤ nc → FrM a (n + 1) M1 M → Cl M a (modC a R P Z) → J g 7 56 nc M [some (.ref a), some (.ref b), some (.int (iI p)), some (.int (iI (moL tr : Int))), some (.int (bI false)), some (.int (bI (siB tr tr.length))), some (.ref n), x7, x8, x9] 208 [] := by
          intro nc M hc hnc hFr hM
          obtain ⟨k1, k2, k3⟩ := kp nc M hnc hFr
          refine J.dom (fun hbc => ?_)
          refine J.aload_n (pc := 208) G dX4_mineInto_208 rfl ?_
          refine J.aload_n (pc := 209) G dX4_mineInto_209 rfl ?_
          refine J.iload_n (pc := 210) G dX4_mineInto_210 rfl ?_
          refine J.aload (pc := 211) G dX4_mineInto_211 rfl ?_
          refine J.iload_n (pc := 213) G dX4_mineInto_213 rfl ?_
          by_cases h2 : 2 ≤ l4.length
          · rw [if_pos h2] at hc
            have h1C := hcC _ _ hc
            have h1S := hcS _ _ hc
            refine J.callV (pc := 214) (na := 4) G (hBo nc M b n (3 + csC (cC f) tr 4 l4 l4.length) (24 + csS (cS f) tr 4 l4 l4.length) p nd R P Z k2 hbc hgd hM hT hp k3 (by omega) (fun _ => hfld 4 _ hc (by omega)) (by omega) (by omega) (fun _ => Nat.le_refl _) (fun _ => Nat.le_refl _)) q866 q868 qp46 q869 q5 (by decide +kernel) dX4_mineInto_214 (hM.at 0 rfl) rfl rfl (Nat.le_of_ble_eq_true rfl) rfl ⟨by omega, by decide, by omega, by omega⟩ ?_
            rintro r9 n9 M2 ⟨hn9, hFr9, hcs9⟩
            dsimp only [Option.toList, List.cons_append, List.nil_append]
            rcases hcs9 with ⟨-, hr9, R2, P2, Z2, hM2, hT2, hK2⟩ | ⟨hno9, -, -⟩
            · subst hr9
              dsimp only [Option.toList, List.cons_append, List.nil_append]
              refine J.if_ne_b (pc := 217) (tgt := 241) G dX4_mineInto_217 (by decide) (fun _ => ?_) (fun h => by cases h)
              exact K241 4 l4 _ _ n9 M2 R2 P2 Z2 hc (by omega) (by omega) (by omega) (by omega) (k1.tr hFr9 (by omega)) hM2 hT2 hK2
            · exact absurd h2 hno9
          · rw [if_neg h2] at hc
            refine J.callV (pc := 214) (na := 4) G (hBo nc M b n (3) (24) p nd R P Z k2 hbc hgd hM hT hp k3 (by omega) (fun h => absurd h h2) (by omega) (by omega) (fun h => absurd h h2) (fun h => absurd h h2)) q866 q868 qp46 q869 q5 (by decide +kernel) dX4_mineInto_214 (hM.at 0 rfl) rfl rfl (Nat.le_of_ble_eq_true rfl) rfl ⟨by omega, by decide, by omega, by omega⟩ ?_
            rintro r9 n9 M2 ⟨hn9, hFr9, hcs9⟩
            dsimp only [Option.toList, List.cons_append, List.nil_append]
            rcases hcs9 with ⟨hc9, -⟩ | ⟨-, hr9, hM2⟩
            · exact absurd hc9 h2
            · subst hr9
              dsimp only [Option.toList, List.cons_append, List.nil_append]
              refine J.if_ne_b (pc := 217) (tgt := 241) G dX4_mineInto_217 (by decide) (fun h => by cases h) (fun _ => ?_)
              exact K220 n9 M2 hc (by omega) (hFr.tr hFr9 (by omega)) hM2
        have K196 : ∀ (nc : Nat) (M : AH), cutM tr = (if 2 ≤ q3.length then (3, l3) else if 2 ≤ l4.length then (4, l4) else if f5 ≠ moL tr then (5, l5) else (6, [])) → n + 1 ≤ nc → FrM a (n + 1) M1 M → Cl M a (modC a R P Z) → J g 3 24 nc M [some (.ref a), some (.ref b), some (.int (iI p)), some (.int (iI (moL tr : Int))), some (.int (bI false)), some (.int (bI (siB tr tr.length))), some (.ref n), x7, x8, x9] 196 [] := by
          intro nc M hc hnc hFr hM
          obtain ⟨k1, k2, k3⟩ := kp nc M hnc hFr
          refine J.dom (fun hbc => ?_)
          refine J.aload_n (pc := 196) G dX4_mineInto_196 rfl ?_
          refine J.aload_n (pc := 197) G dX4_mineInto_197 rfl ?_
          refine J.iload_n (pc := 198) G dX4_mineInto_198 rfl ?_
          refine J.aload (pc := 199) G dX4_mineInto_199 rfl ?_
          refine J.iload_n (pc := 201) G dX4_mineInto_201 rfl ?_
          by_cases h2 : 2 ≤ q3.length
          · rw [if_pos h2] at hc
            have h1C := hcC _ _ hc
            have h1S := hcS _ _ hc
            refine J.callV (pc := 202) (na := 4) G (hOr nc M b n (4 + csC (cC f) tr 3 l3 l3.length) (32 + csS (cS f) tr 3 l3 l3.length) p nd R P Z k2 hbc hgd hM hT hp k3 (by omega) (fun _ => hfld 3 _ hc (by omega)) (by omega) (by omega) (fun _ => Nat.le_refl _) (fun _ => Nat.le_refl _)) q852 q854 qp45 q855 q5 (by decide +kernel) dX4_mineInto_202 (hM.at 0 rfl) rfl rfl (Nat.le_of_ble_eq_true rfl) rfl ⟨by omega, by decide, by omega, by omega⟩ ?_
            rintro r9 n9 M2 ⟨hn9, hFr9, hcs9⟩
            dsimp only [Option.toList, List.cons_append, List.nil_append]
            rcases hcs9 with ⟨-, hr9, R2, P2, Z2, hM2, hT2, hK2⟩ | ⟨hno9, -, -⟩
            · subst hr9
              dsimp only [Option.toList, List.cons_append, List.nil_append]
              refine J.if_ne_b (pc := 205) (tgt := 241) G dX4_mineInto_205 (by decide) (fun _ => ?_) (fun h => by cases h)
              exact K241 3 l3 _ _ n9 M2 R2 P2 Z2 hc (by omega) (by omega) (by omega) (by omega) (k1.tr hFr9 (by omega)) hM2 hT2 hK2
            · exact absurd h2 hno9
          · rw [if_neg h2] at hc
            refine J.callV (pc := 202) (na := 4) G (hOr nc M b n (4) (32) p nd R P Z k2 hbc hgd hM hT hp k3 (by omega) (fun h => absurd h h2) (by omega) (by omega) (fun h => absurd h h2) (fun h => absurd h h2)) q852 q854 qp45 q855 q5 (by decide +kernel) dX4_mineInto_202 (hM.at 0 rfl) rfl rfl (Nat.le_of_ble_eq_true rfl) rfl ⟨by omega, by decide, by omega, by omega⟩ ?_
            rintro r9 n9 M2 ⟨hn9, hFr9, hcs9⟩
            dsimp only [Option.toList, List.cons_append, List.nil_append]
            rcases hcs9 with ⟨hc9, -⟩ | ⟨-, hr9, hM2⟩
            · exact absurd hc9 h2
            · subst hr9
              dsimp only [Option.toList, List.cons_append, List.nil_append]
              refine J.if_ne_b (pc := 205) (tgt := 241) G dX4_mineInto_205 (by decide) (fun h => by cases h) (fun _ => ?_)
              exact K208 n9 M2 hc (by omega) (hFr.tr hFr9 (by omega)) hM2
        have hFr1 : FrM a (n + 1) M1 M1 := FrM.rf
        refine J.dom (fun hbc => ?_)
        obtain ⟨k1, k2, k3⟩ := kp (n + 1) M1 (Nat.le_refl _) hFr1
        by_cases h2 : 2 ≤ l2.length
        · rw [if_pos h2] at hc0
          have h1C := hcC _ _ hc0
          have h1S := hcS _ _ hc0
          refine J.callV (pc := 190) (na := 4) G (hCh (n + 1) M1 b n (2 + csC (cC f) tr 2 l2 l2.length) (16 + csS (cS f) tr 2 l2 l2.length) p nd R P Z k2 hbc hgd hM1 hT hp k3 (by omega) (fun _ => hfld 2 _ hc0 (by omega)) (by omega) (by omega) (fun _ => Nat.le_refl _) (fun _ => Nat.le_refl _)) q839 q841 qp44 q842 q5 (by decide +kernel) dX4_mineInto_190 (hM1.at 0 rfl) rfl rfl (Nat.le_of_ble_eq_true rfl) rfl ⟨by omega, by decide, by omega, by omega⟩ ?_
          rintro r9 n9 M2 ⟨hn9, hFr9, hcs9⟩
          dsimp only [Option.toList, List.cons_append, List.nil_append]
          rcases hcs9 with ⟨-, hr9, R2, P2, Z2, hM2, hT2, hK2⟩ | ⟨hno9, -, -⟩
          · subst hr9
            dsimp only [Option.toList, List.cons_append, List.nil_append]
            refine J.if_ne_b (pc := 193) (tgt := 241) G dX4_mineInto_193 (by decide) (fun _ => ?_) (fun h => by cases h)
            exact K241 2 l2 _ _ n9 M2 R2 P2 Z2 hc0 (by omega) (by omega) (by omega) (by omega) (k1.tr hFr9 (by omega)) hM2 hT2 hK2
          · exact absurd h2 hno9
        · rw [if_neg h2] at hc0
          refine J.callV (pc := 190) (na := 4) G (hCh (n + 1) M1 b n (2) (16) p nd R P Z k2 hbc hgd hM1 hT hp k3 (by omega) (fun h => absurd h h2) (by omega) (by omega) (fun h => absurd h h2) (fun h => absurd h h2)) q839 q841 qp44 q842 q5 (by decide +kernel) dX4_mineInto_190 (hM1.at 0 rfl) rfl rfl (Nat.le_of_ble_eq_true rfl) rfl ⟨by omega, by decide, by omega, by omega⟩ ?_
          rintro r9 n9 M2 ⟨hn9, hFr9, hcs9⟩
          dsimp only [Option.toList, List.cons_append, List.nil_append]
          rcases hcs9 with ⟨hc9, -⟩ | ⟨-, hr9, hM2⟩
          · exact absurd hc9 h2
          · subst hr9
            dsimp only [Option.toList, List.cons_append, List.nil_append]
            refine J.if_ne_b (pc := 193) (tgt := 241) G dX4_mineInto_193 (by decide) (fun h => by cases h) (fun _ => ?_)
            exact K196 n9 M2 hc0 (by omega) hFr9 hM2
      · rw [if_pos h1] at hc0
        refine J.iload (pc := 136) G dX4_mineInto_136 rfl ?_
        cases hsi : siB tr tr.length with
        | true =>
          rw [hsi] at hc0
          have hc0 : cutM tr = (1, []) := hc0
          refine J.if_eq_b (pc := 138) (tgt := 145) G dX4_mineInto_138 (by decide) (fun h => by cases h) (fun _ => ?_)
          refine J.iload_n (pc := 141) G dX4_mineInto_141 rfl ?_
          refine J.goto (pc := 142) (tgt := 152) G dX4_mineInto_142 (by decide) ?_
          refine J.istore (L' := [_, _, _, _, _, _, _, _, _, _]) (pc := 152) G dX4_mineInto_152 rfl (Nat.le_of_ble_eq_true rfl) rfl ?_
          refine J.aload_n (pc := 154) G dX4_mineInto_154 rfl ?_
          refine J.iconstN (pc := 155) G dX4_mineInto_155 1 rfl ?_
          refine J.iload (pc := 156) G dX4_mineInto_156 rfl ?_
          refine J.iload_n (pc := 158) G dX4_mineInto_158 rfl ?_
          refine J.callV (pc := 159) (na := 3) G (m_add n M0 (kd := 1) (set := moL tr) (p := p) hM (by omega)) q828 q830 qp43 q831 q5 (by decide +kernel) dX4_mineInto_159 (hM.at 0 rfl) rfl rfl (Nat.le_of_ble_eq_true rfl) rfl ⟨by omega, by decide, by omega, by omega⟩ ?_
          rintro r9 n9 M2 ⟨hr9, hn9, ⟨hM2, hFr2⟩⟩
          subst hr9
          rw [hn9]
          clear hn9 n9
          dsimp only [Option.toList, List.cons_append, List.nil_append]
          refine J.pop (pc := 162) G dX4_mineInto_162 rfl ?_
          refine J.iload (pc := 163) G dX4_mineInto_163 rfl ?_
          refine J.if_ne_b (pc := 165) (tgt := 177) G dX4_mineInto_165 (by decide) (fun _ => ?_) (fun h => by cases h)
          refine J.vret (pc := 177) G hO dX4_mineInto_177 (by omega) (by omega) ⟨rfl, Nat.le_refl _, ⟨_, _, _, hM2, ?_, KpW.add⟩, FrM.fr hFr2⟩
          rw [grow_cut q hc0, hg3 1 [] (by decide)]
          exact hT.add
        | false =>
          rw [hsi] at hc0
          have hc0 : cutM tr = (5, []) := hc0
          obtain ⟨-, -, g3, -⟩ := growOk_cut q hc0 hgo
          obtain ⟨g3a, g3b⟩ := g3 ⟨rfl, rfl⟩
          rw [hg3' 5 []] at g3a g3b
          rw [List.length_append, List.length_singleton] at g3a
          rw [List.length_append, List.length_append, List.length_singleton, List.length_singleton] at g3b
          refine J.if_eq_b (pc := 138) (tgt := 145) G dX4_mineInto_138 (by decide) (fun _ => ?_) (fun h => by cases h)
          refine J.aload_n (pc := 145) G dX4_mineInto_145 rfl ?_
          refine J.iconstN (pc := 146) G dX4_mineInto_146 5 rfl ?_
          refine J.iload_n (pc := 147) G dX4_mineInto_147 rfl ?_
          refine J.iload_n (pc := 148) G dX4_mineInto_148 rfl ?_
          refine J.callV (pc := 149) (na := 3) G (m_add n M0 (kd := 5) (set := moL tr) (p := p) hM (by omega)) q828 q830 qp43 q831 q5 (by decide +kernel) dX4_mineInto_149 (hM.at 0 rfl) rfl rfl (Nat.le_of_ble_eq_true rfl) rfl ⟨by omega, by decide, by omega, by omega⟩ ?_
          rintro r9 n9 M2 ⟨hr9, hn9, ⟨hM2, hFr2⟩⟩
          subst hr9
          rw [hn9]
          clear hn9 n9
          dsimp only [Option.toList, List.cons_append, List.nil_append]
          rw [h8]
          have hT2 := hT.add (kd := 5) (set := moL tr) (p := p)
          have h82 := hT2.1
          rw [List.length_append, List.length_singleton] at h82
          refine J.istore (L' := [_, _, _, _, _, _, _, _, _, _]) (pc := 152) G dX4_mineInto_152 rfl (Nat.le_of_ble_eq_true rfl) rfl ?_
          refine J.aload_n (pc := 154) G dX4_mineInto_154 rfl ?_
          refine J.iconstN (pc := 155) G dX4_mineInto_155 1 rfl ?_
          refine J.iload (pc := 156) G dX4_mineInto_156 rfl ?_
          refine J.iload_n (pc := 158) G dX4_mineInto_158 rfl ?_
          refine J.callV (pc := 159) (na := 3) G (m_add n M2 (kd := 1) (set := moL tr) (p := (nd.length : Int)) hM2 (by omega)) q828 q830 qp43 q831 q5 (by decide +kernel) dX4_mineInto_159 (hM2.at 0 rfl) rfl rfl (Nat.le_of_ble_eq_true rfl) rfl ⟨by omega, by decide, by omega, by omega⟩ ?_
          rintro r9 n9 M3 ⟨hr9, hn9, ⟨hM3, hFr3⟩⟩
          subst hr9
          rw [hn9]
          clear hn9 n9
          dsimp only [Option.toList, List.cons_append, List.nil_append]
          have hT3 := hT2.add (kd := 1) (set := moL tr) (p := (nd.length : Int))
          have h83 := hT3.1
          rw [List.length_append, List.length_append, List.length_singleton, List.length_singleton] at h83
          refine J.pop (pc := 162) G dX4_mineInto_162 rfl ?_
          refine J.iload (pc := 163) G dX4_mineInto_163 rfl ?_
          refine J.if_ne_b (pc := 165) (tgt := 177) G dX4_mineInto_165 (by decide) (fun h => by cases h) (fun _ => ?_)
          refine J.aload_n (pc := 168) G dX4_mineInto_168 rfl ?_
          refine J.iconstN (pc := 169) G dX4_mineInto_169 0 rfl ?_
          refine J.iload (pc := 170) G dX4_mineInto_170 rfl ?_
          refine J.iconstN (pc := 172) G dX4_mineInto_172 0 rfl ?_
          refine J.callV (pc := 173) (na := 3) G (m_add n M3 (kd := 0) (set := 0) (p := (nd.length : Int)) hM3 (by omega)) q828 q830 qp43 q831 q5 (by decide +kernel) dX4_mineInto_173 (hM3.at 0 rfl) rfl rfl (Nat.le_of_ble_eq_true rfl) rfl ⟨by omega, by decide, by omega, by omega⟩ ?_
          rintro r9 n9 M4 ⟨hr9, hn9, ⟨hM4, hFr4⟩⟩
          subst hr9
          rw [hn9]
          clear hn9 n9
          dsimp only [Option.toList, List.cons_append, List.nil_append]
          have hT4 := hT3.add (kd := 0) (set := 0) (p := (nd.length : Int))
          refine J.pop (pc := 176) G dX4_mineInto_176 rfl ?_
          refine J.vret (pc := 177) G hO dX4_mineInto_177 (by omega) (by omega) ⟨rfl, Nat.le_refl _, ⟨_, _, _, hM4, ?_, KpW.tr (KpW.tr KpW.add KpW.add) KpW.add⟩, FrM.fr (Fr.trans (Fr.trans hFr2 hFr3) hFr4)⟩
          rw [grow_cut q hc0]
          unfold gr3
          rw [if_pos ⟨rfl, rfl⟩, hg3' 5 []]
          exact hT4
    have K92 : ∀ x9, J g 0 0 n M0 [some (.ref a), some (.ref b), some (.int (iI p)), some (.int (iI (moL tr : Int))), some (.int (bI (emB tr tr.length))), some (.int (bI (siB tr tr.length))), some (.ref b), some (.int (iI (tr.length : Int))), some (.int (iI (tr.length : Int))), x9] 92 [] := by
      intro x9
      refine J.iload (pc := 92) G dX4_mineInto_92 rfl ?_
      refine J.if_eq_b (pc := 94) (tgt := 128) G dX4_mineInto_94 (by decide) (fun hem => ?_) (fun hem => ?_)
      · have := K128 hem (some (.ref b)) (some (.int (iI (tr.length : Int)))) (some (.int (iI (tr.length : Int)))) x9
        rw [hem]
        exact this
      · have hc0 : cutM tr = (2, [moL tr]) := by
          unfold cutM
          rw [if_neg (by omega), if_pos hem]
        have hem9 : 0 < (mL tr).2.2.2.1 := (q.2.2.1 (by omega)).mpr hem
        obtain ⟨-, g2, -, g4⟩ := growOk_cut q hc0 hgo
        have g2 := g2 ⟨rfl, hem9⟩
        rw [List.length_append, List.length_singleton] at g2
        have hg3 : gr3 tr p nd 2 [moL tr] = (nd ++ [(2, p, moL tr)]) ++ [(0, (nd.length : Int), 0)] := by
          unfold gr3 gr2
          rw [if_neg (fun h => absurd h.1 (by decide)), if_pos ⟨rfl, hem9⟩]
        rw [hg3] at g4
        have g4 : growOk f (takeF tr (moL tr) 2) (nd.length : Int) ((nd ++ [(2, p, moL tr)]) ++ [(0, (nd.length : Int), 0)]) := g4 0 Nat.one_pos
        have hd4 : dpOk f (takeF tr (moL tr) 2) := dp_cut q hc0 hdp 0 Nat.one_pos
        have h1C := hcC _ _ hc0
        have h1S := hcS _ _ hc0
        have e1 : csC (cC f) tr 2 [moL tr] [moL tr].length = 0 + (tr.length + 2 + cC f (takeF tr (moL tr) 2)) := rfl
        have e2 : csS (cS f) tr 2 [moL tr] [moL tr].length = 0 + (2 * tr.length + tot (takeF tr (moL tr) 2) + cS f (takeF tr (moL tr) 2)) := rfl
        have e5 : takeF tr (moL tr) 2 = takeI (moL tr) false false tr tr.length := rfl
        refine J.aload_n (pc := 97) G dX4_mineInto_97 rfl ?_
        refine J.iconstN (pc := 98) G dX4_mineInto_98 2 rfl ?_
        refine J.iload_n (pc := 99) G dX4_mineInto_99 rfl ?_
        refine J.iload_n (pc := 100) G dX4_mineInto_100 rfl ?_
        refine J.callV (pc := 101) (na := 3) G (m_add n M0 (kd := 2) (set := moL tr) (p := p) hM (by omega)) q828 q830 qp43 q831 q5 (by decide +kernel) dX4_mineInto_101 (hM.at 0 rfl) rfl rfl (Nat.le_of_ble_eq_true rfl) rfl ⟨by omega, by decide, by omega, by omega⟩ ?_
        rintro r9 n9 M2 ⟨hr9, hn9, ⟨hM2, hFr2⟩⟩
        subst hr9
        rw [hn9]
        clear hn9 n9
        dsimp only [Option.toList, List.cons_append, List.nil_append]
        rw [h8]
        have hT2 := hT.add (kd := 2) (set := moL tr) (p := p)
        have h82 := hT2.1
        rw [List.length_append, List.length_singleton] at h82
        refine J.istore (L' := [_, _, _, _, _, _, _, _, _, _]) (pc := 104) G dX4_mineInto_104 rfl (Nat.le_of_ble_eq_true rfl) rfl ?_
        refine J.aload_n (pc := 106) G dX4_mineInto_106 rfl ?_
        refine J.iconstN (pc := 107) G dX4_mineInto_107 0 rfl ?_
        refine J.iload (pc := 108) G dX4_mineInto_108 rfl ?_
        refine J.iconstN (pc := 110) G dX4_mineInto_110 0 rfl ?_
        refine J.callV (pc := 111) (na := 3) G (m_add n M2 (kd := 0) (set := 0) (p := (nd.length : Int)) hM2 (by omega)) q828 q830 qp43 q831 q5 (by decide +kernel) dX4_mineInto_111 (hM2.at 0 rfl) rfl rfl (Nat.le_of_ble_eq_true rfl) rfl ⟨by omega, by decide, by omega, by omega⟩ ?_
        rintro r9 n9 M3 ⟨hr9, hn9, ⟨hM3, hFr3⟩⟩
        subst hr9
        rw [hn9]
        clear hn9 n9
        dsimp only [Option.toList, List.cons_append, List.nil_append]
        have hT3 := hT2.add (kd := 0) (set := 0) (p := (nd.length : Int))
        have hFrm : FrM a n M0 M3 := FrM.fr (Fr.trans hFr2 hFr3)
        have hgM : LgB M3 b (a + 9) tr := hg.keep hbn (fun x g1 g2 => hFrm x g2 (by omega))
        refine J.dom (fun hbc => ?_)
        refine J.pop (pc := 114) G dX4_mineInto_114 rfl ?_
        refine J.aload_n (pc := 115) G dX4_mineInto_115 rfl ?_
        refine J.aload_n (pc := 116) G dX4_mineInto_116 rfl ?_
        refine J.iload_n (pc := 117) G dX4_mineInto_117 rfl ?_
        refine J.iconstN (pc := 118) G dX4_mineInto_118 0 rfl ?_
        refine J.topv (b := bI false) rfl ?_
        rw [e5] at e1 e2
        refine J.callS (pc := 119) (na := 3) G (m_only n M3 (b := b) (set := moL tr) (we := false) (tr := tr) hgM.lg hbc hall hlab h120 hl120) q832 q833 q834 q5 (by decide +kernel) dX4_mineInto_119 rfl (Nat.le_of_ble_eq_true rfl) rfl ⟨by omega, by decide, by omega, by omega⟩ ?_
        rintro r9 n9 M4 ⟨hr9, hn9, hlg3, hag3⟩
        dsimp only [Option.toList, List.cons_append, List.nil_append]
        subst hr9
        subst hn9
        dsimp only [Option.toList, List.cons_append, List.nil_append]
        rw [← e5] at hlg3 e1 e2 ⊢
        have hM4 := hM3.al hbc hag3
        refine J.dom (fun hbc3 => ?_)
        refine J.iload (pc := 122) G dX4_mineInto_122 rfl ?_
        refine J.callV (pc := 124) (na := 2) G (hrec (n + 2 + (takeF tr (moL tr) 2).length) M4 (n + 1 + (takeF tr (moL tr) 2).length) (nd.length : Int) (takeF tr (moL tr) 2) _ _ _ _ (hlg3.wide (by omega)) hbc3 (takeF_goodM hgd) hM4 hT3 ⟨by omega, by omega⟩ hd4 g4) q821 q823 qp42 q824 q5 (by decide +kernel) dX4_mineInto_124 (hM4.at 0 rfl) rfl rfl (Nat.le_of_ble_eq_true rfl) rfl ⟨by omega, by decide, by omega, by omega⟩ ?_
        rintro r8 n8 M5 ⟨hr8, hn8, ⟨R5, P5, Z5, hM5, hT5, hK5⟩, hFr5⟩
        dsimp only [Option.toList, List.cons_append, List.nil_append]
        subst hr8
        dsimp only [Option.toList, List.cons_append, List.nil_append]
        refine J.vret (pc := 127) G hO dX4_mineInto_127 (by omega) (by omega) ⟨rfl, by omega, ⟨R5, P5, Z5, hM5, ?_, KpW.tr (KpW.tr KpW.add KpW.add) hK5⟩, hFrm.tr (FrM.tr (FrM.al hag3) hFr5 (by omega)) (by omega)⟩
        rw [grow_cut q hc0, hg3]
        exact hT5
    refine J.iconstN (pc := 18) G dX4_mineInto_18 0 rfl ?_
    refine J.istore (L' := [_, _, _, _, _, _, _, _, _, _]) (pc := 19) G dX4_mineInto_19 rfl (Nat.le_of_ble_eq_true rfl) rfl ?_
    refine J.iconstN (pc := 21) G dX4_mineInto_21 1 rfl ?_
    refine J.istore (L' := [_, _, _, _, _, _, _, _, _, _]) (pc := 22) G dX4_mineInto_22 rfl (Nat.le_of_ble_eq_true rfl) rfl ?_
    refine J.aload_n (pc := 24) G dX4_mineInto_24 rfl ?_
    refine J.astore (L' := [_, _, _, _, _, _, _, _, _, _]) (pc := 25) G dX4_mineInto_25 rfl (Nat.le_of_ble_eq_true rfl) rfl ?_
    refine J.aload (pc := 27) G dX4_mineInto_27 rfl ?_
    refine J.alenR (pc := 29) G dX4_mineInto_29 hb0 (by decide) ?_
    refine J.istore (L' := [_, _, _, _, _, _, _, _, _, _]) (pc := 30) G dX4_mineInto_30 rfl (Nat.le_of_ble_eq_true rfl) rfl ?_
    refine J.iconstN (pc := 32) G dX4_mineInto_32 0 rfl ?_
    refine J.istore (L' := [_, _, _, _, _, _, _, _, _, _]) (pc := 33) G dX4_mineInto_33 rfl (Nat.le_of_ble_eq_true rfl) rfl ?_
    have K1 : ∀ t : Nat, t ≤ tr.length → ∀ x9, J g 0 0 n M0 [some (.ref a), some (.ref b), some (.int (iI p)), some (.int (iI (moL tr : Int))), some (.int (bI (emB tr t))), some (.int (bI (siB tr t))), some (.ref b), some (.int (iI (tr.length : Int))), some (.int (iI (t : Int))), x9] 35 [] := by
      refine loopJ (fun t => tr.length - t) _ _ ?_
      intro t ht ih x9
      have s1 : emB tr (t + 1) = (emB tr t || decide ((tr.getD t []).length = 0)) := rfl
      have s2 : siB tr (t + 1) = (siB tr t && decide ((tr.getD t []).length = 1)) := by
        show (!(anyU _ t || !decide ((tr.getD t []).length = 1))) = _
        unfold siB
        rw [Bool.not_or, Bool.not_not]
      refine J.iload (pc := 35) G dX4_mineInto_35 rfl ?_
      refine J.iload (pc := 37) G dX4_mineInto_37 rfl ?_
      refine J.icmp_geN (pc := 39) (tgt := 92) G dX4_mineInto_39 (by decide) (by omega) (by omega) (fun h5 => ?_) (fun h5 => ?_)
      · have hte : t = tr.length := by omega
        subst hte
        exact K92 _
      · obtain ⟨r, e, hf, hMr, -⟩ := hr0 t h5
        have hlt := hl120 t h5
        generalize emB tr t = c1 at s1 ⊢
        generalize siB tr t = c2 at s2 ⊢
        generalize (tr.getD t []).length = wl at s1 s2 hMr hlt
        have K86 : ∀ y : Bool, siB tr (t + 1) = y → J g 0 0 n M0 [some (.ref a), some (.ref b), some (.int (iI p)), some (.int (iI (moL tr : Int))), some (.int (bI (emB tr (t + 1)))), some (.int (bI c2)), some (.ref b), some (.int (iI (tr.length : Int))), some (.int (iI (t : Int))), some (.ref r)] 84 [.int (bI y)] := by
          intro y hy
          refine J.istore (L' := [_, _, _, _, _, _, _, _, _, _]) (pc := 84) G dX4_mineInto_84 rfl (Nat.le_of_ble_eq_true rfl) rfl ?_
          refine J.iincN (L' := [_, _, _, _, _, _, _, _, _, _]) (pc := 86) G dX4_mineInto_86 1 rfl rfl rfl rfl ?_
          refine J.goto (pc := 89) (tgt := 35) G dX4_mineInto_89 (by decide) ?_
          have := ih (t + 1) (by omega) (by omega) (some (.ref r))
          rw [hy] at this
          exact this
        have K83 : siB tr (t + 1) = false → J g 0 0 n M0 [some (.ref a), some (.ref b), some (.int (iI p)), some (.int (iI (moL tr : Int))), some (.int (bI (emB tr (t + 1)))), some (.int (bI c2)), some (.ref b), some (.int (iI (tr.length : Int))), some (.int (iI (t : Int))), some (.ref r)] 83 [] := by
          intro hy
          refine J.iconstN (pc := 83) G dX4_mineInto_83 0 rfl ?_
          refine J.topv (b := bI false) rfl ?_
          exact K86 false hy
        have K65 : ∀ y : Bool, emB tr (t + 1) = y → J g 0 0 n M0 [some (.ref a), some (.ref b), some (.int (iI p)), some (.int (iI (moL tr : Int))), some (.int (bI c1)), some (.int (bI c2)), some (.ref b), some (.int (iI (tr.length : Int))), some (.int (iI (t : Int))), some (.ref r)] 65 [.int (bI y)] := by
          intro y hy
          rw [hy] at K86 K83
          refine J.istore (L' := [_, _, _, _, _, _, _, _, _, _]) (pc := 65) G dX4_mineInto_65 rfl (Nat.le_of_ble_eq_true rfl) rfl ?_
          refine J.iload (pc := 67) G dX4_mineInto_67 rfl ?_
          refine J.if_eq_b (pc := 69) (tgt := 83) G dX4_mineInto_69 (by decide) (fun hc => K83 (by rw [s2, hc]; rfl)) (fun hc => ?_)
          refine J.aload (pc := 72) G dX4_mineInto_72 rfl ?_
          refine J.alenI (pc := 74) G dX4_mineInto_74 hMr ?_
          refine J.iconstN (pc := 75) G dX4_mineInto_75 1 rfl ?_
          refine J.icmp_neN (pc := 76) (tgt := 83) G dX4_mineInto_76 (by decide) (by omega) (by decide) (fun hl => K83 (by rw [s2, decide_eq_false hl, Bool.and_false])) (fun hl => ?_)
          refine J.iconstN (pc := 79) G dX4_mineInto_79 1 rfl ?_
          refine J.goto (pc := 80) (tgt := 84) G dX4_mineInto_80 (by decide) ?_
          refine J.topv (b := bI true) rfl ?_
          exact K86 true (by rw [s2, hc, decide_eq_true hl]; rfl)
        have K60 : emB tr (t + 1) = true → J g 0 0 n M0 [some (.ref a), some (.ref b), some (.int (iI p)), some (.int (iI (moL tr : Int))), some (.int (bI c1)), some (.int (bI c2)), some (.ref b), some (.int (iI (tr.length : Int))), some (.int (iI (t : Int))), some (.ref r)] 60 [] := by
          intro hy
          refine J.iconstN (pc := 60) G dX4_mineInto_60 1 rfl ?_
          refine J.goto (pc := 61) (tgt := 65) G dX4_mineInto_61 (by decide) ?_
          refine J.topv (b := bI true) rfl ?_
          exact K65 true hy
        refine J.aload (pc := 42) G dX4_mineInto_42 rfl ?_
        refine J.iload (pc := 44) G dX4_mineInto_44 rfl ?_
        refine J.aald (pc := 46) G dX4_mineInto_46 hb0 (Or.inl rfl) t rfl h5 (by omega) hf ?_
        refine J.astore (L' := [_, _, _, _, _, _, _, _, _, _]) (pc := 47) G dX4_mineInto_47 rfl (Nat.le_of_ble_eq_true rfl) rfl ?_
        refine J.iload (pc := 49) G dX4_mineInto_49 rfl ?_
        refine J.if_ne_b (pc := 51) (tgt := 60) G dX4_mineInto_51 (by decide) (fun hc => K60 (by rw [s1, hc]; rfl)) (fun hc => ?_)
        refine J.aload (pc := 54) G dX4_mineInto_54 rfl ?_
        refine J.alenI (pc := 56) G dX4_mineInto_56 hMr ?_
        refine J.if_neN (pc := 57) (tgt := 64) G dX4_mineInto_57 (by decide) (by omega) (fun hl => ?_) (fun hl => K60 (by rw [s1, decide_eq_true hl, Bool.or_true]))
        refine J.iconstN (pc := 64) G dX4_mineInto_64 0 rfl ?_
        refine J.topv (b := bI false) rfl ?_
        exact K65 false (by rw [s1, hc, decide_eq_false (by omega)]; rfl)
    exact K1 0 (Nat.zero_le _) _
  · have hc0 : cutM tr = (0, []) := by
      unfold cutM
      rw [if_pos h0]
    refine J.aload_n (pc := 9) G dX4_mineInto_9 rfl ?_
    refine J.iconstN (pc := 10) G dX4_mineInto_10 0 rfl ?_
    refine J.iload_n (pc := 11) G dX4_mineInto_11 rfl ?_
    refine J.iconstN (pc := 12) G dX4_mineInto_12 0 rfl ?_
    refine J.callV (pc := 13) (na := 3) G (m_add n M0 (kd := 0) (set := 0) (p := p) hM (by omega)) q828 q830 qp43 q831 q5 (by decide +kernel) dX4_mineInto_13 (hM.at 0 rfl) rfl rfl (Nat.le_of_ble_eq_true rfl) rfl ⟨by omega, by decide, by omega, by omega⟩ ?_
    rintro r9 n9 M2 ⟨hr9, hn9, ⟨hM2, hFr2⟩⟩
    subst hr9
    rw [hn9]
    clear hn9 n9
    dsimp only [Option.toList, List.cons_append, List.nil_append]
    refine J.pop (pc := 16) G dX4_mineInto_16 rfl ?_
    refine J.vret (pc := 17) G hO dX4_mineInto_17 (by omega) (by omega) ⟨rfl, Nat.le_refl _, ⟨_, _, _, hM2, ?_, KpW.add⟩, FrM.fr hFr2⟩
    rw [grow_cut q hc0]
    unfold gr3 gr2
    rw [if_neg (fun h => absurd h.1 (by decide)), if_neg (fun h => absurd h.1 (by decide)), h0]
    exact hT.add
theorem m_mineInto {a : Nat} (hcq : ∀ tr, GoodM tr → CutQ tr) : ∀ f, GrowM a f
  | 0 => fun _ _ _ _ _ _ _ _ _ _ _ _ _ _ _ hd _ => absurd hd (fun h => h)
  | f + 1 => m_mineIntoS hcq (m_mineInto hcq f)
end MINE5
