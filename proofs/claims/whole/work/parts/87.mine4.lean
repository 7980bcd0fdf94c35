section MINE4
theorem egL_lt {tr : List (List Nat)} {e : Bool} (h : LabL tr) : egL tr e tr.length < 256 :=
  it_inv (f := fun t s => if 0 < (tr.getD t []).length then s ||| 2 ^ gd (tr.getD t []) (if e then (tr.getD t []).length - 1 else 0) else s) (s := 0) (fun _ s => s < 256) tr.length (by decide) (fun t s ht hs => by
    split
    · rename_i h9
      exact or_lt8 hs (pow_lt8 (h t ht _ (by split <;> omega)))
    · exact hs)
def nzI (qs : List Nat) (k : Nat) : Nat := it (fun i c => if gd qs i ≠ 0 then c + 1 else c) 0 k
theorem nzI_s {qs : List Nat} {k : Nat} : nzI qs (k + 1) = if gd qs k ≠ 0 then nzI qs k + 1 else nzI qs k := rfl
theorem nzI_le {qs : List Nat} : ∀ k, nzI qs k ≤ k
  | 0 => Nat.le_refl _
  | k + 1 => by
    have := nzI_le (qs := qs) k
    rw [nzI_s]
    split <;> omega
theorem nzI_set {qs : List Nat} {j : Nat} (hj : j < qs.length) (h0 : gd qs j ≠ 0) : ∀ k, nzI (qs.set j 0) k + (if j < k then 1 else 0) = nzI qs k
  | 0 => rfl
  | k + 1 => by
    have ih := nzI_set hj h0 k
    rw [nzI_s, nzI_s, gd_set hj]
    by_cases e : k = j
    · subst e
      rw [if_pos rfl, if_neg (by decide), if_pos h0, if_pos (by omega)]
      rw [if_neg (by omega)] at ih
      omega
    · rw [if_neg e]
      have e2 : (if j < k + 1 then 1 else 0 : Nat) = (if j < k then 1 else 0) := by
        by_cases h2 : j < k
        · rw [if_pos h2, if_pos (by omega)]
        · rw [if_neg h2, if_neg (by omega)]
      rw [e2]
      by_cases h3 : gd qs k ≠ 0
      · rw [if_pos h3, if_pos h3]; omega
      · rw [if_neg h3, if_neg h3]; exact ih
theorem row_set {qs : List Nat} {j v : Nat} (hj : j < qs.length) : upN (gd qs) j v = gd (qs.set j v) := by
  funext i
  rw [gd_set hj]
  by_cases e : i = j
  · subst e; rw [upN_s, if_pos rfl]
  · rw [upN_n e, if_neg e]
def flI (qs : List Nat) (k : Nat) : List Nat := it (fun i l => if gd qs i ≠ 0 then l ++ [gd qs i] else l) [] k
theorem flI_s {qs : List Nat} {k : Nat} : flI qs (k + 1) = if gd qs k ≠ 0 then flI qs k ++ [gd qs k] else flI qs k := rfl
theorem flI_eq {qs : List Nat} : ∀ k, k ≤ qs.length → flI qs k = (qs.take k).filter (fun x => decide (x ≠ 0))
  | 0, _ => rfl
  | k + 1, h => by
    have hk : k < qs.length := by omega
    have eg : gd qs k = qs[k] := by
      unfold gd
      rw [List.getD_eq_getElem?_getD, List.getElem?_eq_getElem hk]
      rfl
    rw [flI_s, flI_eq k (by omega), List.take_succ_eq_append_getElem hk, List.filter_append, eg]
    by_cases h0 : qs[k] = 0
    · rw [if_neg (by simpa using h0)]
      simp [h0]
    · rw [if_pos h0]
      simp [h0]
theorem flI_pre {qs : List Nat} {k : Nat} : ∀ e, ∃ rest, flI qs (k + e) = flI qs k ++ rest
  | 0 => ⟨[], by rw [List.append_nil]; rfl⟩
  | e + 1 => by
    obtain ⟨r, h⟩ := flI_pre (qs := qs) (k := k) e
    rw [show k + (e + 1) = k + e + 1 by omega, flI_s, h]
    split
    · exact ⟨r ++ [gd qs (k + e)], by rw [List.append_assoc]⟩
    · exact ⟨r, rfl⟩
theorem agS_len {be en : Nat} {fo : Nat → Nat} {k : Nat} {s : Nat × List Nat} : (agS be en fo k s).2.length = s.2.length := by
  unfold agS
  split
  · exact List.length_set
  · rfl
theorem agP_len {be en : Nat} {fo : Nat → Nat} {s : Nat × List Nat} : ∀ k, (agP be en fo s k).2.length = s.2.length
  | 0 => rfl
  | k + 1 => (agS_len (be := be) (en := en) (fo := fo) (k := k) (s := agP be en fo s k)).trans (agP_len k)
theorem agN_fix {be en : Nat} {fo : Nat → Nat} {s : Nat × List Nat} {j : Nat} (h : agP be en fo (agN be en fo s j) (agN be en fo s j).2.length = agN be en fo s j) : ∀ e, agN be en fo s (j + e) = agN be en fo s j
  | 0 => rfl
  | e + 1 => by
    show agP be en fo (agN be en fo s (j + e)) (agN be en fo s (j + e)).2.length = _
    rw [agN_fix h e]
    exact h
/-- a set and its parts that are sets of labels -/
def Ag8 (s : Nat × List Nat) : Prop := s.1 < 256 ∧ All8 s.2
theorem agS_8 {be en : Nat} {fo : Nat → Nat} {k : Nat} {s : Nat × List Nat} (hk : k < s.2.length) (h : Ag8 s) : Ag8 (agS be en fo k s) := by
  unfold agS
  split
  · exact ⟨or_lt8 h.1 (h.2 k hk), h.2.set hk (by decide)⟩
  · exact h
theorem agP_8 {be en : Nat} {fo : Nat → Nat} {s : Nat × List Nat} (h : Ag8 s) : ∀ k, k ≤ s.2.length → Ag8 (agP be en fo s k)
  | 0, _ => h
  | k + 1, hk => agS_8 (by show k < (agP be en fo s k).2.length; rw [agP_len]; omega) (agP_8 h k (by omega))
set_option maxRecDepth 100000 in
set_option maxHeartbeats 4000000 in
theorem m_mineAgain {a f : Nat} (hrec : GrowM a f) (n : Nat) (M0 : AH) {b fr mc ms : Nat} {p : Int} {tr : List (List Nat)} {nd : List Nd} {R : Nat → Nat → Nat} {P : Nat → Int} {Z : Nat → Nat} (hg : LgB M0 b (a + 9) tr) (hbn : ∀ q x, M0 q = some x → q < n) (hgd : GoodM tr) (hM : Cl M0 a (modC a R P Z)) (hT : MdG R P Z nd) (hp : Rng p) (hfo : M0 fr = some (cN 8 (moF tr))) (hfa : a + 9 ≤ fr) (hok : (mq5 tr).1 ≠ moL tr → nd.length < 64 ∧ fldOk f tr 5 (mp5 tr) (nd.length : Int) (nd ++ [(5, p, moL tr)])) (hc2 : 2 ≤ mc) (hs2 : 16 ≤ ms) (hmc : (mq5 tr).1 ≠ moL tr → 2 + csC (cC f) tr 5 (mp5 tr) (mp5 tr).length ≤ mc) (hms : (mq5 tr).1 ≠ moL tr → 16 + csS (cS f) tr 5 (mp5 tr) (mp5 tr).length ≤ ms) : Fn yX4_mineAgain cX4_mineAgain 15 (some .boolean) (2 * f + 5) [.ref a, .ref b, .int (iI (moL tr : Int)), .ref fr, .int (iI p)] n M0 mc ms (MCut a n f M0 R P Z tr 5 (mp5 tr) ((mq5 tr).1 ≠ moL tr) p nd) := by
  refine Fn.of (by decide) [some _, some _, some _, some _, some _, none, none, none, none, none, none, none, none, none, none] rfl rfl (Nat.le_of_ble_eq_true rfl) ?_
  intro g G hin hO
  obtain ⟨hgl, hl12⟩ := id hgd
  obtain ⟨hlab, ht1, ht2⟩ := id hgl
  have hall : moL tr < 256 := lbL_lt hlab
  have hfo8 : ∀ j, j < 8 → moF tr j < 256 := foL_lt hlab (Nat.le_refl tr.length)
  have hbe : moB tr < 256 := egL_lt hlab
  have hen : moE tr < 256 := egL_lt hlab
  have hbig : a + 9 ≤ n := by
    have := hbn _ _ (hM.at 8 rfl)
    omega
  have hfrn := hbn _ _ hfo
  have h120 : tr.length < 1000 := by omega
  have hl120 : ∀ t, t < tr.length → (tr.getD t []).length < 1000 := fun t ht => by have := hl12 t ht; omega
  have eb : egL tr false tr.length = moB tr := rfl
  have ee : egL tr true tr.length = moE tr := rfl
  refine J.aload_n (pc := 0) G dX4_mineAgain_0 rfl ?_
  refine J.iconstN (pc := 1) G dX4_mineAgain_1 0 rfl ?_
  refine J.topv (b := bI false) rfl ?_
  refine J.callS (pc := 2) (na := 2) G (m_edgesIn n M0 (b := b) (e := false) (tr := tr) hg.lg hlab h120 hl120) q870 q871 q872 q5 (by decide +kernel) dX4_mineAgain_2 rfl (Nat.le_of_ble_eq_true rfl) rfl ⟨by omega, by decide, by omega, by omega⟩ ?_
  rintro r9 n9 M9 ⟨hr9, hn9, hM9⟩
  subst hr9
  rw [hn9, hM9]
  clear hn9 hM9 n9 M9
  dsimp only [Option.toList, List.cons_append, List.nil_append]
  refine J.istore (L' := [_, _, _, _, _, _, _, _, _, _, _, _, _, _, _]) (pc := 5) G dX4_mineAgain_5 rfl (Nat.le_of_ble_eq_true rfl) rfl ?_
  refine J.aload_n (pc := 7) G dX4_mineAgain_7 rfl ?_
  refine J.iconstN (pc := 8) G dX4_mineAgain_8 1 rfl ?_
  refine J.topv (b := bI true) rfl ?_
  refine J.callS (pc := 9) (na := 2) G (m_edgesIn n M0 (b := b) (e := true) (tr := tr) hg.lg hlab h120 hl120) q870 q871 q872 q5 (by decide +kernel) dX4_mineAgain_9 rfl (Nat.le_of_ble_eq_true rfl) rfl ⟨by omega, by decide, by omega, by omega⟩ ?_
  rintro r9 n9 M9 ⟨hr9, hn9, hM9⟩
  subst hr9
  rw [hn9, hM9]
  clear hn9 hM9 n9 M9
  dsimp only [Option.toList, List.cons_append, List.nil_append]
  rw [eb, ee]
  refine J.istore (L' := [_, _, _, _, _, _, _, _, _, _, _, _, _, _, _]) (pc := 12) G dX4_mineAgain_12 rfl (Nat.le_of_ble_eq_true rfl) rfl ?_
  refine J.iload (pc := 14) G dX4_mineAgain_14 rfl ?_
  refine J.iload (pc := 16) G dX4_mineAgain_16 rfl ?_
  refine J.iorN (pc := 18) G dX4_mineAgain_18 ?_
  refine J.istore (L' := [_, _, _, _, _, _, _, _, _, _, _, _, _, _, _]) (pc := 19) G dX4_mineAgain_19 rfl (Nat.le_of_ble_eq_true rfl) rfl ?_
  refine J.iload_n (pc := 21) G dX4_mineAgain_21 rfl ?_
  refine J.iload (pc := 22) G dX4_mineAgain_22 rfl ?_
  refine J.andnN (pc := 24) G dX4_mineAgain_24 dX4_mineAgain_25 dX4_mineAgain_26 ?_
  refine J.aload_n (pc := 27) G dX4_mineAgain_27 rfl ?_
  have emq : agN (moB tr) (moE tr) (moF tr) (moB tr ||| moE tr, paL (andn (moL tr) (moB tr ||| moE tr)) (moF tr)) 9 = mq5 tr := rfl
  have efi : moB tr ||| moE tr < 256 := or_lt8 hbe hen
  generalize moB tr ||| moE tr = fi0 at emq efi ⊢
  have hset : andn (moL tr) fi0 < 256 := andn_lt8 hall
  have hpl := paL_len (set := andn (moL tr) fi0) (jn := moF tr)
  have hpa := paL_all (jn := moF tr) hset
  refine J.callS (pc := 28) (na := 2) G (m_parts n M0 (jr := fr) (set := andn (moL tr) fi0) (jn := moF tr) hfo hfrn hfo8 hset) q843 q844 q845 q5 (by decide +kernel) dX4_mineAgain_28 rfl (Nat.le_of_ble_eq_true rfl) rfl ⟨by omega, by decide, by omega, by omega⟩ ?_
  rintro r9 n9 M1 ⟨hr9, hn9, hps, hag1⟩
  dsimp only [Option.toList, List.cons_append, List.nil_append]
  subst hr9
  subst hn9
  dsimp only [Option.toList, List.cons_append, List.nil_append]
  generalize paL (andn (moL tr) fi0) (moF tr) = ps at hps hpl hpa emq
  have hM1 := hM.al hbn hag1
  have emp : (mq5 tr).1 :: (mq5 tr).2.filter (fun x => decide (x ≠ 0)) = mp5 tr := rfl
  generalize moB tr = be at emq hbe ⊢
  generalize moE tr = en at emq hen ⊢
  refine J.astore (L' := [_, _, _, _, _, _, _, _, _, _, _, _, _, _, _]) (pc := 31) G dX4_mineAgain_31 rfl (Nat.le_of_ble_eq_true rfl) rfl ?_
  refine J.iconstN (pc := 33) G dX4_mineAgain_33 1 rfl ?_
  refine J.topv (b := bI true) rfl ?_
  refine J.istore (L' := [_, _, _, _, _, _, _, _, _, _, _, _, _, _, _]) (pc := 34) G dX4_mineAgain_34 rfl (Nat.le_of_ble_eq_true rfl) rfl ?_
  have K112 : ∀ (M : AH) (qs : List Nat), (mq5 tr).2 = qs → All8 qs → (mq5 tr).1 < 256 → qs.length ≤ 8 → M (n + 1) = some (cN qs.length (gd qs)) → (∀ q, q < n → M q = M0 q) → Cl M a (modC a R P Z) → ∀ x9 x10, J g 2 16 (n + 2) M [some (.ref a), some (.ref b), some (.int (iI (moL tr : Int))), some (.ref fr), some (.int (iI p)), some (.int (iI (be : Int))), some (.int (iI (en : Int))), some (.int (iI ((mq5 tr).1 : Int))), some (.ref (n + 1)), some (.int x9), x10, none, none, none, none] 112 [] := by
    clear hM1 hag1 hps M1
    intro M qs hq2 hal hf8 hql hps hag hM x9 x10
    have eqq : qs.filter (fun x => decide (x ≠ 0)) = flI qs qs.length := by rw [flI_eq _ (Nat.le_refl _), List.take_length]
    rw [hq2, eqq] at emp
    generalize hfi : (mq5 tr).1 = fi at hO hok hmc hms emp hf8 ⊢
    generalize mp5 tr = fin at hO hok hmc hms emp
    have hfl : fin.length = (flI qs qs.length).length + 1 := by rw [← emp]; rfl
    refine J.iload (pc := 112) G dX4_mineAgain_112 rfl ?_
    refine J.iload_n (pc := 114) G dX4_mineAgain_114 rfl ?_
    refine J.icmp_neN (pc := 115) (tgt := 120) G dX4_mineAgain_115 (by decide) (by omega) (by omega) (fun h2 => ?_) (fun h2 => ?_)
    · obtain ⟨hok1, hok2⟩ := hok h2
      have hmc := hmc h2
      have hms := hms h2
      have h8 := hT.1
      refine J.aload_n (pc := 120) G dX4_mineAgain_120 rfl ?_
      refine J.iconstN (pc := 121) G dX4_mineAgain_121 5 rfl ?_
      refine J.iload (pc := 122) G dX4_mineAgain_122 rfl ?_
      refine J.iload_n (pc := 124) G dX4_mineAgain_124 rfl ?_
      refine J.callV (pc := 125) (na := 3) G (m_add (n + 2) M (kd := 5) (set := moL tr) (p := p) hM (by omega)) q828 q830 qp43 q831 q5 (by decide +kernel) dX4_mineAgain_125 (hM.at 0 rfl) rfl rfl (Nat.le_of_ble_eq_true rfl) rfl ⟨by omega, by decide, by omega, by omega⟩ ?_
      rintro r9 n9 M2 ⟨hr9, hn9, ⟨hM2, hFr2⟩⟩
      subst hr9
      rw [hn9]
      clear hn9 n9
      dsimp only [Option.toList, List.cons_append, List.nil_append]
      rw [h8]
      have hT2 := hT.add (kd := 5) (set := moL tr) (p := p)
      have hps2 : M2 (n + 1) = some (cN qs.length (gd qs)) := (hFr2 (n + 1) (by omega)).trans hps
      have hFr0 : FrM a n M0 M2 := FrM.tr (FrM.al hag) (FrM.fr (n := n) hFr2) (Nat.le_refl _)
      clear hT hM hag hps hFr2 M
      refine J.dom (fun hbc => ?_)
      obtain ⟨hd1, hd2⟩ := hok2 0 (by omega)
      have g0 : gd fin 0 = fi := by rw [← emp]; rfl
      have hst := csC_to (F := cC f) (tr := tr) (kd := 5) (ps := fin) (show 0 + 1 ≤ fin.length by omega)
      have hss := csS_to (F := cS f) (tr := tr) (kd := 5) (ps := fin) (show 0 + 1 ≤ fin.length by omega)
      have e1 : csC (cC f) tr 5 fin (0 + 1) = 0 + (opC tr 5 (gd fin 0) + cC f (takeF tr (gd fin 0) 5)) := rfl
      have e2 : csS (cS f) tr 5 fin (0 + 1) = 0 + (opS tr 5 (gd fin 0) + cS f (takeF tr (gd fin 0) 5)) := rfl
      have hstf : fld f tr 5 fin (nd.length : Int) (nd ++ [(5, p, moL tr)]) (0 + 1) = growF f (takeF tr (gd fin 0) 5) (nd.length : Int) (nd ++ [(5, p, moL tr)]) := rfl
      have hd2 : growOk f (takeF tr (gd fin 0) 5) (nd.length : Int) (nd ++ [(5, p, moL tr)]) := hd2
      rw [g0] at hd1 hd2 e1 e2 hstf
      have e3 : opC tr 5 fi = (takeI fi true false tr tr.length).length + 2 := rfl
      have e4 : opS tr 5 fi = 12 * (tr.length + 1) + tot (takeI fi true false tr tr.length) + (takeI fi true false tr tr.length).length := rfl
      have e5 : takeF tr fi 5 = takeI fi true false tr tr.length := rfl
      have hgM : LgB M2 b (a + 9) tr := hg.keep hbn (fun x g1 g2 => hFr0 x g2 (by omega))
      refine J.istore (L' := [_, _, _, _, _, _, _, _, _, _, _, _, _, _, _]) (pc := 128) G dX4_mineAgain_128 rfl (Nat.le_of_ble_eq_true rfl) rfl ?_
      refine J.aload_n (pc := 130) G dX4_mineAgain_130 rfl ?_
      refine J.aload_n (pc := 131) G dX4_mineAgain_131 rfl ?_
      refine J.iload (pc := 132) G dX4_mineAgain_132 rfl ?_
      refine J.callS (pc := 134) (na := 2) G (m_pieces (n + 2) M2 (b := b) (set := fi) (tr := tr) hgM.lg hbc hf8 hlab (by omega) hl12) q882 q883 q884 q5 (by decide +kernel) dX4_mineAgain_134 rfl (Nat.le_of_ble_eq_true rfl) rfl ⟨by omega, by decide, by omega, by omega⟩ ?_
      rintro r9 n9 M3 ⟨hr9, hn9, hlg3, hag3⟩
      dsimp only [Option.toList, List.cons_append, List.nil_append]
      subst hr9
      subst hn9
      dsimp only [Option.toList, List.cons_append, List.nil_append]
      rw [← e5] at hlg3 e3 e4 ⊢
      have hM3 := hM2.al hbc hag3
      refine J.dom (fun hbc3 => ?_)
      refine J.iload (pc := 137) G dX4_mineAgain_137 rfl ?_
      refine J.callV (pc := 139) (na := 2) G (hrec (n + 2 + 2 + (takeF tr fi 5).length) M3 (n + 2 + 1 + (takeF tr fi 5).length) (nd.length : Int) (takeF tr fi 5) _ _ _ _ (hlg3.wide (by omega)) hbc3 (takeF_goodM hgd) hM3 hT2 ⟨by omega, by omega⟩ hd1 hd2) q821 q823 qp42 q824 q5 (by decide +kernel) dX4_mineAgain_139 (hM3.at 0 rfl) rfl rfl (Nat.le_of_ble_eq_true rfl) rfl ⟨by omega, by decide, by omega, by omega⟩ ?_
      rintro r8 n8 M4 ⟨hr8, hn8, ⟨R4, P4, Z4, hM4, hT4, hK4⟩, hFr4⟩
      dsimp only [Option.toList, List.cons_append, List.nil_append]
      subst hr8
      dsimp only [Option.toList, List.cons_append, List.nil_append]
      have hps4 : M4 (n + 1) = some (cN qs.length (gd qs)) := (hFr4 (n + 1) (by omega) (by omega)).trans ((hag3 _ (by omega)).trans hps2)
      rw [← hstf] at hT4
      have hFr9 : FrM a n M0 M4 := hFr0.tr (FrM.tr (FrM.al hag3) hFr4 (by omega)) (by omega)
      have hK9 : KpW R Z R4 Z4 := KpW.tr KpW.add hK4
      refine J.aload (pc := 142) G dX4_mineAgain_142 rfl ?_
      refine J.astore (L' := [_, _, _, _, _, _, _, _, _, _, _, _, _, _, _]) (pc := 144) G dX4_mineAgain_144 rfl (Nat.le_of_ble_eq_true rfl) rfl ?_
      refine J.aload (pc := 146) G dX4_mineAgain_146 rfl ?_
      refine J.alenI (pc := 148) G dX4_mineAgain_148 hps4 ?_
      refine J.istore (L' := [_, _, _, _, _, _, _, _, _, _, _, _, _, _, _]) (pc := 149) G dX4_mineAgain_149 rfl (Nat.le_of_ble_eq_true rfl) rfl ?_
      refine J.iconstN (pc := 151) G dX4_mineAgain_151 0 rfl ?_
      refine J.istore (L' := [_, _, _, _, _, _, _, _, _, _, _, _, _, _, _]) (pc := 152) G dX4_mineAgain_152 rfl (Nat.le_of_ble_eq_true rfl) rfl ?_
      have K1 : ∀ s : Nat × Nat × AH × (Nat → Nat → Nat) × (Nat → Int) × (Nat → Nat), (s.1 ≤ qs.length ∧ n + 2 ≤ s.2.1 ∧ Cl s.2.2.1 a (modC a s.2.2.2.1 s.2.2.2.2.1 s.2.2.2.2.2) ∧ MdG s.2.2.2.1 s.2.2.2.2.1 s.2.2.2.2.2 (fld f tr 5 fin (nd.length : Int) (nd ++ [(5, p, moL tr)]) ((flI qs s.1).length + 1)) ∧ KpW R Z s.2.2.2.1 s.2.2.2.2.2 ∧ s.2.2.1 (n + 1) = some (cN qs.length (gd qs)) ∧ FrM a n M0 s.2.2.1) → ∀ l14, J g (2 + csC (cC f) tr 5 fin ((flI qs s.1).length + 1)) (16 + csS (cS f) tr 5 fin ((flI qs s.1).length + 1)) s.2.1 s.2.2.1 [some (.ref a), some (.ref b), some (.int (iI (moL tr : Int))), some (.ref fr), some (.int (iI p)), some (.int (iI (be : Int))), some (.int (iI (en : Int))), some (.int (iI (fi : Int))), some (.ref (n + 1)), some (.int x9), some (.int (iI (nd.length : Int))), some (.ref (n + 1)), some (.int (iI (qs.length : Int))), some (.int (iI (s.1 : Int))), l14] 154 [] := by
        refine loopJ (fun s => qs.length - s.1) _ _ ?_
        clear hps4 hFr9 hK9 hT4 hM4 hFr4 hK4 M4 hbc3 hM3 hlg3 hag3 M3 hgM hbc hFr0 hps2 hM2 hT2 M2
        rintro ⟨i, nc, M, R1, P1, Z1⟩ ⟨hi, hnc, hM, hT, hK, hps, hFr⟩ ih l14
        dsimp only at hi hnc hM hT hK hps hFr ih ⊢
        obtain ⟨r0, hr0⟩ := flI_pre (qs := qs) (k := i) (qs.length - i)
        rw [show i + (qs.length - i) = qs.length by omega] at hr0
        have hll : (flI qs i).length ≤ (flI qs qs.length).length := by
          rw [hr0, List.length_append]
          omega
        have hcl := csC_to (F := cC f) (tr := tr) (kd := 5) (ps := fin) (show (flI qs i).length + 1 ≤ fin.length by omega)
        have hsl := csS_to (F := cS f) (tr := tr) (kd := 5) (ps := fin) (show (flI qs i).length + 1 ≤ fin.length by omega)
        refine J.iload (pc := 154) G dX4_mineAgain_154 rfl ?_
        refine J.iload (pc := 156) G dX4_mineAgain_156 rfl ?_
        refine J.icmp_geN (pc := 158) (tgt := 191) G dX4_mineAgain_158 (by decide) (by omega) (by omega) (fun h5 => ?_) (fun h5 => ?_)
        · have hie : i = qs.length := by omega
          subst hie
          rw [← hfl] at hT
          refine J.iconstN (pc := 191) G dX4_mineAgain_191 1 rfl ?_
          exact J.zret1 (pc := 192) G hO dX4_mineAgain_192 (by omega) (by omega) ⟨by omega, hFr, Or.inl ⟨h2, rfl, R1, P1, Z1, hM, hT, hK⟩⟩
        · have hgi := hal i h5
          have hs9 := flI_s (qs := qs) (k := i)
          have nx : ∀ (nc : Nat) (M : AH) (R1 : Nat → Nat → Nat) (P1 : Nat → Int) (Z1 : Nat → Nat), n + 2 ≤ nc → Cl M a (modC a R1 P1 Z1) → MdG R1 P1 Z1 (fld f tr 5 fin (nd.length : Int) (nd ++ [(5, p, moL tr)]) ((flI qs (i + 1)).length + 1)) → KpW R Z R1 Z1 → M (n + 1) = some (cN qs.length (gd qs)) → FrM a n M0 M → ∀ l14, J g (2 + csC (cC f) tr 5 fin ((flI qs (i + 1)).length + 1)) (16 + csS (cS f) tr 5 fin ((flI qs (i + 1)).length + 1)) nc M [some (.ref a), some (.ref b), some (.int (iI (moL tr : Int))), some (.ref fr), some (.int (iI p)), some (.int (iI (be : Int))), some (.int (iI (en : Int))), some (.int (iI (fi : Int))), some (.ref (n + 1)), some (.int x9), some (.int (iI (nd.length : Int))), some (.ref (n + 1)), some (.int (iI (qs.length : Int))), some (.int (iI (i : Int))), l14] 185 [] := by
            intro nc M R1 P1 Z1 a1 a2 a3 a4 a5 a6 l14
            refine J.iincN (L' := [_, _, _, _, _, _, _, _, _, _, _, _, _, _, _]) (pc := 185) G dX4_mineAgain_185 1 rfl rfl rfl rfl ?_
            refine J.goto (pc := 188) (tgt := 154) G dX4_mineAgain_188 (by decide) ?_
            exact ih (i + 1, nc, M, R1, P1, Z1) ⟨by dsimp only; omega, a1, a2, a3, a4, a5, a6⟩ (by dsimp only; omega) _
          refine J.aload (pc := 161) G dX4_mineAgain_161 rfl ?_
          refine J.iload (pc := 163) G dX4_mineAgain_163 rfl ?_
          refine J.ialdN (pc := 165) G dX4_mineAgain_165 hps h5 (by omega) ?_
          refine J.istore (L' := [_, _, _, _, _, _, _, _, _, _, _, _, _, _, _]) (pc := 166) G dX4_mineAgain_166 rfl (Nat.le_of_ble_eq_true rfl) rfl ?_
          refine J.iload (pc := 168) G dX4_mineAgain_168 rfl ?_
          refine J.if_eqN (pc := 170) (tgt := 185) G dX4_mineAgain_170 (by decide) (by omega) (fun h6 => ?_) (fun h6 => ?_)
          · rw [if_neg (by simpa using h6)] at hs9
            rw [hs9] at nx
            exact nx nc M R1 P1 Z1 hnc hM hT hK hps hFr _
          · rw [if_pos (by omega)] at hs9
            obtain ⟨r1, hr1⟩ := flI_pre (qs := qs) (k := i + 1) (qs.length - (i + 1))
            rw [show i + 1 + (qs.length - (i + 1)) = qs.length by omega, hs9] at hr1
            obtain ⟨hm1, hm2⟩ := gd_mid (l := flI qs i) (x := gd qs i) (r := r1)
            rw [← hr1] at hm1 hm2
            have hm3 : gd fin ((flI qs i).length + 1) = gd qs i := by rw [← emp, gd_cons, if_neg (by omega)]; exact hm1
            have hla : (flI qs i ++ [gd qs i]).length = (flI qs i).length + 1 := by rw [List.length_append]; rfl
            rw [hs9, hla] at nx
            refine J.dom (fun hbc => ?_)
            obtain ⟨hd1, hd2⟩ := hok2 ((flI qs i).length + 1) (by omega)
            have hst := csC_to (F := cC f) (tr := tr) (kd := 5) (ps := fin) (show (flI qs i).length + 1 + 1 ≤ fin.length by omega)
            have hss := csS_to (F := cS f) (tr := tr) (kd := 5) (ps := fin) (show (flI qs i).length + 1 + 1 ≤ fin.length by omega)
            have e1 : csC (cC f) tr 5 fin ((flI qs i).length + 1 + 1) = csC (cC f) tr 5 fin ((flI qs i).length + 1) + (opC tr 5 (gd fin ((flI qs i).length + 1)) + cC f (takeF tr (gd fin ((flI qs i).length + 1)) 5)) := rfl
            have e2 : csS (cS f) tr 5 fin ((flI qs i).length + 1 + 1) = csS (cS f) tr 5 fin ((flI qs i).length + 1) + (opS tr 5 (gd fin ((flI qs i).length + 1)) + cS f (takeF tr (gd fin ((flI qs i).length + 1)) 5)) := rfl
            have hstf : fld f tr 5 fin (nd.length : Int) (nd ++ [(5, p, moL tr)]) ((flI qs i).length + 1 + 1) = growF f (takeF tr (gd fin ((flI qs i).length + 1)) 5) (nd.length : Int) (fld f tr 5 fin (nd.length : Int) (nd ++ [(5, p, moL tr)]) ((flI qs i).length + 1)) := rfl
            rw [hm3] at hd1 hd2 e1 e2 hstf
            clear hm1 hm2 hm3 hr1 hr0
            generalize gd qs i = x at hgi hd1 hd2 e1 e2 hstf ⊢
            have e3 : opC tr 5 x = (takeI x true false tr tr.length).length + 2 := rfl
            have e4 : opS tr 5 x = 12 * (tr.length + 1) + tot (takeI x true false tr tr.length) + (takeI x true false tr tr.length).length := rfl
            have e5 : takeF tr x 5 = takeI x true false tr tr.length := rfl
            have hgM : LgB M b (a + 9) tr := hg.keep hbn (fun x g1 g2 => hFr x g2 (by omega))
            generalize fld f tr 5 fin (nd.length : Int) (nd ++ [(5, p, moL tr)]) ((flI qs i).length + 1) = nq at hT hd2 hstf
            refine J.aload_n (pc := 173) G dX4_mineAgain_173 rfl ?_
            refine J.aload_n (pc := 174) G dX4_mineAgain_174 rfl ?_
            refine J.iload (pc := 175) G dX4_mineAgain_175 rfl ?_
            refine J.callS (pc := 177) (na := 2) G (m_pieces nc M (b := b) (set := x) (tr := tr) hgM.lg hbc hgi hlab (by omega) hl12) q882 q883 q884 q5 (by decide +kernel) dX4_mineAgain_177 rfl (Nat.le_of_ble_eq_true rfl) rfl ⟨by omega, by decide, by omega, by omega⟩ ?_
            rintro r9 n9 M3 ⟨hr9, hn9, hlg3, hag3⟩
            dsimp only [Option.toList, List.cons_append, List.nil_append]
            subst hr9
            subst hn9
            dsimp only [Option.toList, List.cons_append, List.nil_append]
            rw [← e5] at hlg3 e3 e4 ⊢
            have hM3 := hM.al hbc hag3
            refine J.dom (fun hbc3 => ?_)
            refine J.iload (pc := 180) G dX4_mineAgain_180 rfl ?_
            refine J.callV (pc := 182) (na := 2) G (hrec (nc + 2 + (takeF tr x 5).length) M3 (nc + 1 + (takeF tr x 5).length) (nd.length : Int) (takeF tr x 5) nq R1 P1 Z1 (hlg3.wide (by omega)) hbc3 (takeF_goodM hgd) hM3 hT ⟨by omega, by omega⟩ hd1 hd2) q821 q823 qp42 q824 q5 (by decide +kernel) dX4_mineAgain_182 (hM3.at 0 rfl) rfl rfl (Nat.le_of_ble_eq_true rfl) rfl ⟨by omega, by decide, by omega, by omega⟩ ?_
            rintro r8 n8 M4 ⟨hr8, hn8, ⟨R4, P4, Z4, hM4, hT4, hK4⟩, hFr4⟩
            dsimp only [Option.toList, List.cons_append, List.nil_append]
            subst hr8
            dsimp only [Option.toList, List.cons_append, List.nil_append]
            refine J.wid (k' := 2 + csC (cC f) tr 5 fin ((flI qs i).length + 1 + 1)) (z' := 16 + csS (cS f) tr 5 fin ((flI qs i).length + 1 + 1)) (by omega) (by omega) ?_
            exact nx n8 M4 R4 P4 Z4 (by omega) hM4 (by rw [hstf]; exact hT4) (hK.tr hK4) ((hFr4 (n + 1) (by omega) (by omega)).trans ((hag3 _ (by omega)).trans hps)) (hFr.tr (FrM.tr (FrM.al hag3) hFr4 (by omega)) (by omega)) _
      refine J.wid (k' := 2 + csC (cC f) tr 5 fin (0 + 1)) (z' := 16 + csS (cS f) tr 5 fin (0 + 1)) (by omega) (by omega) ?_
      exact K1 (0, n8, M4, R4, P4, Z4) ⟨Nat.zero_le _, by dsimp only; omega, hM4, hT4, hK9, hps4, hFr9⟩ _
    · refine J.iconstN (pc := 118) G dX4_mineAgain_118 0 rfl ?_
      exact J.zret0 (pc := 119) G hO dX4_mineAgain_119 (by omega) (by omega) ⟨by omega, FrM.al hag, Or.inr ⟨fun q => q h2, rfl, hM⟩⟩
  refine J.wid (k' := 2) (z' := 16) (by omega) (by omega) ?_
  have K2 : ∀ s : Nat × Bool × (Nat × List Nat) × AH, (s.2.2.1 = agN be en (moF tr) (fi0, ps) s.1 ∧ (s.2.1 = true ∧ s.1 + nzI s.2.2.1.2 ps.length ≤ 8 ∨ s.2.1 = false ∧ s.1 ≤ 9 ∧ agP be en (moF tr) s.2.2.1 s.2.2.1.2.length = s.2.2.1) ∧ Ag8 s.2.2.1 ∧ s.2.2.1.2.length = ps.length ∧ s.2.2.2 (n + 1) = some (cN ps.length (gd s.2.2.1.2)) ∧ (∀ q, q < n → s.2.2.2 q = M0 q) ∧ Cl s.2.2.2 a (modC a R P Z)) → ∀ l10, J g 2 16 (n + 2) s.2.2.2 [some (.ref a), some (.ref b), some (.int (iI (moL tr : Int))), some (.ref fr), some (.int (iI p)), some (.int (iI (be : Int))), some (.int (iI (en : Int))), some (.int (iI (s.2.2.1.1 : Int))), some (.ref (n + 1)), some (.int (bI s.2.1)), l10, none, none, none, none] 36 [] := by
    refine loopJ (fun s => 10 - s.1) _ _ ?_
    clear hM1 hag1 hps M1
    rintro ⟨j, fg, s, M⟩ ⟨hsj, hfg, hs8, hsl, hps, hag, hM⟩ ih l10
    dsimp only at hsj hfg hs8 hsl hps hag hM ih ⊢
    refine J.iload (pc := 36) G dX4_mineAgain_36 rfl ?_
    refine J.if_eq_b (pc := 38) (tgt := 112) G dX4_mineAgain_38 (by decide) (fun hb1 => ?_) (fun hb1 => ?_)
    · rcases hfg with ⟨q9, -⟩ | ⟨-, hj9, hfix⟩
      · rw [q9] at hb1; cases hb1
      · have e9 : mq5 tr = s := by
          rw [← emq, hsj]
          rw [hsj] at hfix
          have := agN_fix hfix (9 - j)
          rw [show j + (9 - j) = 9 by omega] at this
          exact this
        have := K112 M s.2 (by rw [e9]) hs8.2 (by rw [e9]; exact hs8.1) (by omega) (by rw [hsl]; exact hps) hag hM (bI fg) l10
        rw [e9] at this
        rw [hb1]
        rw [hb1] at this
        exact this
    · rcases hfg with ⟨-, hj8⟩ | ⟨q9, -⟩
      · refine J.iconstN (pc := 41) G dX4_mineAgain_41 0 rfl ?_
        refine J.istore (L' := [_, _, _, _, _, _, _, _, _, _, _, _, _, _, _]) (pc := 42) G dX4_mineAgain_42 rfl (Nat.le_of_ble_eq_true rfl) rfl ?_
        refine J.iconstN (pc := 44) G dX4_mineAgain_44 0 rfl ?_
        refine J.istore (L' := [_, _, _, _, _, _, _, _, _, _, _, _, _, _, _]) (pc := 45) G dX4_mineAgain_45 rfl (Nat.le_of_ble_eq_true rfl) rfl ?_
        have hfo' := (hag fr hfrn).trans hfo
        have K3 : ∀ q : Nat × Bool × AH, (q.1 ≤ ps.length ∧ (q.2.1 = false ∧ agP be en (moF tr) s q.1 = s ∨ q.2.1 = true ∧ nzI (agP be en (moF tr) s q.1).2 ps.length + 1 ≤ nzI s.2 ps.length) ∧ q.2.2 (n + 1) = some (cN ps.length (gd (agP be en (moF tr) s q.1).2)) ∧ (∀ x, x < n → q.2.2 x = M0 x) ∧ Cl q.2.2 a (modC a R P Z)) → J g 2 16 (n + 2) q.2.2 [some (.ref a), some (.ref b), some (.int (iI (moL tr : Int))), some (.ref fr), some (.int (iI p)), some (.int (iI (be : Int))), some (.int (iI (en : Int))), some (.int (iI ((agP be en (moF tr) s q.1).1 : Int))), some (.ref (n + 1)), some (.int (bI q.2.1)), some (.int (iI (q.1 : Int))), none, none, none, none] 47 [] := by
          refine loopJ (fun q => ps.length - q.1) _ _ ?_
          clear hps hag hM hfo' M
          rintro ⟨k, fg, M⟩ ⟨hk, hfg, hps, hag, hM⟩ ih2
          dsimp only at hk hfg hps hag hM ih2 ⊢
          have hfo' := (hag fr hfrn).trans hfo
          have ht8 := agP_8 (be := be) (en := en) (fo := moF tr) hs8 k (by omega)
          have htl := agP_len (be := be) (en := en) (fo := moF tr) (s := s) k
          have hst : agP be en (moF tr) s (k + 1) = agS be en (moF tr) k (agP be en (moF tr) s k) := rfl
          have hend : k = ps.length → agP be en (moF tr) s k = agN be en (moF tr) (fi0, ps) (j + 1) := fun e => by
            rw [e, ← hsl, hsj]
            rfl
          have hfx : k = ps.length → agP be en (moF tr) s k = s → agP be en (moF tr) s s.2.length = s := fun e h => by rw [hsl, ← e]; exact h
          generalize agP be en (moF tr) s k = t at hfg hps ht8 htl hst hend hfx ⊢
          refine J.iload (pc := 47) G dX4_mineAgain_47 rfl ?_
          refine J.aload (pc := 49) G dX4_mineAgain_49 rfl ?_
          refine J.alenI (pc := 51) G dX4_mineAgain_51 hps ?_
          refine J.icmp_geN (pc := 52) (tgt := 109) G dX4_mineAgain_52 (by decide) (by omega) (by omega) (fun h5 => ?_) (fun h5 => ?_)
          · have hke : k = ps.length := by omega
            refine J.goto (pc := 109) (tgt := 36) G dX4_mineAgain_109 (by decide) ?_
            refine ih (j + 1, fg, t, M) ⟨hend hke, ?_, ht8, by dsimp only; omega, hps, hag, hM⟩ (by dsimp only; omega) _
            dsimp only
            rcases hfg with ⟨q1, q2⟩ | ⟨q1, q2⟩
            · exact Or.inr ⟨q1, by omega, by rw [q2]; exact hfx hke q2⟩
            · exact Or.inl ⟨q1, by omega⟩
          · have hgk := ht8.2 k (by omega)
            have hn8 := nzI_le (qs := s.2) ps.length
            have nx : ∀ (u : Nat × List Nat) (fg : Bool) (M : AH), u = agP be en (moF tr) s (k + 1) → (fg = false ∧ u = s ∨ fg = true ∧ nzI u.2 ps.length + 1 ≤ nzI s.2 ps.length) → M (n + 1) = some (cN ps.length (gd u.2)) → (∀ x, x < n → M x = M0 x) → Cl M a (modC a R P Z) → J g 2 16 (n + 2) M [some (.ref a), some (.ref b), some (.int (iI (moL tr : Int))), some (.ref fr), some (.int (iI p)), some (.int (iI (be : Int))), some (.int (iI (en : Int))), some (.int (iI (u.1 : Int))), some (.ref (n + 1)), some (.int (bI fg)), some (.int (iI (k : Int))), none, none, none, none] 103 [] := by
              intro u fg M a1 a2 a3 a4 a5
              subst a1
              refine J.iincN (L' := [_, _, _, _, _, _, _, _, _, _, _, _, _, _, _]) (pc := 103) G dX4_mineAgain_103 1 rfl rfl rfl rfl ?_
              refine J.goto (pc := 106) (tgt := 47) G dX4_mineAgain_106 (by decide) ?_
              exact ih2 (k + 1, fg, M) ⟨by dsimp only; omega, a2, a3, a4, a5⟩ (by dsimp only; omega)
            unfold agS at hst
            refine J.aload (pc := 55) G dX4_mineAgain_55 rfl ?_
            refine J.iload (pc := 57) G dX4_mineAgain_57 rfl ?_
            refine J.ialdN (pc := 59) G dX4_mineAgain_59 hps h5 (by omega) ?_
            refine J.if_eqN (pc := 60) (tgt := 103) G dX4_mineAgain_60 (by decide) (by omega) (fun h6 => ?_) (fun h6 => ?_)
            · rw [if_neg (fun q => q.1 h6)] at hst
              exact nx t fg M hst.symm hfg hps hag hM
            · refine J.aload (pc := 63) G dX4_mineAgain_63 rfl ?_
              refine J.iload (pc := 65) G dX4_mineAgain_65 rfl ?_
              refine J.ialdN (pc := 67) G dX4_mineAgain_67 hps h5 (by omega) ?_
              refine J.iload (pc := 68) G dX4_mineAgain_68 rfl ?_
              refine J.iload (pc := 70) G dX4_mineAgain_70 rfl ?_
              refine J.iload (pc := 72) G dX4_mineAgain_72 rfl ?_
              refine J.aload_n (pc := 74) G dX4_mineAgain_74 rfl ?_
              refine J.callS (pc := 75) (na := 5) G (m_belongs (n + 2) M (r := fr) (part := gd t.2 k) (fi := t.1) (be := be) (en := en) (fo := moF tr) hfo' hfo8 hgk ht8.1 hbe hen) q879 q880 q881 q5 (by decide +kernel) dX4_mineAgain_75 rfl (Nat.le_of_ble_eq_true rfl) rfl ⟨by omega, by decide, by omega, by omega⟩ ?_
              rintro r9 n9 M9 ⟨hr9, hn9, hM9⟩
              subst hr9
              rw [hn9, hM9]
              clear hn9 hM9 n9 M9
              dsimp only [Option.toList, List.cons_append, List.nil_append]
              refine J.if_ne_b (pc := 78) (tgt := 84) G dX4_mineAgain_78 (by decide) (fun hb2 => ?_) (fun hb2 => ?_)
              · rw [if_pos ⟨by omega, hb2⟩] at hst
                refine J.iload (pc := 84) G dX4_mineAgain_84 rfl ?_
                refine J.aload (pc := 86) G dX4_mineAgain_86 rfl ?_
                refine J.iload (pc := 88) G dX4_mineAgain_88 rfl ?_
                refine J.ialdN (pc := 90) G dX4_mineAgain_90 hps h5 (by omega) ?_
                refine J.iorN (pc := 91) G dX4_mineAgain_91 ?_
                refine J.istore (L' := [_, _, _, _, _, _, _, _, _, _, _, _, _, _, _]) (pc := 92) G dX4_mineAgain_92 rfl (Nat.le_of_ble_eq_true rfl) rfl ?_
                refine J.aload (pc := 94) G dX4_mineAgain_94 rfl ?_
                refine J.iload (pc := 96) G dX4_mineAgain_96 rfl ?_
                refine J.iconstN (pc := 98) G dX4_mineAgain_98 0 rfl ?_
                refine J.iastN (pc := 99) G dX4_mineAgain_99 hps h5 (by omega) (fun M2 hput hag2 => ?_)
                rw [row_set (by omega)] at hput
                refine J.iconstN (pc := 100) G dX4_mineAgain_100 1 rfl ?_
                refine J.topv (b := bI true) rfl ?_
                refine J.istore (L' := [_, _, _, _, _, _, _, _, _, _, _, _, _, _, _]) (pc := 101) G dX4_mineAgain_101 rfl (Nat.le_of_ble_eq_true rfl) rfl ?_
                have hnz := nzI_set (qs := t.2) (j := k) (by omega) (by omega) ps.length
                rw [if_pos h5] at hnz
                refine nx _ true M2 hst.symm (Or.inr ⟨rfl, ?_⟩) hput (fun x hx => (hag2 x (by omega)).trans (hag x hx)) (hM.keep (fun q g1 g2 => hag2 q (by simp at g2; omega)))
                dsimp only
                rcases hfg with ⟨q1, q2⟩ | ⟨q1, q2⟩
                · rw [← q2]; omega
                · omega
              · rw [if_neg (fun q => by rw [q.2] at hb2; cases hb2)] at hst
                refine J.goto (pc := 81) (tgt := 103) G dX4_mineAgain_81 (by decide) ?_
                exact nx t fg M hst.symm hfg hps hag hM
        exact K3 (0, false, M) ⟨Nat.zero_le _, Or.inl ⟨rfl, rfl⟩, hps, hag, hM⟩
      · rw [q9] at hb1; cases hb1
  have hn0 := nzI_le (qs := ps) ps.length
  exact K2 (0, true, (fi0, ps), M1) ⟨rfl, Or.inl ⟨rfl, by dsimp only; omega⟩, ⟨efi, fun i hi => (hpa i hi).2⟩, rfl, hps, hag1, hM1⟩ _
end MINE4
