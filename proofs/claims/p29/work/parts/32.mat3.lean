section MAT3
theorem J.tableIn {g : GT} {ow : String} {cc : ByteArray} {nL d mc ms k z n pc : Nat} {M : AH} {L : List (Option Value)} {st : List Value} (G : Cx g ow cc nL d mc ms) {dflt lo hi : Int} {offs : Array Int} {len : Nat} {a : Int} {off : Int} {tgt : Nat} (hd : decode cc pc = .ok (.tableswitch dflt lo hi offs, len)) (ha1 : -2147483648 ≤ a) (ha2 : a < 2147483648) (h1 : lo ≤ a) (h2 : a ≤ hi) (ho : offs[(a - lo).toNat]? = some off) (ht : (pc : Int) + off = (tgt : Int)) (kk : J g k z n M L tgt st) : J g k z n M L pc (.int (iI a) :: st) := by
  intro H locs ls hR hS hl
  refine lv_tableIn G.exec G.bytes hd ?_ ?_ ?_ ht (kk H locs ls hR hS hl)
  · rw [iI_toInt ha1 ha2]; omega
  · rw [iI_toInt ha1 ha2]; omega
  · rw [iI_toInt ha1 ha2]; exact ho
theorem J.tableOut {g : GT} {ow : String} {cc : ByteArray} {nL d mc ms k z n pc : Nat} {M : AH} {L : List (Option Value)} {st : List Value} (G : Cx g ow cc nL d mc ms) {dflt lo hi : Int} {offs : Array Int} {len : Nat} {a : Int} {tgt : Nat} (hd : decode cc pc = .ok (.tableswitch dflt lo hi offs, len)) (ha1 : -2147483648 ≤ a) (ha2 : a < 2147483648) (h : a < lo ∨ hi < a) (ht : (pc : Int) + dflt = (tgt : Int)) (kk : J g k z n M L tgt st) : J g k z n M L pc (.int (iI a) :: st) := by
  intro H locs ls hR hS hl
  refine lv_tableOut G.exec G.bytes hd ?_ ht (kk H locs ls hR hS hl)
  rw [iI_toInt ha1 ha2]; exact h
def endsF (nd : List Nd) (wd en : Nat → Nat) (wl nod s : Nat) : Nat :=
  if ndK nd nod = 1 then (eLab wd (ndS nd nod) s (wl - s)).2 else
  if ndK nd nod = 2 then eAlt nd wd en wl nod 0 s ((chl nd nod).length - 0) else
  if ndK nd nod = 3 then eOrd nd wd en wl nod s (chl nd nod).length else
  if ndK nd nod = 4 then eBot nd en wl nod s (chl nd nod).length else
  if ndK nd nod = 5 then eAgn nd wd en wl nod s else allE wl s (wl + 1 - s)
theorem eBot_lt {nd : List Nd} {en : Nat → Nat} {wl nod s k : Nat} (hw : wl ≤ 12) (hs : s ≤ wl) : eBot nd en wl nod s k < 8192 :=
  it_inv (fun _ v => v < 8192) k (allE_lt hw (by omega)) (fun i x _ hx => and_lt13 hx)
theorem agnR_lt {en : Nat → Nat} {nod s once bet k : Nat} (hen : ∀ i, i < 832 → en i < 8192) (ho : once < 8192) (hn : nod < 64) (hk : s + 1 + k ≤ 13) : agnR en nod s once bet k < 8192 :=
  it_inv (fun _ v => v < 8192) k ho (fun j x hj hx => by
    try dsimp only
    split
    · exact or_lt13 hx (hen _ (by omega))
    · exact hx)
theorem endsF_lt {nd : List Nd} {wd en : Nat → Nat} {wl nod s : Nat} (hen : ∀ i, i < 832 → en i < 8192) (h64 : nd.length ≤ 64) (hw : wl ≤ 12) (hs : s ≤ wl) (hn : nod < nd.length) (hk : (ndK nd nod = 2 ∨ ndK nd nod = 5) → 1 ≤ (chl nd nod).length) : endsF nd wd en wl nod s < 8192 := by
  unfold endsF
  split
  · exact (eLab_lt (by omega)).2
  · split
    · exact eAlt_lt hen h64 (by omega) (by omega)
    · split
      · exact eOrd_lt hen h64 hw hs (Nat.le_refl _)
      · split
        · exact eBot_lt hw hs
        · split
          · rename_i h5
            have h1 := hk (Or.inr h5)
            exact agnR_lt hen (eChi_lt hen (by have := (chl_in (nd := nd) (i := nod) (c := 0) (by omega)).1; omega) (by omega)) (by omega) (by omega)
          · exact allE_lt hw (by omega)
set_option maxRecDepth 100000 in
set_option maxHeartbeats 4000000 in
theorem c_endsOf (n : Nat) (M : AH) {a t s nod : Nat} {A : Nat → Nat → Nat} {S : Nat → Nat} {nd : List Nd} (hm : Mt M a t A S nd) (hs : s ≤ S 2) (hn : nod < nd.length) (hkd : ndK nd nod ≤ 6) : Fn yX1_endsOf cX1_endsOf 3 (some .int) 3 [.ref a, .int (iI (nod : Int)), .int (iI (s : Int))] n M 0 0 (fun r n' M' => r = some (.int (iI ((endsF nd (A 1) (A 2) (S 2) nod s : Nat) : Int))) ∧ n' = n ∧ M' = M) := by
  refine Fn.of (by decide) [some _, some _, some _] rfl rfl (Nat.le_of_ble_eq_true rfl) ?_
  intro g G hin hO
  obtain ⟨hQ, ⟨B, P, T, hT, hnd⟩, hwl, hen, hst, hwd, hkk⟩ := id hm
  have h64 := hnd.2.1
  have hk1 : B 1 nod = ndK nd nod := (hnd.2.2.1 nod hn).1
  have hk9 := hkk nod hn
  unfold endsF at hO
  refine J.aload_n (pc := 0) G dX1_endsOf_0 rfl ?_
  refine J.getf (pc := 1) (ci := 1) G inX1 rfl 0 q69 dX1_endsOf_1 (hQ.a0) (by decide) rfl ?_
  refine J.getf (pc := 4) (ci := 2) G inX2 rfl 0 q32 dX1_endsOf_4 (hT.at 0 rfl) (by decide) rfl ?_
  refine J.iload_n (pc := 7) G dX1_endsOf_7 rfl ?_
  refine J.ialdN (pc := 8) G dX1_endsOf_8 (hT.at 1 rfl) (by omega) (by decide) ?_
  rw [hk1]
  generalize ndK nd nod = kd at hkd hO hk9 ⊢
  rcases (show kd = 1 ∨ kd = 2 ∨ kd = 3 ∨ kd = 4 ∨ kd = 5 ∨ (kd = 0 ∨ kd = 6) by omega) with e | e | e | e | e | e
  · subst e
    refine J.tableIn (pc := 9) (tgt := 44) G dX1_endsOf_9 (by decide) (by decide) (by decide) (by decide) rfl (by decide) ?_
    refine J.aload_n (pc := 44) G dX1_endsOf_44 rfl ?_
    refine J.iload_n (pc := 45) G dX1_endsOf_45 rfl ?_
    refine J.iload_n (pc := 46) G dX1_endsOf_46 rfl ?_
    refine J.callV (pc := 47) (na := 2) G (c_endsOfLabel n M (nod := nod) hm hs hn) q626 q628 qp31 q629 q3 (by decide +kernel) dX1_endsOf_47 (hQ.a0) rfl rfl (Nat.le_of_ble_eq_true rfl) rfl ⟨by omega, by decide, by omega, by omega⟩ ?_
    rintro r9 n9 M9 ⟨hr9, hn9, hM9⟩
    subst hr9
    rw [hn9, hM9]
    clear hn9 hM9 n9 M9
    dsimp only [Option.toList, List.cons_append, List.nil_append]
    exact J.iret (pc := 50) G hO dX1_endsOf_50 (Nat.le_refl _) (Nat.le_refl _) ⟨by simp, rfl, rfl⟩
  · subst e
    refine J.tableIn (pc := 9) (tgt := 51) G dX1_endsOf_9 (by decide) (by decide) (by decide) (by decide) rfl (by decide) ?_
    refine J.aload_n (pc := 51) G dX1_endsOf_51 rfl ?_
    refine J.iload_n (pc := 52) G dX1_endsOf_52 rfl ?_
    refine J.iconstN (pc := 53) G dX1_endsOf_53 0 rfl ?_
    refine J.iload_n (pc := 54) G dX1_endsOf_54 rfl ?_
    refine J.callV (pc := 55) (na := 3) G (c_endsOfAlternatives n M (nod := nod) (f := 0) hm hs hn (by omega)) q630 q632 qp32 q633 q3 (by decide +kernel) dX1_endsOf_55 (hQ.a0) rfl rfl (Nat.le_of_ble_eq_true rfl) rfl ⟨by omega, by decide, by omega, by omega⟩ ?_
    rintro r9 n9 M9 ⟨hr9, hn9, hM9⟩
    subst hr9
    rw [hn9, hM9]
    clear hn9 hM9 n9 M9
    dsimp only [Option.toList, List.cons_append, List.nil_append]
    exact J.iret (pc := 58) G hO dX1_endsOf_58 (Nat.le_refl _) (Nat.le_refl _) ⟨by simp, rfl, rfl⟩
  · subst e
    refine J.tableIn (pc := 9) (tgt := 59) G dX1_endsOf_9 (by decide) (by decide) (by decide) (by decide) rfl (by decide) ?_
    refine J.aload_n (pc := 59) G dX1_endsOf_59 rfl ?_
    refine J.iload_n (pc := 60) G dX1_endsOf_60 rfl ?_
    refine J.iload_n (pc := 61) G dX1_endsOf_61 rfl ?_
    refine J.callV (pc := 62) (na := 2) G (c_endsOfOrder n M (nod := nod) hm hs hn) q639 q641 qp34 q642 q3 (by decide +kernel) dX1_endsOf_62 (hQ.a0) rfl rfl (Nat.le_of_ble_eq_true rfl) rfl ⟨by omega, by decide, by omega, by omega⟩ ?_
    rintro r9 n9 M9 ⟨hr9, hn9, hM9⟩
    subst hr9
    rw [hn9, hM9]
    clear hn9 hM9 n9 M9
    dsimp only [Option.toList, List.cons_append, List.nil_append]
    exact J.iret (pc := 65) G hO dX1_endsOf_65 (Nat.le_refl _) (Nat.le_refl _) ⟨by simp, rfl, rfl⟩
  · subst e
    refine J.tableIn (pc := 9) (tgt := 66) G dX1_endsOf_9 (by decide) (by decide) (by decide) (by decide) rfl (by decide) ?_
    refine J.aload_n (pc := 66) G dX1_endsOf_66 rfl ?_
    refine J.iload_n (pc := 67) G dX1_endsOf_67 rfl ?_
    refine J.iload_n (pc := 68) G dX1_endsOf_68 rfl ?_
    refine J.callV (pc := 69) (na := 2) G (c_endsOfBoth n M (nod := nod) hm hs hn) q644 q646 qp35 q647 q3 (by decide +kernel) dX1_endsOf_69 (hQ.a0) rfl rfl (Nat.le_of_ble_eq_true rfl) rfl ⟨by omega, by decide, by omega, by omega⟩ ?_
    rintro r9 n9 M9 ⟨hr9, hn9, hM9⟩
    subst hr9
    rw [hn9, hM9]
    clear hn9 hM9 n9 M9
    dsimp only [Option.toList, List.cons_append, List.nil_append]
    exact J.iret (pc := 72) G hO dX1_endsOf_72 (Nat.le_refl _) (Nat.le_refl _) ⟨by simp, rfl, rfl⟩
  · subst e
    refine J.tableIn (pc := 9) (tgt := 73) G dX1_endsOf_9 (by decide) (by decide) (by decide) (by decide) rfl (by decide) ?_
    refine J.aload_n (pc := 73) G dX1_endsOf_73 rfl ?_
    refine J.iload_n (pc := 74) G dX1_endsOf_74 rfl ?_
    refine J.iload_n (pc := 75) G dX1_endsOf_75 rfl ?_
    refine J.callV (pc := 76) (na := 2) G (c_endsOfAgain n M (nod := nod) hm hs hn (hk9 (Or.inr rfl))) q652 q654 qp37 q655 q3 (by decide +kernel) dX1_endsOf_76 (hQ.a0) rfl rfl (Nat.le_of_ble_eq_true rfl) rfl ⟨by omega, by decide, by omega, by omega⟩ ?_
    rintro r9 n9 M9 ⟨hr9, hn9, hM9⟩
    subst hr9
    rw [hn9, hM9]
    clear hn9 hM9 n9 M9
    dsimp only [Option.toList, List.cons_append, List.nil_append]
    exact J.iret (pc := 79) G hO dX1_endsOf_79 (Nat.le_refl _) (Nat.le_refl _) ⟨by simp, rfl, rfl⟩
  · refine J.tableOut (pc := 9) (tgt := 80) G dX1_endsOf_9 (by omega) (by omega) (by omega) (by decide) ?_
    refine J.aload_n (pc := 80) G dX1_endsOf_80 rfl ?_
    refine J.iload_n (pc := 81) G dX1_endsOf_81 rfl ?_
    refine J.callV (pc := 82) (na := 1) G (c_allEnds n M hm hs) q648 q650 qp36 q651 q3 (by decide +kernel) dX1_endsOf_82 (hQ.a0) rfl rfl (Nat.le_of_ble_eq_true rfl) rfl ⟨by omega, by decide, by omega, by omega⟩ ?_
    rintro r9 n9 M9 ⟨hr9, hn9, hM9⟩
    subst hr9
    rw [hn9, hM9]
    clear hn9 hM9 n9 M9
    dsimp only [Option.toList, List.cons_append, List.nil_append]
    refine J.iret (pc := 85) G hO dX1_endsOf_85 (Nat.le_refl _) (Nat.le_refl _) ⟨?_, rfl, rfl⟩
    rw [if_neg (by omega), if_neg (by omega), if_neg (by omega), if_neg (by omega), if_neg (by omega)]
/-- the ends of all nodes for a start, from the last node on -/
def rdF (nd : List Nd) (wd : Nat → Nat) (wl s : Nat) (en : Nat → Nat) (k : Nat) : Nat → Nat := it (fun j en => upN en ((nd.length - 1 - j) * 13 + s) (endsF nd wd en wl (nd.length - 1 - j) s)) en k
def KdOk (nd : List Nd) : Prop := ∀ i, i < nd.length → ndK nd i ≤ 6
theorem Mt.put {M M' : AH} {a t : Nat} {A : Nat → Nat → Nat} {S : Nat → Nat} {nd : List Nd} {e : Nat → Nat} (hm : Mt M a t A S nd) (hQ : Cq M' a t (upAN A 2 e) S) (he : ∀ i, i < 832 → e i < 8192) (hFr : Fq a M M') (hta : t = a + 1) : Mt M' a t (upAN A 2 e) S nd := by
  obtain ⟨-, ⟨B, P, T, hT, hnd⟩, hwl, hen, hst, hwd, hkk⟩ := hm
  exact ⟨hQ, ⟨B, P, T, hT.fq hFr (by simp; omega), hnd⟩, hwl, he, hst, hwd, hkk⟩
set_option maxRecDepth 100000 in
set_option maxHeartbeats 4000000 in
theorem c_readFrom (n : Nat) (M0 : AH) {a t s : Nat} {A : Nat → Nat → Nat} {S : Nat → Nat} {nd : List Nd} (hm : Mt M0 a t A S nd) (hta : t = a + 1) (hs : s ≤ S 2) (hkd : KdOk nd) (h1 : 1 ≤ nd.length) : Fn yX1_readFrom cX1_readFrom 3 none 4 [.ref a, .int (iI (s : Int))] n M0 0 0 (fun r n' M' => r = none ∧ n' = n ∧ Mt M' a t (upAN A 2 (rdF nd (A 1) (S 2) s (A 2) nd.length)) S nd ∧ Fq a M0 M') := by
  refine Fn.of (by decide) [some _, some _, none] rfl rfl (Nat.le_of_ble_eq_true rfl) ?_
  intro g G hin hO
  obtain ⟨hQ, ⟨B, P, T, hT, hnd⟩, -⟩ := id hm
  have h64 := hnd.2.1
  have g6 := hnd.1
  refine J.aload_n (pc := 0) G dX1_readFrom_0 rfl ?_
  refine J.getf (pc := 1) (ci := 1) G inX1 rfl 0 q69 dX1_readFrom_1 (hQ.a0) (by decide) rfl ?_
  refine J.getf (pc := 4) (ci := 2) G inX2 rfl 6 q45 dX1_readFrom_4 (hT.at 0 rfl) (by decide) rfl ?_
  rw [g6]
  refine J.iconstN (pc := 7) G dX1_readFrom_7 1 rfl ?_
  refine J.isubN (pc := 8) G dX1_readFrom_8 (by omega) ?_
  refine J.istore_n (L' := [_, _, _]) (pc := 9) G dX1_readFrom_9 rfl (Nat.le_of_ble_eq_true rfl) rfl ?_
  have K1 : ∀ q : Nat × AH, (q.1 ≤ nd.length ∧ Mt q.2 a t (upAN A 2 (rdF nd (A 1) (S 2) s (A 2) q.1)) S nd ∧ Fq a M0 q.2) → J g 0 0 n q.2 [some (.ref a), some (.int (iI (s : Int))), some (.int (iI ((nd.length : Int) - (q.1 : Int) - 1)))] 10 [] := by
    refine loopJ (fun q => nd.length - q.1) _ _ ?_
    rintro ⟨j, M⟩ ⟨hj, hm, hFr⟩ ih
    dsimp only at hj hm hFr ih ⊢
    have hstep : rdF nd (A 1) (S 2) s (A 2) (j + 1) = upN (rdF nd (A 1) (S 2) s (A 2) j) ((nd.length - 1 - j) * 13 + s) (endsF nd (A 1) (rdF nd (A 1) (S 2) s (A 2) j) (S 2) (nd.length - 1 - j) s) := rfl
    have hend : j = nd.length → rdF nd (A 1) (S 2) s (A 2) j = rdF nd (A 1) (S 2) s (A 2) nd.length := fun e => by rw [e]
    generalize rdF nd (A 1) (S 2) s (A 2) j = e at hm hstep hend
    obtain ⟨hQ, -, hwl, hen, hst, hwd, hkk⟩ := id hm
    have hen : ∀ i, i < 832 → e i < 8192 := hen
    refine J.iload_n (pc := 10) G dX1_readFrom_10 rfl ?_
    refine J.if_lt (pc := 11) (tgt := 37) G dX1_readFrom_11 (by decide) (by omega) (by omega) (fun h => ?_) (fun h => ?_)
    · exact J.vret (pc := 37) G hO dX1_readFrom_37 (Nat.le_refl _) (Nat.le_refl _) ⟨rfl, rfl, by rw [← hend (by omega)]; exact hm, hFr⟩
    · have hx : nd.length - 1 - j < nd.length := by omega
      have hv := endsF_lt (wd := A 1) hen h64 hwl hs hx (hkk _ hx)
      rw [show ((nd.length : Int) - (j : Int) - 1) = ((nd.length - 1 - j : Nat) : Int) by omega]
      have nx : ∀ M, Mt M a t (upAN A 2 (rdF nd (A 1) (S 2) s (A 2) (j + 1))) S nd → Fq a M0 M → J g 0 0 n M [some (.ref a), some (.int (iI (s : Int))), some (.int (iI (((nd.length - 1 - j : Nat) : Int) + (-1))))] 10 [] := by
        intro M hm hFr
        have := ih (j + 1, M) ⟨by dsimp only; omega, hm, hFr⟩ (by dsimp only; omega)
        dsimp only at this
        rw [show ((nd.length : Int) - ((j + 1 : Nat) : Int) - 1) = ((nd.length - 1 - j : Nat) : Int) + (-1) by omega] at this
        exact this
      rw [hstep] at nx
      generalize nd.length - 1 - j = x at hx hv nx ⊢
      refine J.aload_n (pc := 14) G dX1_readFrom_14 rfl ?_
      refine J.getf (pc := 15) (ci := 1) G inX1 rfl 3 q72 dX1_readFrom_15 (hQ.a0) (by decide) rfl ?_
      refine J.iload_n (pc := 18) G dX1_readFrom_18 rfl ?_
      refine J.bipushN (pc := 19) G dX1_readFrom_19 13 (by decide +kernel) ?_
      refine J.imulN (pc := 21) G dX1_readFrom_21 ?_
      refine J.iload_n (pc := 22) G dX1_readFrom_22 rfl ?_
      refine J.iaddN (pc := 23) G dX1_readFrom_23 ?_
      refine J.aload_n (pc := 24) G dX1_readFrom_24 rfl ?_
      refine J.iload_n (pc := 25) G dX1_readFrom_25 rfl ?_
      refine J.iload_n (pc := 26) G dX1_readFrom_26 rfl ?_
      refine J.callV (pc := 27) (na := 2) G (c_endsOf n M (nod := x) (s := s) hm hs hx (hkd x hx)) q622 q624 qp30 q625 q3 (by decide +kernel) dX1_readFrom_27 (hQ.a0) rfl rfl (Nat.le_of_ble_eq_true rfl) rfl ⟨by omega, by decide, by omega, by omega⟩ ?_
      rintro r9 n9 M9 ⟨hr9, hn9, hM9⟩
      subst hr9
      rw [hn9, hM9]
      clear hn9 hM9 n9 M9
      dsimp only [Option.toList, List.cons_append, List.nil_append]
      rw [show endsF nd (upAN A 2 e 1) (upAN A 2 e 2) (S 2) x s = endsF nd (A 1) e (S 2) x s from rfl]
      generalize endsF nd (A 1) e (S 2) x s = v at hv nx ⊢
      refine J.iastN (pc := 30) G dX1_readFrom_30 (hQ.a2) (by omega) (by decide) (fun M2 hput hag => ?_)
      have hQ2 := matA2 hQ hput hag
      rw [upAN2] at hQ2
      have hFr2 : Fq a M M2 := Fq.rf.put hag (by omega) (by omega)
      have hm2 : Mt M2 a t (upAN A 2 (upN e (x * 13 + s) v)) S nd := by
        have := hm.put (e := upN e (x * 13 + s) v) (by rw [upAN2]; exact hQ2) (fun i hi => by
          by_cases q : i = x * 13 + s
          · subst q; rw [upN_s]; exact hv
          · rw [upN_n q]; exact hen i hi) hFr2 hta
        rw [upAN2] at this
        exact this
      refine J.iinc (L' := [_, _, _]) (pc := 31) G dX1_readFrom_31 rfl rfl rfl ?_
      refine J.goto (tgt := 10) (pc := 34) G dX1_readFrom_34 (by decide) ?_
      exact nx M2 hm2 (hFr.trans hFr2)
  have := K1 (0, M0) ⟨Nat.zero_le _, by dsimp only; rw [show rdF nd (A 1) (S 2) s (A 2) 0 = A 2 from rfl, upAN_same]; exact hm, Fq.rf⟩
  dsimp only at this
  rw [show ((nd.length : Int) - ((0 : Nat) : Int) - 1) = ((nd.length - 1 : Nat) : Int) by omega] at this
  exact this
set_option maxRecDepth 100000 in
set_option maxHeartbeats 4000000 in
theorem c_isWhole (n : Nat) (M : AH) {a t : Nat} {A : Nat → Nat → Nat} {S : Nat → Nat} {nd : List Nd} (hm : Mt M a t A S nd) : Fn yX1_isWhole cX1_isWhole 1 (some .boolean) 0 [.ref a] n M 0 0 (fun r n' M' => r = some (.int (bI ((A 2 0).testBit (S 2)))) ∧ n' = n ∧ M' = M) := by
  refine Fn.of (by decide) [some _] rfl rfl (Nat.le_of_ble_eq_true rfl) ?_
  intro g G hin hO
  obtain ⟨hQ, -, hwl, hen, -⟩ := id hm
  have h0 := hen 0 (by decide)
  refine J.aload_n (pc := 0) G dX1_isWhole_0 rfl ?_
  refine J.getf (pc := 1) (ci := 1) G inX1 rfl 3 q72 dX1_isWhole_1 (hQ.a0) (by decide) rfl ?_
  refine J.iconstN (pc := 4) G dX1_isWhole_4 0 rfl ?_
  refine J.ialdN (pc := 5) G dX1_isWhole_5 (hQ.a2) (by omega) (by decide) ?_
  refine J.aload_n (pc := 6) G dX1_isWhole_6 rfl ?_
  refine J.getf (pc := 7) (ci := 1) G inX1 rfl 2 q71 dX1_isWhole_7 (hQ.a0) (by decide) rfl ?_
  refine J.ishrN (pc := 10) G dX1_isWhole_10 (by omega) (by omega) ?_
  refine J.iconstN (pc := 11) G dX1_isWhole_11 1 rfl ?_
  refine J.iandN (pc := 12) G dX1_isWhole_12 ?_
  rw [has_bit]
  refine J.if_eqN (pc := 13) (tgt := 20) G dX1_isWhole_13 (by decide) (by split <;> omega) (fun h => ?_) (fun h => ?_)
  · have hb : (A 2 0).testBit (S 2) = false := by cases q : (A 2 0).testBit (S 2) <;> simp_all
    refine J.iconstN (pc := 20) G dX1_isWhole_20 0 rfl ?_
    exact J.zret0 (pc := 21) G hO dX1_isWhole_21 (Nat.le_refl _) (Nat.le_refl _) ⟨by rw [hb], rfl, rfl⟩
  · have hb : (A 2 0).testBit (S 2) = true := by cases q : (A 2 0).testBit (S 2) <;> simp_all
    refine J.iconstN (pc := 16) G dX1_isWhole_16 1 rfl ?_
    refine J.goto (tgt := 21) (pc := 17) G dX1_isWhole_17 (by decide) ?_
    exact J.zret1 (pc := 21) G hO dX1_isWhole_21 (Nat.le_refl _) (Nat.le_refl _) ⟨by rw [hb], rfl, rfl⟩
end MAT3
