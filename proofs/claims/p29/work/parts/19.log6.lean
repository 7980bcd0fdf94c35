section LOG6
def lackU (b e : Nat) (ps : List Nat) (j : Nat) : Bool := decide (gd ps j &&& b = 0) || decide (gd ps j &&& e = 0)
def fl (b e : Nat) (ps : List Nat) : Nat := firstU (lackU b e ps) ps.length
set_option maxRecDepth 100000 in
set_option maxHeartbeats 4000000 in
theorem c_firstLacking (n : Nat) (M : AH) {a : Nat} {A : Nat → Nat → Nat} {S : Nat → Nat} {ps : List Nat} (hL : Cl M a (logC a A S)) (hp : Pl (A 6) ps) (hc : S 12 = ps.length) (h8 : ps.length ≤ 8) (ha : All8 ps) : Fn yX0_firstLacking cX0_firstLacking 2 (some .int) 0 [.ref a] n M 0 0 (fun r n' M' => r = some (.int (iI (if fl (S 5) (S 6) ps < ps.length then (fl (S 5) (S 6) ps : Int) else -1))) ∧ n' = n ∧ M' = M) := by
  refine Fn.of (by decide) [some _, none] rfl rfl (Nat.le_of_ble_eq_true rfl) ?_
  intro g G hin hO
  refine J.iconstN (pc := 0) G dX0_firstLacking_0 0 rfl ?_
  refine J.istore_n (L' := [_, _]) (pc := 1) G dX0_firstLacking_1 rfl (Nat.le_of_ble_eq_true rfl) rfl ?_
  have K1 : ∀ s : Nat, (s ≤ ps.length ∧ (∀ j, j < s → lackU (S 5) (S 6) ps j = false)) → J g 0 0 n M [some (.ref a), some (.int (iI (s : Int)))] 2 [] := by
    refine loopJ (fun s => ps.length - s) _ _ ?_
    rintro i ⟨hi, hn⟩ ih
    try dsimp only at hi ih ⊢
    refine J.iload_n (pc := 2) G dX0_firstLacking_2 rfl ?_
    refine J.aload_n (pc := 3) G dX0_firstLacking_3 rfl ?_
    refine J.getf (pc := 4) (ci := 0) G inX0 rfl 12 q106 dX0_firstLacking_4 (hL.at 0 rfl) (by decide) rfl ?_
    refine J.icmp_geN (pc := 7) (tgt := 46) G dX0_firstLacking_7 (by decide) (by omega) (by omega) (fun h => ?_) (fun h => ?_)
    · have e8 : i = ps.length := by omega
      subst e8
      refine J.iconst (pc := 46) G dX0_firstLacking_46 ?_
      refine J.iret (pc := 47) G hO dX0_firstLacking_47 (Nat.le_refl _) (Nat.le_refl _) ⟨?_, rfl, rfl⟩
      unfold fl
      rw [firstU_no hn, if_neg (by omega)]
    · have hi8 : i < ps.length := by omega
      have pi : A 6 i = gd ps i := hp i hi8
      have b1 := ha i hi8
      have b2 : gd ps i &&& S 5 < 256 := and_lt8 b1
      have b3 : gd ps i &&& S 6 < 256 := and_lt8 b1
      have hit : lackU (S 5) (S 6) ps i = true → J g 0 0 n M [some (.ref a), some (.int (iI (i : Int)))] 38 [] := by
        intro hk
        refine J.iload_n (pc := 38) G dX0_firstLacking_38 rfl ?_
        refine J.iret (pc := 39) G hO dX0_firstLacking_39 (Nat.le_refl _) (Nat.le_refl _) ⟨?_, rfl, rfl⟩
        unfold fl
        rw [firstU_hit hn hk hi8, if_pos hi8]
      refine J.aload_n (pc := 10) G dX0_firstLacking_10 rfl ?_
      refine J.getf (pc := 11) (ci := 0) G inX0 rfl 11 q104 dX0_firstLacking_11 (hL.at 0 rfl) (by decide) rfl ?_
      refine J.iload_n (pc := 14) G dX0_firstLacking_14 rfl ?_
      refine J.ialdN (pc := 15) G dX0_firstLacking_15 (hL.at 6 rfl) (by omega) (by decide) ?_
      refine J.aload_n (pc := 16) G dX0_firstLacking_16 rfl ?_
      refine J.getf (pc := 17) (ci := 0) G inX0 rfl 5 q93 dX0_firstLacking_17 (hL.at 0 rfl) (by decide) rfl ?_
      rw [pi]; refine J.iandN (pc := 20) G dX0_firstLacking_20 ?_
      refine J.if_eqN (pc := 21) (tgt := 38) G dX0_firstLacking_21 (by decide) (by omega) (fun h2 => ?_) (fun h2 => ?_)
      · exact hit (by unfold lackU; rw [decide_eq_true h2]; rfl)
      · refine J.aload_n (pc := 24) G dX0_firstLacking_24 rfl ?_
        refine J.getf (pc := 25) (ci := 0) G inX0 rfl 11 q104 dX0_firstLacking_25 (hL.at 0 rfl) (by decide) rfl ?_
        refine J.iload_n (pc := 28) G dX0_firstLacking_28 rfl ?_
        refine J.ialdN (pc := 29) G dX0_firstLacking_29 (hL.at 6 rfl) (by omega) (by decide) ?_
        refine J.aload_n (pc := 30) G dX0_firstLacking_30 rfl ?_
        refine J.getf (pc := 31) (ci := 0) G inX0 rfl 6 q95 dX0_firstLacking_31 (hL.at 0 rfl) (by decide) rfl ?_
        rw [pi]; refine J.iandN (pc := 34) G dX0_firstLacking_34 ?_
        refine J.if_neN (pc := 35) (tgt := 40) G dX0_firstLacking_35 (by decide) (by omega) (fun h3 => ?_) (fun h3 => ?_)
        · refine J.iincN (L' := [_, _]) (pc := 40) G dX0_firstLacking_40 1 rfl rfl rfl rfl ?_
          refine J.goto (tgt := 2) (pc := 43) G dX0_firstLacking_43 (by decide) ?_
          refine ih (i + 1) ⟨by omega, fun j hj => ?_⟩ (by omega)
          by_cases e : j = i
          · subst e; unfold lackU; rw [decide_eq_false (by omega), decide_eq_false (by omega)]; rfl
          · exact hn j (by omega)
        · exact hit (by unfold lackU; rw [decide_eq_true h3]; exact Bool.or_true _)
  exact K1 0 ⟨by omega, fun j hj => absurd hj (Nat.not_lt_zero j)⟩
def jn (ps : List Nat) (j : Nat) : List Nat := (ps.set 0 (gd ps 0 ||| gd ps j)).eraseIdx j
theorem gd_erase {ps : List Nat} {j x : Nat} : gd (ps.eraseIdx j) x = if x < j then gd ps x else gd ps (x + 1) := by
  simp only [gd, List.getD_eq_getElem?_getD, List.getElem?_eraseIdx]
  split <;> rfl
theorem jn_len {ps : List Nat} {j : Nat} (hj : j < ps.length) : (jn ps j).length = ps.length - 1 := by
  unfold jn
  rw [List.length_eraseIdx, List.length_set, if_pos hj]
theorem jn_gd {ps : List Nat} {j x : Nat} (h1 : 1 ≤ j) (hj : j < ps.length) : gd (jn ps j) x = if x < j then (if x = 0 then gd ps 0 ||| gd ps j else gd ps x) else gd ps (x + 1) := by
  unfold jn
  rw [gd_erase, gd_set (by omega), gd_set (by omega)]
  by_cases h : x < j
  · rw [if_pos h, if_pos h]
  · rw [if_neg h, if_neg h, if_neg (by omega)]
theorem jn_all {ps : List Nat} {j : Nat} (h1 : 1 ≤ j) (hj : j < ps.length) (ha : All8 ps) : All8 (jn ps j) := by
  intro x hx
  rw [jn_len hj] at hx
  rw [jn_gd h1 hj]
  split
  · split
    · exact or_lt8 (ha 0 (by omega)) (ha j hj)
    · exact ha x (by omega)
  · exact ha (x + 1) (by omega)
set_option maxRecDepth 100000 in
set_option maxHeartbeats 4000000 in
theorem c_joinToFirst (n : Nat) (M0 : AH) {a j : Nat} {A : Nat → Nat → Nat} {S : Nat → Nat} {ps : List Nat} (hL : Cl M0 a (logC a A S)) (hp : Pl (A 6) ps) (hc : S 12 = ps.length) (h8 : ps.length ≤ 8) (hj1 : 1 ≤ j) (hj : j < ps.length) : Fn yX0_joinToFirst cX0_joinToFirst 3 none 0 [.ref a, .int (iI (j : Int))] n M0 0 0 (fun r n' M' => r = none ∧ n' = n ∧ (∃ p', Cl M' a (logC a (upAN A 6 p') (upN S 12 (jn ps j).length)) ∧ Pl p' (jn ps j)) ∧ Fr a (a + 7) M0 M') := by
  refine Fn.of (by decide) [some _, some _, none] rfl rfl (Nat.le_of_ble_eq_true rfl) ?_
  intro g G hin hO
  have hFr : Fr a (a + 7) M0 M0 := Fr.rf
  have p0 : A 6 0 = gd ps 0 := hp 0 (by omega)
  have pj : A 6 j = gd ps j := hp j hj
  generalize hM1 : M0 = M1 at hL hFr
  refine J.aload_n (pc := 0) G dX0_joinToFirst_0 rfl ?_
  refine J.getf (pc := 1) (ci := 0) G inX0 rfl 11 q104 dX0_joinToFirst_1 (hL.at 0 rfl) (by decide) rfl ?_
  refine J.iconstN (pc := 4) G dX0_joinToFirst_4 0 rfl ?_
  refine J.dup2 (pc := 5) G dX0_joinToFirst_5 rfl rfl ?_
  refine J.ialdN (pc := 6) G dX0_joinToFirst_6 (hL.at 6 rfl) (by omega) (by decide) ?_
  refine J.aload_n (pc := 7) G dX0_joinToFirst_7 rfl ?_
  refine J.getf (pc := 8) (ci := 0) G inX0 rfl 11 q104 dX0_joinToFirst_8 (hL.at 0 rfl) (by decide) rfl ?_
  refine J.iload_n (pc := 11) G dX0_joinToFirst_11 rfl ?_
  refine J.ialdN (pc := 12) G dX0_joinToFirst_12 (hL.at 6 rfl) (by omega) (by decide) ?_
  rw [p0, pj]; refine J.iorN (pc := 13) G dX0_joinToFirst_13 ?_
  refine J.iastN (pc := 14) G dX0_joinToFirst_14 (hL.at 6 rfl) (by omega) (by decide) (fun M hput hag => ?_)
  have hL := logA6 hL hput hag
  have hFr := hFr.put hag (by omega) (by omega)
  clear hput hag
  refine J.aload_n (pc := 15) G dX0_joinToFirst_15 rfl ?_
  refine J.dup (pc := 16) G dX0_joinToFirst_16 rfl ?_
  refine J.getf (pc := 17) (ci := 0) G inX0 rfl 12 q106 dX0_joinToFirst_17 (hL.at 0 rfl) (by decide) rfl ?_
  refine J.iconstN (pc := 20) G dX0_joinToFirst_20 1 rfl ?_
  refine J.isubN (pc := 21) G dX0_joinToFirst_21 (by omega) ?_
  refine J.putf (pc := 22) (ci := 0) G inX0 rfl tyX0 tyX0_ok nmX0 12 q106 dX0_joinToFirst_22 (hL.at 0 rfl) (by decide) (Nat.le_of_ble_eq_true rfl) (Or.inl rfl) (tyX0_ok 12 (by decide)) (by first | rfl | decide +kernel) (by first | rfl | decide +kernel) (fun M hput hag => ?_)
  have hL := logS12 hL hput hag
  have hFr := hFr.put hag (by omega) (by omega)
  clear hput hag
  refine J.iload_n (pc := 25) G dX0_joinToFirst_25 rfl ?_
  refine J.istore_n (L' := [_, _, _]) (pc := 26) G dX0_joinToFirst_26 rfl (Nat.le_of_ble_eq_true rfl) rfl ?_
  have hL : Cl M a (logC a (upAN A 6 (upN (A 6) 0 (gd ps 0 ||| gd ps j))) (upN S 12 (ps.length - 1))) := by rw [← hc]; exact hL
  generalize hq : upN (A 6) 0 (gd ps 0 ||| gd ps j) = q at hL
  have hqx : ∀ x, x < ps.length → q x = if x = 0 then gd ps 0 ||| gd ps j else gd ps x := by
    intro x hx
    rw [← hq]
    by_cases e : x = 0
    · subst e; rw [upN_s, if_pos rfl]
    · rw [upN_n e, if_neg e]; exact hp x hx
  have K1 : ∀ s : Nat × AH, (j ≤ s.1 ∧ s.1 ≤ ps.length - 1 ∧ (∃ p', Cl s.2 a (logC a (upAN A 6 p') (upN S 12 (ps.length - 1))) ∧ ∀ x, x < ps.length → p' x = if j ≤ x ∧ x < s.1 then q (x + 1) else q x) ∧ Fr a (a + 7) M0 s.2) → J g 0 0 n s.2 [some (.ref a), some (.int (iI (j : Int))), some (.int (iI (s.1 : Int)))] 27 [] := by
    refine loopJ (fun s => ps.length - s.1) _ _ ?_
    rintro ⟨i, M⟩ ⟨hji, hi, ⟨p, hL, hpx⟩, hFr⟩ ih
    dsimp only at hji hi hL hpx hFr ih ⊢
    have hS : upN S 12 (ps.length - 1) 12 = ps.length - 1 := upN_s
    refine J.iload_n (pc := 27) G dX0_joinToFirst_27 rfl ?_
    refine J.aload_n (pc := 28) G dX0_joinToFirst_28 rfl ?_
    refine J.getf (pc := 29) (ci := 0) G inX0 rfl 12 q106 dX0_joinToFirst_29 (hL.at 0 rfl) (by decide) rfl ?_
    refine J.icmp_geN (pc := 32) (tgt := 55) G dX0_joinToFirst_32 (by decide) (by omega) (by omega) (fun h => ?_) (fun h => ?_)
    · have e8 : i = ps.length - 1 := by omega
      subst e8
      refine J.vret (pc := 55) G hO dX0_joinToFirst_55 (Nat.le_refl _) (Nat.le_refl _) ⟨rfl, rfl, ⟨p, ?_, ?_⟩, hFr⟩
      · rw [jn_len hj]; exact hL
      · intro x hx
        rw [jn_len hj] at hx
        show p x = gd (jn ps j) x
        rw [hpx x (by omega), jn_gd hj1 hj]
        by_cases h1 : x < j
        · rw [if_neg (by omega), if_pos h1, hqx x (by omega)]
        · rw [if_pos (by omega), if_neg h1, hqx (x + 1) (by omega), if_neg (by omega)]
    · refine J.aload_n (pc := 35) G dX0_joinToFirst_35 rfl ?_
      refine J.getf (pc := 36) (ci := 0) G inX0 rfl 11 q104 dX0_joinToFirst_36 (hL.at 0 rfl) (by decide) rfl ?_
      refine J.iload_n (pc := 39) G dX0_joinToFirst_39 rfl ?_
      refine J.aload_n (pc := 40) G dX0_joinToFirst_40 rfl ?_
      refine J.getf (pc := 41) (ci := 0) G inX0 rfl 11 q104 dX0_joinToFirst_41 (hL.at 0 rfl) (by decide) rfl ?_
      refine J.iload_n (pc := 44) G dX0_joinToFirst_44 rfl ?_
      refine J.iconstN (pc := 45) G dX0_joinToFirst_45 1 rfl ?_
      refine J.iaddN (pc := 46) G dX0_joinToFirst_46 ?_
      refine J.ialdN (pc := 47) G dX0_joinToFirst_47 (hL.at 6 rfl) (by omega) (by decide) ?_
      refine J.iastN (pc := 48) G dX0_joinToFirst_48 (hL.at 6 rfl) (by omega) (by decide) (fun M hput hag => ?_)
      have hL := logA6 hL hput hag
      have hFr := hFr.put hag (by omega) (by omega)
      clear hput hag
      refine J.iincN (L' := [_, _, _]) (pc := 49) G dX0_joinToFirst_49 1 rfl rfl rfl rfl ?_
      refine J.goto (tgt := 27) (pc := 52) G dX0_joinToFirst_52 (by decide) ?_
      rw [upAN2] at hL
      refine ih (i + 1, M) ⟨by dsimp only; omega, by dsimp only; omega, ⟨_, hL, ?_⟩, hFr⟩ (by dsimp only; omega)
      intro x hx
      dsimp only
      show upN p i (p (i + 1)) x = _
      by_cases e : x = i
      · subst e
        rw [upN_s, hpx (x + 1) (by omega), if_neg (by omega), if_pos (by omega)]
      · rw [upN_n e, hpx x hx]
        by_cases h1 : j ≤ x ∧ x < i
        · rw [if_pos h1, if_pos (by omega)]
        · rw [if_neg h1, if_neg (by omega)]
  refine K1 (j, M) ⟨Nat.le_refl _, by dsimp only; omega, ⟨q, hL, fun x hx => ?_⟩, hM1 ▸ hFr⟩
  dsimp only
  rw [if_neg (by omega)]
def jl (b e : Nat) : Nat → List Nat → List Nat
  | 0, ps => ps
  | n + 1, ps => if fl b e ps < ps.length ∧ 2 ≤ ps.length then jl b e n (jn ps (if fl b e ps = 0 then 1 else fl b e ps)) else ps
theorem jl_inv (b e : Nat) : ∀ (n : Nat) (ps : List Nat), ps.length ≤ 8 → All8 ps → (jl b e n ps).length ≤ 8 ∧ All8 (jl b e n ps)
  | 0, ps, h8, ha => ⟨h8, ha⟩
  | n + 1, ps, h8, ha => by
    rw [jl]
    split
    · rename_i h
      have h1 : 1 ≤ (if fl b e ps = 0 then 1 else fl b e ps) := by split <;> omega
      have h2 : (if fl b e ps = 0 then 1 else fl b e ps) < ps.length := by split <;> omega
      exact jl_inv b e n _ (by rw [jn_len h2]; omega) (jn_all h1 h2 ha)
    · exact ⟨h8, ha⟩
set_option maxRecDepth 100000 in
set_option maxHeartbeats 4000000 in
theorem c_joinLacking (n : Nat) (M0 : AH) {a : Nat} {A : Nat → Nat → Nat} {S : Nat → Nat} {ps : List Nat} (hL : Cl M0 a (logC a A S)) (hp : Pl (A 6) ps) (hc : S 12 = ps.length) (h8 : ps.length ≤ 8) (ha : All8 ps) : Fn yX0_joinLacking cX0_joinLacking 3 none 1 [.ref a] n M0 0 0 (fun r n' M' => r = none ∧ n' = n ∧ (∃ p', Cl M' a (logC a (upAN A 6 p') (upN S 12 (jl (S 5) (S 6) 8 ps).length)) ∧ Pl p' (jl (S 5) (S 6) 8 ps)) ∧ Fr a (a + 7) M0 M') := by
  refine Fn.of (by decide) [some _, none, none] rfl rfl (Nat.le_of_ble_eq_true rfl) ?_
  intro g G hin hO
  refine J.iconstN (pc := 0) G dX0_joinLacking_0 0 rfl ?_
  refine J.istore_n (L' := [_, _, _]) (pc := 1) G dX0_joinLacking_1 rfl (Nat.le_of_ble_eq_true rfl) rfl ?_
  have K1 : ∀ s : Nat × AH × List Nat, (s.1 ≤ 8 ∧ (∃ p', Cl s.2.1 a (logC a (upAN A 6 p') (upN S 12 s.2.2.length)) ∧ Pl p' s.2.2) ∧ s.2.2.length ≤ 8 ∧ All8 s.2.2 ∧ jl (S 5) (S 6) (8 - s.1) s.2.2 = jl (S 5) (S 6) 8 ps ∧ Fr a (a + 7) M0 s.2.1) → J g 0 0 n s.2.1 [some (.ref a), some (.int (iI (s.1 : Int))), none] 2 [] := by
    refine loopJ (fun s => 8 - s.1) _ _ ?_
    rintro ⟨i, M, qs⟩ ⟨hi, ⟨p, hL, hp⟩, h8, ha, hj, hFr⟩ ih
    dsimp only at hi hL hp h8 ha hj hFr ih ⊢
    refine J.iload_n (pc := 2) G dX0_joinLacking_2 rfl ?_
    refine J.bipushN (pc := 3) G dX0_joinLacking_3 8 (by decide +kernel) ?_
    refine J.icmp_geN (pc := 5) (tgt := 45) G dX0_joinLacking_5 (by decide) (by omega) (by omega) (fun h => ?_) (fun h => ?_)
    · have e8 : i = 8 := by omega
      subst e8
      have hj0 : qs = jl (S 5) (S 6) 8 ps := hj
      exact J.vret (pc := 45) G hO dX0_joinLacking_45 (Nat.le_refl _) (Nat.le_refl _) ⟨rfl, rfl, ⟨p, by rw [← hj0]; exact hL, by rw [← hj0]; exact hp⟩, hFr⟩
    · have hi8 : i < 8 := h
      rw [show 8 - i = (8 - (i + 1)) + 1 by omega, jl] at hj
      refine J.aload_n (pc := 8) G dX0_joinLacking_8 rfl ?_
      refine J.callV (pc := 9) (na := 0) G (c_firstLacking n M (ps := qs) hL hp upN_s h8 ha) q282 q284 qp15 q285 q4 (by decide +kernel) dX0_joinLacking_9 (hL.at 0 rfl) rfl rfl (Nat.le_of_ble_eq_true rfl) rfl ⟨by omega, by decide, by omega, by omega⟩ ?_
      rintro r9 n9 M9 ⟨hr9, hn9, hM9⟩
      subst hr9
      rw [hn9, hM9]
      clear hn9 hM9 n9 M9
      dsimp only [Option.toList, List.cons_append, List.nil_append]
      have hq9 : fl (upN S 12 qs.length 5) (upN S 12 qs.length 6) qs = fl (S 5) (S 6) qs := rfl
      rw [hq9]
      generalize hf : fl (S 5) (S 6) qs = f at hj
      have stop : ¬ (f < qs.length ∧ 2 ≤ qs.length) → ∀ L, J g 0 0 n M L 25 [] := by
        intro hs L
        rw [if_neg hs] at hj
        exact J.vret (pc := 25) G hO dX0_joinLacking_25 (Nat.le_refl _) (Nat.le_refl _) ⟨rfl, rfl, ⟨p, by rw [← hj]; exact hL, by rw [← hj]; exact hp⟩, hFr⟩
      refine J.istore_n (L' := [_, _, _]) (pc := 12) G dX0_joinLacking_12 rfl (Nat.le_of_ble_eq_true rfl) rfl ?_
      refine J.iload_n (pc := 13) G dX0_joinLacking_13 rfl ?_
      refine J.if_lt (pc := 14) (tgt := 25) G dX0_joinLacking_14 (by decide) (by split <;> omega) (by split <;> omega) (fun h2 => ?_) (fun h2 => ?_)
      · have : ¬ f < qs.length := fun q => by rw [if_pos q] at h2; omega
        exact stop (by omega) _
      · have hfl : f < qs.length := by
          by_cases q : f < qs.length
          · exact q
          · rw [if_neg q] at h2; omega
        rw [if_pos hfl]
        have hS : upN S 12 qs.length 12 = qs.length := upN_s
        refine J.aload_n (pc := 17) G dX0_joinLacking_17 rfl ?_
        refine J.getf (pc := 18) (ci := 0) G inX0 rfl 12 q106 dX0_joinLacking_18 (hL.at 0 rfl) (by decide) rfl ?_
        refine J.iconstN (pc := 21) G dX0_joinLacking_21 2 rfl ?_
        refine J.icmp_geN (pc := 22) (tgt := 26) G dX0_joinLacking_22 (by decide) (by omega) (by omega) (fun h3 => ?_) (fun h3 => ?_)
        · rw [if_pos (by omega)] at hj
          have go : ∀ v : Nat, v = (if f = 0 then 1 else f) → J g 0 0 n M [some (.ref a), some (.int (iI (i : Int))), some (.int (iI (f : Int)))] 36 [.int (iI (v : Int)), .ref a] := by
            intro v hv
            have h1 : 1 ≤ v := by rw [hv]; split <;> omega
            have h2 : v < qs.length := by rw [hv]; split <;> omega
            refine J.callV (pc := 36) (na := 1) G (c_joinToFirst n M (j := v) (ps := qs) hL hp hS h8 h1 h2) q286 q288 qp16 q289 q4 (by decide +kernel) dX0_joinLacking_36 (hL.at 0 rfl) rfl rfl (Nat.le_of_ble_eq_true rfl) rfl ⟨by omega, by decide, by omega, by omega⟩ ?_
            rintro r9 n9 M ⟨hr9, hn9, ⟨⟨p7, hL7, hp7⟩, hFr7⟩⟩
            subst hr9
            rw [hn9]
            clear hn9 n9
            dsimp only [Option.toList, List.cons_append, List.nil_append]
            rw [upAN2, upN2] at hL7
            refine J.fgt (L' := [_, _, _]) 2 rfl ?_
            refine J.iincN (L' := [_, _, _]) (pc := 39) G dX0_joinLacking_39 1 rfl rfl rfl rfl ?_
            refine J.goto (tgt := 2) (pc := 42) G dX0_joinLacking_42 (by decide) ?_
            refine ih (i + 1, M, jn qs v) ⟨by dsimp only; omega, ⟨p7, hL7, hp7⟩, by dsimp only; rw [jn_len h2]; omega, jn_all h1 h2 ha, ?_, hFr.trans hFr7⟩ (by dsimp only; omega)
            dsimp only
            rw [← hj, hv]
          refine J.aload_n (pc := 26) G dX0_joinLacking_26 rfl ?_
          refine J.iload_n (pc := 27) G dX0_joinLacking_27 rfl ?_
          refine J.if_neN (pc := 28) (tgt := 35) G dX0_joinLacking_28 (by decide) (by omega) (fun h4 => ?_) (fun h4 => ?_)
          · refine J.iload_n (pc := 35) G dX0_joinLacking_35 rfl ?_
            exact go f (by rw [if_neg (by omega)])
          · refine J.iconstN (pc := 31) G dX0_joinLacking_31 1 rfl ?_
            refine J.goto (tgt := 36) (pc := 32) G dX0_joinLacking_32 (by decide) ?_
            exact go 1 (by rw [if_pos h4])
        · exact stop (by omega) _
  exact K1 (0, M0, ps) ⟨by dsimp only; omega, ⟨A 6, by dsimp only; rw [upAN_same, upN_same hc]; exact hL, hp⟩, h8, ha, rfl, Fr.rf⟩
def btf (nx : Nat → Nat) (b e part : Nat) : Bool := anyU (fun x => ((andn b e).testBit x && decide (nx x &&& part ≠ 0)) || (part.testBit x && decide (nx x &&& andn e b ≠ 0))) 8
set_option maxRecDepth 100000 in
set_option maxHeartbeats 4000000 in
theorem c_belongsToFirst (n : Nat) (M : AH) {a part : Nat} {A : Nat → Nat → Nat} {S : Nat → Nat} (hL : Cl M a (logC a A S)) (hb : ∀ j, j < 8 → A 3 j < 256) (hp : part < 256) (hb5 : S 5 < 256) (hb6 : S 6 < 256) : Fn yX0_belongsToFirst cX0_belongsToFirst 5 (some .boolean) 1 [.ref a, .int (iI (part : Int))] n M 0 0 (fun r n' M' => r = some (.int (bI (btf (A 3) (S 5) (S 6) part))) ∧ n' = n ∧ M' = M) := by
  refine Fn.of (by decide) [some _, some _, none, none, none] rfl rfl (Nat.le_of_ble_eq_true rfl) ?_
  intro g G hin hO
  have b7 := andn_lt8 (b := S 6) hb5
  have b8 := andn_lt8 (b := S 5) hb6
  refine J.aload_n (pc := 0) G dX0_belongsToFirst_0 rfl ?_
  refine J.getf (pc := 1) (ci := 0) G inX0 rfl 5 q93 dX0_belongsToFirst_1 (hL.at 0 rfl) (by decide) rfl ?_
  refine J.aload_n (pc := 4) G dX0_belongsToFirst_4 rfl ?_
  refine J.getf (pc := 5) (ci := 0) G inX0 rfl 6 q95 dX0_belongsToFirst_5 (hL.at 0 rfl) (by decide) rfl ?_
  refine J.andnN (pc := 8) G dX0_belongsToFirst_8 dX0_belongsToFirst_9 dX0_belongsToFirst_10 ?_
  refine J.istore_n (L' := [_, _, _, _, _]) (pc := 11) G dX0_belongsToFirst_11 rfl (Nat.le_of_ble_eq_true rfl) rfl ?_
  refine J.aload_n (pc := 12) G dX0_belongsToFirst_12 rfl ?_
  refine J.getf (pc := 13) (ci := 0) G inX0 rfl 6 q95 dX0_belongsToFirst_13 (hL.at 0 rfl) (by decide) rfl ?_
  refine J.aload_n (pc := 16) G dX0_belongsToFirst_16 rfl ?_
  refine J.getf (pc := 17) (ci := 0) G inX0 rfl 5 q93 dX0_belongsToFirst_17 (hL.at 0 rfl) (by decide) rfl ?_
  refine J.andnN (pc := 20) G dX0_belongsToFirst_20 dX0_belongsToFirst_21 dX0_belongsToFirst_22 ?_
  refine J.istore_n (L' := [_, _, _, _, _]) (pc := 23) G dX0_belongsToFirst_23 rfl (Nat.le_of_ble_eq_true rfl) rfl ?_
  refine J.iconstN (pc := 24) G dX0_belongsToFirst_24 0 rfl ?_
  refine J.istore (L' := [_, _, _, _, _]) (pc := 25) G dX0_belongsToFirst_25 rfl (Nat.le_of_ble_eq_true rfl) rfl ?_
  have K1 : ∀ s : Nat, (s ≤ 8 ∧ anyU (fun x => ((andn (S 5) (S 6)).testBit x && decide (A 3 x &&& part ≠ 0)) || (part.testBit x && decide (A 3 x &&& andn (S 6) (S 5) ≠ 0))) s = false) → J g 0 0 n M [some (.ref a), some (.int (iI (part : Int))), some (.int (iI ((andn (S 5) (S 6) : Nat) : Int))), some (.int (iI ((andn (S 6) (S 5) : Nat) : Int))), some (.int (iI (s : Int)))] 27 [] := by
    refine loopJ (fun s => 8 - s) _ _ ?_
    rintro i ⟨hi, hn⟩ ih
    try dsimp only at hi ih ⊢
    generalize hob : andn (S 5) (S 6) = ob at hn b7 ih ⊢
    generalize hoe : andn (S 6) (S 5) = oe at hn b8 ih ⊢
    refine J.iload (pc := 27) G dX0_belongsToFirst_27 rfl ?_
    refine J.bipushN (pc := 29) G dX0_belongsToFirst_29 8 (by decide +kernel) ?_
    refine J.icmp_geN (pc := 31) (tgt := 86) G dX0_belongsToFirst_31 (by decide) (by omega) (by omega) (fun h => ?_) (fun h => ?_)
    · have e8 : i = 8 := by omega
      subst e8
      refine J.iconstN (pc := 86) G dX0_belongsToFirst_86 0 rfl ?_
      exact J.zret0 (pc := 87) G hO dX0_belongsToFirst_87 (Nat.le_refl _) (Nat.le_refl _) ⟨by unfold btf; rw [hob, hoe, hn], rfl, rfl⟩
    · have hi8 : i < 8 := h
      have b1 := hb i hi8
      have b2 : A 3 i &&& part < 256 := and_lt8 b1
      have b3 : A 3 i &&& oe < 256 := and_lt8 b1
      have second : ((ob.testBit i && decide (A 3 i &&& part ≠ 0)) = false) → J g 0 0 n M [some (.ref a), some (.int (iI (part : Int))), some (.int (iI (ob : Int))), some (.int (iI (oe : Int))), some (.int (iI (i : Int)))] 57 [] := by
        intro h1
        have nxt : ((part.testBit i && decide (A 3 i &&& oe ≠ 0)) = false) → J g 0 0 n M [some (.ref a), some (.int (iI (part : Int))), some (.int (iI (ob : Int))), some (.int (iI (oe : Int))), some (.int (iI (i : Int)))] 80 [] := by
          intro h2
          refine J.iincN (L' := [_, _, _, _, _]) (pc := 80) G dX0_belongsToFirst_80 1 rfl rfl rfl rfl ?_
          refine J.goto (tgt := 27) (pc := 83) G dX0_belongsToFirst_83 (by decide) ?_
          refine ih (i + 1) ⟨by omega, ?_⟩ (by omega)
          rw [anyU, hn, h1, h2]; rfl
        refine J.iload_n (pc := 57) G dX0_belongsToFirst_57 rfl ?_
        refine J.iload (pc := 58) G dX0_belongsToFirst_58 rfl ?_
        refine J.callSN (pc := 60) (na := 2) G (c_contains n M (m := part) (l := i) (by omega) (by omega)) (mem_nw 3) q248 q249 q1 (by decide +kernel) dX0_belongsToFirst_60 rfl (Nat.le_of_ble_eq_true rfl) rfl ⟨by omega, by decide, by omega, by omega⟩ ?_
        rintro r9 n9 M9 ⟨hr9, hn9, hM9⟩
        subst hr9
        rw [hn9, hM9]
        clear hn9 hM9 n9 M9
        dsimp only [Option.toList, List.cons_append, List.nil_append]
        refine J.if_eq_b (pc := 63) (tgt := 80) G dX0_belongsToFirst_63 (by decide) (fun hc => ?_) (fun hc => ?_)
        · exact nxt (by rw [hc]; rfl)
        · refine J.aload_n (pc := 66) G dX0_belongsToFirst_66 rfl ?_
          refine J.getf (pc := 67) (ci := 0) G inX0 rfl 8 q99 dX0_belongsToFirst_67 (hL.at 0 rfl) (by decide) rfl ?_
          refine J.iload (pc := 70) G dX0_belongsToFirst_70 rfl ?_
          refine J.ialdN (pc := 72) G dX0_belongsToFirst_72 (hL.at 3 rfl) (by omega) (by decide) ?_
          refine J.iload_n (pc := 73) G dX0_belongsToFirst_73 rfl ?_
          refine J.iandN (pc := 74) G dX0_belongsToFirst_74 ?_
          refine J.if_eqN (pc := 75) (tgt := 80) G dX0_belongsToFirst_75 (by decide) (by omega) (fun h2 => ?_) (fun h2 => ?_)
          · exact nxt (by rw [hc, h2]; rfl)
          · refine J.iconstN (pc := 78) G dX0_belongsToFirst_78 1 rfl ?_
            refine J.zret1 (pc := 79) G hO dX0_belongsToFirst_79 (Nat.le_refl _) (Nat.le_refl _) ⟨?_, rfl, rfl⟩
            unfold btf
            rw [hob, hoe, anyU_hit (i := i) hi8 (by rw [hc, decide_eq_true (by omega : A 3 i &&& oe ≠ 0)]; exact Bool.or_true _)]
      refine J.iload_n (pc := 34) G dX0_belongsToFirst_34 rfl ?_
      refine J.iload (pc := 35) G dX0_belongsToFirst_35 rfl ?_
      refine J.callSN (pc := 37) (na := 2) G (c_contains n M (m := ob) (l := i) (by omega) (by omega)) (mem_nw 3) q248 q249 q1 (by decide +kernel) dX0_belongsToFirst_37 rfl (Nat.le_of_ble_eq_true rfl) rfl ⟨by omega, by decide, by omega, by omega⟩ ?_
      rintro r9 n9 M9 ⟨hr9, hn9, hM9⟩
      subst hr9
      rw [hn9, hM9]
      clear hn9 hM9 n9 M9
      dsimp only [Option.toList, List.cons_append, List.nil_append]
      refine J.if_eq_b (pc := 40) (tgt := 57) G dX0_belongsToFirst_40 (by decide) (fun hc => ?_) (fun hc => ?_)
      · exact second (by rw [hc]; rfl)
      · refine J.aload_n (pc := 43) G dX0_belongsToFirst_43 rfl ?_
        refine J.getf (pc := 44) (ci := 0) G inX0 rfl 8 q99 dX0_belongsToFirst_44 (hL.at 0 rfl) (by decide) rfl ?_
        refine J.iload (pc := 47) G dX0_belongsToFirst_47 rfl ?_
        refine J.ialdN (pc := 49) G dX0_belongsToFirst_49 (hL.at 3 rfl) (by omega) (by decide) ?_
        refine J.iload_n (pc := 50) G dX0_belongsToFirst_50 rfl ?_
        refine J.iandN (pc := 51) G dX0_belongsToFirst_51 ?_
        refine J.if_eqN (pc := 52) (tgt := 57) G dX0_belongsToFirst_52 (by decide) (by omega) (fun h2 => ?_) (fun h2 => ?_)
        · exact second (by rw [hc, h2]; rfl)
        · refine J.iconstN (pc := 55) G dX0_belongsToFirst_55 1 rfl ?_
          refine J.zret1 (pc := 56) G hO dX0_belongsToFirst_56 (Nat.le_refl _) (Nat.le_refl _) ⟨?_, rfl, rfl⟩
          unfold btf
          rw [hob, hoe, anyU_hit (i := i) hi8 (by rw [hc, decide_eq_true (by omega : A 3 i &&& part ≠ 0)]; rfl)]
  exact K1 0 ⟨by omega, rfl⟩
end LOG6
