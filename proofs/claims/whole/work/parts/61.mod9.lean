section MOD9
def chN (nd : List Nd) (i k : Nat) : List Nat := (List.range k).filter (fun k => decide (ndP nd k = (i : Int)))
theorem chN_s {nd : List Nd} {i k : Nat} : chN nd i (k + 1) = chN nd i k ++ (if ndP nd k = (i : Int) then [k] else []) := by
  unfold chN
  rw [List.range_succ, List.filter_append]
  congr 1
  by_cases h : ndP nd k = (i : Int)
  · simp [h]
  · simp [h]
theorem chN_len {nd : List Nd} {i k : Nat} : (chN nd i (k + 1)).length = (chN nd i k).length + (if ndP nd k = (i : Int) then 1 else 0) := by
  rw [chN_s, List.length_append]
  split <;> rfl
theorem chN_mono {nd : List Nd} {i k : Nat} : ∀ d, (chN nd i k).length ≤ (chN nd i (k + d)).length
  | 0 => Nat.le_refl _
  | d + 1 => by
    have := chN_mono (nd := nd) (i := i) (k := k) d
    rw [show k + (d + 1) = k + d + 1 by omega, chN_len]
    omega
theorem chN_low {nd : List Nd} {i : Nat} (hp : ∀ k, k < nd.length → ndP nd k < (k : Int)) (hi : i < nd.length) : ∀ k, k ≤ i + 1 → (chN nd i k).length = 0
  | 0, _ => rfl
  | k + 1, h => by
    rw [chN_len, chN_low hp hi k (by omega), if_neg (by have := hp k (by omega); omega)]
theorem chN_gd {nd : List Nd} {i k : Nat} (hp : ndP nd k = (i : Int)) : ∀ d, gd (chN nd i (k + 1 + d)) (chN nd i k).length = k
  | 0 => by
    rw [Nat.add_zero, chN_s, if_pos hp]
    unfold gd
    rw [List.getD_eq_getElem?_getD, List.getElem?_append_right (Nat.le_refl _)]
    simp
  | d + 1 => by
    have ih := chN_gd (nd := nd) (i := i) hp d
    have hm := chN_mono (nd := nd) (i := i) (k := k + 1) d
    rw [chN_len, if_pos hp] at hm
    rw [show k + 1 + (d + 1) = k + 1 + d + 1 by omega, chN_s]
    unfold gd at ih ⊢
    rw [List.getD_eq_getElem?_getD, List.getElem?_append_left (by omega), ← List.getD_eq_getElem?_getD]
    exact ih
set_option maxRecDepth 100000 in
set_option maxHeartbeats 4000000 in
theorem m_childCount (n : Nat) (M : AH) {a i : Nat} {R : Nat → Nat → Nat} {P : Nat → Int} {Z : Nat → Nat} {nd : List Nd} (hM : Cl M a (modC a R P Z)) (hT : MdT R P Z nd) (hi : i < nd.length) : Fn yX4_childCount cX4_childCount 4 (some .int) 0 [.ref a, .int (iI (i : Int))] n M 0 0 (fun r n' M' => r = some (.int (iI (((chl nd i).length : Nat) : Int))) ∧ n' = n ∧ M' = M) := by
  refine Fn.of (by decide) [some _, some _, none, none] rfl rfl (Nat.le_of_ble_eq_true rfl) ?_
  intro g G hin hO
  obtain ⟨g8, g64, gi, gp⟩ := hT
  refine J.iconstN (pc := 0) G dX4_childCount_0 0 rfl ?_
  refine J.istore_n (L' := [_, _, _, _]) (pc := 1) G dX4_childCount_1 rfl (Nat.le_of_ble_eq_true rfl) rfl ?_
  refine J.iload_n (pc := 2) G dX4_childCount_2 rfl ?_
  refine J.iconstN (pc := 3) G dX4_childCount_3 1 rfl ?_
  refine J.iaddN (pc := 4) G dX4_childCount_4 ?_
  refine J.istore_n (L' := [_, _, _, _]) (pc := 5) G dX4_childCount_5 rfl (Nat.le_of_ble_eq_true rfl) rfl ?_
  have K1 : ∀ k : Nat, (i + 1 ≤ k ∧ k ≤ nd.length) → J g 0 0 n M [some (.ref a), some (.int (iI (i : Int))), some (.int (iI ((chN nd i k).length : Int))), some (.int (iI (k : Int)))] 6 [] := by
    refine loopJ (fun k => nd.length - k) _ _ ?_
    rintro k ⟨hk1, hk2⟩ ih
    have hstep := chN_len (nd := nd) (i := i) (k := k)
    refine J.iload_n (pc := 6) G dX4_childCount_6 rfl ?_
    refine J.aload_n (pc := 7) G dX4_childCount_7 rfl ?_
    refine J.getf (pc := 8) (ci := 4) G inX4 rfl 8 q703 dX4_childCount_8 (hM.at 0 rfl) (by decide) rfl ?_
    rw [g8]
    refine J.icmp_geN (pc := 11) (tgt := 38) G dX4_childCount_11 (by decide) (by omega) (by omega) (fun h => ?_) (fun h => ?_)
    · refine J.iload_n (pc := 38) G dX4_childCount_38 rfl ?_
      exact J.iret (pc := 39) G hO dX4_childCount_39 (by decide) (by decide) ⟨by rw [show k = nd.length by omega]; rfl, rfl, rfl⟩
    · have hP := (gi k h).2.1
      have hPb := gp k h
      generalize (chN nd i k).length = x at hstep ⊢
      have nx : ∀ y : Nat, (chN nd i (k + 1)).length = x + y → J g 0 0 n M [some (.ref a), some (.int (iI (i : Int))), some (.int (iI (x : Int))), some (.int (iI (k : Int)))] 30 [.int (iI (y : Int)), .int (iI (x : Int))] := by
        intro y hy
        refine J.iaddN (pc := 30) G dX4_childCount_30 ?_
        refine J.istore_n (L' := [_, _, _, _]) (pc := 31) G dX4_childCount_31 rfl (Nat.le_of_ble_eq_true rfl) rfl ?_
        refine J.iincN (L' := [_, _, _, _]) (pc := 32) G dX4_childCount_32 1 rfl rfl rfl rfl ?_
        refine J.goto (pc := 35) (tgt := 6) G dX4_childCount_35 (by decide) ?_
        rw [← hy]
        exact ih (k + 1) ⟨by omega, by omega⟩ (by omega)
      refine J.iload_n (pc := 14) G dX4_childCount_14 rfl ?_
      refine J.aload_n (pc := 15) G dX4_childCount_15 rfl ?_
      refine J.getf (pc := 16) (ci := 4) G inX4 rfl 10 q705 dX4_childCount_16 (hM.at 0 rfl) (by decide) rfl ?_
      refine J.iload_n (pc := 19) G dX4_childCount_19 rfl ?_
      refine J.iald (pc := 20) G dX4_childCount_20 (hM.at 6 rfl) k rfl (by omega) (by decide) ?_
      rw [hP]
      refine J.iload_n (pc := 21) G dX4_childCount_21 rfl ?_
      refine J.icmp_ne (pc := 22) (tgt := 29) G dX4_childCount_22 (by decide) (by omega) (by omega) (by omega) (by omega) (fun h2 => ?_) (fun h2 => ?_)
      · refine J.iconstN (pc := 29) G dX4_childCount_29 0 rfl ?_
        exact nx 0 (by rw [hstep, if_neg h2])
      · refine J.iconstN (pc := 25) G dX4_childCount_25 1 rfl ?_
        refine J.goto (pc := 26) (tgt := 30) G dX4_childCount_26 (by decide) ?_
        exact nx 1 (by rw [hstep, if_pos h2])
  have := K1 (i + 1) ⟨Nat.le_refl _, by omega⟩
  rw [chN_low (fun k hk => (gp k hk).2) hi (i + 1) (Nat.le_refl _)] at this
  exact this
set_option maxRecDepth 100000 in
set_option maxHeartbeats 4000000 in
theorem m_childOf (n : Nat) (M : AH) {a i c : Nat} {R : Nat → Nat → Nat} {P : Nat → Int} {Z : Nat → Nat} {nd : List Nd} (hM : Cl M a (modC a R P Z)) (hT : MdT R P Z nd) (hi : i < nd.length) (hc : c < (chl nd i).length) : Fn yX4_childOf cX4_childOf 5 (some .int) 0 [.ref a, .int (iI (i : Int)), .int (iI (c : Int))] n M 0 0 (fun r n' M' => r = some (.int (iI ((gd (chl nd i) c : Nat) : Int))) ∧ n' = n ∧ M' = M) := by
  refine Fn.of (by decide) [some _, some _, some _, none, none] rfl rfl (Nat.le_of_ble_eq_true rfl) ?_
  intro g G hin hO
  obtain ⟨g8, g64, gi, gp⟩ := hT
  have hc9 : c < (chN nd i nd.length).length := hc
  refine J.iload_n (pc := 0) G dX4_childOf_0 rfl ?_
  refine J.istore_n (L' := [_, _, _, _, _]) (pc := 1) G dX4_childOf_1 rfl (Nat.le_of_ble_eq_true rfl) rfl ?_
  refine J.iload_n (pc := 2) G dX4_childOf_2 rfl ?_
  refine J.iconstN (pc := 3) G dX4_childOf_3 1 rfl ?_
  refine J.iaddN (pc := 4) G dX4_childOf_4 ?_
  refine J.istore (L' := [_, _, _, _, _]) (pc := 5) G dX4_childOf_5 rfl (Nat.le_of_ble_eq_true rfl) rfl ?_
  have K1 : ∀ k : Nat, (i + 1 ≤ k ∧ (chN nd i k).length ≤ c) → J g 0 0 n M [some (.ref a), some (.int (iI (i : Int))), some (.int (iI (c : Int))), some (.int (iI ((c - (chN nd i k).length : Nat) : Int))), some (.int (iI (k : Int)))] 7 [] := by
    refine loopJ (fun k => nd.length - k) _ _ ?_
    rintro k ⟨hk1, hk2⟩ ih
    have hkl : k < nd.length := by
      rcases Nat.lt_or_ge k nd.length with q | q
      · exact q
      · have := chN_mono (nd := nd) (i := i) (k := nd.length) (k - nd.length)
        rw [show nd.length + (k - nd.length) = k by omega] at this
        omega
    have hstep := chN_len (nd := nd) (i := i) (k := k)
    have hP := (gi k hkl).2.1
    have hPb := gp k hkl
    have hc8 : (chl nd i).length ≤ nd.length := by unfold chl; exact Nat.le_trans (List.length_filter_le _ _) (by rw [List.length_range]; exact Nat.le_refl _)
    have hgd : ndP nd k = (i : Int) → (chN nd i k).length = c → gd (chl nd i) c = k := by
      intro h1 h2
      have := chN_gd (nd := nd) (i := i) (k := k) h1 (nd.length - (k + 1))
      rw [show k + 1 + (nd.length - (k + 1)) = nd.length by omega, h2] at this
      exact this
    generalize (chN nd i k).length = x at hk2 hstep hgd ⊢
    have K22 : ¬ (ndP nd k = (i : Int) ∧ x = c) → J g 0 0 n M [some (.ref a), some (.int (iI (i : Int))), some (.int (iI (c : Int))), some (.int (iI ((c - x : Nat) : Int))), some (.int (iI (k : Int)))] 22 [] := by
      intro hno
      have nx : ∀ y : Nat, (chN nd i (k + 1)).length = x + y → y ≤ c - x → J g 0 0 n M [some (.ref a), some (.int (iI (i : Int))), some (.int (iI (c : Int))), some (.int (iI ((c - x : Nat) : Int))), some (.int (iI (k : Int)))] 39 [.int (iI (y : Int)), .int (iI ((c - x : Nat) : Int))] := by
        intro y hy hyc
        refine J.isubN (pc := 39) G dX4_childOf_39 (by omega) ?_
        refine J.istore_n (L' := [_, _, _, _, _]) (pc := 40) G dX4_childOf_40 rfl (Nat.le_of_ble_eq_true rfl) rfl ?_
        refine J.iincN (L' := [_, _, _, _, _]) (pc := 41) G dX4_childOf_41 1 rfl rfl rfl rfl ?_
        refine J.goto (pc := 44) (tgt := 7) G dX4_childOf_44 (by decide) ?_
        have := ih (k + 1) ⟨by omega, by omega⟩ (by omega)
        rw [hy, show c - (x + y) = c - x - y by omega] at this
        exact this
      refine J.iload_n (pc := 22) G dX4_childOf_22 rfl ?_
      refine J.aload_n (pc := 23) G dX4_childOf_23 rfl ?_
      refine J.getf (pc := 24) (ci := 4) G inX4 rfl 10 q705 dX4_childOf_24 (hM.at 0 rfl) (by decide) rfl ?_
      refine J.iload (pc := 27) G dX4_childOf_27 rfl ?_
      refine J.iald (pc := 29) G dX4_childOf_29 (hM.at 6 rfl) k rfl (by omega) (by decide) ?_
      rw [hP]
      refine J.iload_n (pc := 30) G dX4_childOf_30 rfl ?_
      refine J.icmp_ne (pc := 31) (tgt := 38) G dX4_childOf_31 (by decide) (by omega) (by omega) (by omega) (by omega) (fun h2 => ?_) (fun h2 => ?_)
      · refine J.iconstN (pc := 38) G dX4_childOf_38 0 rfl ?_
        exact nx 0 (by rw [hstep, if_neg h2]) (Nat.zero_le _)
      · refine J.iconstN (pc := 34) G dX4_childOf_34 1 rfl ?_
        refine J.goto (pc := 35) (tgt := 39) G dX4_childOf_35 (by decide) ?_
        exact nx 1 (by rw [hstep, if_pos h2]) (by
          have : x ≠ c := fun e => hno ⟨h2, e⟩
          omega)
    refine J.aload_n (pc := 7) G dX4_childOf_7 rfl ?_
    refine J.getf (pc := 8) (ci := 4) G inX4 rfl 10 q705 dX4_childOf_8 (hM.at 0 rfl) (by decide) rfl ?_
    refine J.iload (pc := 11) G dX4_childOf_11 rfl ?_
    refine J.iald (pc := 13) G dX4_childOf_13 (hM.at 6 rfl) k rfl (by omega) (by decide) ?_
    rw [hP]
    refine J.iload_n (pc := 14) G dX4_childOf_14 rfl ?_
    refine J.icmp_ne (pc := 15) (tgt := 22) G dX4_childOf_15 (by decide) (by omega) (by omega) (by omega) (by omega) (fun h2 => K22 (fun q => h2 q.1)) (fun h2 => ?_)
    refine J.iload_n (pc := 18) G dX4_childOf_18 rfl ?_
    refine J.if_le (pc := 19) (tgt := 47) G dX4_childOf_19 (by decide) (by omega) (by omega) (fun h3 => ?_) (fun h3 => K22 (by omega))
    refine J.iload (pc := 47) G dX4_childOf_47 rfl ?_
    exact J.iret (pc := 49) G hO dX4_childOf_49 (by decide) (by decide) ⟨by rw [hgd h2 (by omega)], rfl, rfl⟩
  have := K1 (i + 1) ⟨Nat.le_refl _, by rw [chN_low (fun k hk => (gp k hk).2) hi (i + 1) (Nat.le_refl _)]; exact Nat.zero_le _⟩
  rw [chN_low (fun k hk => (gp k hk).2) hi (i + 1) (Nat.le_refl _)] at this
  exact this
end MOD9
