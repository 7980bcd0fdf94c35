section MOD10
set_option maxRecDepth 100000 in
set_option maxHeartbeats 4000000 in
theorem m_children (n : Nat) (M0 : AH) {a : Nat} {v : Int} {R : Nat → Nat → Nat} {P : Nat → Int} {Z : Nat → Nat} {nd : List Nd} (hM : Cl M0 a (modC a R P Z)) (h7 : Z 7 ≤ 1) (h8 : Z 8 ≤ 64) (hT : Z 7 = 1 → MdT R P Z nd) (hv : Rng v) : Fn yX4_children cX4_children 2 (some .int) 1 [.ref a, .int (iI v)] n M0 0 0 (fun r n' M' => (askC Z v (Z 8) = 0 ∧ MRead n M0 a R P Z (.int (iI (((chl nd v.toNat).length : Nat) : Int))) 0 r n' M') ∨ (askC Z v (Z 8) ≠ 0 ∧ MRead n M0 a R P Z (.int (iI ((0 : Nat) : Int))) (askC Z v (Z 8)) r n' M')) := by
  refine Fn.of (by decide) [some _, some _] rfl rfl (Nat.le_of_ble_eq_true rfl) ?_
  intro g G hin hO
  refine J.aload_n (pc := 0) G dX4_children_0 rfl ?_
  refine J.iload_n (pc := 1) G dX4_children_1 rfl ?_
  refine J.aload_n (pc := 2) G dX4_children_2 rfl ?_
  refine J.getf (pc := 3) (ci := 4) G inX4 rfl 8 q703 dX4_children_3 (hM.at 0 rfl) (by decide) rfl ?_
  refine J.callV (pc := 6) (na := 2) G (m_asks n M0 (v := v) (lim := Z 8) hM h7 hv (by omega)) q889 q891 qp48 q892 q5 (by decide +kernel) dX4_children_6 (hM.at 0 rfl) rfl rfl (Nat.le_of_ble_eq_true rfl) rfl ⟨by omega, by decide, by omega, by omega⟩ ?_
  rintro r9 n9 M7 ⟨hr9, hn9, ⟨hM7, hFr7⟩⟩
  subst hr9
  rw [hn9]
  clear hn9 n9
  dsimp only [Option.toList, List.cons_append, List.nil_append]
  refine J.if_eq_b (pc := 9) (tgt := 20) G dX4_children_9 (by decide) (fun hb => ?_) (fun hb => ?_)
  · refine J.iconstN (pc := 20) G dX4_children_20 0 rfl ?_
    exact J.iret (pc := 21) G hO dX4_children_21 (by decide) (by decide) (Or.inr ⟨of_decide_eq_false hb, rfl, rfl, hM7, hFr7⟩)
  · have h0 := of_decide_eq_true hb
    obtain ⟨hs1, hv0, hv8⟩ := askC_ok h0
    have hT := hT hs1
    rw [hT.1] at hv8
    rw [show v = ((v.toNat : Nat) : Int) by omega]
    refine J.aload_n (pc := 12) G dX4_children_12 rfl ?_
    refine J.iload_n (pc := 13) G dX4_children_13 rfl ?_
    refine J.callV (pc := 14) (na := 1) G (m_childCount n M7 (i := v.toNat) (nd := nd) hM7 (hT.keep ⟨rfl, rfl, rfl⟩) (by omega)) q905 q907 qp49 q908 q5 (by decide +kernel) dX4_children_14 (hM7.at 0 rfl) rfl rfl (Nat.le_of_ble_eq_true rfl) rfl ⟨by omega, by decide, by omega, by omega⟩ ?_
    rintro r9 n9 M9 ⟨hr9, hn9, hM9⟩
    subst hr9
    rw [hn9, hM9]
    clear hn9 hM9 n9 M9
    dsimp only [Option.toList, List.cons_append, List.nil_append]
    refine J.goto (pc := 17) (tgt := 21) G dX4_children_17 (by decide) ?_
    exact J.iret (pc := 21) G hO dX4_children_21 (by decide) (by decide) (Or.inl ⟨h0, rfl, rfl, h0 ▸ hM7, hFr7⟩)
set_option maxRecDepth 100000 in
set_option maxHeartbeats 4000000 in
theorem m_child (n : Nat) (M0 : AH) {a : Nat} {u v : Int} {R : Nat → Nat → Nat} {P : Nat → Int} {Z : Nat → Nat} {nd : List Nd} (hM : Cl M0 a (modC a R P Z)) (h7 : Z 7 ≤ 1) (h8 : Z 8 ≤ 64) (hT : Z 7 = 1 → MdT R P Z nd) (hu : Rng u) (hv : Rng v) : Fn yX4_child cX4_child 3 (some .int) 1 [.ref a, .int (iI u), .int (iI v)] n M0 0 0 (fun r n' M' => (askC Z u (Z 8) = 0 ∧ ((askC Z v (chl nd u.toNat).length = 0 ∧ MRead n M0 a R P Z (.int (iI ((gd (chl nd u.toNat) v.toNat : Nat) : Int))) 0 r n' M') ∨ (askC Z v (chl nd u.toNat).length ≠ 0 ∧ MRead n M0 a R P Z (.int (iI ((0 : Nat) : Int))) (askC Z v (chl nd u.toNat).length) r n' M'))) ∨ (askC Z u (Z 8) ≠ 0 ∧ MRead n M0 a R P Z (.int (iI ((0 : Nat) : Int))) (askC Z u (Z 8)) r n' M')) := by
  refine Fn.of (by decide) [some _, some _, some _] rfl rfl (Nat.le_of_ble_eq_true rfl) ?_
  intro g G hin hO
  refine J.aload_n (pc := 0) G dX4_child_0 rfl ?_
  refine J.iload_n (pc := 1) G dX4_child_1 rfl ?_
  refine J.aload_n (pc := 2) G dX4_child_2 rfl ?_
  refine J.getf (pc := 3) (ci := 4) G inX4 rfl 8 q703 dX4_child_3 (hM.at 0 rfl) (by decide) rfl ?_
  refine J.callV (pc := 6) (na := 2) G (m_asks n M0 (v := u) (lim := Z 8) hM h7 hu (by omega)) q889 q891 qp48 q892 q5 (by decide +kernel) dX4_child_6 (hM.at 0 rfl) rfl rfl (Nat.le_of_ble_eq_true rfl) rfl ⟨by omega, by decide, by omega, by omega⟩ ?_
  rintro r9 n9 M7 ⟨hr9, hn9, ⟨hM7, hFr7⟩⟩
  subst hr9
  rw [hn9]
  clear hn9 n9
  dsimp only [Option.toList, List.cons_append, List.nil_append]
  refine J.if_eq_b (pc := 9) (tgt := 34) G dX4_child_9 (by decide) (fun hb => ?_) (fun hb => ?_)
  · refine J.iconstN (pc := 34) G dX4_child_34 0 rfl ?_
    exact J.iret (pc := 35) G hO dX4_child_35 (by decide) (by decide) (Or.inr ⟨of_decide_eq_false hb, rfl, rfl, hM7, hFr7⟩)
  · have h0 := of_decide_eq_true hb
    obtain ⟨hs1, hu0, hu8⟩ := askC_ok h0
    have hT := hT hs1
    rw [hT.1] at hu8
    rw [h0] at hM7
    have eu : ((u.toNat : Nat) : Int) = u := by omega
    rw [← eu]
    have hT7 : MdT R P (upN Z 0 0) nd := hT.keep ⟨rfl, rfl, rfl⟩
    have hcl : (chl nd u.toNat).length ≤ nd.length := by unfold chl; exact Nat.le_trans (List.length_filter_le _ _) (by rw [List.length_range]; exact Nat.le_refl _)
    have h64 := hT.2.1
    refine J.aload_n (pc := 12) G dX4_child_12 rfl ?_
    refine J.iload_n (pc := 13) G dX4_child_13 rfl ?_
    refine J.aload_n (pc := 14) G dX4_child_14 rfl ?_
    refine J.iload_n (pc := 15) G dX4_child_15 rfl ?_
    refine J.callV (pc := 16) (na := 1) G (m_childCount n M7 (i := u.toNat) (nd := nd) hM7 hT7 (by omega)) q905 q907 qp49 q908 q5 (by decide +kernel) dX4_child_16 (hM7.at 0 rfl) rfl rfl (Nat.le_of_ble_eq_true rfl) rfl ⟨by omega, by decide, by omega, by omega⟩ ?_
    rintro r9 n9 M9 ⟨hr9, hn9, hM9⟩
    subst hr9
    rw [hn9, hM9]
    clear hn9 hM9 n9 M9
    dsimp only [Option.toList, List.cons_append, List.nil_append]
    refine J.callV (pc := 19) (na := 2) G (m_asks n M7 (v := v) (lim := (chl nd u.toNat).length) hM7 h7 hv (by omega)) q889 q891 qp48 q892 q5 (by decide +kernel) dX4_child_19 (hM7.at 0 rfl) rfl rfl (Nat.le_of_ble_eq_true rfl) rfl ⟨by omega, by decide, by omega, by omega⟩ ?_
    rintro r9 n9 M8 ⟨hr9, hn9, ⟨hM8, hFr8⟩⟩
    subst hr9
    rw [hn9]
    clear hn9 n9
    dsimp only [Option.toList, List.cons_append, List.nil_append]
    rw [upN2, show askC (upN Z 0 0) v (chl nd u.toNat).length = askC Z v (chl nd u.toNat).length from rfl] at hM8
    rw [show askC (upN Z 0 0) v (chl nd u.toNat).length = askC Z v (chl nd u.toNat).length from rfl]
    refine J.if_eq_b (pc := 22) (tgt := 34) G dX4_child_22 (by decide) (fun hb2 => ?_) (fun hb2 => ?_)
    · refine J.iconstN (pc := 34) G dX4_child_34 0 rfl ?_
      exact J.iret (pc := 35) G hO dX4_child_35 (by decide) (by decide) (Or.inl ⟨h0, Or.inr ⟨of_decide_eq_false hb2, rfl, rfl, hM8, hFr7.trans hFr8⟩⟩)
    · have h02 := of_decide_eq_true hb2
      obtain ⟨-, hv0, hv8⟩ := askC_ok h02
      rw [h02] at hM8
      rw [show v = ((v.toNat : Nat) : Int) by omega]
      refine J.aload_n (pc := 25) G dX4_child_25 rfl ?_
      refine J.iload_n (pc := 26) G dX4_child_26 rfl ?_
      refine J.iload_n (pc := 27) G dX4_child_27 rfl ?_
      refine J.callV (pc := 28) (na := 2) G (m_childOf n M8 (i := u.toNat) (c := v.toNat) (nd := nd) hM8 hT7 (by omega) (by omega)) q913 q915 qp50 q916 q5 (by decide +kernel) dX4_child_28 (hM8.at 0 rfl) rfl rfl (Nat.le_of_ble_eq_true rfl) rfl ⟨by omega, by decide, by omega, by omega⟩ ?_
      rintro r9 n9 M9 ⟨hr9, hn9, hM9⟩
      subst hr9
      rw [hn9, hM9]
      clear hn9 hM9 n9 M9
      dsimp only [Option.toList, List.cons_append, List.nil_append]
      refine J.goto (pc := 31) (tgt := 35) G dX4_child_31 (by decide) ?_
      exact J.iret (pc := 35) G hO dX4_child_35 (by decide) (by decide) (Or.inl ⟨h0, Or.inl ⟨h02, rfl, rfl, hM8, hFr7.trans hFr8⟩⟩)
/-- what a tree's shapes keep: leaves have no children, the others have some -/
def ShOk (nd : List Nd) : Prop := ∀ i, i < nd.length → ndK nd i ≤ 6 ∧ ((ndK nd i = 0 ∨ ndK nd i = 1 ∨ ndK nd i = 6) → (chl nd i).length = 0) ∧ ((ndK nd i = 2 ∨ ndK nd i = 3 ∨ ndK nd i = 4 ∨ ndK nd i = 5) → 1 ≤ (chl nd i).length)
def shA (nd : List Nd) (f : Nat → Nat) (i k : Nat) : Nat := if ndK nd i = 2 then leC nd f i (k - 1) else sumC nd f i k
set_option maxRecDepth 100000 in
set_option maxHeartbeats 4000000 in
theorem m_shortestOf (n : Nat) (M : AH) {a : Nat} {R : Nat → Nat → Nat} {P : Nat → Int} {Z : Nat → Nat} {nd : List Nd} {f : Nat → Nat} (hM : Cl M a (modC a R P Z)) (hT : MdT R P Z nd) (hsh : ShOk nd) (hf : ∀ i, i < nd.length → f i = lbC nd f i) (hfb : ∀ i, i < nd.length → f i ≤ 64) : ∀ (m i : Nat), i < nd.length → nd.length - i = m → Fn yX4_shortestOf cX4_shortestOf 6 (some .int) (1 + m) [.ref a, .int (iI (i : Int))] n M 0 0 (fun r n' M' => r = some (.int (iI ((f i : Nat) : Int))) ∧ n' = n ∧ M' = M) := by
  intro m
  induction m using Nat.strongRecOn with
  | ind m IH =>
    intro i hi hm
    refine Fn.of (by decide) [some _, some _, none, none, none, none] rfl rfl (Nat.le_of_ble_eq_true rfl) ?_
    intro g G hin hO
    obtain ⟨g8, g64, gi, gp⟩ := id hT
    obtain ⟨hk6, hlf, hin9⟩ := hsh i hi
    have hK := (gi i hi).1
    have hfi := hf i hi
    have hcl : (chl nd i).length ≤ nd.length := by unfold chl; exact Nat.le_trans (List.length_filter_le _ _) (by rw [List.length_range]; exact Nat.le_refl _)
    unfold lbC at hfi
    refine J.aload_n (pc := 0) G dX4_shortestOf_0 rfl ?_
    refine J.iload_n (pc := 1) G dX4_shortestOf_1 rfl ?_
    refine J.callV (pc := 2) (na := 1) G (m_childCount n M (i := i) (nd := nd) hM hT hi) q905 q907 qp49 q908 q5 (by decide +kernel) dX4_shortestOf_2 (hM.at 0 rfl) rfl rfl (Nat.le_of_ble_eq_true rfl) rfl ⟨by omega, by decide, by omega, by omega⟩ ?_
    rintro r9 n9 M9 ⟨hr9, hn9, hM9⟩
    subst hr9
    rw [hn9, hM9]
    clear hn9 hM9 n9 M9
    dsimp only [Option.toList, List.cons_append, List.nil_append]
    refine J.istore_n (L' := [_, _, _, _, _, _]) (pc := 5) G dX4_shortestOf_5 rfl (Nat.le_of_ble_eq_true rfl) rfl ?_
    refine J.iload_n (pc := 6) G dX4_shortestOf_6 rfl ?_
    refine J.if_neN (pc := 7) (tgt := 26) G dX4_shortestOf_7 (by decide) (by omega) (fun h => ?_) (fun h => ?_)
    · have hc0 := chl_in (nd := nd) (i := i) (c := 0) h
      have hp0 := (gp _ hc0.1).2
      have hm0 := IH (nd.length - gd (chl nd i) 0) (by omega) (gd (chl nd i) 0) hc0.1 rfl
      have hk2 : ndK nd i = 2 ∨ ndK nd i = 3 ∨ ndK nd i = 4 ∨ ndK nd i = 5 := by
        rcases (show ndK nd i = 0 ∨ ndK nd i = 1 ∨ ndK nd i = 6 ∨ ndK nd i = 2 ∨ ndK nd i = 3 ∨ ndK nd i = 4 ∨ ndK nd i = 5 by omega) with q | q | q | q
        · have := hlf (Or.inl q); omega
        · have := hlf (Or.inr (Or.inl q)); omega
        · have := hlf (Or.inr (Or.inr q)); omega
        · exact q
      refine J.aload_n (pc := 26) G dX4_shortestOf_26 rfl ?_
      refine J.aload_n (pc := 27) G dX4_shortestOf_27 rfl ?_
      refine J.iload_n (pc := 28) G dX4_shortestOf_28 rfl ?_
      refine J.iconstN (pc := 29) G dX4_shortestOf_29 0 rfl ?_
      refine J.callV (pc := 30) (na := 2) G (m_childOf n M (i := i) (c := 0) (nd := nd) hM hT hi h) q913 q915 qp50 q916 q5 (by decide +kernel) dX4_shortestOf_30 (hM.at 0 rfl) rfl rfl (Nat.le_of_ble_eq_true rfl) rfl ⟨by omega, by decide, by omega, by omega⟩ ?_
      rintro r9 n9 M9 ⟨hr9, hn9, hM9⟩
      subst hr9
      rw [hn9, hM9]
      clear hn9 hM9 n9 M9
      dsimp only [Option.toList, List.cons_append, List.nil_append]
      refine J.callV (pc := 33) (na := 1) G (hm0) q921 q923 qp51 q924 q5 (by decide +kernel) dX4_shortestOf_33 (hM.at 0 rfl) rfl rfl (Nat.le_of_ble_eq_true rfl) rfl ⟨by omega, by decide, by omega, by omega⟩ ?_
      rintro r9 n9 M9 ⟨hr9, hn9, hM9⟩
      subst hr9
      rw [hn9, hM9]
      clear hn9 hM9 n9 M9
      dsimp only [Option.toList, List.cons_append, List.nil_append]
      refine J.istore_n (L' := [_, _, _, _, _, _]) (pc := 36) G dX4_shortestOf_36 rfl (Nat.le_of_ble_eq_true rfl) rfl ?_
      refine J.iconstN (pc := 37) G dX4_shortestOf_37 1 rfl ?_
      refine J.istore (L' := [_, _, _, _, _, _]) (pc := 38) G dX4_shortestOf_38 rfl (Nat.le_of_ble_eq_true rfl) rfl ?_
      have K40 : ∀ k : Nat, (1 ≤ k ∧ k ≤ (chl nd i).length) → ∀ w, w = (if ndK nd i = 5 then f (gd (chl nd i) 0) else shA nd f i k) → ∀ l5, J g 0 0 n M [some (.ref a), some (.int (iI (i : Int))), some (.int (iI ((chl nd i).length : Int))), some (.int (iI (w : Int))), some (.int (iI (k : Int))), l5] 40 [] := by
        refine loopJ (fun k => (chl nd i).length - k) _ _ ?_
        rintro k ⟨hk1, hk9⟩ ih w hw l5
        have K99 : w = f i → J g 0 0 n M [some (.ref a), some (.int (iI (i : Int))), some (.int (iI ((chl nd i).length : Int))), some (.int (iI (w : Int))), some (.int (iI (k : Int))), l5] 99 [] := by
          intro he
          refine J.iload_n (pc := 99) G dX4_shortestOf_99 rfl ?_
          exact J.iret (pc := 100) G hO dX4_shortestOf_100 (by decide) (by decide) ⟨by rw [he], rfl, rfl⟩
        refine J.iload (pc := 40) G dX4_shortestOf_40 rfl ?_
        refine J.iload_n (pc := 42) G dX4_shortestOf_42 rfl ?_
        refine J.icmp_geN (pc := 43) (tgt := 99) G dX4_shortestOf_43 (by decide) (by omega) (by omega) (fun h2 => ?_) (fun h2 => ?_)
        · refine K99 ?_
          have hkl : k = (chl nd i).length := by omega
          rw [hw, hfi]
          unfold shA
          rcases hk2 with q | q | q | q
          · rw [if_neg (by omega), if_pos q, if_neg (by omega), if_pos q, hkl]
          · rw [if_neg (by omega), if_neg (by omega), if_neg (by omega), if_neg (by omega), if_pos (Or.inl q), hkl]
          · rw [if_neg (by omega), if_neg (by omega), if_neg (by omega), if_neg (by omega), if_pos (Or.inr q), hkl]
          · rw [if_pos q, if_neg (by omega), if_neg (by omega), if_neg (by omega), if_pos q]
        · refine J.aload_n (pc := 46) G dX4_shortestOf_46 rfl ?_
          refine J.getf (pc := 47) (ci := 4) G inX4 rfl 9 q704 dX4_shortestOf_47 (hM.at 0 rfl) (by decide) rfl ?_
          refine J.iload_n (pc := 50) G dX4_shortestOf_50 rfl ?_
          refine J.ialdN (pc := 51) G dX4_shortestOf_51 (hM.at 5 rfl) (by omega) (by decide) ?_
          rw [hK]
          refine J.iconstN (pc := 52) G dX4_shortestOf_52 5 rfl ?_
          refine J.icmp_eqN (pc := 53) (tgt := 99) G dX4_shortestOf_53 (by decide) (by omega) (by omega) (fun h5 => ?_) (fun h5 => ?_)
          · refine K99 ?_
            rw [hw, hfi, if_pos h5, if_neg (by omega), if_neg (by omega), if_neg (by omega), if_pos h5]
          · rw [if_neg h5] at hw
            have hck := chl_in (nd := nd) (i := i) (c := k) h2
            have hpk := (gp _ hck.1).2
            have hmk := IH (nd.length - gd (chl nd i) k) (by omega) (gd (chl nd i) k) hck.1 rfl
            have hbk := hfb _ hck.1
            have hb0 := hfb _ hc0.1
            have nx : ∀ y : Nat, y = shA nd f i (k + 1) → J g 0 0 n M [some (.ref a), some (.int (iI (i : Int))), some (.int (iI ((chl nd i).length : Int))), some (.int (iI (w : Int))), some (.int (iI (k : Int))), some (.int (iI ((f (gd (chl nd i) k) : Nat) : Int)))] 92 [.int (iI (y : Int))] := by
              intro y hy
              refine J.istore_n (L' := [_, _, _, _, _, _]) (pc := 92) G dX4_shortestOf_92 rfl (Nat.le_of_ble_eq_true rfl) rfl ?_
              refine J.iincN (L' := [_, _, _, _, _, _]) (pc := 93) G dX4_shortestOf_93 1 rfl rfl rfl rfl ?_
              refine J.goto (pc := 96) (tgt := 40) G dX4_shortestOf_96 (by decide) ?_
              exact ih (k + 1) ⟨by omega, by omega⟩ (by omega) y (by rw [if_neg h5]; exact hy) _
            refine J.aload_n (pc := 56) G dX4_shortestOf_56 rfl ?_
            refine J.aload_n (pc := 57) G dX4_shortestOf_57 rfl ?_
            refine J.iload_n (pc := 58) G dX4_shortestOf_58 rfl ?_
            refine J.iload (pc := 59) G dX4_shortestOf_59 rfl ?_
            refine J.callV (pc := 61) (na := 2) G (m_childOf n M (i := i) (c := k) (nd := nd) hM hT hi h2) q913 q915 qp50 q916 q5 (by decide +kernel) dX4_shortestOf_61 (hM.at 0 rfl) rfl rfl (Nat.le_of_ble_eq_true rfl) rfl ⟨by omega, by decide, by omega, by omega⟩ ?_
            rintro r9 n9 M9 ⟨hr9, hn9, hM9⟩
            subst hr9
            rw [hn9, hM9]
            clear hn9 hM9 n9 M9
            dsimp only [Option.toList, List.cons_append, List.nil_append]
            refine J.callV (pc := 64) (na := 1) G (hmk) q921 q923 qp51 q924 q5 (by decide +kernel) dX4_shortestOf_64 (hM.at 0 rfl) rfl rfl (Nat.le_of_ble_eq_true rfl) rfl ⟨by omega, by decide, by omega, by omega⟩ ?_
            rintro r9 n9 M9 ⟨hr9, hn9, hM9⟩
            subst hr9
            rw [hn9, hM9]
            clear hn9 hM9 n9 M9
            dsimp only [Option.toList, List.cons_append, List.nil_append]
            refine J.istore (L' := [_, _, _, _, _, _]) (pc := 67) G dX4_shortestOf_67 rfl (Nat.le_of_ble_eq_true rfl) rfl ?_
            refine J.aload_n (pc := 69) G dX4_shortestOf_69 rfl ?_
            refine J.getf (pc := 70) (ci := 4) G inX4 rfl 9 q704 dX4_shortestOf_70 (hM.at 0 rfl) (by decide) rfl ?_
            refine J.iload_n (pc := 73) G dX4_shortestOf_73 rfl ?_
            refine J.ialdN (pc := 74) G dX4_shortestOf_74 (hM.at 5 rfl) (by omega) (by decide) ?_
            rw [hK]
            refine J.iconstN (pc := 75) G dX4_shortestOf_75 2 rfl ?_
            unfold shA at hw nx
            refine J.icmp_neN (pc := 76) (tgt := 88) G dX4_shortestOf_76 (by decide) (by omega) (by omega) (fun h6 => ?_) (fun h6 => ?_)
            · rw [if_neg h6] at hw nx
              refine J.iload_n (pc := 88) G dX4_shortestOf_88 rfl ?_
              refine J.iload (pc := 89) G dX4_shortestOf_89 rfl ?_
              refine J.iaddN (pc := 91) G dX4_shortestOf_91 ?_
              exact nx _ (by rw [hw]; rfl)
            · rw [if_pos h6] at hw nx
              have hwb : w ≤ f (gd (chl nd i) 0) := by rw [hw]; exact leC_le
              refine J.iload_n (pc := 79) G dX4_shortestOf_79 rfl ?_
              refine J.iload (pc := 80) G dX4_shortestOf_80 rfl ?_
              refine J.mmin (pc := 82) G q873 dX4_shortestOf_82 (by omega) (Nat.le_of_ble_eq_true rfl) rfl (by decide) (by decide) (by omega) (by omega) ?_
              refine J.goto (pc := 85) (tgt := 92) G dX4_shortestOf_85 (by decide) ?_
              refine nx _ ?_
              obtain ⟨j, rfl⟩ : ∃ j, k = j + 1 := ⟨k - 1, by omega⟩
              rw [hw, show j + 1 + 1 - 1 = j + 1 by omega, show j + 1 - 1 = j by omega]
              show min _ _ = min _ (f (gd (chl nd i) (1 + j)))
              rw [Nat.add_comm 1 j]
              rfl
      exact K40 1 ⟨Nat.le_refl _, h⟩ _ (by
        unfold shA
        split
        · rfl
        · split
          · rfl
          · show _ = 0 + f (gd (chl nd i) 0)
            omega) _
    · have hk01 : ndK nd i = 0 ∨ ndK nd i = 1 ∨ ndK nd i = 6 := by
        rcases (show ndK nd i = 0 ∨ ndK nd i = 1 ∨ ndK nd i = 6 ∨ (ndK nd i = 2 ∨ ndK nd i = 3 ∨ ndK nd i = 4 ∨ ndK nd i = 5) by omega) with q | q | q | q
        · exact Or.inl q
        · exact Or.inr (Or.inl q)
        · exact Or.inr (Or.inr q)
        · have := hin9 q; omega
      refine J.aload_n (pc := 10) G dX4_shortestOf_10 rfl ?_
      refine J.getf (pc := 11) (ci := 4) G inX4 rfl 9 q704 dX4_shortestOf_11 (hM.at 0 rfl) (by decide) rfl ?_
      refine J.iload_n (pc := 14) G dX4_shortestOf_14 rfl ?_
      refine J.ialdN (pc := 15) G dX4_shortestOf_15 (hM.at 5 rfl) (by omega) (by decide) ?_
      rw [hK]
      refine J.iconstN (pc := 16) G dX4_shortestOf_16 1 rfl ?_
      refine J.icmp_neN (pc := 17) (tgt := 24) G dX4_shortestOf_17 (by decide) (by omega) (by omega) (fun h2 => ?_) (fun h2 => ?_)
      · refine J.iconstN (pc := 24) G dX4_shortestOf_24 0 rfl ?_
        exact J.iret (pc := 25) G hO dX4_shortestOf_25 (by decide) (by decide) ⟨by rw [hfi, if_neg h2, if_neg (by omega), if_neg (by omega), if_neg (by omega)], rfl, rfl⟩
      · refine J.iconstN (pc := 20) G dX4_shortestOf_20 1 rfl ?_
        refine J.goto (pc := 21) (tgt := 25) G dX4_shortestOf_21 (by decide) ?_
        exact J.iret (pc := 25) G hO dX4_shortestOf_25 (by decide) (by decide) ⟨by rw [hfi, if_pos h2], rfl, rfl⟩
end MOD10
