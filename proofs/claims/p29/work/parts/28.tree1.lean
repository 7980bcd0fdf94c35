section TREE1
abbrev Nd : Type := Nat × Int × Nat
def ndK (nd : List Nd) (i : Nat) : Nat := (nd.getD i (0, 0, 0)).1
def ndP (nd : List Nd) (i : Nat) : Int := (nd.getD i (0, 0, 0)).2.1
def ndS (nd : List Nd) (i : Nat) : Nat := (nd.getD i (0, 0, 0)).2.2
theorem nd_app {nd : List Nd} {x : Nd} {i : Nat} : (nd ++ [x]).getD i (0, 0, 0) = if i = nd.length then x else nd.getD i (0, 0, 0) := by
  simp only [List.getD_eq_getElem?_getD]
  by_cases e : i = nd.length
  · subst e; simp
  · rw [if_neg e]
    by_cases h : i < nd.length
    · rw [List.getElem?_append_left h]
    · rw [List.getElem?_eq_none (by simp; omega), List.getElem?_eq_none (by omega)]
/-- the children of a node, in their order -/
def chl (nd : List Nd) (i : Nat) : List Nat := (List.range nd.length).filter (fun k => decide (ndP nd k = (i : Int)))
theorem chl_app {nd : List Nd} {x : Nd} {i : Nat} : chl (nd ++ [x]) i = chl nd i ++ (if x.2.1 = (i : Int) then [nd.length] else []) := by
  unfold chl
  rw [List.length_append, List.length_singleton, List.range_succ, List.filter_append]
  congr 1
  · refine List.filter_congr (fun k hk => ?_)
    have : k < nd.length := List.mem_range.mp hk
    unfold ndP
    rw [nd_app, if_neg (by omega)]
  · have : ndP (nd ++ [x]) nd.length = x.2.1 := by unfold ndP; rw [nd_app, if_pos rfl]
    simp only [List.filter_cons, List.filter_nil, this]
    by_cases h : x.2.1 = (i : Int)
    · simp [h]
    · simp [h]
def TreeIs (A : Nat → Nat → Nat) (P : Nat → Int) (S : Nat → Nat) (nd : List Nd) : Prop :=
  S 6 = nd.length ∧ nd.length ≤ 64 ∧ (∀ i, i < nd.length → A 1 i = ndK nd i ∧ A 2 i = ndS nd i ∧ P i = ndP nd i ∧ A 4 i = (chl nd i).length ∧ (chl nd i).length ≤ 8 ∧ ∀ c, c < (chl nd i).length → A 5 (i * 8 + c) = gd (chl nd i) c) ∧ ∀ i, i < nd.length → ndP nd i < (i : Int)
def AddOk (nd : List Nd) (p : Int) : Prop := nd.length < 64 ∧ (p = -1 ∨ ∃ q : Nat, p = (q : Int) ∧ q < nd.length ∧ (chl nd q).length < 8)
theorem chl_new {nd : List Nd} (h : ∀ i, i < nd.length → ndP nd i < (i : Int)) : chl nd nd.length = [] := by
  unfold chl
  rw [List.filter_eq_nil_iff]
  intro k hk
  have hk2 : k < nd.length := List.mem_range.mp hk
  have := h k hk2
  simp; omega
theorem TreeIs.kids {A : Nat → Nat → Nat} {P : Nat → Int} {S : Nat → Nat} {nd : List Nd} (h : TreeIs A P S nd) {i : Nat} (hi : i < nd.length) : A 4 i = (chl nd i).length ∧ (chl nd i).length ≤ 8 := ⟨(h.2.2.1 i hi).2.2.2.1, (h.2.2.1 i hi).2.2.2.2.1⟩
set_option maxRecDepth 100000 in
set_option maxHeartbeats 4000000 in
theorem c_add (n : Nat) (M0 : AH) {a kd set : Nat} {p : Int} {A : Nat → Nat → Nat} {P : Nat → Int} {S : Nat → Nat} {nd : List Nd} (hT : Cl M0 a (treeC a A P S)) (hnd : TreeIs A P S nd) (hok : AddOk nd p) : Fn yX2_add cX2_add 5 (some .int) 0 [.ref a, .int (iI (kd : Int)), .int (iI (set : Int)), .int (iI p)] n M0 0 0 (fun r n' M' => r = some (.int (iI (nd.length : Int))) ∧ n' = n ∧ (∃ A' P' S', Cl M' a (treeC a A' P' S') ∧ TreeIs A' P' S' (nd ++ [(kd, p, set)])) ∧ Fr a (a + 7) M0 M') := by
  refine Fn.of (by decide) [some _, some _, some _, some _, none] rfl rfl (Nat.le_of_ble_eq_true rfl) ?_
  intro g G hin hO
  have hFr : Fr a (a + 7) M0 M0 := Fr.rf
  generalize hM1 : M0 = M1 at hT hFr
  obtain ⟨g6, g64, gi, gp⟩ := id hnd
  obtain ⟨h64, hpq⟩ := hok
  have hpr : -2147483648 ≤ p ∧ p < 2147483648 := by rcases hpq with q | ⟨q, h1, h2, -⟩ <;> omega
  refine J.aload_n (pc := 0) G dX2_add_0 rfl ?_
  refine J.getf (pc := 1) (ci := 2) G inX2 rfl 6 q44 dX2_add_1 (hT.at 0 rfl) (by decide) rfl ?_
  rw [g6]
  refine J.bipushN (pc := 4) G dX2_add_4 64 (by decide +kernel) ?_
  refine J.icmp_ltN (pc := 6) (tgt := 11) G dX2_add_6 (by decide) (by omega) (by omega) (fun h => ?_) (fun h => ?_)
  · refine J.aload_n (pc := 11) G dX2_add_11 rfl ?_
    refine J.getf (pc := 12) (ci := 2) G inX2 rfl 6 q44 dX2_add_12 (hT.at 0 rfl) (by decide) rfl ?_
    rw [g6]
    refine J.istore (L' := [_, _, _, _, _]) (pc := 15) G dX2_add_15 rfl (Nat.le_of_ble_eq_true rfl) rfl ?_
    refine J.aload_n (pc := 17) G dX2_add_17 rfl ?_
    refine J.getf (pc := 18) (ci := 2) G inX2 rfl 0 q31 dX2_add_18 (hT.at 0 rfl) (by decide) rfl ?_
    refine J.iload (pc := 21) G dX2_add_21 rfl ?_
    refine J.iload_n (pc := 23) G dX2_add_23 rfl ?_
    refine J.iastN (pc := 24) G dX2_add_24 (hT.at 1 rfl) (by omega) (by decide) (fun M hput hag => ?_)
    have hT := treeA1 hT hput hag
    have hFr := hFr.put hag (by omega) (by omega)
    clear hput hag
    refine J.aload_n (pc := 25) G dX2_add_25 rfl ?_
    refine J.getf (pc := 26) (ci := 2) G inX2 rfl 1 q34 dX2_add_26 (hT.at 0 rfl) (by decide) rfl ?_
    refine J.iload (pc := 29) G dX2_add_29 rfl ?_
    refine J.iload_n (pc := 31) G dX2_add_31 rfl ?_
    refine J.iastN (pc := 32) G dX2_add_32 (hT.at 2 rfl) (by omega) (by decide) (fun M hput hag => ?_)
    have hT := treeA2 hT hput hag
    have hFr := hFr.put hag (by omega) (by omega)
    clear hput hag
    refine J.aload_n (pc := 33) G dX2_add_33 rfl ?_
    refine J.getf (pc := 34) (ci := 2) G inX2 rfl 2 q37 dX2_add_34 (hT.at 0 rfl) (by decide) rfl ?_
    refine J.iload (pc := 37) G dX2_add_37 rfl ?_
    refine J.iload_n (pc := 39) G dX2_add_39 rfl ?_
    refine J.iast (pc := 40) G dX2_add_40 (hT.at 3 rfl) nd.length rfl (by omega) (by decide) (fun M hput hag => ?_)
    have hT := treeP hT hput hag
    have hFr := hFr.put hag (by omega) (by omega)
    clear hput hag
    refine J.aload_n (pc := 41) G dX2_add_41 rfl ?_
    refine J.getf (pc := 42) (ci := 2) G inX2 rfl 3 q39 dX2_add_42 (hT.at 0 rfl) (by decide) rfl ?_
    refine J.iload (pc := 45) G dX2_add_45 rfl ?_
    refine J.iconstN (pc := 47) G dX2_add_47 0 rfl ?_
    refine J.iastN (pc := 48) G dX2_add_48 (hT.at 4 rfl) (by omega) (by decide) (fun M hput hag => ?_)
    have hT := treeA4 hT hput hag
    have hFr := hFr.put hag (by omega) (by omega)
    clear hput hag
    refine J.aload_n (pc := 49) G dX2_add_49 rfl ?_
    refine J.dup (pc := 50) G dX2_add_50 rfl ?_
    refine J.getf (pc := 51) (ci := 2) G inX2 rfl 6 q44 dX2_add_51 (hT.at 0 rfl) (by decide) rfl ?_
    refine J.topv (b := iI (S 6 : Int)) rfl ?_
    rw [g6]
    refine J.iconstN (pc := 54) G dX2_add_54 1 rfl ?_
    refine J.iaddN (pc := 55) G dX2_add_55 ?_
    refine J.putf (pc := 56) (ci := 2) G inX2 rfl tyX2 tyX2_ok nmX2 6 q44 dX2_add_56 (hT.at 0 rfl) (by decide) (Nat.le_of_ble_eq_true rfl) (Or.inl rfl) (tyX2_ok 6 (by decide)) (by first | rfl | decide +kernel) (by first | rfl | decide +kernel) (fun M hput hag => ?_)
    have hT := treeS6 hT hput hag
    have hFr := hFr.put hag (by omega) (by omega)
    clear hput hag
    refine J.iload_n (pc := 59) G dX2_add_59 rfl ?_
    generalize hS1 : upN S 6 (nd.length + 1) = S1 at hT
    have k6 : S1 6 = nd.length + 1 := by rw [← hS1]; rfl
    generalize hA1 : upAN (upAN (upAN A 1 (upN (A 1) nd.length kd)) 2 (upN (upAN A 1 (upN (A 1) nd.length kd) 2) nd.length set)) 4 (upN (upAN (upAN A 1 (upN (A 1) nd.length kd)) 2 (upN (upAN A 1 (upN (A 1) nd.length kd) 2) nd.length set) 4) nd.length 0) = A1 at hT
    have a1 : A1 1 = upN (A 1) nd.length kd := by rw [← hA1]; rfl
    have a2 : A1 2 = upN (A 2) nd.length set := by rw [← hA1]; rfl
    have a4 : A1 4 = upN (A 4) nd.length 0 := by rw [← hA1]; rfl
    have a5 : A1 5 = A 5 := by rw [← hA1]; rfl
    generalize hP1 : upI P nd.length p = P1 at hT
    have hlen1 : (nd ++ [(kd, p, set)]).length = nd.length + 1 := by simp
    have hwf : ∀ i, i < (nd ++ [(kd, p, set)]).length → ndP (nd ++ [(kd, p, set)]) i < (i : Int) := by
      intro i hi
      rw [hlen1] at hi
      unfold ndP
      rw [nd_app]
      split
      · rename_i e
        dsimp only
        rcases hpq with q | ⟨q, h1, h2, -⟩ <;> omega
      · exact gp i (by omega)
    have base : ∀ i, i < nd.length + 1 → A1 1 i = ndK (nd ++ [(kd, p, set)]) i ∧ A1 2 i = ndS (nd ++ [(kd, p, set)]) i ∧ P1 i = ndP (nd ++ [(kd, p, set)]) i := by
      intro i hi
      unfold ndK ndS ndP
      rw [nd_app, a1, a2, ← hP1]
      by_cases e : i = nd.length
      · subst e; rw [upN_s, upN_s, upI_s, if_pos rfl]; exact ⟨rfl, rfl, rfl⟩
      · rw [upN_n e, upN_n e, upI_n e, if_neg e]
        have := gi i (by omega)
        exact ⟨this.1, this.2.1, this.2.2.1⟩
    have hlast : chl nd nd.length = [] := chl_new gp
    have fin : ∀ (M : AH) (A9 : Nat → Nat → Nat), Cl M a (treeC a A9 P1 S1) → A9 1 = A1 1 → A9 2 = A1 2 → (∀ i, i < nd.length + 1 → A9 4 i = (chl (nd ++ [(kd, p, set)]) i).length ∧ (chl (nd ++ [(kd, p, set)]) i).length ≤ 8 ∧ ∀ c, c < (chl (nd ++ [(kd, p, set)]) i).length → A9 5 (i * 8 + c) = gd (chl (nd ++ [(kd, p, set)]) i) c) → Fr a (a + 7) M1 M → J g 0 0 n M [some (.ref a), some (.int (iI (kd : Int))), some (.int (iI (set : Int))), some (.int (iI p)), some (.int (iI (nd.length : Int)))] 108 [] := by
      intro M A9 hT e1 e2 h9 hFr
      refine J.iload (pc := 108) G dX2_add_108 rfl ?_
      refine J.iret (pc := 110) G hO dX2_add_110 (Nat.le_refl _) (Nat.le_refl _) ⟨rfl, rfl, ⟨A9, P1, S1, hT, ?_, ?_, ?_, hwf⟩, hM1 ▸ hFr⟩
      · rw [k6, hlen1]
      · rw [hlen1]; omega
      · intro i hi
        rw [hlen1] at hi
        obtain ⟨b1, b2, b3⟩ := base i hi
        rw [e1, e2]
        exact ⟨b1, b2, b3, h9 i hi⟩
    refine J.if_lt (pc := 60) (tgt := 108) G dX2_add_60 (by decide) (by omega) (by omega) (fun h2 => ?_) (fun h2 => ?_)
    · refine fin M A1 hT rfl rfl (fun i hi => ?_) hFr
      have hp1 : p ≠ (i : Int) := by omega
      rw [chl_app, if_neg hp1, List.append_nil, a4, a5]
      by_cases e : i = nd.length
      · subst e; rw [hlast, upN_s]; exact ⟨rfl, Nat.zero_le _, fun c hc => absurd hc (Nat.not_lt_zero c)⟩
      · rw [upN_n e]
        exact (gi i (by omega)).2.2.2
    · obtain ⟨q, hq1, hq2, hq3⟩ : ∃ q : Nat, p = (q : Int) ∧ q < nd.length ∧ (chl nd q).length < 8 := by
        rcases hpq with e | e
        · omega
        · exact e
      rw [hq1] at fin ⊢
      have hq4 : A1 4 q = (chl nd q).length := by rw [a4, upN_n (by omega)]; exact (hnd.kids hq2).1
      refine J.iload_n (pc := 63) G dX2_add_63 rfl ?_
      refine J.iload (pc := 64) G dX2_add_64 rfl ?_
      refine J.icmp_geN (pc := 66) (tgt := 108) G dX2_add_66 (by decide) (by omega) (by omega) (fun h3 => ?_) (fun h3 => ?_)
      · omega
      · refine J.aload_n (pc := 69) G dX2_add_69 rfl ?_
        refine J.getf (pc := 70) (ci := 2) G inX2 rfl 3 q39 dX2_add_70 (hT.at 0 rfl) (by decide) rfl ?_
        refine J.iload_n (pc := 73) G dX2_add_73 rfl ?_
        refine J.ialdN (pc := 74) G dX2_add_74 (hT.at 4 rfl) (by omega) (by decide) ?_
        rw [hq4]
        refine J.bipushN (pc := 75) G dX2_add_75 8 (by decide +kernel) ?_
        refine J.icmp_geN (pc := 77) (tgt := 108) G dX2_add_77 (by decide) (by omega) (by omega) (fun h4 => ?_) (fun h4 => ?_)
        · omega
        · refine J.aload_n (pc := 80) G dX2_add_80 rfl ?_
          refine J.getf (pc := 81) (ci := 2) G inX2 rfl 4 q42 dX2_add_81 (hT.at 0 rfl) (by decide) rfl ?_
          refine J.iload_n (pc := 84) G dX2_add_84 rfl ?_
          refine J.bipushN (pc := 85) G dX2_add_85 8 (by decide +kernel) ?_
          refine J.imulN (pc := 87) G dX2_add_87 ?_
          refine J.aload_n (pc := 88) G dX2_add_88 rfl ?_
          refine J.getf (pc := 89) (ci := 2) G inX2 rfl 3 q39 dX2_add_89 (hT.at 0 rfl) (by decide) rfl ?_
          refine J.iload_n (pc := 92) G dX2_add_92 rfl ?_
          refine J.ialdN (pc := 93) G dX2_add_93 (hT.at 4 rfl) (by omega) (by decide) ?_
          refine J.topv (b := iI (A1 4 q : Int)) rfl ?_
          rw [hq4]
          refine J.iaddN (pc := 94) G dX2_add_94 ?_
          refine J.iload (pc := 95) G dX2_add_95 rfl ?_
          refine J.iastN (pc := 97) G dX2_add_97 (hT.at 5 rfl) (by omega) (by decide) (fun M hput hag => ?_)
          have hT := treeA5 hT hput hag
          have hFr := hFr.put hag (by omega) (by omega)
          clear hput hag
          refine J.aload_n (pc := 98) G dX2_add_98 rfl ?_
          refine J.getf (pc := 99) (ci := 2) G inX2 rfl 3 q39 dX2_add_99 (hT.at 0 rfl) (by decide) rfl ?_
          refine J.iload_n (pc := 102) G dX2_add_102 rfl ?_
          refine J.dup2 (pc := 103) G dX2_add_103 rfl rfl ?_
          refine J.ialdN (pc := 104) G dX2_add_104 (hT.at 4 rfl) (by omega) (by decide) ?_
          refine J.iconstN (pc := 105) G dX2_add_105 1 rfl ?_
          refine J.iaddN (pc := 106) G dX2_add_106 ?_
          refine J.iastN (pc := 107) G dX2_add_107 (hT.at 4 rfl) (by omega) (by decide) (fun M hput hag => ?_)
          have hT := treeA4 hT hput hag
          have hFr := hFr.put hag (by omega) (by omega)
          clear hput hag
          refine fin M _ hT rfl rfl (fun i hi => ?_) hFr
          have v4 : upAN (upAN A1 5 (upN (A1 5) (q * 8 + (chl nd q).length) nd.length)) 4 (upN (A1 4) q (A1 4 q + 1)) 4 i = upN (A1 4) q (A1 4 q + 1) i := rfl
          have v5 : ∀ x, upAN (upAN A1 5 (upN (A1 5) (q * 8 + (chl nd q).length) nd.length)) 4 (upN (A1 4) q (A1 4 q + 1)) 5 x = upN (A 5) (q * 8 + (chl nd q).length) nd.length x := fun x => by rw [← a5]; rfl
          have key : upN (A1 4) q (A1 4 q + 1) i = (chl (nd ++ [(kd, (q : Int), set)]) i).length ∧ (chl (nd ++ [(kd, (q : Int), set)]) i).length ≤ 8 ∧ ∀ c, c < (chl (nd ++ [(kd, (q : Int), set)]) i).length → upN (A 5) (q * 8 + (chl nd q).length) nd.length (i * 8 + c) = gd (chl (nd ++ [(kd, (q : Int), set)]) i) c := by
            rw [chl_app]
            by_cases e : i = q
            · subst e
              rw [if_pos rfl, upN_s, hq4, List.length_append, List.length_singleton]
              refine ⟨rfl, by omega, fun c hc => ?_⟩
              rw [gd_snoc]
              by_cases e2 : c = (chl nd i).length
              · subst e2; rw [upN_s, if_pos rfl]
              · rw [upN_n (by omega), if_neg e2]
                exact (gi i hq2).2.2.2.2.2 c (by omega)
            · rw [if_neg (by dsimp only; omega), List.append_nil, upN_n e, a4]
              by_cases e2 : i = nd.length
              · subst e2; rw [hlast, upN_s]; exact ⟨rfl, Nat.zero_le _, fun c hc => absurd hc (Nat.not_lt_zero c)⟩
              · rw [upN_n e2]
                obtain ⟨-, -, -, w4, w8, w5⟩ := gi i (by omega)
                refine ⟨w4, w8, fun c hc => ?_⟩
                rw [upN_n (by have := hq3; omega)]
                exact w5 c hc
          exact ⟨v4 ▸ key.1, key.2.1, fun c hc => (v5 (i * 8 + c)).trans (key.2.2 c hc)⟩
  · omega
end TREE1
