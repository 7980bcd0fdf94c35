section MOD7
def rwM (ln tx : Nat → Nat) (t : Nat) : List Nat := (List.range (ln t)).map (fun j => tx (12 * t + j))
/-- row o has a time and reads as row t does -/
def smM (tm ln tx : Nat → Nat) (o t : Nat) : Bool := decide (0 < tm o) && decide (rwM ln tx o = rwM ln tx t)
def rpM (tm ln tx : Nat → Nat) (t k : Nat) : Bool := it (fun o b => b || smM tm ln tx o t) false k
theorem rpM_up {tm ln tx : Nat → Nat} {t k : Nat} (h : rpM tm ln tx t k = true) : ∀ d, rpM tm ln tx t (k + d) = true
  | 0 => h
  | d + 1 => by
    show (rpM tm ln tx t (k + d) || _) = true
    rw [rpM_up h d]; rfl
def vaM (tm ln tx : Nat → Nat) (k : Nat) : Nat := it (fun t c => c + (if (decide (0 < tm t) && !rpM tm ln tx t t) then 1 else 0)) 0 k
theorem smM_of {tm ln tx : Nat → Nat} {o t : Nat} (h : 0 < tm o) (hl : ln o = ln t) (he : ∀ i, i < ln t → tx (12 * o + i) = tx (12 * t + i)) : smM tm ln tx o t = true := by
  unfold smM
  rw [decide_eq_true h, decide_eq_true (show rwM ln tx o = rwM ln tx t by unfold rwM; rw [hl]; exact List.map_congr_left (fun i hi => he i (List.mem_range.mp hi)))]
  rfl
theorem smM_no1 {tm ln tx : Nat → Nat} {o t : Nat} (h : ¬ (0 < tm o ∧ ln o = ln t)) : smM tm ln tx o t = false := by
  unfold smM
  by_cases q : 0 < tm o
  · rw [decide_eq_true q, decide_eq_false (fun e => h ⟨q, ?_⟩)]
    · rfl
    · have := congrArg List.length e
      unfold rwM at this
      simpa using this
  · rw [decide_eq_false q]; rfl
theorem smM_no2 {tm ln tx : Nat → Nat} {o t i : Nat} (hl : ln o = ln t) (hi : i < ln t) (h : tx (12 * o + i) ≠ tx (12 * t + i)) : smM tm ln tx o t = false := by
  unfold smM
  rw [decide_eq_false (show ¬ rwM ln tx o = rwM ln tx t from fun e => h ?_), Bool.and_false]
  have := congrArg (fun l => gd l i) e
  have g1 : ∀ q, i < ln q → gd (rwM ln tx q) i = tx (12 * q + i) := fun q hq => by
    unfold rwM gd
    rw [List.getD_eq_getElem?_getD, List.getElem?_map, List.getElem?_range hq]; rfl
  have e2 : gd (rwM ln tx o) i = gd (rwM ln tx t) i := this
  rw [g1 o (by omega), g1 t hi] at e2
  exact e2
abbrev b01 (b : Bool) : Nat := if b then 1 else 0
set_option maxRecDepth 100000 in
set_option maxHeartbeats 8000000 in
theorem m_variants (n : Nat) (M0 : AH) {a : Nat} {R : Nat → Nat → Nat} {P : Nat → Int} {Z : Nat → Nat} (hM : Cl M0 a (modC a R P Z)) (hok : MdOk R Z) : Fn yX4_variants cX4_variants 7 (some .int) 0 [.ref a] n M0 0 0 (MRead n M0 a R P Z (.int (iI ((vaM (R 2) (R 3) (R 4) (Z 3) : Nat) : Int))) 0) := by
  refine Fn.of (by decide) [some _, none, none, none, none, none, none] rfl rfl (Nat.le_of_ble_eq_true rfl) ?_
  intro g G hin hO
  obtain ⟨h1, h3, h7, hbu, htx, hln, htm⟩ := hok
  have hFr : Fr a (a + 9) M0 M0 := Fr.rf
  generalize hM1 : M0 = M1 at hM hFr
  have z3' : upN Z 0 0 3 = Z 3 := rfl
  refine J.aload_n (pc := 0) G dX4_variants_0 rfl ?_
  refine J.iconstN (pc := 1) G dX4_variants_1 0 rfl ?_
  refine J.putf (pc := 2) (ci := 4) G inX4 rfl tyX4 tyX4_ok nmX4 0 q695 dX4_variants_2 (hM.at 0 rfl) (by decide) (Nat.le_of_ble_eq_true rfl) (Or.inl rfl) (tyX4_ok 0 (by decide)) (by first | rfl | decide +kernel) (by first | rfl | decide +kernel) (fun M hput hag => ?_)
  have hM := modS0 hM hput hag
  have hFr := hFr.put hag (by omega) (by omega)
  clear hput hag
  refine J.iconstN (pc := 5) G dX4_variants_5 0 rfl ?_
  refine J.istore_n (L' := [_, _, _, _, _, _, _]) (pc := 6) G dX4_variants_6 rfl (Nat.le_of_ble_eq_true rfl) rfl ?_
  refine J.iconstN (pc := 7) G dX4_variants_7 0 rfl ?_
  refine J.istore_n (L' := [_, _, _, _, _, _, _]) (pc := 8) G dX4_variants_8 rfl (Nat.le_of_ble_eq_true rfl) rfl ?_
  have hFr0 : Fr a (a + 9) M0 M := hM1 ▸ hFr
  have K1 : ∀ t : Nat, t ≤ Z 3 → ∀ l3 l4 l5 l6, J g 0 0 n M [some (.ref a), some (.int (iI (vaM (R 2) (R 3) (R 4) t : Int))), some (.int (iI (t : Int))), l3, l4, l5, l6] 9 [] := by
    refine loopJ (fun t => Z 3 - t) _ _ ?_
    intro t ht ih l3 l4 l5 l6
    have hstep : vaM (R 2) (R 3) (R 4) (t + 1) = vaM (R 2) (R 3) (R 4) t + (if (decide (0 < R 2 t) && !rpM (R 2) (R 3) (R 4) t t) then 1 else 0) := rfl
    refine J.iload_n (pc := 9) G dX4_variants_9 rfl ?_
    refine J.aload_n (pc := 10) G dX4_variants_10 rfl ?_
    refine J.getf (pc := 11) (ci := 4) G inX4 rfl 3 q698 dX4_variants_11 (hM.at 0 rfl) (by decide) rfl ?_
    rw [z3']
    refine J.icmp_geN (pc := 14) (tgt := 173) G dX4_variants_14 (by decide) (by omega) (by omega) (fun h => ?_) (fun h => ?_)
    · refine J.iload_n (pc := 173) G dX4_variants_173 rfl ?_
      exact J.iret (pc := 174) G hO dX4_variants_174 (by decide) (by decide) ⟨by rw [show t = Z 3 by omega], rfl, hM, hFr0⟩
    · have hl := hln t (by omega)
      have hm := htm t (by omega)
      generalize vaM (R 2) (R 3) (R 4) t = s at hstep ⊢
      have K155 : ∀ f : Nat, f = b01 (decide (0 < R 2 t) && !rpM (R 2) (R 3) (R 4) t t) → ∀ l4 l5 l6, J g 0 0 n M [some (.ref a), some (.int (iI (s : Int))), some (.int (iI (t : Int))), some (.int (iI (f : Int))), l4, l5, l6] 155 [] := by
        intro f hf l4 l5 l6
        have hf2 : f < 2 := by rw [hf]; unfold b01; split <;> omega
        have nx : ∀ y : Nat, y = f → J g 0 0 n M [some (.ref a), some (.int (iI (s : Int))), some (.int (iI (t : Int))), some (.int (iI (f : Int))), l4, l5, l6] 165 [.int (iI (y : Int)), .int (iI (s : Int))] := by
          intro y hy
          refine J.iaddN (pc := 165) G dX4_variants_165 ?_
          refine J.istore_n (L' := [_, _, _, _, _, _, _]) (pc := 166) G dX4_variants_166 rfl (Nat.le_of_ble_eq_true rfl) rfl ?_
          refine J.iincN (L' := [_, _, _, _, _, _, _]) (pc := 167) G dX4_variants_167 1 rfl rfl rfl rfl ?_
          refine J.goto (pc := 170) (tgt := 9) G dX4_variants_170 (by decide) ?_
          have := ih (t + 1) (by omega) (by omega) (some (.int (iI (f : Int)))) l4 l5 l6
          rw [hstep] at this
          rw [hy, hf]
          rw [hf] at this
          exact this
        refine J.iload_n (pc := 155) G dX4_variants_155 rfl ?_
        refine J.iload_n (pc := 156) G dX4_variants_156 rfl ?_
        refine J.if_eqN (pc := 157) (tgt := 164) G dX4_variants_157 (by decide) (by omega) (fun h2 => ?_) (fun h2 => ?_)
        · refine J.iconstN (pc := 164) G dX4_variants_164 0 rfl ?_
          exact nx 0 (by omega)
        · refine J.iconstN (pc := 160) G dX4_variants_160 1 rfl ?_
          refine J.goto (pc := 161) (tgt := 165) G dX4_variants_161 (by decide) ?_
          exact nx 1 (by omega)
      have K3 : ∀ o : Nat, o ≤ t → ∀ f, f = b01 (decide (0 < R 2 t) && !rpM (R 2) (R 3) (R 4) t o) → ∀ l5 l6, J g 0 0 n M [some (.ref a), some (.int (iI (s : Int))), some (.int (iI (t : Int))), some (.int (iI (f : Int))), some (.int (iI (o : Int))), l5, l6] 35 [] := by
        refine loopJ (fun o => t - o) _ _ ?_
        intro o ho ih3 f hf l5 l6
        have hstep3 : rpM (R 2) (R 3) (R 4) t (o + 1) = (rpM (R 2) (R 3) (R 4) t o || smM (R 2) (R 3) (R 4) o t) := rfl
        have hf2 : f < 2 := by rw [hf]; unfold b01; split <;> omega
        refine J.iload (pc := 35) G dX4_variants_35 rfl ?_
        refine J.iload_n (pc := 37) G dX4_variants_37 rfl ?_
        refine J.icmp_geN (pc := 38) (tgt := 155) G dX4_variants_38 (by decide) (by omega) (by omega) (fun h2 => ?_) (fun h2 => ?_)
        · have hot : o = t := by omega
          rw [hot] at hf ⊢
          exact K155 f hf _ _ _
        · refine J.iload_n (pc := 41) G dX4_variants_41 rfl ?_
          refine J.if_eqN (pc := 42) (tgt := 155) G dX4_variants_42 (by decide) (by omega) (fun h5 => ?_) (fun h5 => ?_)
          · refine K155 f ?_ _ _ _
            rw [h5] at hf ⊢
            cases hd : decide (0 < R 2 t)
            · rfl
            · rw [hd, Bool.true_and] at hf
              have hr : rpM (R 2) (R 3) (R 4) t o = true := by
                cases q : rpM (R 2) (R 3) (R 4) t o
                · rw [q] at hf; exact absurd hf (by decide)
                · rfl
              have := rpM_up hr (t - o)
              rw [show o + (t - o) = t by omega] at this
              rw [this]; rfl
          · have hff : (decide (0 < R 2 t) && !rpM (R 2) (R 3) (R 4) t o) = true := by
              cases q : (decide (0 < R 2 t) && !rpM (R 2) (R 3) (R 4) t o)
              · rw [q] at hf; exact absurd hf (by unfold b01; simp; omega)
              · rfl
            rw [Bool.and_eq_true, Bool.not_eq_true'] at hff
            rw [hff.2, Bool.false_or] at hstep3
            have hlo := hln o (by omega)
            have hmo := htm o (by omega)
            have K138 : ∀ e j : Nat, e = b01 (smM (R 2) (R 3) (R 4) o t) → J g 0 0 n M [some (.ref a), some (.int (iI (s : Int))), some (.int (iI (t : Int))), some (.int (iI (f : Int))), some (.int (iI (o : Int))), some (.int (iI (e : Int))), some (.int (iI (j : Int)))] 138 [] := by
              intro e j he
              have he2 : e < 2 := by rw [he]; unfold b01; split <;> omega
              have K148 : ∀ y : Nat, y = b01 (decide (0 < R 2 t) && !rpM (R 2) (R 3) (R 4) t (o + 1)) → J g 0 0 n M [some (.ref a), some (.int (iI (s : Int))), some (.int (iI (t : Int))), some (.int (iI (f : Int))), some (.int (iI (o : Int))), some (.int (iI (e : Int))), some (.int (iI (j : Int)))] 148 [.int (iI (y : Int))] := by
                intro y hy
                refine J.istore_n (L' := [_, _, _, _, _, _, _]) (pc := 148) G dX4_variants_148 rfl (Nat.le_of_ble_eq_true rfl) rfl ?_
                refine J.iincN (L' := [_, _, _, _, _, _, _]) (pc := 149) G dX4_variants_149 1 rfl rfl rfl rfl ?_
                refine J.goto (pc := 152) (tgt := 35) G dX4_variants_152 (by decide) ?_
                exact ih3 (o + 1) (by omega) (by omega) y hy _ _
              rw [hff.1, Bool.true_and, hstep3] at K148
              refine J.iload (pc := 138) G dX4_variants_138 rfl ?_
              refine J.if_neN (pc := 140) (tgt := 147) G dX4_variants_140 (by decide) (by omega) (fun h6 => ?_) (fun h6 => ?_)
              · refine J.iconstN (pc := 147) G dX4_variants_147 0 rfl ?_
                refine K148 0 ?_
                cases q : smM (R 2) (R 3) (R 4) o t
                · rw [q] at he; exact absurd he (by unfold b01; simp; omega)
                · rfl
              · refine J.iconstN (pc := 143) G dX4_variants_143 1 rfl ?_
                refine J.goto (pc := 144) (tgt := 148) G dX4_variants_144 (by decide) ?_
                refine K148 1 ?_
                cases q : smM (R 2) (R 3) (R 4) o t
                · rfl
                · rw [q] at he; exact absurd he (by unfold b01; simp; omega)
            have K81 : ∀ q : Nat × Nat, (q.1 ≤ R 3 t ∧ ((q.2 = 1 ∧ 0 < R 2 o ∧ R 3 o = R 3 t ∧ ∀ i, i < q.1 → R 4 (12 * o + i) = R 4 (12 * t + i)) ∨ (q.2 = 0 ∧ smM (R 2) (R 3) (R 4) o t = false))) → J g 0 0 n M [some (.ref a), some (.int (iI (s : Int))), some (.int (iI (t : Int))), some (.int (iI (f : Int))), some (.int (iI (o : Int))), some (.int (iI (q.2 : Int))), some (.int (iI (q.1 : Int)))] 81 [] := by
              refine loopJ (fun q => R 3 t - q.1) _ _ ?_
              rintro ⟨j, e⟩ ⟨hj, he⟩ ih4
              dsimp only at hj he ih4 ⊢
              have he2 : e < 2 := by rcases he with q | q <;> omega
              refine J.iload (pc := 81) G dX4_variants_81 rfl ?_
              refine J.aload_n (pc := 83) G dX4_variants_83 rfl ?_
              refine J.getf (pc := 84) (ci := 4) G inX4 rfl 5 q700 dX4_variants_84 (hM.at 0 rfl) (by decide) rfl ?_
              refine J.iload_n (pc := 87) G dX4_variants_87 rfl ?_
              refine J.ialdN (pc := 88) G dX4_variants_88 (hM.at 3 rfl) (by omega) (by decide) ?_
              refine J.icmp_geN (pc := 89) (tgt := 138) G dX4_variants_89 (by decide) (by omega) (by omega) (fun h6 => ?_) (fun h6 => ?_)
              · refine K138 e j ?_
                rcases he with ⟨q1, q2, q3, q4⟩ | ⟨q1, q2⟩
                · rw [q1, smM_of q2 q3 (fun i hi => q4 i (by omega))]; rfl
                · rw [q1, q2]; rfl
              · refine J.iload (pc := 92) G dX4_variants_92 rfl ?_
                refine J.if_eqN (pc := 94) (tgt := 138) G dX4_variants_94 (by decide) (by omega) (fun h7 => ?_) (fun h7 => ?_)
                · refine K138 e j ?_
                  rcases he with ⟨q1, q2, q3, q4⟩ | ⟨q1, q2⟩
                  · omega
                  · rw [q1, q2]; rfl
                · obtain ⟨q1, q2, q3, q4⟩ := he.resolve_right (fun q => by omega)
                  have e1 := htx (12 * o + j) (by omega)
                  have e2 := htx (12 * t + j) (by omega)
                  have nx : ∀ y : Nat, ((y = 1 ∧ 0 < R 2 o ∧ R 3 o = R 3 t ∧ ∀ i, i < j + 1 → R 4 (12 * o + i) = R 4 (12 * t + i)) ∨ (y = 0 ∧ smM (R 2) (R 3) (R 4) o t = false)) → J g 0 0 n M [some (.ref a), some (.int (iI (s : Int))), some (.int (iI (t : Int))), some (.int (iI (f : Int))), some (.int (iI (o : Int))), some (.int (iI (e : Int))), some (.int (iI (j : Int)))] 130 [.int (iI (y : Int))] := by
                    intro y hy
                    refine J.istore (L' := [_, _, _, _, _, _, _]) (pc := 130) G dX4_variants_130 rfl (Nat.le_of_ble_eq_true rfl) rfl ?_
                    refine J.iincN (L' := [_, _, _, _, _, _, _]) (pc := 132) G dX4_variants_132 1 rfl rfl rfl rfl ?_
                    refine J.goto (pc := 135) (tgt := 81) G dX4_variants_135 (by decide) ?_
                    exact ih4 (j + 1, y) ⟨by dsimp only; omega, hy⟩ (by dsimp only; omega)
                  refine J.aload_n (pc := 97) G dX4_variants_97 rfl ?_
                  refine J.getf (pc := 98) (ci := 4) G inX4 rfl 6 q701 dX4_variants_98 (hM.at 0 rfl) (by decide) rfl ?_
                  refine J.bipushN (pc := 101) G dX4_variants_101 12 (by decide +kernel) ?_
                  refine J.iload (pc := 103) G dX4_variants_103 rfl ?_
                  refine J.imulN (pc := 105) G dX4_variants_105 ?_
                  refine J.iload (pc := 106) G dX4_variants_106 rfl ?_
                  refine J.iaddN (pc := 108) G dX4_variants_108 ?_
                  refine J.ialdN (pc := 109) G dX4_variants_109 (hM.at 4 rfl) (by omega) (by decide) ?_
                  refine J.aload_n (pc := 110) G dX4_variants_110 rfl ?_
                  refine J.getf (pc := 111) (ci := 4) G inX4 rfl 6 q701 dX4_variants_111 (hM.at 0 rfl) (by decide) rfl ?_
                  refine J.bipushN (pc := 114) G dX4_variants_114 12 (by decide +kernel) ?_
                  refine J.iload_n (pc := 116) G dX4_variants_116 rfl ?_
                  refine J.imulN (pc := 117) G dX4_variants_117 ?_
                  refine J.iload (pc := 118) G dX4_variants_118 rfl ?_
                  refine J.iaddN (pc := 120) G dX4_variants_120 ?_
                  refine J.ialdN (pc := 121) G dX4_variants_121 (hM.at 4 rfl) (by omega) (by decide) ?_
                  refine J.icmp_neN (pc := 122) (tgt := 129) G dX4_variants_122 (by decide) (by omega) (by omega) (fun g1 => ?_) (fun g1 => ?_)
                  · refine J.iconstN (pc := 129) G dX4_variants_129 0 rfl ?_
                    exact nx 0 (Or.inr ⟨rfl, smM_no2 q3 h6 g1⟩)
                  · refine J.iconstN (pc := 125) G dX4_variants_125 1 rfl ?_
                    refine J.goto (pc := 126) (tgt := 130) G dX4_variants_126 (by decide) ?_
                    refine nx 1 (Or.inl ⟨rfl, q2, q3, fun i hi => ?_⟩)
                    by_cases q : i = j
                    · rw [q]; exact g1
                    · exact q4 i (by omega)
            have K76 : ∀ e : Nat, ((e = 1 ∧ 0 < R 2 o ∧ R 3 o = R 3 t) ∨ (e = 0 ∧ smM (R 2) (R 3) (R 4) o t = false)) → J g 0 0 n M [some (.ref a), some (.int (iI (s : Int))), some (.int (iI (t : Int))), some (.int (iI (f : Int))), some (.int (iI (o : Int))), l5, l6] 76 [.int (iI (e : Int))] := by
              intro e he
              refine J.istore (L' := [_, _, _, _, _, _, _]) (pc := 76) G dX4_variants_76 rfl (Nat.le_of_ble_eq_true rfl) rfl ?_
              refine J.iconstN (pc := 78) G dX4_variants_78 0 rfl ?_
              refine J.istore (L' := [_, _, _, _, _, _, _]) (pc := 79) G dX4_variants_79 rfl (Nat.le_of_ble_eq_true rfl) rfl ?_
              exact K81 (0, e) ⟨Nat.zero_le _, he.imp (fun q => ⟨q.1, q.2.1, q.2.2, fun i hi => absurd hi (Nat.not_lt_zero i)⟩) id⟩
            have K75 : ¬ (0 < R 2 o ∧ R 3 o = R 3 t) → J g 0 0 n M [some (.ref a), some (.int (iI (s : Int))), some (.int (iI (t : Int))), some (.int (iI (f : Int))), some (.int (iI (o : Int))), l5, l6] 75 [] := by
              intro hno
              refine J.iconstN (pc := 75) G dX4_variants_75 0 rfl ?_
              exact K76 0 (Or.inr ⟨rfl, smM_no1 hno⟩)
            refine J.aload_n (pc := 45) G dX4_variants_45 rfl ?_
            refine J.getf (pc := 46) (ci := 4) G inX4 rfl 4 q699 dX4_variants_46 (hM.at 0 rfl) (by decide) rfl ?_
            refine J.iload (pc := 49) G dX4_variants_49 rfl ?_
            refine J.ialdN (pc := 51) G dX4_variants_51 (hM.at 2 rfl) (by omega) (by decide) ?_
            refine J.if_le (pc := 52) (tgt := 75) G dX4_variants_52 (by decide) (by omega) (by omega) (fun h6 => K75 (by omega)) (fun h6 => ?_)
            refine J.aload_n (pc := 55) G dX4_variants_55 rfl ?_
            refine J.getf (pc := 56) (ci := 4) G inX4 rfl 5 q700 dX4_variants_56 (hM.at 0 rfl) (by decide) rfl ?_
            refine J.iload (pc := 59) G dX4_variants_59 rfl ?_
            refine J.ialdN (pc := 61) G dX4_variants_61 (hM.at 3 rfl) (by omega) (by decide) ?_
            refine J.aload_n (pc := 62) G dX4_variants_62 rfl ?_
            refine J.getf (pc := 63) (ci := 4) G inX4 rfl 5 q700 dX4_variants_63 (hM.at 0 rfl) (by decide) rfl ?_
            refine J.iload_n (pc := 66) G dX4_variants_66 rfl ?_
            refine J.ialdN (pc := 67) G dX4_variants_67 (hM.at 3 rfl) (by omega) (by decide) ?_
            refine J.icmp_neN (pc := 68) (tgt := 75) G dX4_variants_68 (by decide) (by omega) (by omega) (fun g2 => ?_) (fun g2 => ?_)
            · exact K75 (fun q => g2 q.2)
            · refine J.iconstN (pc := 71) G dX4_variants_71 1 rfl ?_
              refine J.goto (pc := 72) (tgt := 76) G dX4_variants_72 (by decide) ?_
              exact K76 1 (Or.inl ⟨rfl, by omega, g2⟩)
      have K31 : ∀ f : Nat, f = b01 (decide (0 < R 2 t)) → J g 0 0 n M [some (.ref a), some (.int (iI (s : Int))), some (.int (iI (t : Int))), l3, l4, l5, l6] 31 [.int (iI (f : Int))] := by
        intro f hf
        refine J.istore_n (L' := [_, _, _, _, _, _, _]) (pc := 31) G dX4_variants_31 rfl (Nat.le_of_ble_eq_true rfl) rfl ?_
        refine J.iconstN (pc := 32) G dX4_variants_32 0 rfl ?_
        refine J.istore (L' := [_, _, _, _, _, _, _]) (pc := 33) G dX4_variants_33 rfl (Nat.le_of_ble_eq_true rfl) rfl ?_
        exact K3 0 (Nat.zero_le _) f (by rw [hf, show rpM (R 2) (R 3) (R 4) t 0 = false from rfl, Bool.not_false, Bool.and_true]) _ _
      refine J.aload_n (pc := 17) G dX4_variants_17 rfl ?_
      refine J.getf (pc := 18) (ci := 4) G inX4 rfl 4 q699 dX4_variants_18 (hM.at 0 rfl) (by decide) rfl ?_
      refine J.iload_n (pc := 21) G dX4_variants_21 rfl ?_
      refine J.ialdN (pc := 22) G dX4_variants_22 (hM.at 2 rfl) (by omega) (by decide) ?_
      refine J.if_le (pc := 23) (tgt := 30) G dX4_variants_23 (by decide) (by omega) (by omega) (fun h4 => ?_) (fun h4 => ?_)
      · refine J.iconstN (pc := 30) G dX4_variants_30 0 rfl ?_
        exact K31 0 (by rw [decide_eq_false (by omega)]; rfl)
      · refine J.iconstN (pc := 26) G dX4_variants_26 1 rfl ?_
        refine J.goto (pc := 27) (tgt := 31) G dX4_variants_27 (by decide) ?_
        exact K31 1 (by rw [decide_eq_true (by omega)]; rfl)
  exact K1 0 (Nat.zero_le _) _ _ _ _
end MOD7
