section PLAW
/-- the law's locals -/
abbrev lwL (b ax many : Nat) (x5 x6 x7 x8 x9 : Option Value) : List (Option Value) := [some (.ref b), some (.ref ax), some (.ref (ax + 128)), some (.ref (ax + 129)), some (.int (iI (many : Int))), x5, x6, x7, x8, x9]
/-- what holds once the log is mined -/
def LwI (M : AH) (n ax many : Nat) (A : Nat → Nat → Nat) (S : Nat → Nat) (f : Nat → Option Nat) (B : Nat → Nat) : Prop := ax + 130 ≤ n ∧ many ≤ 7 ∧ ClsI M ax A S ∧ S 5 = many ∧ S 9 = 1 ∧ M (ax + 128) = some (cR 3 8 f) ∧ M (ax + 129) = some (cN 8 B) ∧ RwI M n ax f A many ∧ ∀ u, u < many → B u = A 4 u
theorem RwI.fr {M M' : AH} {n ax t : Nat} {f : Nat → Option Nat} {A : Nat → Nat → Nat} (h : RwI M n ax f A t) (hf : Fr ax (ax + 128) M M') : RwI M' n ax f A t := fun u hu => by
  obtain ⟨r, h9, r1, r2, r3, r4⟩ := h u hu
  exact ⟨r, h9, r1, r2, r3, (hf r (by omega)).trans r4⟩
theorem LwI.go {M M' : AH} {n ax many : Nat} {A : Nat → Nat → Nat} {S : Nat → Nat} {f : Nat → Option Nat} {B : Nat → Nat} (h : LwI M n ax many A S f B) (hI : ClsI M' ax A S) (hf : Fr ax (ax + 128) M M') : LwI M' n ax many A S f B := by
  obtain ⟨h1, h2, h3, h4, h5, h6, h7, h8, h9⟩ := h
  exact ⟨h1, h2, hI, h4, h5, (hf _ (by omega)).trans h6, (hf _ (by omega)).trans h7, h8.fr hf, h9⟩
theorem up9 {S : Nat → Nat} (h : S 9 = 1) : upN S 9 1 = S := by
  funext q
  by_cases e : q = 9
  · subst e; rw [upN_s, h]
  · rw [upN_n e]
theorem least_le {A : Nat → Nat → Nat} {S : Nat → Nat} (hok : MnOk A S) : lsG (trOf A S) 0 ≤ 64 := by
  have hG := trOf_grown hok
  have := ls_le (nd := trOf A S) (i := 0) (fun i hi => (hG.2.2.1 i hi).2) hG.ch hG.1.1
  have := hG.1.2
  omega
set_option maxRecDepth 100000 in
set_option maxHeartbeats 4000000 in
/-- each trace is asked for -/
theorem lw_acc {g : GT} {d mc ms n ax b many k z : Nat} {A : Nat → Nat → Nat} {S : Nat → Nat} {f : Nat → Option Nat} {B : Nat → Nat} (G : Cx g "ProcessMinerLaw" cL_law 10 d mc ms) (hd : 30 ≤ d) (hk : k + 14 ≤ mc) (hz : z + 84 ≤ ms) (kk : ∀ M, LwI M n ax many A S f B → J g (k + 14) (z + 84) n M (lwL b ax many (iV (acF (accW A S) many)) (iV (lsG (trOf A S) 0)) (iV many) none none) 119 []) : ∀ dd t M, many - t = dd → t ≤ many → LwI M n ax many A S f B → J g (k + 2 * t) (z + 12 * t) n M (lwL b ax many (iV (acF (accW A S) t)) (iV (lsG (trOf A S) 0)) (iV t) none none) 54 [] := by
  intro dd
  induction dd with
  | zero =>
    intro t M he ht hL
    have hm7 : many ≤ 7 := hL.2.1
    obtain rfl : t = many := by omega
    refine J.iload (pc := 54) G dL_law_54 rfl ?_
    refine J.iload (pc := 56) G dL_law_56 rfl ?_
    refine J.icmp_geN (pc := 58) (tgt := 119) G dL_law_58 (by decide) (by omega) (by omega) (fun hc => ?_) (fun hc => ?_)
    · exact J.wid (by omega) (by omega) (kk M hL)
    · omega
  | succ dd ih =>
    intro t M he ht hL
    obtain ⟨l1, l2, hI, s5, s9, hT, hB, hR, hBA⟩ := id hL
    have hok : MnOk A S := hI.2.1
    have hle := least_le hok
    have hB99 : B t ≤ 99 := by rw [hBA t (by omega)]; exact hok.2.2.2.2.2.2 t (by omega)
    have hA12 : A 3 t ≤ 12 := hok.2.2.2.2.2.1 t (by omega)
    have hac := acF_le (W := accW A S) t
    refine J.iload (pc := 54) G dL_law_54 rfl ?_
    refine J.iload (pc := 56) G dL_law_56 rfl ?_
    refine J.icmp_geN (pc := 58) (tgt := 119) G dL_law_58 (by decide) (by omega) (by omega) (fun hc => ?_) (fun hc => ?_)
    · omega
    refine J.aload_n (pc := 61) G dL_law_61 rfl ?_
    refine J.iload (pc := 62) G dL_law_62 rfl ?_
    refine J.callXV (pc := 64) (na := 1) G ((K_accepts n M hI s9 (by omega))) q610 q611 q612 q613 q1 (by decide +kernel) dL_law_64 (hI.1.at 0 rfl) rfl rfl (Nat.le_of_ble_eq_true rfl) rfl ⟨by omega, by decide, by omega, by omega⟩ (fun E9 n9 M9 h9 => h9.elim) ?_
    rintro r9 n9 M1 ⟨hr9, hn9, hI1, hFr1⟩
    subst hr9
    rw [hn9]
    clear hn9 n9
    dsimp only [Option.toList, List.cons_append, List.nil_append]
    have hL1 := hL.go hI1 hFr1
    have hB1 : M1 (ax + 129) = some (cN 8 B) := hL1.2.2.2.2.2.2.1
    have hT1 : M1 (ax + 128) = some (cR 3 8 f) := hL1.2.2.2.2.2.1
    have h98 : J g (k + 2 * t + 2) (z + 12 * t + 12) n M1 (lwL b ax many (iV (acF (accW A S) t)) (iV (lsG (trOf A S) 0)) (iV t) (some (.int (bI (accW A S t)))) none) 98 [] := by
      have h110 : ∀ w : Nat, acF (accW A S) (t + 1) = acF (accW A S) t + w → J g (k + 2 * t + 2) (z + 12 * t + 12) n M1 (lwL b ax many (iV (acF (accW A S) t)) (iV (lsG (trOf A S) 0)) (iV t) (some (.int (bI (accW A S t)))) none) 110 [.int (iI (w : Int)), .int (iI ((acF (accW A S) t : Nat) : Int))] := by
        intro w hw
        refine J.iaddN (pc := 110) G dL_law_110 ?_
        refine J.istore (L' := [_, _, _, _, _, _, _, _, _, _]) (pc := 111) G dL_law_111 rfl (Nat.le_of_ble_eq_true rfl) rfl ?_
        refine J.iincN (L' := [_, _, _, _, _, _, _, _, _, _]) (pc := 113) G dL_law_113 1 rfl rfl rfl rfl ?_
        refine J.goto (tgt := 54) (pc := 116) G dL_law_116 (by decide) ?_
        refine J.fgt (L' := [_, _, _, _, _, _, _, _, _, _]) 8 rfl ?_
        rw [← hw]
        exact J.wid (by omega) (by omega) (ih (t + 1) M1 (by omega) (by omega) hL1)
      refine J.iload (pc := 98) G dL_law_98 rfl ?_
      refine J.iload (pc := 100) G dL_law_100 rfl ?_
      refine J.if_eq_b (pc := 102) (tgt := 109) G dL_law_102 (by decide) (fun hb => ?_) (fun hb => ?_)
      · refine J.iconstN (pc := 109) G dL_law_109 0 rfl ?_
        refine h110 0 ?_
        show (if accW A S t then acF (accW A S) t + 1 else acF (accW A S) t) = _
        rw [hb, if_neg Bool.false_ne_true, Nat.add_zero]
      · refine J.iconstN (pc := 105) G dL_law_105 1 rfl ?_
        refine J.goto (tgt := 110) (pc := 106) G dL_law_106 (by decide) ?_
        refine h110 1 ?_
        show (if accW A S t then acF (accW A S) t + 1 else acF (accW A S) t) = _
        rw [hb, if_pos rfl]
    have h81 : J g (k + 2 * t + 2) (z + 12 * t + 12) n M1 (lwL b ax many (iV (acF (accW A S) t)) (iV (lsG (trOf A S) 0)) (iV t) (some (.int (bI (accW A S t)))) none) 81 [] := by
      refine J.iload (pc := 81) G dL_law_81 rfl ?_
      refine J.if_eq_b (pc := 83) (tgt := 98) G dL_law_83 (by decide) (fun hb => h98) (fun hb => ?_)
      obtain ⟨r, h9, r1, r2, r3, r4⟩ := hL1.2.2.2.2.2.2.2.1 t (by omega)
      have hls := mt_least (wd := fun _ => 0) (en := fun _ => 0) hok (by omega) hb
      refine J.aload_n (pc := 86) G dL_law_86 rfl ?_
      refine J.iload (pc := 87) G dL_law_87 rfl ?_
      refine J.aald (pc := 89) G dL_law_89 hT1 (Or.inl rfl) t rfl (by omega) (by decide) r1 ?_
      refine J.alenI (pc := 90) G dL_law_90 r4 ?_
      refine J.iload (pc := 91) G dL_law_91 rfl ?_
      refine J.icmp_geN (pc := 93) (tgt := 98) G dL_law_93 (by decide) (by omega) (by omega) (fun hc3 => ?_) (fun hc3 => ?_)
      · exact h98
      · omega
    refine J.istore (L' := [_, _, _, _, _, _, _, _, _, _]) (pc := 67) G dL_law_67 rfl (Nat.le_of_ble_eq_true rfl) rfl ?_
    refine J.aload_n (pc := 69) G dL_law_69 rfl ?_
    refine J.iload (pc := 70) G dL_law_70 rfl ?_
    refine J.ialdN (pc := 72) G dL_law_72 hB1 (by omega) (by decide) ?_
    refine J.if_leN (pc := 73) (tgt := 81) G dL_law_73 (by decide) (by omega) (fun hc2 => ?_) (fun hc2 => ?_)
    · exact h81
    · have hacc : accW A S t = true := mt_acc (wd := fun _ => 0) (en := fun _ => 0) hok (by omega) (by rw [← hBA t (by omega)]; exact hc2)
      refine J.iload (pc := 76) G dL_law_76 rfl ?_
      refine J.if_eq_b (pc := 78) (tgt := 96) G dL_law_78 (by decide) (fun hb => ?_) (fun hb => h81)
      rw [hacc] at hb
      cases hb
set_option maxRecDepth 100000 in
theorem dc_n : ∀ s, s < 8 → ∀ c, c < 8 → s = 0 ∨ Op.cmpValue (FP.dcmp (FP.ddiv (FP.i2d (iI ((c : Nat) : Int))) (FP.i2d (iI ((s : Nat) : Int)))) (FP.ddiv (FP.i2d (iI ((c : Nat) : Int))) (FP.i2d (iI ((s : Nat) : Int))))) .l = iI ((0 : Nat) : Int) := by decide +kernel
set_option maxRecDepth 100000 in
set_option maxHeartbeats 4000000 in
/-- the fitness, and the labels of the tree -/
theorem lw_fit {g : GT} {d mc ms n ax b many k z : Nat} {M : AH} {A : Nat → Nat → Nat} {S : Nat → Nat} {f : Nat → Option Nat} {B : Nat → Nat} {x6 x7 : Option Value} (G : Cx g "ProcessMinerLaw" cL_law 10 d mc ms) (hd : 30 ≤ d) (hk : k + 3 ≤ mc) (hz : z + 18 ≤ ms) (hL : LwI M n ax many A S f B) (kk : ∀ M, LwI M n ax many A S f B → J g (k + 3) (z + 18) n M (lwL b ax many (iV (acF (accW A S) many)) x6 x7 none none) 153 []) : J g k z n M (lwL b ax many (iV (acF (accW A S) many)) x6 x7 none none) 119 [] := by
  obtain ⟨l1, l2, hI, s5, s9, hT, hB, hR, hBA⟩ := id hL
  have hok : MnOk A S := hI.2.1
  have hG := trOf_grown hok
  have hs8 : ndS (trOf A S) 0 < 256 := (hG.2.1 0 hG.1.1).2.1
  have hac := acF_le (W := accW A S) many
  have h139 : ∀ M, LwI M n ax many A S f B → J g (k + 1) (z + 6) n M (lwL b ax many (iV (acF (accW A S) many)) x6 x7 none none) 139 [] := by
    intro M hL
    obtain ⟨-, -, hI, -⟩ := id hL
    refine J.aload_n (pc := 139) G dL_law_139 rfl ?_
    refine J.iconstN (pc := 140) G dL_law_140 0 rfl ?_
    refine J.callXV (pc := 141) (na := 1) G ((K_labelsOf n M hI s9 hG.1.1)) q536 q537 q538 q539 q1 (by decide +kernel) dL_law_141 (hI.1.at 0 rfl) rfl rfl (Nat.le_of_ble_eq_true rfl) rfl ⟨by omega, by decide, by omega, by omega⟩ (fun E9 n9 M9 h9 => h9.elim) ?_
    rintro r9 n9 M9 ⟨hr9, hn9, hM9⟩
    subst hr9
    rw [hn9, hM9]
    clear hn9 hM9 n9 M9
    dsimp only [Option.toList, List.cons_append, List.nil_append]
    refine J.aload_n (pc := 144) G dL_law_144 rfl ?_
    refine J.callV (pc := 145) (na := 0) G ((K_labels n M hI)) q170 q171 q172 q173 q1 (by decide +kernel) dL_law_145 (hI.1.at 0 rfl) rfl rfl (Nat.le_of_ble_eq_true rfl) rfl ⟨by omega, by decide, by omega, by omega⟩ ?_
    rintro r9 n9 M2 ⟨hr9, hn9, hI2, hFr2⟩
    subst hr9
    rw [hn9]
    clear hn9 n9
    dsimp only [Option.toList, List.cons_append, List.nil_append]
    refine J.icmp_eqN (pc := 148) (tgt := 153) G dL_law_148 (by decide) (by omega) (by omega) (fun hc => ?_) (fun hc => ?_)
    · exact J.wid (by omega) (by omega) (kk M2 (hL.go hI2 hFr2))
    · exact absurd rfl hc
  refine J.iload (pc := 119) G dL_law_119 rfl ?_
  refine J.if_leN (pc := 121) (tgt := 139) G dL_law_121 (by decide) (by omega) (fun h0 => ?_) (fun h0 => ?_)
  · exact J.wid (by omega) (by omega) (h139 M hL)
  · refine J.aload_n (pc := 124) G dL_law_124 rfl ?_
    refine J.callXV (pc := 125) (na := 0) G ((K_fitness n M hI s9)) q670 q671 q672 q673 q1 (by decide +kernel) dL_law_125 (hI.1.at 0 rfl) rfl rfl (Nat.le_of_ble_eq_true rfl) rfl ⟨by omega, by decide, by omega, by omega⟩ (fun E9 n9 M9 h9 => h9.elim) ?_
    rintro r9 n9 M1 ⟨hr9, hn9, hI1, hFr1⟩
    subst hr9
    rw [hn9]
    clear hn9 n9
    dsimp only [Option.toList, List.cons_append, List.nil_append]
    refine J.iload (pc := 128) G dL_law_128 rfl ?_
    refine J.i2d (pc := 130) G dL_law_130 ?_
    refine J.iload (pc := 131) G dL_law_131 rfl ?_
    refine J.i2d (pc := 133) G dL_law_133 ?_
    refine J.ddiv (pc := 134) G dL_law_134 ((fit_n many (by omega) (acF (accW A S) many) (by omega)).resolve_left (by omega)) ?_
    refine J.dcmp (pc := 135) G dL_law_135 ?_
    have e : fiF (accW A S) (S 5) = FP.ddiv (FP.i2d (iI ((acF (accW A S) many : Nat) : Int))) (FP.i2d (iI ((many : Nat) : Int))) := by
      unfold fiF
      rw [if_neg (by omega), s5]
    rw [e, (dc_n many (by omega) (acF (accW A S) many) (by omega)).resolve_left (by omega)]
    refine J.if_neN (pc := 136) (tgt := 151) G dL_law_136 (by decide) (by omega) (fun hc => ?_) (fun hc => ?_)
    · exact absurd hc (Nat.lt_irrefl 0)
    · exact J.wid (by omega) (by omega) (h139 M1 (hL.go hI1 hFr1))
set_option maxRecDepth 100000 in
set_option maxHeartbeats 4000000 in
/-- how many words there are -/
theorem lw_words {g : GT} {d mc ms n ax b many k z : Nat} {A : Nat → Nat → Nat} {S : Nat → Nat} {f : Nat → Option Nat} {B : Nat → Nat} {x5 : Option Value} (G : Cx g "ProcessMinerLaw" cL_law 10 d mc ms) (hd : 30 ≤ d) (hk : k + 16 ≤ mc) (hz : z + 96 ≤ ms) (kk : ∀ M, LwI M n ax many A S f B → J g (k + 16) (z + 96) n M (lwL b ax many x5 (iV (lsG (trOf A S) 0)) (iV 4) none none) 202 []) : ∀ dd v M, 4 - v = dd → v ≤ 4 → LwI M n ax many A S f B → J g (k + 4 * v) (z + 24 * v) n M (lwL b ax many x5 (iV (lsG (trOf A S) 0)) (iV v) none none) 156 [] := by
  intro dd
  induction dd with
  | zero =>
    intro v M he hv hL
    obtain rfl : v = 4 := by omega
    refine J.iload (pc := 156) G dL_law_156 rfl ?_
    refine J.iconstN (pc := 158) G dL_law_158 4 rfl ?_
    refine J.icmp_geN (pc := 159) (tgt := 202) G dL_law_159 (by decide) (by omega) (by omega) (fun hc => ?_) (fun hc => ?_)
    · exact kk M hL
    · omega
  | succ dd ih =>
    intro v M he hv hL
    obtain ⟨l1, l2, hI, s5, s9, -⟩ := id hL
    have hle := least_le hI.2.1
    have h196 : ∀ M, LwI M n ax many A S f B → J g (k + 4 * v + 4) (z + 24 * v + 24) n M (lwL b ax many x5 (iV (lsG (trOf A S) 0)) (iV v) none none) 196 [] := by
      intro M hL
      refine J.iincN (L' := [_, _, _, _, _, _, _, _, _, _]) (pc := 196) G dL_law_196 1 rfl rfl rfl rfl ?_
      refine J.goto (tgt := 156) (pc := 199) G dL_law_199 (by decide) ?_
      exact J.wid (by omega) (by omega) (ih (v + 1) M (by omega) (by omega) hL)
    have h178 : ∀ M, LwI M n ax many A S f B → J g (k + 4 * v + 2) (z + 24 * v + 12) n M (lwL b ax many x5 (iV (lsG (trOf A S) 0)) (iV v) none none) 178 [] := by
      intro M hL
      obtain ⟨-, -, hI, -⟩ := id hL
      refine J.iload (pc := 178) G dL_law_178 rfl ?_
      refine J.iload (pc := 180) G dL_law_180 rfl ?_
      refine J.icmp_neN (pc := 182) (tgt := 196) G dL_law_182 (by decide) (by omega) (by omega) (fun hc => ?_) (fun hc => ?_)
      · exact J.wid (by omega) (by omega) (h196 M hL)
      · refine J.aload_n (pc := 185) G dL_law_185 rfl ?_
        refine J.iload (pc := 186) G dL_law_186 rfl ?_
        refine J.callXV (pc := 188) (na := 1) G ((K_words n M hI s9 (by omega))) q677 q678 q679 q680 q1 (by decide +kernel) dL_law_188 (hI.1.at 0 rfl) rfl rfl (Nat.le_of_ble_eq_true rfl) rfl ⟨by omega, by decide, by omega, by omega⟩ (fun E9 n9 M9 h9 => h9.elim) ?_
        rintro r9 n9 M1 ⟨⟨x, hx0, hx1, hxl, hr9⟩, hn9, hI1, hFr1⟩
        subst hr9
        rw [hn9]
        clear hn9 n9
        dsimp only [Option.toList, List.cons_append, List.nil_append]
        refine J.if_neN (pc := 191) (tgt := 196) G dL_law_191 (by decide) (by omega) (fun hc2 => ?_) (fun hc2 => ?_)
        · exact h196 M1 (hL.go hI1 hFr1)
        · have := hx1 hc
          omega
    refine J.iload (pc := 156) G dL_law_156 rfl ?_
    refine J.iconstN (pc := 158) G dL_law_158 4 rfl ?_
    refine J.icmp_geN (pc := 159) (tgt := 202) G dL_law_159 (by decide) (by omega) (by omega) (fun hc => ?_) (fun hc => ?_)
    · omega
    refine J.iload (pc := 162) G dL_law_162 rfl ?_
    refine J.iload (pc := 164) G dL_law_164 rfl ?_
    refine J.icmp_geN (pc := 166) (tgt := 178) G dL_law_166 (by decide) (by omega) (by omega) (fun hc2 => ?_) (fun hc2 => ?_)
    · exact J.wid (by omega) (by omega) (h178 M hL)
    · refine J.aload_n (pc := 169) G dL_law_169 rfl ?_
      refine J.iload (pc := 170) G dL_law_170 rfl ?_
      refine J.callXV (pc := 172) (na := 1) G ((K_words n M hI s9 (by omega))) q677 q678 q679 q680 q1 (by decide +kernel) dL_law_172 (hI.1.at 0 rfl) rfl rfl (Nat.le_of_ble_eq_true rfl) rfl ⟨by omega, by decide, by omega, by omega⟩ (fun E9 n9 M9 h9 => h9.elim) ?_
      rintro r9 n9 M1 ⟨⟨x, hx0, hx1, hxl, hr9⟩, hn9, hI1, hFr1⟩
      subst hr9
      rw [hn9]
      clear hn9 n9
      dsimp only [Option.toList, List.cons_append, List.nil_append]
      refine J.if_neN (pc := 175) (tgt := 194) G dL_law_175 (by decide) (by omega) (fun hc3 => ?_) (fun hc3 => ?_)
      · have := hx0 hc2
        omega
      · exact h178 M1 (hL.go hI1 hFr1)
end PLAW
