section MOD12
def mgS (R : Nat → Nat → Nat) (t : Nat) (d : Int64) : Int64 := drF (R 4) (12 * t) (adF (adF d (R 2 t)) (R 3 t)) (R 3 t)
def mg1 (R : Nat → Nat → Nat) (Z : Nat → Nat) : Int64 := adF (drF (R 1) 0 (adF 167 (Z 1)) (Z 1)) (Z 3)
def mg2 (R : Nat → Nat → Nat) (Z : Nat → Nat) (k : Nat) : Int64 := it (mgS R) (mg1 R Z) k
def mg3 (R : Nat → Nat → Nat) (Z : Nat → Nat) (nd : List Nd) (k : Nat) : Int64 := it (dgN nd) (adF (mg2 R Z (Z 3)) nd.length) k
def mgF (R : Nat → Nat → Nat) (Z : Nat → Nat) (nd : List Nd) : Int64 := if Z 7 = 1 then mg3 R Z nd nd.length else mg2 R Z (Z 3)
theorem adF_0 {v : Nat} : (5177 : Int64) + (iI (v : Int)).toInt64 = adF 167 v := by
  unfold adF
  rw [show (167 : Int64) * 31 = 5177 from by decide]
theorem J.lng {g : GT} {k z n pc : Nat} {M : AH} {L : List (Option Value)} {st : List Value} {a b : Int64} (e : a = b) (kk : J g k z n M L pc (.long b :: st)) : J g k z n M L pc (.long a :: st) := e ▸ kk
set_option maxRecDepth 100000 in
set_option maxHeartbeats 4000000 in
theorem m_digest (n : Nat) (M0 : AH) {a : Nat} {R : Nat → Nat → Nat} {P : Nat → Int} {Z : Nat → Nat} {nd : List Nd} (hM : Cl M0 a (modC a R P Z)) (hok : MdOk R Z) (hT : Z 7 = 1 → MdT R P Z nd) : Fn yX4_digest cX4_digest 5 (some .long) 1 [.ref a] n M0 0 0 (MRead n M0 a R P Z (.long (mgF R Z nd)) 0) := by
  refine Fn.of (by decide) [some _, none, none, none, none] rfl rfl (Nat.le_of_ble_eq_true rfl) ?_
  intro g G hin hO
  obtain ⟨h1, h3, h7, hbu, htx, hln, htm⟩ := hok
  have hFr : Fr a (a + 9) M0 M0 := Fr.rf
  generalize hM1 : M0 = M1 at hM hFr
  have z1' : upN Z 0 0 1 = Z 1 := rfl
  have z3' : upN Z 0 0 3 = Z 3 := rfl
  have z7' : upN Z 0 0 7 = Z 7 := rfl
  refine J.aload_n (pc := 0) G dX4_digest_0 rfl ?_
  refine J.iconstN (pc := 1) G dX4_digest_1 0 rfl ?_
  refine J.putf (pc := 2) (ci := 4) G inX4 rfl tyX4 tyX4_ok nmX4 0 q695 dX4_digest_2 (hM.at 0 rfl) (by decide) (Nat.le_of_ble_eq_true rfl) (Or.inl rfl) (tyX4_ok 0 (by decide)) (by first | rfl | decide +kernel) (by first | rfl | decide +kernel) (fun M hput hag => ?_)
  have hM := modS0 hM hput hag
  have hFr := hFr.put hag (by omega) (by omega)
  clear hput hag
  refine J.ldc2 (pc := 5) G q983 dX4_digest_5 ?_
  refine J.aload_n (pc := 8) G dX4_digest_8 rfl ?_
  refine J.getf (pc := 9) (ci := 4) G inX4 rfl 1 q696 dX4_digest_9 (hM.at 0 rfl) (by decide) rfl ?_
  refine J.i2l (pc := 12) G dX4_digest_12 ?_
  refine J.ladd (pc := 13) G dX4_digest_13 ?_
  have hFr0 : Fr a (a + 9) M0 M := hM1 ▸ hFr
  refine J.lng (b := adF 167 (Z 1)) adF_0 ?_
  refine J.lstore_n (L' := [_, _, _, _, _]) (pc := 14) G dX4_digest_14 rfl (Nat.le_of_ble_eq_true rfl) rfl ?_
  refine J.iconstN (pc := 15) G dX4_digest_15 0 rfl ?_
  refine J.istore_n (L' := [_, _, _, _, _]) (pc := 16) G dX4_digest_16 rfl (Nat.le_of_ble_eq_true rfl) rfl ?_
  have K2 : ∀ t : Nat, t ≤ Z 3 → ∀ l4, J g 0 0 n M [some (.ref a), some (.long (mg2 R Z t)), none, some (.int (iI (t : Int))), l4] 59 [] := by
    refine loopJ (fun t => Z 3 - t) _ _ ?_
    intro t ht ih l4
    have hstep : mg2 R Z (t + 1) = drF (R 4) (12 * t) (adF (adF (mg2 R Z t) (R 2 t)) (R 3 t)) (R 3 t) := rfl
    refine J.iload_n (pc := 59) G dX4_digest_59 rfl ?_
    refine J.aload_n (pc := 60) G dX4_digest_60 rfl ?_
    refine J.getf (pc := 61) (ci := 4) G inX4 rfl 3 q698 dX4_digest_61 (hM.at 0 rfl) (by decide) rfl ?_
    rw [z3']
    refine J.icmp_geN (pc := 64) (tgt := 139) G dX4_digest_64 (by decide) (by omega) (by omega) (fun h => ?_) (fun h => ?_)
    · rw [show t = Z 3 by omega]
      unfold mgF at hO
      refine J.aload_n (pc := 139) G dX4_digest_139 rfl ?_
      refine J.getf (pc := 140) (ci := 4) G inX4 rfl 7 q702 dX4_digest_140 (hM.at 0 rfl) (by decide) rfl ?_
      rw [z7']
      refine J.if_neN (pc := 143) (tgt := 148) G dX4_digest_143 (by decide) (by omega) (fun h2 => ?_) (fun h2 => ?_)
      · have hs1 : Z 7 = 1 := by omega
        rw [if_pos hs1] at hO
        have hT8 := (hT hs1).keep (R' := R) (Z' := upN Z 0 0) ⟨rfl, rfl, rfl⟩
        obtain ⟨g8, g64, gi, gp⟩ := id hT8
        refine J.lload_n (pc := 148) G dX4_digest_148 rfl ?_
        refine J.ldc2 (pc := 149) G q984 dX4_digest_149 ?_
        refine J.lmul (pc := 152) G dX4_digest_152 ?_
        refine J.aload_n (pc := 153) G dX4_digest_153 rfl ?_
        refine J.getf (pc := 154) (ci := 4) G inX4 rfl 8 q703 dX4_digest_154 (hM.at 0 rfl) (by decide) rfl ?_
        rw [g8]
        refine J.i2l (pc := 157) G dX4_digest_157 ?_
        refine J.ladd (pc := 158) G dX4_digest_158 ?_
        refine J.lng (b := mg3 R Z nd 0) rfl ?_
        refine J.lstore_n (L' := [_, _, _, _, _]) (pc := 159) G dX4_digest_159 rfl (Nat.le_of_ble_eq_true rfl) rfl ?_
        refine J.iconstN (pc := 160) G dX4_digest_160 0 rfl ?_
        refine J.istore_n (L' := [_, _, _, _, _]) (pc := 161) G dX4_digest_161 rfl (Nat.le_of_ble_eq_true rfl) rfl ?_
        have K5 : ∀ k : Nat, k ≤ nd.length → J g 0 0 n M [some (.ref a), some (.long (mg3 R Z nd k)), none, some (.int (iI (k : Int))), l4] 162 [] := by
          refine loopJ (fun k => nd.length - k) _ _ ?_
          intro k hk ih5
          have hstep5 : mg3 R Z nd (k + 1) = dgN nd k (mg3 R Z nd k) := rfl
          refine J.iload_n (pc := 162) G dX4_digest_162 rfl ?_
          refine J.aload_n (pc := 163) G dX4_digest_163 rfl ?_
          refine J.getf (pc := 164) (ci := 4) G inX4 rfl 8 q703 dX4_digest_164 (hM.at 0 rfl) (by decide) rfl ?_
          rw [g8]
          refine J.icmp_geN (pc := 167) (tgt := 213) G dX4_digest_167 (by decide) (by omega) (by omega) (fun h3 => ?_) (fun h3 => ?_)
          · rw [show k = nd.length by omega]
            refine J.lload_n (pc := 213) G dX4_digest_213 rfl ?_
            exact J.lret (pc := 214) G hO dX4_digest_214 (by decide) (by decide) ⟨rfl, rfl, hM, hFr0⟩
          · obtain ⟨e1, -, e3⟩ := gi k h3
            refine J.lload_n (pc := 170) G dX4_digest_170 rfl ?_
            refine J.ldc2 (pc := 171) G q984 dX4_digest_171 ?_
            refine J.lmul (pc := 174) G dX4_digest_174 ?_
            refine J.aload_n (pc := 175) G dX4_digest_175 rfl ?_
            refine J.getf (pc := 176) (ci := 4) G inX4 rfl 9 q704 dX4_digest_176 (hM.at 0 rfl) (by decide) rfl ?_
            refine J.iload_n (pc := 179) G dX4_digest_179 rfl ?_
            refine J.ialdN (pc := 180) G dX4_digest_180 (hM.at 5 rfl) (by omega) (by decide) ?_
            rw [e1]
            refine J.i2l (pc := 181) G dX4_digest_181 ?_
            refine J.ladd (pc := 182) G dX4_digest_182 ?_
            refine J.ldc2 (pc := 183) G q984 dX4_digest_183 ?_
            refine J.lmul (pc := 186) G dX4_digest_186 ?_
            refine J.aload_n (pc := 187) G dX4_digest_187 rfl ?_
            refine J.getf (pc := 188) (ci := 4) G inX4 rfl 11 q706 dX4_digest_188 (hM.at 0 rfl) (by decide) rfl ?_
            refine J.iload_n (pc := 191) G dX4_digest_191 rfl ?_
            refine J.ialdN (pc := 192) G dX4_digest_192 (hM.at 7 rfl) (by omega) (by decide) ?_
            rw [e3]
            refine J.i2l (pc := 193) G dX4_digest_193 ?_
            refine J.ladd (pc := 194) G dX4_digest_194 ?_
            refine J.ldc2 (pc := 195) G q984 dX4_digest_195 ?_
            refine J.lmul (pc := 198) G dX4_digest_198 ?_
            refine J.aload_n (pc := 199) G dX4_digest_199 rfl ?_
            refine J.iload_n (pc := 200) G dX4_digest_200 rfl ?_
            refine J.callV (pc := 201) (na := 1) G (m_childCount n M (i := k) (nd := nd) hM hT8 h3) q905 q907 qp49 q908 q5 (by decide +kernel) dX4_digest_201 (hM.at 0 rfl) rfl rfl (Nat.le_of_ble_eq_true rfl) rfl ⟨by omega, by decide, by omega, by omega⟩ ?_
            rintro r9 n9 M9 ⟨hr9, hn9, hM9⟩
            subst hr9
            rw [hn9, hM9]
            clear hn9 hM9 n9 M9
            dsimp only [Option.toList, List.cons_append, List.nil_append]
            refine J.i2l (pc := 204) G dX4_digest_204 ?_
            refine J.ladd (pc := 205) G dX4_digest_205 ?_
            refine J.lng hstep5.symm ?_
            refine J.lstore_n (L' := [_, _, _, _, _]) (pc := 206) G dX4_digest_206 rfl (Nat.le_of_ble_eq_true rfl) rfl ?_
            refine J.iincN (L' := [_, _, _, _, _]) (pc := 207) G dX4_digest_207 1 rfl rfl rfl rfl ?_
            refine J.goto (pc := 210) (tgt := 162) G dX4_digest_210 (by decide) ?_
            exact ih5 (k + 1) (by omega) (by omega)
        exact K5 0 (Nat.zero_le _)
      · rw [if_neg (by omega)] at hO
        refine J.lload_n (pc := 146) G dX4_digest_146 rfl ?_
        exact J.lret (pc := 147) G hO dX4_digest_147 (by decide) (by decide) ⟨rfl, rfl, hM, hFr0⟩
    · have hl := hln t (by omega)
      refine J.lload_n (pc := 67) G dX4_digest_67 rfl ?_
      refine J.ldc2 (pc := 68) G q984 dX4_digest_68 ?_
      refine J.lmul (pc := 71) G dX4_digest_71 ?_
      refine J.aload_n (pc := 72) G dX4_digest_72 rfl ?_
      refine J.getf (pc := 73) (ci := 4) G inX4 rfl 4 q699 dX4_digest_73 (hM.at 0 rfl) (by decide) rfl ?_
      refine J.iload_n (pc := 76) G dX4_digest_76 rfl ?_
      refine J.ialdN (pc := 77) G dX4_digest_77 (hM.at 2 rfl) (by omega) (by decide) ?_
      refine J.i2l (pc := 78) G dX4_digest_78 ?_
      refine J.ladd (pc := 79) G dX4_digest_79 ?_
      refine J.ldc2 (pc := 80) G q984 dX4_digest_80 ?_
      refine J.lmul (pc := 83) G dX4_digest_83 ?_
      refine J.aload_n (pc := 84) G dX4_digest_84 rfl ?_
      refine J.getf (pc := 85) (ci := 4) G inX4 rfl 5 q700 dX4_digest_85 (hM.at 0 rfl) (by decide) rfl ?_
      refine J.iload_n (pc := 88) G dX4_digest_88 rfl ?_
      refine J.ialdN (pc := 89) G dX4_digest_89 (hM.at 3 rfl) (by omega) (by decide) ?_
      refine J.i2l (pc := 90) G dX4_digest_90 ?_
      refine J.ladd (pc := 91) G dX4_digest_91 ?_
      refine J.lng (b := adF (adF (mg2 R Z t) (R 2 t)) (R 3 t)) rfl ?_
      refine J.lstore_n (L' := [_, _, _, _, _]) (pc := 92) G dX4_digest_92 rfl (Nat.le_of_ble_eq_true rfl) rfl ?_
      refine J.iconstN (pc := 93) G dX4_digest_93 0 rfl ?_
      refine J.istore (L' := [_, _, _, _, _]) (pc := 94) G dX4_digest_94 rfl (Nat.le_of_ble_eq_true rfl) rfl ?_
      have K4 : ∀ j : Nat, j ≤ R 3 t → J g 0 0 n M [some (.ref a), some (.long (drF (R 4) (12 * t) (adF (adF (mg2 R Z t) (R 2 t)) (R 3 t)) j)), none, some (.int (iI (t : Int))), some (.int (iI (j : Int)))] 96 [] := by
        refine loopJ (fun j => R 3 t - j) _ _ ?_
        intro j hj ih4
        have hstep4 : drF (R 4) (12 * t) (adF (adF (mg2 R Z t) (R 2 t)) (R 3 t)) (j + 1) = adF (drF (R 4) (12 * t) (adF (adF (mg2 R Z t) (R 2 t)) (R 3 t)) j) (R 4 (12 * t + j)) := rfl
        refine J.iload (pc := 96) G dX4_digest_96 rfl ?_
        refine J.aload_n (pc := 98) G dX4_digest_98 rfl ?_
        refine J.getf (pc := 99) (ci := 4) G inX4 rfl 5 q700 dX4_digest_99 (hM.at 0 rfl) (by decide) rfl ?_
        refine J.iload_n (pc := 102) G dX4_digest_102 rfl ?_
        refine J.ialdN (pc := 103) G dX4_digest_103 (hM.at 3 rfl) (by omega) (by decide) ?_
        refine J.icmp_geN (pc := 104) (tgt := 133) G dX4_digest_104 (by decide) (by omega) (by omega) (fun h2 => ?_) (fun h2 => ?_)
        · rw [show j = R 3 t by omega, ← hstep]
          refine J.iincN (L' := [_, _, _, _, _]) (pc := 133) G dX4_digest_133 1 rfl rfl rfl rfl ?_
          refine J.goto (pc := 136) (tgt := 59) G dX4_digest_136 (by decide) ?_
          exact ih (t + 1) (by omega) (by omega) _
        · refine J.lload_n (pc := 107) G dX4_digest_107 rfl ?_
          refine J.ldc2 (pc := 108) G q984 dX4_digest_108 ?_
          refine J.lmul (pc := 111) G dX4_digest_111 ?_
          refine J.aload_n (pc := 112) G dX4_digest_112 rfl ?_
          refine J.getf (pc := 113) (ci := 4) G inX4 rfl 6 q701 dX4_digest_113 (hM.at 0 rfl) (by decide) rfl ?_
          refine J.bipushN (pc := 116) G dX4_digest_116 12 (by decide +kernel) ?_
          refine J.iload_n (pc := 118) G dX4_digest_118 rfl ?_
          refine J.imulN (pc := 119) G dX4_digest_119 ?_
          refine J.iload (pc := 120) G dX4_digest_120 rfl ?_
          refine J.iaddN (pc := 122) G dX4_digest_122 ?_
          refine J.ialdN (pc := 123) G dX4_digest_123 (hM.at 4 rfl) (by omega) (by decide) ?_
          refine J.i2l (pc := 124) G dX4_digest_124 ?_
          refine J.ladd (pc := 125) G dX4_digest_125 ?_
          refine J.lng hstep4.symm ?_
          refine J.lstore_n (L' := [_, _, _, _, _]) (pc := 126) G dX4_digest_126 rfl (Nat.le_of_ble_eq_true rfl) rfl ?_
          refine J.iincN (L' := [_, _, _, _, _]) (pc := 127) G dX4_digest_127 1 rfl rfl rfl rfl ?_
          refine J.goto (pc := 130) (tgt := 96) G dX4_digest_130 (by decide) ?_
          exact ih4 (j + 1) (by omega) (by omega)
      exact K4 0 (Nat.zero_le _)
  have K1 : ∀ j : Nat, j ≤ Z 1 → J g 0 0 n M [some (.ref a), some (.long (drF (R 1) 0 (adF 167 (Z 1)) j)), none, some (.int (iI (j : Int))), none] 17 [] := by
    refine loopJ (fun j => Z 1 - j) _ _ ?_
    intro j hj ih
    have hstep : drF (R 1) 0 (adF 167 (Z 1)) (j + 1) = adF (drF (R 1) 0 (adF 167 (Z 1)) j) (R 1 (0 + j)) := rfl
    rw [Nat.zero_add] at hstep
    refine J.iload_n (pc := 17) G dX4_digest_17 rfl ?_
    refine J.aload_n (pc := 18) G dX4_digest_18 rfl ?_
    refine J.getf (pc := 19) (ci := 4) G inX4 rfl 1 q696 dX4_digest_19 (hM.at 0 rfl) (by decide) rfl ?_
    rw [z1']
    refine J.icmp_geN (pc := 22) (tgt := 45) G dX4_digest_22 (by decide) (by omega) (by omega) (fun h => ?_) (fun h => ?_)
    · rw [show j = Z 1 by omega]
      refine J.lload_n (pc := 45) G dX4_digest_45 rfl ?_
      refine J.ldc2 (pc := 46) G q984 dX4_digest_46 ?_
      refine J.lmul (pc := 49) G dX4_digest_49 ?_
      refine J.aload_n (pc := 50) G dX4_digest_50 rfl ?_
      refine J.getf (pc := 51) (ci := 4) G inX4 rfl 3 q698 dX4_digest_51 (hM.at 0 rfl) (by decide) rfl ?_
      rw [z3']
      refine J.i2l (pc := 54) G dX4_digest_54 ?_
      refine J.ladd (pc := 55) G dX4_digest_55 ?_
      refine J.lng (b := mg2 R Z 0) rfl ?_
      refine J.lstore_n (L' := [_, _, _, _, _]) (pc := 56) G dX4_digest_56 rfl (Nat.le_of_ble_eq_true rfl) rfl ?_
      refine J.iconstN (pc := 57) G dX4_digest_57 0 rfl ?_
      refine J.istore_n (L' := [_, _, _, _, _]) (pc := 58) G dX4_digest_58 rfl (Nat.le_of_ble_eq_true rfl) rfl ?_
      exact K2 0 (Nat.zero_le _) _
    · refine J.lload_n (pc := 25) G dX4_digest_25 rfl ?_
      refine J.ldc2 (pc := 26) G q984 dX4_digest_26 ?_
      refine J.lmul (pc := 29) G dX4_digest_29 ?_
      refine J.aload_n (pc := 30) G dX4_digest_30 rfl ?_
      refine J.getf (pc := 31) (ci := 4) G inX4 rfl 2 q697 dX4_digest_31 (hM.at 0 rfl) (by decide) rfl ?_
      refine J.iload_n (pc := 34) G dX4_digest_34 rfl ?_
      refine J.ialdN (pc := 35) G dX4_digest_35 (hM.at 1 rfl) (by omega) (by decide) ?_
      refine J.i2l (pc := 36) G dX4_digest_36 ?_
      refine J.ladd (pc := 37) G dX4_digest_37 ?_
      refine J.lng hstep.symm ?_
      refine J.lstore_n (L' := [_, _, _, _, _]) (pc := 38) G dX4_digest_38 rfl (Nat.le_of_ble_eq_true rfl) rfl ?_
      refine J.iincN (L' := [_, _, _, _, _]) (pc := 39) G dX4_digest_39 1 rfl rfl rfl rfl ?_
      refine J.goto (pc := 42) (tgt := 17) G dX4_digest_42 (by decide) ?_
      exact ih (j + 1) (by omega) (by omega)
  exact K1 0 (Nat.zero_le _)
end MOD12
