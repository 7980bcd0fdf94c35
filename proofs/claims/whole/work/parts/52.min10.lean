section MIN10
def adF (d : Int64) (v : Nat) : Int64 := d * 31 + (iI (v : Int)).toInt64
set_option maxRecDepth 100000 in
set_option maxHeartbeats 4000000 in
theorem c_addTo (n : Nat) (M : AH) {d : Int64} {v : Nat} : Fn yX3_addTo cX3_addTo 3 (some .long) 0 [.long d, .int (iI (v : Int))] n M 0 0 (fun r n' M' => r = some (.long (adF d v)) ∧ n' = n ∧ M' = M) := by
  refine Fn.of (by decide) [some _, none, some _] rfl rfl (Nat.le_of_ble_eq_true rfl) ?_
  intro g G hin hO
  refine J.lload_n (pc := 0) G dX3_addTo_0 rfl ?_
  refine J.ldc2 (pc := 1) G q326 dX3_addTo_1 ?_
  refine J.lmul (pc := 4) G dX3_addTo_4 ?_
  refine J.iload_n (pc := 5) G dX3_addTo_5 rfl ?_
  refine J.i2l (pc := 6) G dX3_addTo_6 ?_
  refine J.ladd (pc := 7) G dX3_addTo_7 ?_
  exact J.lret (pc := 8) G hO dX3_addTo_8 (Nat.le_refl _) (Nat.le_refl _) ⟨rfl, rfl, rfl⟩
def drF (E : Nat → Nat) (fr : Nat) (d : Int64) (k : Nat) : Int64 := it (fun i d => adF d (E (fr + i))) d k
set_option maxRecDepth 100000 in
set_option maxHeartbeats 4000000 in
theorem c_digestRow (n : Nat) (M : AH) {d : Int64} {r fr c m : Nat} {E : Nat → Nat} (hE : M r = some (cN m E)) (hm9 : fr + c ≤ m) (hm8 : m < 1000) : Fn yX3_digestRow cX3_digestRow 8 (some .long) 1 [.long d, .ref r, .int (iI (fr : Int)), .int (iI (c : Int))] n M 0 0 (fun rr n' M' => rr = some (.long (drF E fr d c)) ∧ n' = n ∧ M' = M) := by
  refine Fn.of (by decide) [some _, none, some _, some _, some _, none, none, none] rfl rfl (Nat.le_of_ble_eq_true rfl) ?_
  intro g G hin hO
  refine J.lload_n (pc := 0) G dX3_digestRow_0 rfl ?_
  refine J.lstore (L' := [_, _, _, _, _, _, _, _]) (pc := 1) G dX3_digestRow_1 rfl (Nat.le_of_ble_eq_true rfl) rfl ?_
  refine J.iconstN (pc := 3) G dX3_digestRow_3 0 rfl ?_
  refine J.istore (L' := [_, _, _, _, _, _, _, _]) (pc := 4) G dX3_digestRow_4 rfl (Nat.le_of_ble_eq_true rfl) rfl ?_
  have K1 : ∀ j : Nat, j ≤ c → J g 0 0 n M [some (.long d), none, some (.ref r), some (.int (iI (fr : Int))), some (.int (iI (c : Int))), some (.long (drF E fr d j)), none, some (.int (iI (j : Int)))] 6 [] := by
    refine loopJ (fun j => c - j) _ _ ?_
    intro j hj ih
    refine J.iload (pc := 6) G dX3_digestRow_6 rfl ?_
    refine J.iload (pc := 8) G dX3_digestRow_8 rfl ?_
    refine J.icmp_geN (pc := 10) (tgt := 32) G dX3_digestRow_10 (by decide) (by omega) (by omega) (fun h => ?_) (fun h => ?_)
    · refine J.lload (pc := 32) G dX3_digestRow_32 rfl ?_
      exact J.lret (pc := 34) G hO dX3_digestRow_34 (Nat.le_refl _) (Nat.le_refl _) ⟨by rw [show j = c by omega], rfl, rfl⟩
    · refine J.lload (pc := 13) G dX3_digestRow_13 rfl ?_
      refine J.aload_n (pc := 15) G dX3_digestRow_15 rfl ?_
      refine J.iload_n (pc := 16) G dX3_digestRow_16 rfl ?_
      refine J.iload (pc := 17) G dX3_digestRow_17 rfl ?_
      refine J.iaddN (pc := 19) G dX3_digestRow_19 ?_
      refine J.ialdN (pc := 20) G dX3_digestRow_20 hE (by omega) (by omega) ?_
      refine J.callS (pc := 21) (na := 2) G (c_addTo n M (d := drF E fr d j) (v := E (fr + j))) q323 q324 q325 q1 (by decide +kernel) dX3_digestRow_21 rfl (Nat.le_of_ble_eq_true rfl) rfl ⟨by omega, by decide, by omega, by omega⟩ ?_
      rintro r9 n9 M9 ⟨hr9, hn9, hM9⟩
      subst hr9
      rw [hn9, hM9]
      clear hn9 hM9 n9 M9
      dsimp only [Option.toList, List.cons_append, List.nil_append]
      refine J.lstore (L' := [_, _, _, _, _, _, _, _]) (pc := 24) G dX3_digestRow_24 rfl (Nat.le_of_ble_eq_true rfl) rfl ?_
      refine J.iincN (L' := [_, _, _, _, _, _, _, _]) (pc := 26) G dX3_digestRow_26 1 rfl rfl rfl rfl ?_
      refine J.goto (pc := 29) (tgt := 6) G dX3_digestRow_29 (by decide) ?_
      exact ih (j + 1) (by omega) (by omega)
  exact K1 0 (Nat.zero_le _)
def dgS (A : Nat → Nat → Nat) (t : Nat) (d : Int64) : Int64 := drF (A 2) (t * 12) (adF (adF d (A 4 t)) (A 3 t)) (A 3 t)
def dgN (nd : List Nd) (i : Nat) (d : Int64) : Int64 := adF (adF (adF d (ndK nd i)) (ndS nd i)) (chl nd i).length
def dg1 (A : Nat → Nat → Nat) (S : Nat → Nat) : Int64 := adF (drF (A 1) 0 (adF 167 (S 1)) (S 1)) (S 5)
def dg2 (A : Nat → Nat → Nat) (S : Nat → Nat) (k : Nat) : Int64 := it (dgS A) (dg1 A S) k
def dg3 (A : Nat → Nat → Nat) (S : Nat → Nat) (nd : List Nd) (k : Nat) : Int64 := it (dgN nd) (adF (dg2 A S (S 5)) nd.length) k
def dgF (A : Nat → Nat → Nat) (S : Nat → Nat) (nd : List Nd) : Int64 := if S 9 = 1 then dg3 A S nd nd.length else dg2 A S (S 5)
set_option maxRecDepth 100000 in
set_option maxHeartbeats 4000000 in
theorem c_digest (n : Nat) (M : AH) {a : Nat} {A : Nat → Nat → Nat} {S : Nat → Nat} {B : Nat → Nat → Nat} {P : Nat → Int} {T : Nat → Nat} {nd : List Nd} (hX : Cl M a (minC a A S)) (hok : MnOk A S) (hT : Cl M (a + 7) (treeC (a + 7) B P T)) (hnd : S 9 = 1 → TreeIs B P T nd) : Fn yX3_digest cX3_digest 4 (some .long) 2 [.ref a] n M 0 0 (fun r n' M' => r = some (.long (dgF A S nd)) ∧ n' = n ∧ M' = M) := by
  refine Fn.of (by decide) [some _, none, none, none] rfl rfl (Nat.le_of_ble_eq_true rfl) ?_
  intro g G hin hO
  obtain ⟨h1, h5, h9s, hbu, hev, hle, hti⟩ := id hok
  refine J.ldc2 (pc := 0) G q322 dX3_digest_0 ?_
  refine J.lstore_n (L' := [_, _, _, _]) (pc := 3) G dX3_digest_3 rfl (Nat.le_of_ble_eq_true rfl) rfl ?_
  refine J.lload_n (pc := 4) G dX3_digest_4 rfl ?_
  refine J.aload_n (pc := 5) G dX3_digest_5 rfl ?_
  refine J.getf (pc := 6) (ci := 3) G inX3 rfl 1 q136 dX3_digest_6 (hX.at 0 rfl) (by decide) rfl ?_
  refine J.callS (pc := 9) (na := 2) G (c_addTo n M (d := 167) (v := S 1)) q323 q324 q325 q1 (by decide +kernel) dX3_digest_9 rfl (Nat.le_of_ble_eq_true rfl) rfl ⟨by omega, by decide, by omega, by omega⟩ ?_
  rintro r9 n9 M9 ⟨hr9, hn9, hM9⟩
  subst hr9
  rw [hn9, hM9]
  clear hn9 hM9 n9 M9
  dsimp only [Option.toList, List.cons_append, List.nil_append]
  refine J.aload_n (pc := 12) G dX3_digest_12 rfl ?_
  refine J.getf (pc := 13) (ci := 3) G inX3 rfl 0 q135 dX3_digest_13 (hX.at 0 rfl) (by decide) rfl ?_
  refine J.iconstN (pc := 16) G dX3_digest_16 0 rfl ?_
  refine J.aload_n (pc := 17) G dX3_digest_17 rfl ?_
  refine J.getf (pc := 18) (ci := 3) G inX3 rfl 1 q136 dX3_digest_18 (hX.at 0 rfl) (by decide) rfl ?_
  refine J.callS (pc := 21) (na := 4) G (c_digestRow n M (d := adF 167 (S 1)) (r := a + 1) (fr := 0) (c := S 1) (hX.at 1 rfl) (by omega) (by omega)) q327 q328 q329 q1 (by decide +kernel) dX3_digest_21 rfl (Nat.le_of_ble_eq_true rfl) rfl ⟨by omega, by decide, by omega, by omega⟩ ?_
  rintro r9 n9 M9 ⟨hr9, hn9, hM9⟩
  subst hr9
  rw [hn9, hM9]
  clear hn9 hM9 n9 M9
  dsimp only [Option.toList, List.cons_append, List.nil_append]
  refine J.lstore_n (L' := [_, _, _, _]) (pc := 24) G dX3_digest_24 rfl (Nat.le_of_ble_eq_true rfl) rfl ?_
  refine J.lload_n (pc := 25) G dX3_digest_25 rfl ?_
  refine J.aload_n (pc := 26) G dX3_digest_26 rfl ?_
  refine J.getf (pc := 27) (ci := 3) G inX3 rfl 5 q140 dX3_digest_27 (hX.at 0 rfl) (by decide) rfl ?_
  refine J.callS (pc := 30) (na := 2) G (c_addTo n M (d := drF (A 1) 0 (adF 167 (S 1)) (S 1)) (v := S 5)) q323 q324 q325 q1 (by decide +kernel) dX3_digest_30 rfl (Nat.le_of_ble_eq_true rfl) rfl ⟨by omega, by decide, by omega, by omega⟩ ?_
  rintro r9 n9 M9 ⟨hr9, hn9, hM9⟩
  subst hr9
  rw [hn9, hM9]
  clear hn9 hM9 n9 M9
  dsimp only [Option.toList, List.cons_append, List.nil_append]
  refine J.lstore_n (L' := [_, _, _, _]) (pc := 33) G dX3_digest_33 rfl (Nat.le_of_ble_eq_true rfl) rfl ?_
  refine J.iconstN (pc := 34) G dX3_digest_34 0 rfl ?_
  refine J.istore_n (L' := [_, _, _, _]) (pc := 35) G dX3_digest_35 rfl (Nat.le_of_ble_eq_true rfl) rfl ?_
  have K1 : ∀ t : Nat, t ≤ S 5 → J g 0 0 n M [some (.ref a), some (.long (dg2 A S t)), none, some (.int (iI (t : Int)))] 36 [] := by
    refine loopJ (fun t => S 5 - t) _ _ ?_
    intro t ht ih
    have hstep : dg2 A S (t + 1) = dgS A t (dg2 A S t) := rfl
    refine J.iload_n (pc := 36) G dX3_digest_36 rfl ?_
    refine J.aload_n (pc := 37) G dX3_digest_37 rfl ?_
    refine J.getf (pc := 38) (ci := 3) G inX3 rfl 5 q140 dX3_digest_38 (hX.at 0 rfl) (by decide) rfl ?_
    refine J.icmp_geN (pc := 41) (tgt := 89) G dX3_digest_41 (by decide) (by omega) (by omega) (fun h => ?_) (fun h => ?_)
    · rw [show t = S 5 by omega]
      unfold dgF at hO
      refine J.aload_n (pc := 89) G dX3_digest_89 rfl ?_
      refine J.getf (pc := 90) (ci := 3) G inX3 rfl 9 q144 dX3_digest_90 (hX.at 0 rfl) (by decide) rfl ?_
      refine J.if_eqN (pc := 93) (tgt := 165) G dX3_digest_93 (by decide) (by omega) (fun h2 => ?_) (fun h2 => ?_)
      · rw [if_neg (by omega)] at hO
        refine J.lload_n (pc := 165) G dX3_digest_165 rfl ?_
        exact J.lret (pc := 166) G hO dX3_digest_166 (Nat.le_refl _) (Nat.le_refl _) ⟨rfl, rfl, rfl⟩
      · have hs1 : S 9 = 1 := by omega
        rw [if_pos hs1] at hO
        obtain ⟨g6, g64, gi, gp⟩ := hnd hs1
        refine J.lload_n (pc := 96) G dX3_digest_96 rfl ?_
        refine J.aload_n (pc := 97) G dX3_digest_97 rfl ?_
        refine J.getf (pc := 98) (ci := 3) G inX3 rfl 8 q142 dX3_digest_98 (hX.at 0 rfl) (by decide) rfl ?_
        refine J.getf (pc := 101) (ci := 2) G inX2 rfl 6 q46 dX3_digest_101 (hT.at 0 rfl) (by decide) rfl ?_
        rw [g6]
        refine J.callS (pc := 104) (na := 2) G (c_addTo n M (d := dg2 A S (S 5)) (v := nd.length)) q323 q324 q325 q1 (by decide +kernel) dX3_digest_104 rfl (Nat.le_of_ble_eq_true rfl) rfl ⟨by omega, by decide, by omega, by omega⟩ ?_
        rintro r9 n9 M9 ⟨hr9, hn9, hM9⟩
        subst hr9
        rw [hn9, hM9]
        clear hn9 hM9 n9 M9
        dsimp only [Option.toList, List.cons_append, List.nil_append]
        refine J.lstore_n (L' := [_, _, _, _]) (pc := 107) G dX3_digest_107 rfl (Nat.le_of_ble_eq_true rfl) rfl ?_
        refine J.iconstN (pc := 108) G dX3_digest_108 0 rfl ?_
        refine J.istore_n (L' := [_, _, _, _]) (pc := 109) G dX3_digest_109 rfl (Nat.le_of_ble_eq_true rfl) rfl ?_
        have K2 : ∀ i : Nat, i ≤ nd.length → J g 0 0 n M [some (.ref a), some (.long (dg3 A S nd i)), none, some (.int (iI (i : Int)))] 110 [] := by
          refine loopJ (fun i => nd.length - i) _ _ ?_
          intro i hi ih2
          have hstep : dg3 A S nd (i + 1) = dgN nd i (dg3 A S nd i) := rfl
          refine J.iload_n (pc := 110) G dX3_digest_110 rfl ?_
          refine J.aload_n (pc := 111) G dX3_digest_111 rfl ?_
          refine J.getf (pc := 112) (ci := 3) G inX3 rfl 8 q142 dX3_digest_112 (hX.at 0 rfl) (by decide) rfl ?_
          refine J.getf (pc := 115) (ci := 2) G inX2 rfl 6 q46 dX3_digest_115 (hT.at 0 rfl) (by decide) rfl ?_
          rw [g6]
          refine J.icmp_geN (pc := 118) (tgt := 165) G dX3_digest_118 (by decide) (by omega) (by omega) (fun h3 => ?_) (fun h3 => ?_)
          · rw [show i = nd.length by omega]
            refine J.lload_n (pc := 165) G dX3_digest_165 rfl ?_
            exact J.lret (pc := 166) G hO dX3_digest_166 (Nat.le_refl _) (Nat.le_refl _) ⟨rfl, rfl, rfl⟩
          · obtain ⟨e1, e2, -, e4, -⟩ := gi i h3
            refine J.lload_n (pc := 121) G dX3_digest_121 rfl ?_
            refine J.aload_n (pc := 122) G dX3_digest_122 rfl ?_
            refine J.getf (pc := 123) (ci := 3) G inX3 rfl 8 q142 dX3_digest_123 (hX.at 0 rfl) (by decide) rfl ?_
            refine J.getf (pc := 126) (ci := 2) G inX2 rfl 0 q33 dX3_digest_126 (hT.at 0 rfl) (by decide) rfl ?_
            refine J.iload_n (pc := 129) G dX3_digest_129 rfl ?_
            refine J.ialdN (pc := 130) G dX3_digest_130 (hT.at 1 rfl) (by omega) (by decide) ?_
            rw [e1]
            refine J.callS (pc := 131) (na := 2) G (c_addTo n M (d := dg3 A S nd i) (v := ndK nd i)) q323 q324 q325 q1 (by decide +kernel) dX3_digest_131 rfl (Nat.le_of_ble_eq_true rfl) rfl ⟨by omega, by decide, by omega, by omega⟩ ?_
            rintro r9 n9 M9 ⟨hr9, hn9, hM9⟩
            subst hr9
            rw [hn9, hM9]
            clear hn9 hM9 n9 M9
            dsimp only [Option.toList, List.cons_append, List.nil_append]
            refine J.aload_n (pc := 134) G dX3_digest_134 rfl ?_
            refine J.getf (pc := 135) (ci := 3) G inX3 rfl 8 q142 dX3_digest_135 (hX.at 0 rfl) (by decide) rfl ?_
            refine J.getf (pc := 138) (ci := 2) G inX2 rfl 1 q36 dX3_digest_138 (hT.at 0 rfl) (by decide) rfl ?_
            refine J.iload_n (pc := 141) G dX3_digest_141 rfl ?_
            refine J.ialdN (pc := 142) G dX3_digest_142 (hT.at 2 rfl) (by omega) (by decide) ?_
            rw [e2]
            refine J.callS (pc := 143) (na := 2) G (c_addTo n M (d := adF (dg3 A S nd i) (ndK nd i)) (v := ndS nd i)) q323 q324 q325 q1 (by decide +kernel) dX3_digest_143 rfl (Nat.le_of_ble_eq_true rfl) rfl ⟨by omega, by decide, by omega, by omega⟩ ?_
            rintro r9 n9 M9 ⟨hr9, hn9, hM9⟩
            subst hr9
            rw [hn9, hM9]
            clear hn9 hM9 n9 M9
            dsimp only [Option.toList, List.cons_append, List.nil_append]
            refine J.aload_n (pc := 146) G dX3_digest_146 rfl ?_
            refine J.getf (pc := 147) (ci := 3) G inX3 rfl 8 q142 dX3_digest_147 (hX.at 0 rfl) (by decide) rfl ?_
            refine J.getf (pc := 150) (ci := 2) G inX2 rfl 3 q41 dX3_digest_150 (hT.at 0 rfl) (by decide) rfl ?_
            refine J.iload_n (pc := 153) G dX3_digest_153 rfl ?_
            refine J.ialdN (pc := 154) G dX3_digest_154 (hT.at 4 rfl) (by omega) (by decide) ?_
            rw [e4]
            refine J.callS (pc := 155) (na := 2) G (c_addTo n M (d := adF (adF (dg3 A S nd i) (ndK nd i)) (ndS nd i)) (v := (chl nd i).length)) q323 q324 q325 q1 (by decide +kernel) dX3_digest_155 rfl (Nat.le_of_ble_eq_true rfl) rfl ⟨by omega, by decide, by omega, by omega⟩ ?_
            rintro r9 n9 M9 ⟨hr9, hn9, hM9⟩
            subst hr9
            rw [hn9, hM9]
            clear hn9 hM9 n9 M9
            dsimp only [Option.toList, List.cons_append, List.nil_append]
            refine J.lstore_n (L' := [_, _, _, _]) (pc := 158) G dX3_digest_158 rfl (Nat.le_of_ble_eq_true rfl) rfl ?_
            refine J.iincN (L' := [_, _, _, _]) (pc := 159) G dX3_digest_159 1 rfl rfl rfl rfl ?_
            refine J.goto (pc := 162) (tgt := 110) G dX3_digest_162 (by decide) ?_
            exact ih2 (i + 1) (by omega) (by omega)
        exact K2 0 (Nat.zero_le _)
    · have h3 := hle t (by omega)
      refine J.lload_n (pc := 44) G dX3_digest_44 rfl ?_
      refine J.aload_n (pc := 45) G dX3_digest_45 rfl ?_
      refine J.getf (pc := 46) (ci := 3) G inX3 rfl 4 q139 dX3_digest_46 (hX.at 0 rfl) (by decide) rfl ?_
      refine J.iload_n (pc := 49) G dX3_digest_49 rfl ?_
      refine J.ialdN (pc := 50) G dX3_digest_50 (hX.at 4 rfl) (by omega) (by decide) ?_
      refine J.callS (pc := 51) (na := 2) G (c_addTo n M (d := dg2 A S t) (v := A 4 t)) q323 q324 q325 q1 (by decide +kernel) dX3_digest_51 rfl (Nat.le_of_ble_eq_true rfl) rfl ⟨by omega, by decide, by omega, by omega⟩ ?_
      rintro r9 n9 M9 ⟨hr9, hn9, hM9⟩
      subst hr9
      rw [hn9, hM9]
      clear hn9 hM9 n9 M9
      dsimp only [Option.toList, List.cons_append, List.nil_append]
      refine J.aload_n (pc := 54) G dX3_digest_54 rfl ?_
      refine J.getf (pc := 55) (ci := 3) G inX3 rfl 3 q138 dX3_digest_55 (hX.at 0 rfl) (by decide) rfl ?_
      refine J.iload_n (pc := 58) G dX3_digest_58 rfl ?_
      refine J.ialdN (pc := 59) G dX3_digest_59 (hX.at 3 rfl) (by omega) (by decide) ?_
      refine J.callS (pc := 60) (na := 2) G (c_addTo n M (d := adF (dg2 A S t) (A 4 t)) (v := A 3 t)) q323 q324 q325 q1 (by decide +kernel) dX3_digest_60 rfl (Nat.le_of_ble_eq_true rfl) rfl ⟨by omega, by decide, by omega, by omega⟩ ?_
      rintro r9 n9 M9 ⟨hr9, hn9, hM9⟩
      subst hr9
      rw [hn9, hM9]
      clear hn9 hM9 n9 M9
      dsimp only [Option.toList, List.cons_append, List.nil_append]
      refine J.lstore_n (L' := [_, _, _, _]) (pc := 63) G dX3_digest_63 rfl (Nat.le_of_ble_eq_true rfl) rfl ?_
      refine J.lload_n (pc := 64) G dX3_digest_64 rfl ?_
      refine J.aload_n (pc := 65) G dX3_digest_65 rfl ?_
      refine J.getf (pc := 66) (ci := 3) G inX3 rfl 2 q137 dX3_digest_66 (hX.at 0 rfl) (by decide) rfl ?_
      refine J.iload_n (pc := 69) G dX3_digest_69 rfl ?_
      refine J.bipushN (pc := 70) G dX3_digest_70 12 (by decide +kernel) ?_
      refine J.imulN (pc := 72) G dX3_digest_72 ?_
      refine J.aload_n (pc := 73) G dX3_digest_73 rfl ?_
      refine J.getf (pc := 74) (ci := 3) G inX3 rfl 3 q138 dX3_digest_74 (hX.at 0 rfl) (by decide) rfl ?_
      refine J.iload_n (pc := 77) G dX3_digest_77 rfl ?_
      refine J.ialdN (pc := 78) G dX3_digest_78 (hX.at 3 rfl) (by omega) (by decide) ?_
      refine J.callS (pc := 79) (na := 4) G (c_digestRow n M (d := adF (adF (dg2 A S t) (A 4 t)) (A 3 t)) (r := a + 2) (fr := t * 12) (c := A 3 t) (hX.at 2 rfl) (by omega) (by omega)) q327 q328 q329 q1 (by decide +kernel) dX3_digest_79 rfl (Nat.le_of_ble_eq_true rfl) rfl ⟨by omega, by decide, by omega, by omega⟩ ?_
      rintro r9 n9 M9 ⟨hr9, hn9, hM9⟩
      subst hr9
      rw [hn9, hM9]
      clear hn9 hM9 n9 M9
      dsimp only [Option.toList, List.cons_append, List.nil_append]
      refine J.lstore_n (L' := [_, _, _, _]) (pc := 82) G dX3_digest_82 rfl (Nat.le_of_ble_eq_true rfl) rfl ?_
      refine J.iincN (L' := [_, _, _, _]) (pc := 83) G dX3_digest_83 1 rfl rfl rfl rfl ?_
      refine J.goto (pc := 86) (tgt := 36) G dX3_digest_86 (by decide) ?_
      exact ih (t + 1) (by omega) (by omega)
  exact K1 0 (Nat.zero_le _)
end MIN10
