section PROW
/-- build's locals -/
abbrev bdL (ax b form many t : Nat) (x8 x9 x10 x11 x12 x13 x14 : Option Value) : List (Option Value) := [some (.ref ax), some (.ref b), some (.int (iI ((0 : Nat) : Int))), some (.ref (ax + 128)), some (.ref (ax + 129)), some (.int (iI (form : Int))), some (.int (iI (many : Int))), some (.int (iI (t : Int))), x8, x9, x10, x11, x12, x13, x14]
abbrev iV (i : Nat) : Option Value := some (.int (iI (i : Int)))
set_option maxRecDepth 100000 in
set_option maxHeartbeats 4000000 in
/-- a row of labels is chosen -/
theorem bd_row {g : GT} {d mc ms n ax b form many t size ro k z : Nat} {M0 : AH} {x : Int32} (G : Cx g "ProcessMinerLaw" cL_build 15 d mc ms) (hd : 20 ≤ d) (hform : form < 6) (hsz : size ≤ 6) (hk : k ≤ mc) (hz : z ≤ ms) (kk : ∀ M h, M ro = some (cN 12 h) → (∀ j, j < 12 → h j < 8) → (∀ q, q ≠ ro → M q = M0 q) → J g k z n M (bdL ax b form many t (some (.int x)) (iV size) (some (.ref ro)) (iV size) (iV size) none none) 238 []) : ∀ dd i M h, size - i = dd → i ≤ size → M ro = some (cN 12 h) → (∀ j, j < 12 → h j < 8) → (∀ q, q ≠ ro → M q = M0 q) → J g k z n M (bdL ax b form many t (some (.int x)) (iV size) (some (.ref ro)) (iV i) (iV i) none none) 79 [] := by
  intro dd
  induction dd with
  | zero =>
    intro i M h he hi hM h8 hq
    obtain rfl : i = size := by omega
    refine J.iload (pc := 79) G dL_build_79 rfl ?_
    refine J.iload (pc := 81) G dL_build_81 rfl ?_
    refine J.icmp_geN (pc := 83) (tgt := 238) G dL_build_83 (by decide) (by omega) (by omega) (fun hc => ?_) (fun hc => ?_)
    · exact kk M h hM h8 hq
    · omega
  | succ dd ih =>
    intro i M h he hi hM h8 hq
    have h220 : ∀ v : Nat, v < 8 → ∀ y : Int32, J g k z n M (bdL ax b form many t (some (.int x)) (iV size) (some (.ref ro)) (iV i) (iV i) (some (.int y)) none) 220 [.int (iI (v : Int))] := by
      intro v hv y
      refine J.istore (L' := [_, _, _, _, _, _, _, _, _, _, _, _, _, _, _]) (pc := 220) G dL_build_220 rfl (Nat.le_of_ble_eq_true rfl) rfl ?_
      refine J.aload (pc := 222) G dL_build_222 rfl ?_
      refine J.iload (pc := 224) G dL_build_224 rfl ?_
      refine J.iload (pc := 226) G dL_build_226 rfl ?_
      refine J.iastN (pc := 228) G dL_build_228 hM (by omega) (by decide) (fun M1 hput hag => ?_)
      refine J.iincN (L' := [_, _, _, _, _, _, _, _, _, _, _, _, _, _, _]) (pc := 229) G dL_build_229 1 rfl rfl rfl rfl ?_
      refine J.iincN (L' := [_, _, _, _, _, _, _, _, _, _, _, _, _, _, _]) (pc := 232) G dL_build_232 1 rfl rfl rfl rfl ?_
      refine J.goto (tgt := 79) (pc := 235) G dL_build_235 (by decide) ?_
      refine J.fgt (L' := [_, _, _, _, _, _, _, _, _, _, _, _, _, _, _]) 13 rfl ?_
      refine J.fgt (L' := [_, _, _, _, _, _, _, _, _, _, _, _, _, _, _]) 14 rfl ?_
      refine ih (i + 1) M1 _ (by omega) (by omega) hput (fun j hj => ?_) (fun q hne => (hag q hne).trans (hq q hne))
      by_cases e : j = i
      · subst e; rw [upN_s]; exact hv
      · rw [upN_n e]; exact h8 j hj
    refine J.iload (pc := 79) G dL_build_79 rfl ?_
    refine J.iload (pc := 81) G dL_build_81 rfl ?_
    refine J.icmp_geN (pc := 83) (tgt := 238) G dL_build_83 (by decide) (by omega) (by omega) (fun hc => ?_) (fun hc => ?_)
    · omega
    refine J.iload (pc := 86) G dL_build_86 rfl ?_
    refine J.iconstN (pc := 88) G dL_build_88 3 rfl ?_
    refine J.iconstN (pc := 89) G dL_build_89 3 rfl ?_
    refine J.iload (pc := 90) G dL_build_90 rfl ?_
    refine J.imulN (pc := 92) G dL_build_92 ?_
    refine J.iaddN (pc := 93) G dL_build_93 ?_
    refine J.ishr_r (pc := 94) G dL_build_94 ?_
    refine J.istore (L' := [_, _, _, _, _, _, _, _, _, _, _, _, _, _, _]) (pc := 95) G dL_build_95 rfl (Nat.le_of_ble_eq_true rfl) rfl ?_
    refine J.iload (pc := 97) G dL_build_97 rfl ?_
    refine J.if_neN (pc := 99) (tgt := 112) G dL_build_99 (by decide) (by omega) (fun hf => ?_) (fun hf => ?_)
    · refine J.iload (pc := 112) G dL_build_112 rfl ?_
      refine J.iconstN (pc := 114) G dL_build_114 1 rfl ?_
      refine J.icmp_neN (pc := 115) (tgt := 130) G dL_build_115 (by decide) (by omega) (by omega) (fun hf1 => ?_) (fun hf1 => ?_)
      · refine J.iload (pc := 130) G dL_build_130 rfl ?_
        refine J.iconstN (pc := 132) G dL_build_132 2 rfl ?_
        refine J.icmp_neN (pc := 133) (tgt := 167) G dL_build_133 (by decide) (by omega) (by omega) (fun hf2 => ?_) (fun hf2 => ?_)
        · refine J.iload (pc := 167) G dL_build_167 rfl ?_
          refine J.iconstN (pc := 169) G dL_build_169 3 rfl ?_
          refine J.icmp_neN (pc := 170) (tgt := 189) G dL_build_170 (by decide) (by omega) (by omega) (fun hf3 => ?_) (fun hf3 => ?_)
          · refine J.iload (pc := 189) G dL_build_189 rfl ?_
            refine J.iconstN (pc := 191) G dL_build_191 4 rfl ?_
            refine J.icmp_neN (pc := 192) (tgt := 214) G dL_build_192 (by decide) (by omega) (by omega) (fun hf4 => ?_) (fun hf4 => ?_)
            · refine J.iload (pc := 214) G dL_build_214 rfl ?_
              refine J.iconstN (pc := 216) G dL_build_216 3 rfl ?_
              refine J.callS (pc := 217) (na := 2) G ((c_below n M (by decide) (by decide))) q1002 q1003 q1004 q0 (by decide +kernel) dL_build_217 rfl (Nat.le_of_ble_eq_true rfl) rfl ⟨by omega, by decide, by omega, by omega⟩ ?_
              rintro r9 n9 M9 ⟨⟨j, hj, hr9⟩, hn9, hM9⟩
              subst hr9
              rw [hn9, hM9]
              clear hn9 hM9 n9 M9
              dsimp only [Option.toList, List.cons_append, List.nil_append]
              exact h220 j (by omega) _
            · refine J.iload (pc := 195) G dL_build_195 rfl ?_
              refine J.iconstN (pc := 197) G dL_build_197 3 rfl ?_
              refine J.ishr_r (pc := 198) G dL_build_198 ?_
              refine J.iconstN (pc := 199) G dL_build_199 2 rfl ?_
              refine J.callS (pc := 200) (na := 2) G ((c_below n M (by decide) (by decide))) q1002 q1003 q1004 q0 (by decide +kernel) dL_build_200 rfl (Nat.le_of_ble_eq_true rfl) rfl ⟨by omega, by decide, by omega, by omega⟩ ?_
              rintro r9 n9 M9 ⟨⟨j, hj, hr9⟩, hn9, hM9⟩
              subst hr9
              rw [hn9, hM9]
              clear hn9 hM9 n9 M9
              dsimp only [Option.toList, List.cons_append, List.nil_append]
              refine J.iconstN (pc := 203) G dL_build_203 4 rfl ?_
              refine J.imulN (pc := 204) G dL_build_204 ?_
              refine J.iload (pc := 205) G dL_build_205 rfl ?_
              refine J.iaddN (pc := 207) G dL_build_207 ?_
              refine J.bipushN (pc := 208) G dL_build_208 8 (by decide +kernel) ?_
              refine J.iremN (pc := 210) G dL_build_210 (by omega) (by decide) (by decide) ?_
              refine J.goto (tgt := 220) (pc := 211) G dL_build_211 (by decide) ?_
              exact h220 _ (Nat.mod_lt _ (by decide)) _
          · refine J.iload (pc := 173) G dL_build_173 rfl ?_
            refine J.iconstN (pc := 175) G dL_build_175 2 rfl ?_
            refine J.iremN (pc := 176) G dL_build_176 (by omega) (by decide) (by decide) ?_
            refine J.iconstN (pc := 177) G dL_build_177 1 rfl ?_
            refine J.iload (pc := 178) G dL_build_178 rfl ?_
            refine J.iconstN (pc := 180) G dL_build_180 2 rfl ?_
            refine J.callS (pc := 181) (na := 2) G ((c_below n M (by decide) (by decide))) q1002 q1003 q1004 q0 (by decide +kernel) dL_build_181 rfl (Nat.le_of_ble_eq_true rfl) rfl ⟨by omega, by decide, by omega, by omega⟩ ?_
            rintro r9 n9 M9 ⟨⟨j, hj, hr9⟩, hn9, hM9⟩
            subst hr9
            rw [hn9, hM9]
            clear hn9 hM9 n9 M9
            dsimp only [Option.toList, List.cons_append, List.nil_append]
            refine J.iaddN (pc := 184) G dL_build_184 ?_
            refine J.imulN (pc := 185) G dL_build_185 ?_
            refine J.goto (tgt := 220) (pc := 186) G dL_build_186 (by decide) ?_
            refine h220 _ ?_ _
            have h1 : i % 2 ≤ 1 := by omega
            have h2 : i % 2 * (1 + j) ≤ 1 * (1 + j) := Nat.mul_le_mul_right _ h1
            omega
        · refine J.iload (pc := 136) G dL_build_136 rfl ?_
          refine J.iconstN (pc := 138) G dL_build_138 2 rfl ?_
          refine J.icmp_geN (pc := 139) (tgt := 156) G dL_build_139 (by decide) (by omega) (by omega) (fun hi2 => ?_) (fun hi2 => ?_)
          · refine J.iconstN (pc := 156) G dL_build_156 2 rfl ?_
            refine J.iload (pc := 157) G dL_build_157 rfl ?_
            refine J.iconstN (pc := 159) G dL_build_159 3 rfl ?_
            refine J.callS (pc := 160) (na := 2) G ((c_below n M (by decide) (by decide))) q1002 q1003 q1004 q0 (by decide +kernel) dL_build_160 rfl (Nat.le_of_ble_eq_true rfl) rfl ⟨by omega, by decide, by omega, by omega⟩ ?_
            rintro r9 n9 M9 ⟨⟨j, hj, hr9⟩, hn9, hM9⟩
            subst hr9
            rw [hn9, hM9]
            clear hn9 hM9 n9 M9
            dsimp only [Option.toList, List.cons_append, List.nil_append]
            refine J.iaddN (pc := 163) G dL_build_163 ?_
            refine J.goto (tgt := 220) (pc := 164) G dL_build_164 (by decide) ?_
            exact h220 _ (by omega) _
          · refine J.iload (pc := 142) G dL_build_142 rfl ?_
            refine J.iload (pc := 144) G dL_build_144 rfl ?_
            refine J.iconstN (pc := 146) G dL_build_146 3 rfl ?_
            refine J.ishr_r (pc := 147) G dL_build_147 ?_
            refine J.iconstN (pc := 148) G dL_build_148 2 rfl ?_
            refine J.callS (pc := 149) (na := 2) G ((c_below n M (by decide) (by decide))) q1002 q1003 q1004 q0 (by decide +kernel) dL_build_149 rfl (Nat.le_of_ble_eq_true rfl) rfl ⟨by omega, by decide, by omega, by omega⟩ ?_
            rintro r9 n9 M9 ⟨⟨j, hj, hr9⟩, hn9, hM9⟩
            subst hr9
            rw [hn9, hM9]
            clear hn9 hM9 n9 M9
            dsimp only [Option.toList, List.cons_append, List.nil_append]
            refine J.ixorN (pc := 152) G dL_build_152 ?_
            refine J.goto (tgt := 220) (pc := 153) G dL_build_153 (by decide) ?_
            exact h220 _ (Nat.xor_lt_two_pow (n := 3) (by omega) (by omega)) _
      · refine J.iload (pc := 118) G dL_build_118 rfl ?_
        refine J.iload (pc := 120) G dL_build_120 rfl ?_
        refine J.iconstN (pc := 122) G dL_build_122 2 rfl ?_
        refine J.callS (pc := 123) (na := 2) G ((c_below n M (by decide) (by decide))) q1002 q1003 q1004 q0 (by decide +kernel) dL_build_123 rfl (Nat.le_of_ble_eq_true rfl) rfl ⟨by omega, by decide, by omega, by omega⟩ ?_
        rintro r9 n9 M9 ⟨⟨j, hj, hr9⟩, hn9, hM9⟩
        subst hr9
        rw [hn9, hM9]
        clear hn9 hM9 n9 M9
        dsimp only [Option.toList, List.cons_append, List.nil_append]
        refine J.iaddN (pc := 126) G dL_build_126 ?_
        refine J.goto (tgt := 220) (pc := 127) G dL_build_127 (by decide) ?_
        exact h220 _ (by omega) _
    · refine J.iload (pc := 102) G dL_build_102 rfl ?_
      refine J.bipushN (pc := 104) G dL_build_104 8 (by decide +kernel) ?_
      refine J.callS (pc := 106) (na := 2) G ((c_below n M (by decide) (by decide))) q1002 q1003 q1004 q0 (by decide +kernel) dL_build_106 rfl (Nat.le_of_ble_eq_true rfl) rfl ⟨by omega, by decide, by omega, by omega⟩ ?_
      rintro r9 n9 M9 ⟨⟨j, hj, hr9⟩, hn9, hM9⟩
      subst hr9
      rw [hn9, hM9]
      clear hn9 hM9 n9 M9
      dsimp only [Option.toList, List.cons_append, List.nil_append]
      refine J.goto (tgt := 220) (pc := 109) G dL_build_109 (by decide) ?_
      exact h220 j (by omega) _
end PROW
