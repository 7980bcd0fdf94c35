section LAW3
set_option maxRecDepth 100000 in
set_option maxHeartbeats 4000000 in
theorem k_event {g : GT} {d mc ms k z n ax b N i : Nat} {M : AH} {xs : Nat → Int32} {A : Nat → Nat → Nat} {S : Nat → Nat} (G : Cx g "ProcessMinerLaw" cL_law 9 d mc ms) (hd : 1900 ≤ d) (hXs : va_X b N xs (gs g) (gs g).heap) (hb : b < glo g) (hN : N ≤ 1536) (hi : i + 3 ≤ N) (hn : ax + 139 ≤ n) (hI : ClsI M ax A S) (hM : MdlI M (ax + 128) A S) (ho : OutI M (ax + 137)) (hk : k + 3 ≤ mc) (hz : z + 18 ≤ ms) (kend : LawEnd g ax b i (k + 3) (z + 18)) : J g k z n M (lawL b ax i none none none) 164 [] := by
  have hok := hI.2.1
  obtain ⟨v, ev, hv⟩ := int_self (xs (i + 1))
  refine J.aload_n (pc := 164) G dL_law_164 rfl ?_
  refine J.aload_n (pc := 165) G dL_law_165 rfl ?_
  refine J.iload (pc := 166) G dL_law_166 rfl ?_
  refine J.iconstN (pc := 168) G dL_law_168 1 rfl ?_
  refine J.iaddN (pc := 169) G dL_law_169 ?_
  refine J.sld (pc := 170) G hXs hb dL_law_170 (i + 1) rfl (by omega) (by omega) ?_
  rw [ev]
  refine J.aload_n (pc := 171) G dL_law_171 rfl ?_
  refine J.callW (pc := 172) (na := 3) G (L_event n M hn hI ho.1 hv) q330 q331 q332 q0 (by decide +kernel) dL_law_172 rfl (Nat.le_of_ble_eq_true rfl) rfl ⟨by omega, by decide, by omega, by omega⟩ ?_
  rintro r9 n1 M1 ⟨hr9, hn1, hI1, ⟨f1, ho1, hy1⟩, hfr1⟩
  subst hr9
  dsimp only [Option.toList, List.cons_append, List.nil_append]
  obtain ⟨R, P, Z, hM0, hw, h8, hT, hw8⟩ := hM.keep (fun q a1 a2 => hfr1 q (by omega) (by omega) (by omega))
  refine J.istore (L' := [_, _, _, _, _, _, _, _, _]) (pc := 175) G dL_law_175 rfl (Nat.le_of_ble_eq_true rfl) rfl ?_
  refine J.aload_n (pc := 177) G dL_law_177 rfl ?_
  refine J.aload_n (pc := 178) G dL_law_178 rfl ?_
  refine J.iload (pc := 179) G dL_law_179 rfl ?_
  refine J.iconstN (pc := 181) G dL_law_181 1 rfl ?_
  refine J.iaddN (pc := 182) G dL_law_182 ?_
  refine J.sld (pc := 183) G hXs hb dL_law_183 (i + 1) rfl (by omega) (by omega) ?_
  rw [ev]
  refine J.callV (pc := 184) (na := 1) G (D_event n1 M1 hM0 hw h8 hT hw8 hok hv) q739 q740 q741 q742 q5 (by decide +kernel) dL_law_184 (hM0.at 0 rfl) rfl rfl (Nat.le_of_ble_eq_true rfl) rfl ⟨by omega, by decide, by omega, by omega⟩ ?_
  rintro r9 n9 M2 ⟨x, R2, P2, Z2, hr9, hn9, hM2, hc2, hx2, hin2, hfr2⟩
  dsimp only [Option.toList, List.cons_append, List.nil_append]
  subst hr9
  subst hn9
  dsimp only [Option.toList, List.cons_append, List.nil_append]
  have hI2 : ClsI M2 ax (aE A S v) (sE S v) := hI1.keep (fun q a1 a2 => hfr2 q (by omega))
  have ho2 : M2 (ax + 137) = some (cJ 1 f1) := (hfr2 _ (by omega)).trans ho1
  have hoI : OutI M2 (ax + 137) := ⟨⟨f1, ho2⟩, by
    obtain ⟨f9, h9⟩ := ho.2
    exact ⟨f9, (hfr2 _ (by omega)).trans ((hfr1 _ (by omega) (by omega) (by omega)).trans h9)⟩⟩
  have hMd : MdlI M2 (ax + 128) (aE A S v) (sE S v) := ⟨R2, P2, Z2, hM2, hin2⟩
  refine J.istore (L' := [_, _, _, _, _, _, _, _, _]) (pc := 187) G dL_law_187 rfl (Nat.le_of_ble_eq_true rfl) rfl ?_
  refine J.aload_n (pc := 189) G dL_law_189 rfl ?_
  refine J.callV (pc := 190) (na := 0) G (m_thrown n9 M2 hM2) q735 q736 q737 q738 q5 (by decide +kernel) dL_law_190 (hM2.at 0 rfl) rfl rfl (Nat.le_of_ble_eq_true rfl) rfl ⟨by omega, by decide, by omega, by omega⟩ ?_
  rintro r9 n9 M9 ⟨hr9, hn9, hM9⟩
  subst hr9
  rw [hn9, hM9]
  clear hn9 hM9 n9 M9
  dsimp only [Option.toList, List.cons_append, List.nil_append]
  rw [hc2]
  generalize hkc : kcE S v = KC at *
  have hkc2 : KC ≤ 2 := by
    rw [← hkc]
    unfold kcE
    split <;> (try split) <;> omega
  refine J.iload (pc := 193) G dL_law_193 rfl ?_
  refine J.icmp_eqN (pc := 195) (tgt := 200) G dL_law_195 (by decide) (by omega) (by omega) (fun _ => ?_) (fun h => absurd rfl h)
  refine J.iload (pc := 200) G dL_law_200 rfl ?_
  refine J.if_neN (pc := 202) (tgt := 217) G dL_law_202 (by decide) (by omega) (fun h => ?_) (fun h => ?_)
  · refine J.goto (pc := 217) (tgt := 1457) G dL_law_217 (by decide) ?_
    exact kend.to (by omega) (by omega) (by omega) hI2 hMd hoI
  · refine J.aload_n (pc := 205) G dL_law_205 rfl ?_
    refine J.iconstN (pc := 206) G dL_law_206 0 rfl ?_
    refine J.lald (pc := 207) G dL_law_207 ho2 0 rfl (by decide) (by decide) ?_
    refine J.iload (pc := 208) G dL_law_208 rfl ?_
    refine J.i2l (pc := 210) G dL_law_210 ?_
    rw [hy1 (by omega), hx2 (by omega)]
    refine J.lcmp (pc := 211) G dL_law_211 ?_
    rw [cmp_same]
    refine J.if_eq (pc := 212) (tgt := 217) G dL_law_212 (by decide) (by decide) (by decide) (fun _ => ?_) (fun h => absurd rfl h)
    refine J.goto (pc := 217) (tgt := 1457) G dL_law_217 (by decide) ?_
    exact kend.to (by omega) (by omega) (by omega) hI2 hMd hoI
end LAW3
