section MIN9
theorem J.dconst1 {g : GT} {ow : String} {cc : ByteArray} {nL d mc ms k z n pc : Nat} {M : AH} {L : List (Option Value)} {st : List Value} (G : Cx g ow cc nL d mc ms) (hd : decode cc pc = .ok (.dconst 1, 1)) (kk : J g k z n M L (pc + 1) (.double FP.dconst1 :: st)) : J g k z n M L pc st := by
  intro H locs ls hR hS hl
  exact lv_dconst1 G.exec G.bytes hd (kk H locs ls hR hS hl)
theorem J.i2d {g : GT} {ow : String} {cc : ByteArray} {nL d mc ms k z n pc : Nat} {M : AH} {L : List (Option Value)} {st : List Value} (G : Cx g ow cc nL d mc ms) {x : Int32} (hd : decode cc pc = .ok (.i2d, 1)) (kk : J g k z n M L (pc + 1) (.double (FP.i2d x) :: st)) : J g k z n M L pc (.int x :: st) := by
  intro H locs ls hR hS hl
  exact lv_i2d G.exec G.bytes hd (kk H locs ls hR hS hl)
theorem J.ddiv {g : GT} {ow : String} {cc : ByteArray} {nL d mc ms k z n pc : Nat} {M : AH} {L : List (Option Value)} {st : List Value} (G : Cx g ow cc nL d mc ms) {x y : UInt64} (hd : decode cc pc = .ok (.ddiv, 1)) (hn : vf_n64 (FP.ddiv x y)) (kk : J g k z n M L (pc + 1) (.double (FP.ddiv x y) :: st)) : J g k z n M L pc (.double y :: .double x :: st) := by
  intro H locs ls hR hS hl
  exact lv_ddiv G.exec G.bytes hd hn (kk H locs ls hR hS hl)
set_option maxRecDepth 100000 in
theorem fit_n : ∀ s, s < 11 → ∀ c, c < 11 → s = 0 ∨ (FP.ddiv (FP.i2d (iI ((c : Nat) : Int))) (FP.i2d (iI ((s : Nat) : Int))) &&& 0x7fffffffffffffff ≤ 0x7ff0000000000000) := by decide +kernel
def acF (W : Nat → Bool) (k : Nat) : Nat := it (fun t c => if W t then c + 1 else c) 0 k
theorem acF_le {W : Nat → Bool} : ∀ k, acF W k ≤ k
  | 0 => Nat.le_refl _
  | k + 1 => by
    have := acF_le (W := W) k
    show (if W k then acF W k + 1 else acF W k) ≤ k + 1
    split <;> omega
def fiF (W : Nat → Bool) (s : Nat) : UInt64 := if s = 0 then FP.dconst1 else FP.ddiv (FP.i2d (iI ((acF W s : Nat) : Int))) (FP.i2d (iI ((s : Nat) : Int)))
set_option maxRecDepth 100000 in
set_option maxHeartbeats 4000000 in
theorem c_fitness (n : Nat) (M0 : AH) {a : Nat} {A C : Nat → Nat → Nat} {S Q : Nat → Nat} {nd : List Nd} {W : Nat → Bool} (hX : Cl M0 a (minC a A S)) (hok : MnOk A S) (hm : S 9 = 1 → Mt M0 (a + 6) (a + 7) C Q nd) (hkd : KdOk nd) (h1 : 1 ≤ nd.length) (hW : ∀ t, t < S 5 → ∀ wd en : Nat → Nat, (∀ i, i < 832 → en i < 8192) → (∀ i, i < 12 → wd i < 256) → mtR nd wd en (A 2) (t * 12) (A 3 t) = W t) : Fx yX3_fitness cX3_fitness 3 (some .double) 8 [.ref a] n M0 1 6 (fun r n' M' => r = some (.double (fiF W (S 5))) ∧ n' = n ∧ MtL M0 M' a nd ∧ S 9 = 1) (fun E n' M' => E = ISE ∧ n ≤ n' ∧ M' = M0 ∧ S 9 = 0) := by
  refine Fx.of (by decide) [some _, none, none] rfl rfl (Nat.le_of_ble_eq_true rfl) ?_
  intro g G hO hT htab
  obtain ⟨g1, h5, h9s, hbu, hev, hle, hti⟩ := id hok
  refine J.aload_n (pc := 0) G dX3_fitness_0 rfl ?_
  refine J.callXV (pc := 1) (na := 0) G (c_checkMined n M0 hX h9s) q527 q529 qp25 q530 q1 (by decide +kernel) dX3_fitness_1 (hX.at 0 rfl) rfl rfl (Nat.le_of_ble_eq_true rfl) rfl ⟨by omega, by decide, by omega, by omega⟩ (fun E9 n9 M9 h9 => JX.out G hT htab (by omega) (by omega) (h9)) ?_
  rintro r9 n9 M9 ⟨hr9, hn9, hM9, hs1⟩
  subst hr9
  rw [hn9, hM9]
  clear hn9 hM9 n9 M9
  dsimp only [Option.toList, List.cons_append, List.nil_append]
  have hm := hm hs1
  unfold fiF at hO
  refine J.aload_n (pc := 4) G dX3_fitness_4 rfl ?_
  refine J.getf (pc := 5) (ci := 3) G inX3 rfl 5 q140 dX3_fitness_5 (hX.at 0 rfl) (by decide) rfl ?_
  refine J.if_neN (pc := 8) (tgt := 13) G dX3_fitness_8 (by decide) (by omega) (fun h0 => ?_) (fun h0 => ?_)
  · rw [if_neg (by omega)] at hO
    refine J.iconstN (pc := 13) G dX3_fitness_13 0 rfl ?_
    refine J.istore_n (L' := [_, _, _]) (pc := 14) G dX3_fitness_14 rfl (Nat.le_of_ble_eq_true rfl) rfl ?_
    refine J.iconstN (pc := 15) G dX3_fitness_15 0 rfl ?_
    refine J.istore_n (L' := [_, _, _]) (pc := 16) G dX3_fitness_16 rfl (Nat.le_of_ble_eq_true rfl) rfl ?_
    have K1 : ∀ q : Nat × AH, (q.1 ≤ S 5 ∧ (∃ C' Q', Mt q.2 (a + 6) (a + 7) C' Q' nd) ∧ Fq (a + 6) M0 q.2) → J g 1 6 n q.2 [some (.ref a), some (.int (iI (acF W q.1 : Int))), some (.int (iI (q.1 : Int)))] 17 [] := by
      refine loopJ (fun q => S 5 - q.1) _ _ ?_
      clear hm
      rintro ⟨t, M⟩ ⟨ht, ⟨C', Q', hm⟩, hFr⟩ ih
      dsimp only at ht hm hFr ih ⊢
      have hX := hX.fq hFr (by simp)
      refine J.iload_n (pc := 17) G dX3_fitness_17 rfl ?_
      refine J.aload_n (pc := 18) G dX3_fitness_18 rfl ?_
      refine J.getf (pc := 19) (ci := 3) G inX3 rfl 5 q140 dX3_fitness_19 (hX.at 0 rfl) (by decide) rfl ?_
      refine J.icmp_geN (pc := 22) (tgt := 58) G dX3_fitness_22 (by decide) (by omega) (by omega) (fun h => ?_) (fun h => ?_)
      · have hts : t = S 5 := by omega
        subst hts
        refine J.iload_n (pc := 58) G dX3_fitness_58 rfl ?_
        refine J.i2d (pc := 59) G dX3_fitness_59 ?_
        refine J.aload_n (pc := 60) G dX3_fitness_60 rfl ?_
        refine J.getf (pc := 61) (ci := 3) G inX3 rfl 5 q140 dX3_fitness_61 (hX.at 0 rfl) (by decide) rfl ?_
        refine J.i2d (pc := 64) G dX3_fitness_64 ?_
        refine J.ddiv (pc := 65) G dX3_fitness_65 ((fit_n (S 5) (by omega) (acF W (S 5)) (by have := acF_le (W := W) (S 5); omega)).resolve_left (by omega)) ?_
        exact J.dret (pc := 66) G hO dX3_fitness_66 (by decide) (by decide) ⟨rfl, rfl, ⟨⟨C', Q', hm⟩, hFr⟩, hs1⟩
      · have h3 := hle t (by omega)
        have hstep : acF W (t + 1) = if W t then acF W t + 1 else acF W t := rfl
        have nx : ∀ M c, c = acF W (t + 1) → (∃ C' Q', Mt M (a + 6) (a + 7) C' Q' nd) → Fq (a + 6) M0 M → J g 1 6 n M [some (.ref a), some (.int (iI (c : Int))), some (.int (iI (t : Int)))] 52 [] := by
          intro M c hc hm hFr
          refine J.iincN (L' := [_, _, _]) (pc := 52) G dX3_fitness_52 1 rfl rfl rfl rfl ?_
          refine J.goto (pc := 55) (tgt := 17) G dX3_fitness_55 (by decide) ?_
          rw [hc]
          exact ih (t + 1, M) ⟨by dsimp only; omega, hm, hFr⟩ (by dsimp only; omega)
        refine J.aload_n (pc := 25) G dX3_fitness_25 rfl ?_
        refine J.getf (pc := 26) (ci := 3) G inX3 rfl 7 q143 dX3_fitness_26 (hX.at 0 rfl) (by decide) rfl ?_
        refine J.aload_n (pc := 29) G dX3_fitness_29 rfl ?_
        refine J.getf (pc := 30) (ci := 3) G inX3 rfl 2 q137 dX3_fitness_30 (hX.at 0 rfl) (by decide) rfl ?_
        refine J.iload_n (pc := 33) G dX3_fitness_33 rfl ?_
        refine J.bipushN (pc := 34) G dX3_fitness_34 12 (by decide +kernel) ?_
        refine J.imulN (pc := 36) G dX3_fitness_36 ?_
        refine J.aload_n (pc := 37) G dX3_fitness_37 rfl ?_
        refine J.getf (pc := 38) (ci := 3) G inX3 rfl 3 q138 dX3_fitness_38 (hX.at 0 rfl) (by decide) rfl ?_
        refine J.iload_n (pc := 41) G dX3_fitness_41 rfl ?_
        refine J.ialdN (pc := 42) G dX3_fitness_42 (hX.at 3 rfl) (by omega) (by decide) ?_
        refine J.callV (pc := 43) (na := 3) G (c_matches n M (r := a + 2) (fr := t * 12) (wl := A 3 t) (m := 120) hm (by omega) hkd h1 (hX.at 2 rfl) (by omega) h3 (by omega) (by omega) (fun j hj => hev _ (by omega))) q614 q615 q616 q617 q3 (by decide +kernel) dX3_fitness_43 (hm.1.a0) rfl rfl (Nat.le_of_ble_eq_true rfl) rfl ⟨by omega, by decide, by omega, by omega⟩ ?_
        rintro r9 n9 M7 ⟨hr9, hn9, ⟨hm7, hFr7⟩⟩
        subst hr9
        rw [hn9]
        clear hn9 n9
        dsimp only [Option.toList, List.cons_append, List.nil_append]
        rw [hW t (by omega) _ _ hm.2.2.2.1 hm.2.2.2.2.2.1]
        refine J.if_eq_b (pc := 46) (tgt := 52) G dX3_fitness_46 (by decide) (fun hb => ?_) (fun hb => ?_)
        · exact nx M7 _ (by rw [hstep, hb]; rfl) hm7 (hFr.trans hFr7)
        · refine J.iincN (L' := [_, _, _]) (pc := 49) G dX3_fitness_49 1 rfl rfl rfl rfl ?_
          exact nx M7 _ (by rw [hstep, hb]; rfl) hm7 (hFr.trans hFr7)
    exact K1 (0, M0) ⟨Nat.zero_le _, ⟨C, Q, hm⟩, Fq.rf⟩
  · rw [if_pos h0] at hO
    refine J.dconst1 (pc := 11) G dX3_fitness_11 ?_
    exact J.dret (pc := 12) G hO dX3_fitness_12 (by decide) (by decide) ⟨rfl, rfl, ⟨⟨C, Q, hm⟩, Fq.rf⟩, hs1⟩
end MIN9
