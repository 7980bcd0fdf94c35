section ISW3
theorem J.dconst0 {g : GT} {ow : String} {cc : ByteArray} {nL d mc ms k z n pc : Nat} {M : AH} {L : List (Option Value)} {st : List Value} (G : Cx g ow cc nL d mc ms) (hd : decode cc pc = .ok (.dconst 0, 1)) (kk : J g k z n M L (pc + 1) (.double FP.dconst0 :: st)) : J g k z n M L pc st := by
  intro H locs ls hR hS hl
  exact lv_dconst0 G.exec G.bytes hd (kk H locs ls hR hS hl)
/-- a row of labels is laid into another one -/
def cwF (w E : Nat → Nat) (fr k : Nat) : Nat → Nat := it (fun i w => upN w i (E (fr + i))) w k
theorem cwF_lt {w E : Nat → Nat} {fr k : Nat} (hw : ∀ i, i < 12 → w i < 8) (hE : ∀ j, j < k → E (fr + j) < 8) : ∀ i, i < 12 → cwF w E fr k i < 8 :=
  it_inv (fun _ (w : Nat → Nat) => ∀ i, i < 12 → w i < 8) k hw (fun i w hi hw j hj => by
    by_cases e : j = i
    · subst e; rw [upN_s]; exact hE j hi
    · rw [upN_n e]; exact hw j hj)
/-- the equations, for each word -/
abbrev IwA8 (nd : List Nd) (iw aw : (Nat → Nat) → Nat → Nat → Bool) (od : (Nat → Nat) → Nat → Nat → Nat → Bool) (ag : (Nat → Nat) → Nat → Nat → Bool) (go : (Nat → Nat) → Nat → Nat → Nat → Bool) : Prop := ∀ w : Nat → Nat, (∀ i, i < 12 → w i < 8) → IwEq nd w (iw w) (aw w) (od w) (ag w) (go w)
/-- what the model's questions ask of its tree -/
abbrev NdQ (nd : List Nd) : Prop := 1 ≤ nd.length ∧ ShOk nd ∧ (∀ i, i < nd.length → (chl nd i).length ≤ 8) ∧ ∀ i, i < nd.length → ndS nd i < 256
theorem pow12' {x : Nat} (h : x ≤ 12) : 2 ^ x - 1 < 4096 := by
  have := Nat.pow_le_pow_right (n := 2) (by omega) h
  have h2 : 2 ^ 12 = 4096 := by decide
  have h3 := Nat.one_le_two_pow (n := x)
  omega
set_option maxRecDepth 100000 in
set_option maxHeartbeats 4000000 in
theorem m_isTraceWord (n : Nat) (M0 : AH) {a t : Nat} {R : Nat → Nat → Nat} {P : Nat → Int} {Z : Nat → Nat} {nd : List Nd} {iw aw : (Nat → Nat) → Nat → Nat → Bool} {od : (Nat → Nat) → Nat → Nat → Nat → Bool} {ag : (Nat → Nat) → Nat → Nat → Bool} {go : (Nat → Nat) → Nat → Nat → Nat → Bool} (hM : Cl M0 a (modC a R P Z)) (hok : MdOk R Z) (hT : MdT R P Z nd) (hq : NdQ nd) (hw : ∀ i, i < 12 → R 8 i < 8) (hE : IwA8 nd iw aw od ag go) (ht : t < 10) : Fn yX4_isTraceWord cX4_isTraceWord 3 (some .boolean) 1800 [.ref a, .int (iI (t : Int))] n M0 0 0 (fun r n' M' => r = some (.int (bI (iw (cwF (R 8) (R 4) (12 * t) (R 3 t)) 0 (2 ^ R 3 t - 1)))) ∧ n' = n ∧ Cl M' a (modC a (upAN R 8 (cwF (R 8) (R 4) (12 * t) (R 3 t))) P Z) ∧ Fr a (a + 9) M0 M') := by
  refine Fn.of (by decide) [some _, some _, none] rfl rfl (Nat.le_of_ble_eq_true rfl) ?_
  intro g G hin hO
  obtain ⟨h1, h3, h7, hbu, htx, hln, htm⟩ := hok
  have hlt := hln t ht
  obtain ⟨hq1, hsh, hc8, hS8⟩ := hq
  have h64 := hT.2.1
  refine J.iconstN (pc := 0) G dX4_isTraceWord_0 0 rfl ?_
  refine J.istore_n (L' := [_, _, _]) (pc := 1) G dX4_isTraceWord_1 rfl (Nat.le_of_ble_eq_true rfl) rfl ?_
  have K1 : ∀ q : Nat × AH, (q.1 ≤ R 3 t ∧ Cl q.2 a (modC a (upAN R 8 (cwF (R 8) (R 4) (12 * t) q.1)) P Z) ∧ Fr a (a + 9) M0 q.2) → J g 0 0 n q.2 [some (.ref a), some (.int (iI (t : Int))), some (.int (iI (q.1 : Int)))] 2 [] := by
    refine loopJ (fun q => R 3 t - q.1) _ _ ?_
    clear hM
    rintro ⟨j, M⟩ ⟨hj, hM, hFr⟩ ih
    dsimp only at hj hM hFr ih ⊢
    have hstep : cwF (R 8) (R 4) (12 * t) (j + 1) = upN (cwF (R 8) (R 4) (12 * t) j) j (R 4 (12 * t + j)) := rfl
    have hcl := cwF_lt (k := j) hw (fun i hi => htx (12 * t + i) (by omega))
    have hend : j = R 3 t → cwF (R 8) (R 4) (12 * t) j = cwF (R 8) (R 4) (12 * t) (R 3 t) := fun e => by rw [e]
    generalize cwF (R 8) (R 4) (12 * t) j = w at hM hstep hcl hend
    have e3 : upAN R 8 w 3 = R 3 := rfl
    have e4 : upAN R 8 w 4 = R 4 := rfl
    refine J.iload_n (pc := 2) G dX4_isTraceWord_2 rfl ?_
    refine J.aload_n (pc := 3) G dX4_isTraceWord_3 rfl ?_
    refine J.getf (pc := 4) (ci := 4) G inX4 rfl 5 q700 dX4_isTraceWord_4 (hM.at 0 rfl) (by decide) rfl ?_
    refine J.iload_n (pc := 7) G dX4_isTraceWord_7 rfl ?_
    refine J.ialdN (pc := 8) G dX4_isTraceWord_8 (hM.at 3 rfl) (by omega) (by decide) ?_
    rw [e3]
    refine J.icmp_geN (pc := 9) (tgt := 35) G dX4_isTraceWord_9 (by decide) (by omega) (by omega) (fun h => ?_) (fun h => ?_)
    · have hjt : j = R 3 t := by omega
      have hp := Nat.one_le_two_pow (n := R 3 t)
      have hend := hend hjt
      refine J.aload_n (pc := 35) G dX4_isTraceWord_35 rfl ?_
      refine J.iconstN (pc := 36) G dX4_isTraceWord_36 0 rfl ?_
      refine J.iconstN (pc := 37) G dX4_isTraceWord_37 1 rfl ?_
      refine J.aload_n (pc := 38) G dX4_isTraceWord_38 rfl ?_
      refine J.getf (pc := 39) (ci := 4) G inX4 rfl 5 q700 dX4_isTraceWord_39 (hM.at 0 rfl) (by decide) rfl ?_
      refine J.iload_n (pc := 42) G dX4_isTraceWord_42 rfl ?_
      refine J.ialdN (pc := 43) G dX4_isTraceWord_43 (hM.at 3 rfl) (by omega) (by decide) ?_
      rw [e3]
      refine J.ishl1 (pc := 44) G dX4_isTraceWord_44 (by omega) ?_
      refine J.iconstN (pc := 45) G dX4_isTraceWord_45 1 rfl ?_
      refine J.isubN (pc := 46) G dX4_isTraceWord_46 (by omega) ?_
      refine J.callV (pc := 47) (na := 2) G ((m_iw n M (R := upAN R 8 w) (P := P) (Z := Z) (nd := nd) ⟨hM, hT.keep ⟨rfl, rfl, rfl⟩, hsh, hc8, hS8, hcl⟩ (hE w hcl) (28 * (nd.length - 0) + 4)).1 0 (2 ^ R 3 t - 1) hq1 (pow12' hlt) rfl) q937 q939 qp53 q940 q5 (by decide +kernel) dX4_isTraceWord_47 (hM.at 0 rfl) rfl rfl (Nat.le_of_ble_eq_true rfl) rfl ⟨by omega, by decide, by omega, by omega⟩ ?_
      rintro r9 n9 M9 ⟨hr9, hn9, hM9⟩
      subst hr9
      rw [hn9, hM9]
      clear hn9 hM9 n9 M9
      dsimp only [Option.toList, List.cons_append, List.nil_append]
      exact J.zret (pc := 50) G hO dX4_isTraceWord_50 (by decide) (by decide) ⟨by rw [hend], rfl, by rw [← hend]; exact hM, hFr⟩
    · refine J.aload_n (pc := 12) G dX4_isTraceWord_12 rfl ?_
      refine J.getf (pc := 13) (ci := 4) G inX4 rfl 12 q707 dX4_isTraceWord_13 (hM.at 0 rfl) (by decide) rfl ?_
      refine J.iload_n (pc := 16) G dX4_isTraceWord_16 rfl ?_
      refine J.aload_n (pc := 17) G dX4_isTraceWord_17 rfl ?_
      refine J.getf (pc := 18) (ci := 4) G inX4 rfl 6 q701 dX4_isTraceWord_18 (hM.at 0 rfl) (by decide) rfl ?_
      refine J.bipushN (pc := 21) G dX4_isTraceWord_21 12 (by decide +kernel) ?_
      refine J.iload_n (pc := 23) G dX4_isTraceWord_23 rfl ?_
      refine J.imulN (pc := 24) G dX4_isTraceWord_24 ?_
      refine J.iload_n (pc := 25) G dX4_isTraceWord_25 rfl ?_
      refine J.iaddN (pc := 26) G dX4_isTraceWord_26 ?_
      refine J.ialdN (pc := 27) G dX4_isTraceWord_27 (hM.at 4 rfl) (by omega) (by decide) ?_
      rw [e4]
      refine J.iastN (pc := 28) G dX4_isTraceWord_28 (hM.at 8 rfl) (by omega) (by decide) (fun M hput hag => ?_)
      have hM := modA8 hM hput hag
      have hFr := hFr.put hag (by omega) (by omega)
      clear hput hag
      refine J.iincN (L' := [_, _, _]) (pc := 29) G dX4_isTraceWord_29 1 rfl rfl rfl rfl ?_
      rw [upAN2, upAN_s, ← hstep] at hM
      refine J.goto (pc := 32) (tgt := 2) G dX4_isTraceWord_32 (by decide) ?_
      exact ih (j + 1, M) ⟨by dsimp only; omega, hM, hFr⟩ (by dsimp only; omega)
  exact K1 (0, M0) ⟨Nat.zero_le _, by dsimp only; rw [show cwF (R 8) (R 4) (12 * t) 0 = R 8 from rfl, upAN_same]; exact hM, Fr.rf⟩
/-- how a question to the model's words ends: the word's row is another one -/
def MReW (n : Nat) (M0 : AH) (a : Nat) (R : Nat → Nat → Nat) (P : Nat → Int) (Z : Nat → Nat) (x : Value) (c : Nat) : Option Value → Nat → AH → Prop := fun r n' M' => r = some x ∧ n' = n ∧ (∃ w : Nat → Nat, (∀ i, i < 12 → w i < 8) ∧ Cl M' a (modC a (upAN R 8 w) P (upN Z 0 c))) ∧ Fr a (a + 9) M0 M'
theorem MReW.of {n : Nat} {M0 : AH} {a : Nat} {R : Nat → Nat → Nat} {P : Nat → Int} {Z : Nat → Nat} {x : Value} {c : Nat} {r : Option Value} {n' : Nat} {M' : AH} (hw : ∀ i, i < 12 → R 8 i < 8) (h : MRead n M0 a R P Z x c r n' M') : MReW n M0 a R P Z x c r n' M' := by
  obtain ⟨h1, h2, h3, h4⟩ := h
  exact ⟨h1, h2, ⟨R 8, hw, by rw [upAN_same]; exact h3⟩, h4⟩
set_option maxRecDepth 100000 in
set_option maxHeartbeats 4000000 in
theorem m_accepts (n : Nat) (M0 : AH) {a : Nat} {v : Int} {R : Nat → Nat → Nat} {P : Nat → Int} {Z : Nat → Nat} {nd : List Nd} {iw aw : (Nat → Nat) → Nat → Nat → Bool} {od : (Nat → Nat) → Nat → Nat → Nat → Bool} {ag : (Nat → Nat) → Nat → Nat → Bool} {go : (Nat → Nat) → Nat → Nat → Nat → Bool} (hM : Cl M0 a (modC a R P Z)) (hok : MdOk R Z) (hT : Z 7 = 1 → MdT R P Z nd) (hq : NdQ nd) (hw : ∀ i, i < 12 → R 8 i < 8) (hE : IwA8 nd iw aw od ag go) (hv : Rng v) : Fn yX4_accepts cX4_accepts 2 (some .boolean) 1801 [.ref a, .int (iI v)] n M0 0 0 (fun r n' M' => (askC Z v (Z 3) = 0 ∧ MReW n M0 a R P Z (.int (bI (iw (cwF (R 8) (R 4) (12 * v.toNat) (R 3 v.toNat)) 0 (2 ^ R 3 v.toNat - 1)))) 0 r n' M') ∨ (askC Z v (Z 3) ≠ 0 ∧ MReW n M0 a R P Z (.int (bI false)) (askC Z v (Z 3)) r n' M')) := by
  refine Fn.of (by decide) [some _, some _] rfl rfl (Nat.le_of_ble_eq_true rfl) ?_
  intro g G hin hO
  have h3 := hok.2.1
  refine J.aload_n (pc := 0) G dX4_accepts_0 rfl ?_
  refine J.iload_n (pc := 1) G dX4_accepts_1 rfl ?_
  refine J.aload_n (pc := 2) G dX4_accepts_2 rfl ?_
  refine J.getf (pc := 3) (ci := 4) G inX4 rfl 3 q698 dX4_accepts_3 (hM.at 0 rfl) (by decide) rfl ?_
  refine J.callV (pc := 6) (na := 2) G (m_asks n M0 (v := v) (lim := Z 3) hM hok.2.2.1 hv (by omega)) q889 q891 qp48 q892 q5 (by decide +kernel) dX4_accepts_6 (hM.at 0 rfl) rfl rfl (Nat.le_of_ble_eq_true rfl) rfl ⟨by omega, by decide, by omega, by omega⟩ ?_
  rintro r9 n9 M7 ⟨hr9, hn9, ⟨hM7, hFr7⟩⟩
  subst hr9
  rw [hn9]
  clear hn9 n9
  dsimp only [Option.toList, List.cons_append, List.nil_append]
  refine J.if_eq_b (pc := 9) (tgt := 24) G dX4_accepts_9 (by decide) (fun hb => ?_) (fun hb => ?_)
  · refine J.iconstN (pc := 24) G dX4_accepts_24 0 rfl ?_
    exact J.zret0 (pc := 25) G hO dX4_accepts_25 (by decide) (by decide) (Or.inr ⟨of_decide_eq_false hb, MReW.of hw ⟨rfl, rfl, hM7, hFr7⟩⟩)
  · have h0 := of_decide_eq_true hb
    obtain ⟨hs1, hv0, hv8⟩ := askC_ok h0
    have hT := hT hs1
    rw [h0] at hM7
    have eu : ((v.toNat : Nat) : Int) = v := by omega
    generalize v.toNat = t at hO eu
    subst eu
    have htx := hok.2.2.2.2.1
    have hln := hok.2.2.2.2.2.1 t (by omega)
    have hcl := cwF_lt (E := R 4) (fr := 12 * t) (k := R 3 t) hw (fun i hi => htx (12 * t + i) (by omega))
    refine J.aload_n (pc := 12) G dX4_accepts_12 rfl ?_
    refine J.iload_n (pc := 13) G dX4_accepts_13 rfl ?_
    refine J.callV (pc := 14) (na := 1) G (m_isTraceWord n M7 (R := R) (Z := upN Z 0 0) (nd := nd) (t := t) hM7 hok (hT.keep ⟨rfl, rfl, rfl⟩) hq hw hE (by omega)) q933 q935 qp52 q936 q5 (by decide +kernel) dX4_accepts_14 (hM7.at 0 rfl) rfl rfl (Nat.le_of_ble_eq_true rfl) rfl ⟨by omega, by decide, by omega, by omega⟩ ?_
    rintro r9 n9 M8 ⟨hr9, hn9, ⟨hM8, hFr8⟩⟩
    subst hr9
    rw [hn9]
    clear hn9 n9
    dsimp only [Option.toList, List.cons_append, List.nil_append]
    refine J.if_eq_b (pc := 17) (tgt := 24) G dX4_accepts_17 (by decide) (fun hb2 => ?_) (fun hb2 => ?_)
    · refine J.iconstN (pc := 24) G dX4_accepts_24 0 rfl ?_
      exact J.zret0 (pc := 25) G hO dX4_accepts_25 (by decide) (by decide) (Or.inl ⟨h0, by rw [hb2], rfl, ⟨_, hcl, hM8⟩, hFr7.trans hFr8⟩)
    · refine J.iconstN (pc := 20) G dX4_accepts_20 1 rfl ?_
      refine J.goto (pc := 21) (tgt := 25) G dX4_accepts_21 (by decide) ?_
      exact J.zret1 (pc := 25) G hO dX4_accepts_25 (by decide) (by decide) (Or.inl ⟨h0, by rw [hb2], rfl, ⟨_, hcl, hM8⟩, hFr7.trans hFr8⟩)
theorem askC_one {Z : Nat → Nat} (h7 : Z 7 ≤ 1) : askC Z ((0 : Nat) : Int) 1 = if Z 7 = 1 then 0 else 1 := by
  unfold askC
  rw [if_pos (show (0 : Int) ≤ ((0 : Nat) : Int) ∧ ((0 : Nat) : Int) < ((1 : Nat) : Int) from ⟨by decide, by decide⟩)]
set_option maxRecDepth 100000 in
set_option maxHeartbeats 4000000 in
theorem m_acceptsBuffer (n : Nat) (M0 : AH) {a : Nat} {R : Nat → Nat → Nat} {P : Nat → Int} {Z : Nat → Nat} {nd : List Nd} {iw aw : (Nat → Nat) → Nat → Nat → Bool} {od : (Nat → Nat) → Nat → Nat → Nat → Bool} {ag : (Nat → Nat) → Nat → Nat → Bool} {go : (Nat → Nat) → Nat → Nat → Nat → Bool} (hM : Cl M0 a (modC a R P Z)) (hok : MdOk R Z) (hT : Z 7 = 1 → MdT R P Z nd) (hq : NdQ nd) (hw : ∀ i, i < 12 → R 8 i < 8) (hE : IwA8 nd iw aw od ag go) : Fn yX4_acceptsBuffer cX4_acceptsBuffer 2 (some .boolean) 1801 [.ref a] n M0 0 0 (fun r n' M' => (Z 7 = 1 ∧ MReW n M0 a R P Z (.int (bI (iw (cwF (R 8) (R 1) 0 (Z 1)) 0 (2 ^ Z 1 - 1)))) 0 r n' M') ∨ (Z 7 = 0 ∧ MReW n M0 a R P Z (.int (bI false)) 1 r n' M')) := by
  refine Fn.of (by decide) [some _, none] rfl rfl (Nat.le_of_ble_eq_true rfl) ?_
  intro g G hin hO
  obtain ⟨h1, h3, h7, hbu, htx, hln, htm⟩ := hok
  obtain ⟨hq1, hsh, hc8, hS8⟩ := hq
  have hac := askC_one h7
  refine J.aload_n (pc := 0) G dX4_acceptsBuffer_0 rfl ?_
  refine J.iconstN (pc := 1) G dX4_acceptsBuffer_1 0 rfl ?_
  refine J.iconstN (pc := 2) G dX4_acceptsBuffer_2 1 rfl ?_
  refine J.callV (pc := 3) (na := 2) G (m_asks n M0 (v := ((0 : Nat) : Int)) (lim := 1) hM h7 ⟨by decide, by decide⟩ (by decide)) q889 q891 qp48 q892 q5 (by decide +kernel) dX4_acceptsBuffer_3 (hM.at 0 rfl) rfl rfl (Nat.le_of_ble_eq_true rfl) rfl ⟨by omega, by decide, by omega, by omega⟩ ?_
  rintro r9 n9 M7 ⟨hr9, hn9, ⟨hM7, hFr7⟩⟩
  subst hr9
  rw [hn9]
  clear hn9 n9
  dsimp only [Option.toList, List.cons_append, List.nil_append]
  rw [hac] at hM7 ⊢
  refine J.if_ne_b (pc := 6) (tgt := 11) G dX4_acceptsBuffer_6 (by decide) (fun hb => ?_) (fun hb => ?_)
  · have h0 := of_decide_eq_true hb
    have hs1 : Z 7 = 1 := by
      rcases (show Z 7 = 0 ∨ Z 7 = 1 by omega) with q | q
      · rw [if_neg (by omega)] at h0; cases h0
      · exact q
    rw [h0] at hM7
    have hT := hT hs1
    have h64 := hT.2.1
    refine J.iconstN (pc := 11) G dX4_acceptsBuffer_11 0 rfl ?_
    refine J.istore_n (L' := [_, _]) (pc := 12) G dX4_acceptsBuffer_12 rfl (Nat.le_of_ble_eq_true rfl) rfl ?_
    have K1 : ∀ q : Nat × AH, (q.1 ≤ Z 1 ∧ Cl q.2 a (modC a (upAN R 8 (cwF (R 8) (R 1) 0 q.1)) P (upN Z 0 0)) ∧ Fr a (a + 9) M0 q.2) → J g 0 0 n q.2 [some (.ref a), some (.int (iI (q.1 : Int)))] 13 [] := by
      refine loopJ (fun q => Z 1 - q.1) _ _ ?_
      clear hM hM7 hFr7
      rintro ⟨j, M⟩ ⟨hj, hM, hFr⟩ ih
      dsimp only at hj hM hFr ih ⊢
      have hstep : cwF (R 8) (R 1) 0 (j + 1) = upN (cwF (R 8) (R 1) 0 j) j (R 1 (0 + j)) := rfl
      rw [Nat.zero_add] at hstep
      have hcl := cwF_lt (E := R 1) (fr := 0) (k := j) hw (fun i hi => hbu (0 + i) (by omega))
      have hend : j = Z 1 → cwF (R 8) (R 1) 0 j = cwF (R 8) (R 1) 0 (Z 1) := fun e => by rw [e]
      generalize cwF (R 8) (R 1) 0 j = w at hM hstep hcl hend
      have e1 : upAN R 8 w 1 = R 1 := rfl
      have z1 : upN Z 0 0 1 = Z 1 := rfl
      refine J.iload_n (pc := 13) G dX4_acceptsBuffer_13 rfl ?_
      refine J.aload_n (pc := 14) G dX4_acceptsBuffer_14 rfl ?_
      refine J.getf (pc := 15) (ci := 4) G inX4 rfl 1 q696 dX4_acceptsBuffer_15 (hM.at 0 rfl) (by decide) rfl ?_
      rw [z1]
      refine J.icmp_geN (pc := 18) (tgt := 39) G dX4_acceptsBuffer_18 (by decide) (by omega) (by omega) (fun h => ?_) (fun h => ?_)
      · have hjt : j = Z 1 := by omega
        have hp := Nat.one_le_two_pow (n := Z 1)
        have hend := hend hjt
        refine J.aload_n (pc := 39) G dX4_acceptsBuffer_39 rfl ?_
        refine J.iconstN (pc := 40) G dX4_acceptsBuffer_40 0 rfl ?_
        refine J.iconstN (pc := 41) G dX4_acceptsBuffer_41 1 rfl ?_
        refine J.aload_n (pc := 42) G dX4_acceptsBuffer_42 rfl ?_
        refine J.getf (pc := 43) (ci := 4) G inX4 rfl 1 q696 dX4_acceptsBuffer_43 (hM.at 0 rfl) (by decide) rfl ?_
        rw [z1]
        refine J.ishl1 (pc := 46) G dX4_acceptsBuffer_46 (by omega) ?_
        refine J.iconstN (pc := 47) G dX4_acceptsBuffer_47 1 rfl ?_
        refine J.isubN (pc := 48) G dX4_acceptsBuffer_48 (by omega) ?_
        refine J.callV (pc := 49) (na := 2) G ((m_iw n M (R := upAN R 8 w) (P := P) (Z := upN Z 0 0) (nd := nd) ⟨hM, hT.keep ⟨rfl, rfl, rfl⟩, hsh, hc8, hS8, hcl⟩ (hE w hcl) (28 * (nd.length - 0) + 4)).1 0 (2 ^ Z 1 - 1) hq1 (pow12' h1) rfl) q937 q939 qp53 q940 q5 (by decide +kernel) dX4_acceptsBuffer_49 (hM.at 0 rfl) rfl rfl (Nat.le_of_ble_eq_true rfl) rfl ⟨by omega, by decide, by omega, by omega⟩ ?_
        rintro r9 n9 M9 ⟨hr9, hn9, hM9⟩
        subst hr9
        rw [hn9, hM9]
        clear hn9 hM9 n9 M9
        dsimp only [Option.toList, List.cons_append, List.nil_append]
        exact J.zret (pc := 52) G hO dX4_acceptsBuffer_52 (by decide) (by decide) (Or.inl ⟨hs1, by rw [hend], rfl, ⟨w, hcl, hM⟩, hFr⟩)
      · refine J.aload_n (pc := 21) G dX4_acceptsBuffer_21 rfl ?_
        refine J.getf (pc := 22) (ci := 4) G inX4 rfl 12 q707 dX4_acceptsBuffer_22 (hM.at 0 rfl) (by decide) rfl ?_
        refine J.iload_n (pc := 25) G dX4_acceptsBuffer_25 rfl ?_
        refine J.aload_n (pc := 26) G dX4_acceptsBuffer_26 rfl ?_
        refine J.getf (pc := 27) (ci := 4) G inX4 rfl 2 q697 dX4_acceptsBuffer_27 (hM.at 0 rfl) (by decide) rfl ?_
        refine J.iload_n (pc := 30) G dX4_acceptsBuffer_30 rfl ?_
        refine J.ialdN (pc := 31) G dX4_acceptsBuffer_31 (hM.at 1 rfl) (by omega) (by decide) ?_
        rw [e1]
        refine J.iastN (pc := 32) G dX4_acceptsBuffer_32 (hM.at 8 rfl) (by omega) (by decide) (fun M hput hag => ?_)
        have hM := modA8 hM hput hag
        have hFr := hFr.put hag (by omega) (by omega)
        clear hput hag
        refine J.iincN (L' := [_, _]) (pc := 33) G dX4_acceptsBuffer_33 1 rfl rfl rfl rfl ?_
        rw [upAN2, upAN_s, ← hstep] at hM
        refine J.goto (pc := 36) (tgt := 13) G dX4_acceptsBuffer_36 (by decide) ?_
        exact ih (j + 1, M) ⟨by dsimp only; omega, hM, hFr⟩ (by dsimp only; omega)
    exact K1 (0, M7) ⟨Nat.zero_le _, by dsimp only; rw [show cwF (R 8) (R 1) 0 0 = R 8 from rfl, upAN_same]; exact hM7, hFr7⟩
  · have h0 := of_decide_eq_false hb
    have hz : Z 7 = 0 := by
      rcases (show Z 7 = 0 ∨ Z 7 = 1 by omega) with q | q
      · exact q
      · exact absurd (if_pos q) h0
    rw [if_neg (by omega)] at hM7
    refine J.iconstN (pc := 9) G dX4_acceptsBuffer_9 0 rfl ?_
    exact J.zret0 (pc := 10) G hO dX4_acceptsBuffer_10 (by decide) (by decide) (Or.inr ⟨hz, MReW.of hw ⟨rfl, rfl, hM7, hFr7⟩⟩)
end ISW3
