section ISW4
set_option maxRecDepth 100000 in
set_option maxHeartbeats 4000000 in
theorem m_fitness (n : Nat) (M0 : AH) {a : Nat} {R : Nat → Nat → Nat} {P : Nat → Int} {Z : Nat → Nat} {nd : List Nd} {W : Nat → Bool} {iw aw : (Nat → Nat) → Nat → Nat → Bool} {od : (Nat → Nat) → Nat → Nat → Nat → Bool} {ag : (Nat → Nat) → Nat → Nat → Bool} {go : (Nat → Nat) → Nat → Nat → Nat → Bool} (hM : Cl M0 a (modC a R P Z)) (hok : MdOk R Z) (hT : Z 7 = 1 → MdT R P Z nd) (hq : NdQ nd) (hw : ∀ i, i < 12 → R 8 i < 8) (hE : IwA8 nd iw aw od ag go) (hW : ∀ t, t < Z 3 → ∀ w : Nat → Nat, (∀ i, i < 12 → w i < 8) → iw (cwF w (R 4) (12 * t) (R 3 t)) 0 (2 ^ R 3 t - 1) = W t) : Fn yX4_fitness cX4_fitness 3 (some .double) 1801 [.ref a] n M0 0 0 (fun r n' M' => (Z 7 = 1 ∧ MReW n M0 a R P Z (.double (fiF W (Z 3))) 0 r n' M') ∨ (Z 7 = 0 ∧ MReW n M0 a R P Z (.double FP.dconst0) 1 r n' M')) := by
  refine Fn.of (by decide) [some _, none, none] rfl rfl (Nat.le_of_ble_eq_true rfl) ?_
  intro g G hin hO
  obtain ⟨h1, h3, h7, hbu, htx, hln, htm⟩ := id hok
  have hac := askC_one h7
  refine J.aload_n (pc := 0) G dX4_fitness_0 rfl ?_
  refine J.iconstN (pc := 1) G dX4_fitness_1 0 rfl ?_
  refine J.iconstN (pc := 2) G dX4_fitness_2 1 rfl ?_
  refine J.callV (pc := 3) (na := 2) G (m_asks n M0 (v := ((0 : Nat) : Int)) (lim := 1) hM h7 ⟨by decide, by decide⟩ (by decide)) q889 q891 qp48 q892 q5 (by decide +kernel) dX4_fitness_3 (hM.at 0 rfl) rfl rfl (Nat.le_of_ble_eq_true rfl) rfl ⟨by omega, by decide, by omega, by omega⟩ ?_
  rintro r9 n9 M7 ⟨hr9, hn9, ⟨hM7, hFr7⟩⟩
  subst hr9
  rw [hn9]
  clear hn9 n9
  dsimp only [Option.toList, List.cons_append, List.nil_append]
  rw [hac] at hM7 ⊢
  refine J.if_ne_b (pc := 6) (tgt := 11) G dX4_fitness_6 (by decide) (fun hb => ?_) (fun hb => ?_)
  · have h0 := of_decide_eq_true hb
    have hs1 : Z 7 = 1 := by
      rcases (show Z 7 = 0 ∨ Z 7 = 1 by omega) with q | q
      · rw [if_neg (by omega)] at h0; cases h0
      · exact q
    rw [h0] at hM7
    have hT := hT hs1
    have h64 := hT.2.1
    have z3 : upN Z 0 0 3 = Z 3 := rfl
    unfold fiF at hO
    refine J.iconstN (pc := 11) G dX4_fitness_11 0 rfl ?_
    refine J.istore_n (L' := [_, _, _]) (pc := 12) G dX4_fitness_12 rfl (Nat.le_of_ble_eq_true rfl) rfl ?_
    refine J.iconstN (pc := 13) G dX4_fitness_13 0 rfl ?_
    refine J.istore_n (L' := [_, _, _]) (pc := 14) G dX4_fitness_14 rfl (Nat.le_of_ble_eq_true rfl) rfl ?_
    have K1 : ∀ q : Nat × AH, (q.1 ≤ Z 3 ∧ (∃ w : Nat → Nat, (∀ i, i < 12 → w i < 8) ∧ Cl q.2 a (modC a (upAN R 8 w) P (upN Z 0 0))) ∧ Fr a (a + 9) M0 q.2) → J g 0 0 n q.2 [some (.ref a), some (.int (iI (acF W q.1 : Int))), some (.int (iI (q.1 : Int)))] 15 [] := by
      refine loopJ (fun q => Z 3 - q.1) _ _ ?_
      clear hM hM7 hFr7
      rintro ⟨t, M⟩ ⟨ht, ⟨w, hw8, hM⟩, hFr⟩ ih
      dsimp only at ht hM hFr ih ⊢
      refine J.iload_n (pc := 15) G dX4_fitness_15 rfl ?_
      refine J.aload_n (pc := 16) G dX4_fitness_16 rfl ?_
      refine J.getf (pc := 17) (ci := 4) G inX4 rfl 3 q698 dX4_fitness_17 (hM.at 0 rfl) (by decide) rfl ?_
      rw [z3]
      refine J.icmp_geN (pc := 20) (tgt := 45) G dX4_fitness_20 (by decide) (by omega) (by omega) (fun h => ?_) (fun h => ?_)
      · have hts : t = Z 3 := by omega
        subst hts
        refine J.aload_n (pc := 45) G dX4_fitness_45 rfl ?_
        refine J.getf (pc := 46) (ci := 4) G inX4 rfl 3 q698 dX4_fitness_46 (hM.at 0 rfl) (by decide) rfl ?_
        rw [z3]
        refine J.if_neN (pc := 49) (tgt := 56) G dX4_fitness_49 (by decide) (by omega) (fun h0 => ?_) (fun h0 => ?_)
        · rw [if_neg (by omega)] at hO
          refine J.iload_n (pc := 56) G dX4_fitness_56 rfl ?_
          refine J.i2d (pc := 57) G dX4_fitness_57 ?_
          refine J.aload_n (pc := 58) G dX4_fitness_58 rfl ?_
          refine J.getf (pc := 59) (ci := 4) G inX4 rfl 3 q698 dX4_fitness_59 (hM.at 0 rfl) (by decide) rfl ?_
          rw [z3]
          refine J.i2d (pc := 62) G dX4_fitness_62 ?_
          refine J.ddiv (pc := 63) G dX4_fitness_63 ((fit_n (Z 3) (by omega) (acF W (Z 3)) (by have := acF_le (W := W) (Z 3); omega)).resolve_left (by omega)) ?_
          exact J.dret (pc := 64) G hO dX4_fitness_64 (by decide) (by decide) (Or.inl ⟨hs1, rfl, rfl, ⟨w, hw8, hM⟩, hFr⟩)
        · rw [if_pos h0] at hO
          refine J.dconst1 (pc := 52) G dX4_fitness_52 ?_
          refine J.goto (pc := 53) (tgt := 64) G dX4_fitness_53 (by decide) ?_
          exact J.dret (pc := 64) G hO dX4_fitness_64 (by decide) (by decide) (Or.inl ⟨hs1, rfl, rfl, ⟨w, hw8, hM⟩, hFr⟩)
      · have hlt := hln t (by omega)
        have hcl := cwF_lt (E := R 4) (fr := 12 * t) (k := R 3 t) hw8 (fun i hi => htx (12 * t + i) (by omega))
        have hstep : acF W (t + 1) = if W t then acF W t + 1 else acF W t := rfl
        have hWt := hW t h w hw8
        have nx : ∀ (M : AH) (y : Nat), acF W (t + 1) = acF W t + y → (∃ w : Nat → Nat, (∀ i, i < 12 → w i < 8) ∧ Cl M a (modC a (upAN R 8 w) P (upN Z 0 0))) → Fr a (a + 9) M0 M → J g 0 0 n M [some (.ref a), some (.int (iI (acF W t : Int))), some (.int (iI (t : Int)))] 37 [.int (iI (y : Int)), .int (iI (acF W t : Int))] := by
          intro M y hy hM hFr
          refine J.iaddN (pc := 37) G dX4_fitness_37 ?_
          refine J.istore_n (L' := [_, _, _]) (pc := 38) G dX4_fitness_38 rfl (Nat.le_of_ble_eq_true rfl) rfl ?_
          refine J.iincN (L' := [_, _, _]) (pc := 39) G dX4_fitness_39 1 rfl rfl rfl rfl ?_
          refine J.goto (pc := 42) (tgt := 15) G dX4_fitness_42 (by decide) ?_
          rw [← hy]
          exact ih (t + 1, M) ⟨by dsimp only; omega, hM, hFr⟩ (by dsimp only; omega)
        refine J.iload_n (pc := 23) G dX4_fitness_23 rfl ?_
        refine J.aload_n (pc := 24) G dX4_fitness_24 rfl ?_
        refine J.iload_n (pc := 25) G dX4_fitness_25 rfl ?_
        refine J.callV (pc := 26) (na := 1) G (m_isTraceWord n M (R := upAN R 8 w) (Z := upN Z 0 0) (nd := nd) (t := t) hM hok (hT.keep ⟨rfl, rfl, rfl⟩) hq hw8 hE (by omega)) q933 q935 qp52 q936 q5 (by decide +kernel) dX4_fitness_26 (hM.at 0 rfl) rfl rfl (Nat.le_of_ble_eq_true rfl) rfl ⟨by omega, by decide, by omega, by omega⟩ ?_
        rintro r9 n9 M8 ⟨hr9, hn9, ⟨hM8, hFr8⟩⟩
        subst hr9
        rw [hn9]
        clear hn9 n9
        dsimp only [Option.toList, List.cons_append, List.nil_append]
        have hM8 : Cl M8 a (modC a (upAN R 8 (cwF w (R 4) (12 * t) (R 3 t))) P (upN Z 0 0)) := by
          have := hM8
          rw [upAN2] at this
          exact this
        rw [show iw (cwF (upAN R 8 w 8) (upAN R 8 w 4) (12 * t) (upAN R 8 w 3 t)) 0 (2 ^ upAN R 8 w 3 t - 1) = W t from hWt]
        refine J.if_eq_b (pc := 29) (tgt := 36) G dX4_fitness_29 (by decide) (fun hb2 => ?_) (fun hb2 => ?_)
        · rw [hb2] at hstep
          refine J.iconstN (pc := 36) G dX4_fitness_36 0 rfl ?_
          exact nx M8 0 hstep ⟨_, hcl, hM8⟩ (hFr.trans hFr8)
        · rw [hb2, if_pos rfl] at hstep
          refine J.iconstN (pc := 32) G dX4_fitness_32 1 rfl ?_
          refine J.goto (pc := 33) (tgt := 37) G dX4_fitness_33 (by decide) ?_
          exact nx M8 1 hstep ⟨_, hcl, hM8⟩ (hFr.trans hFr8)
    exact K1 (0, M7) ⟨Nat.zero_le _, ⟨R 8, hw, by dsimp only; rw [upAN_same]; exact hM7⟩, hFr7⟩
  · have h0 := of_decide_eq_false hb
    have hz : Z 7 = 0 := by
      rcases (show Z 7 = 0 ∨ Z 7 = 1 by omega) with q | q
      · exact q
      · exact absurd (if_pos q) h0
    rw [if_neg (by omega)] at hM7
    refine J.dconst0 (pc := 9) G dX4_fitness_9 ?_
    exact J.dret (pc := 10) G hO dX4_fitness_10 (by decide) (by decide) (Or.inr ⟨hz, MReW.of hw ⟨rfl, rfl, hM7, hFr7⟩⟩)
/-- the word of a code: its digits to the base 8 -/
def cdF (w : Nat → Nat) (c k : Nat) : Nat → Nat := it (fun i w => upN w i ((c >>> (3 * i)) &&& 7)) w k
theorem and7_lt (x : Nat) : x &&& 7 < 8 := Nat.lt_of_le_of_lt Nat.and_le_right (by decide)
theorem cdF_lt {w : Nat → Nat} {c k : Nat} (hw : ∀ i, i < 12 → w i < 8) : ∀ i, i < 12 → cdF w c k i < 8 :=
  it_inv (fun _ (w : Nat → Nat) => ∀ i, i < 12 → w i < 8) k hw (fun i w hi hw j hj => by
    by_cases e : j = i
    · subst e; rw [upN_s]; exact and7_lt _
    · rw [upN_n e]; exact hw j hj)
set_option maxRecDepth 100000 in
set_option maxHeartbeats 4000000 in
theorem m_words (n : Nat) (M0 : AH) {a : Nat} {v : Int} {R : Nat → Nat → Nat} {P : Nat → Int} {Z : Nat → Nat} {nd : List Nd} {W : Nat → Bool} {iw aw : (Nat → Nat) → Nat → Nat → Bool} {od : (Nat → Nat) → Nat → Nat → Nat → Bool} {ag : (Nat → Nat) → Nat → Nat → Bool} {go : (Nat → Nat) → Nat → Nat → Nat → Bool} (hM : Cl M0 a (modC a R P Z)) (h7 : Z 7 ≤ 1) (hT : Z 7 = 1 → MdT R P Z nd) (hq : NdQ nd) (hw : ∀ i, i < 12 → R 8 i < 8) (hE : IwA8 nd iw aw od ag go) (hv : Rng v) (hW : 0 ≤ v ∧ v ≤ 3 → ∀ c, c < 2 ^ (3 * v.toNat) → ∀ w : Nat → Nat, (∀ i, i < 12 → w i < 8) → iw (cdF w c v.toNat) 0 (2 ^ v.toNat - 1) = W c) : Fn yX4_words cX4_words 5 (some .int) 1801 [.ref a, .int (iI v)] n M0 0 0 (fun r n' M' => (Z 7 = 1 ∧ (0 ≤ v ∧ v ≤ 3) ∧ MReW n M0 a R P Z (.int (iI ((acF W (2 ^ (3 * v.toNat)) : Nat) : Int))) 0 r n' M') ∨ (Z 7 = 1 ∧ ¬ (0 ≤ v ∧ v ≤ 3) ∧ MReW n M0 a R P Z (.int (iI ((0 : Nat) : Int))) 2 r n' M') ∨ (Z 7 = 0 ∧ MReW n M0 a R P Z (.int (iI ((0 : Nat) : Int))) 1 r n' M')) := by
  refine Fn.of (by decide) [some _, some _, none, none, none] rfl rfl (Nat.le_of_ble_eq_true rfl) ?_
  intro g G hin hO
  have hac := askC_one h7
  obtain ⟨hv1, hv2⟩ := hv
  obtain ⟨hq1, hsh, hc8, hS8⟩ := hq
  refine J.aload_n (pc := 0) G dX4_words_0 rfl ?_
  refine J.iconstN (pc := 1) G dX4_words_1 0 rfl ?_
  refine J.iconstN (pc := 2) G dX4_words_2 1 rfl ?_
  refine J.callV (pc := 3) (na := 2) G (m_asks n M0 (v := ((0 : Nat) : Int)) (lim := 1) hM h7 ⟨by decide, by decide⟩ (by decide)) q889 q891 qp48 q892 q5 (by decide +kernel) dX4_words_3 (hM.at 0 rfl) rfl rfl (Nat.le_of_ble_eq_true rfl) rfl ⟨by omega, by decide, by omega, by omega⟩ ?_
  rintro r9 n9 M7 ⟨hr9, hn9, ⟨hM7, hFr7⟩⟩
  subst hr9
  rw [hn9]
  clear hn9 n9
  dsimp only [Option.toList, List.cons_append, List.nil_append]
  rw [hac] at hM7 ⊢
  refine J.if_ne_b (pc := 6) (tgt := 11) G dX4_words_6 (by decide) (fun hb => ?_) (fun hb => ?_)
  · have h0 := of_decide_eq_true hb
    have hs1 : Z 7 = 1 := by
      rcases (show Z 7 = 0 ∨ Z 7 = 1 by omega) with q | q
      · rw [if_neg (by omega)] at h0; cases h0
      · exact q
    rw [h0] at hM7
    have hT := hT hs1
    have h64 := hT.2.1
    have K20 : ¬ (0 ≤ v ∧ v ≤ 3) → J g 0 0 n M7 [some (.ref a), some (.int (iI v)), none, none, none] 20 [] := by
      intro hno
      refine J.aload_n (pc := 20) G dX4_words_20 rfl ?_
      refine J.iconstN (pc := 21) G dX4_words_21 2 rfl ?_
      refine J.callV (pc := 22) (na := 1) G (m_fail n M7 (c := 2) hM7) q746 q748 qp39 q749 q5 (by decide +kernel) dX4_words_22 (hM7.at 0 rfl) rfl rfl (Nat.le_of_ble_eq_true rfl) rfl ⟨by omega, by decide, by omega, by omega⟩ ?_
      rintro r9 n9 M8 ⟨hr9, hn9, ⟨hM8, hFr8⟩⟩
      subst hr9
      rw [hn9]
      clear hn9 n9
      dsimp only [Option.toList, List.cons_append, List.nil_append]
      rw [upN2] at hM8
      exact J.iret (pc := 25) G hO dX4_words_25 (by decide) (by decide) (Or.inr (Or.inl ⟨hs1, hno, MReW.of hw ⟨rfl, rfl, hM8, hFr7.trans hFr8⟩⟩))
    refine J.iload_n (pc := 11) G dX4_words_11 rfl ?_
    refine J.if_lt (pc := 12) (tgt := 20) G dX4_words_12 (by decide) hv1 hv2 (fun h => K20 (by omega)) (fun h => ?_)
    refine J.iload_n (pc := 15) G dX4_words_15 rfl ?_
    refine J.iconstN (pc := 16) G dX4_words_16 3 rfl ?_
    refine J.icmp_le (pc := 17) (tgt := 26) G dX4_words_17 (by decide) hv1 hv2 (by decide) (by decide) (fun h3 => ?_) (fun h3 => K20 (by omega))
    have hv03 : 0 ≤ v ∧ v ≤ 3 := ⟨by omega, by omega⟩
    replace hW := hW hv03
    have eu : ((v.toNat : Nat) : Int) = v := by omega
    clear K20
    generalize v.toNat = u at hO eu hW
    subst eu
    have hu3 : u ≤ 3 := by omega
    have hp := Nat.one_le_two_pow (n := u)
    have hp8 : 2 ^ (3 * u) ≤ 512 := by
      have := Nat.pow_le_pow_right (n := 2) (by omega) (show 3 * u ≤ 9 by omega)
      exact this
    refine J.iconstN (pc := 26) G dX4_words_26 0 rfl ?_
    refine J.istore_n (L' := [_, _, _, _, _]) (pc := 27) G dX4_words_27 rfl (Nat.le_of_ble_eq_true rfl) rfl ?_
    refine J.iconstN (pc := 28) G dX4_words_28 0 rfl ?_
    refine J.istore_n (L' := [_, _, _, _, _]) (pc := 29) G dX4_words_29 rfl (Nat.le_of_ble_eq_true rfl) rfl ?_
    have K1 : ∀ q : Nat × AH, (q.1 ≤ 2 ^ (3 * u) ∧ (∃ w : Nat → Nat, (∀ i, i < 12 → w i < 8) ∧ Cl q.2 a (modC a (upAN R 8 w) P (upN Z 0 0))) ∧ Fr a (a + 9) M0 q.2) → ∀ l4, J g 0 0 n q.2 [some (.ref a), some (.int (iI (u : Int))), some (.int (iI (acF W q.1 : Int))), some (.int (iI (q.1 : Int))), l4] 30 [] := by
      refine loopJ (fun q => 2 ^ (3 * u) - q.1) _ _ ?_
      clear hM hM7 hFr7
      rintro ⟨c, M⟩ ⟨hc, ⟨w, hw8, hM⟩, hFr⟩ ih l4
      dsimp only at hc hM hFr ih ⊢
      have hstep : acF W (c + 1) = if W c then acF W c + 1 else acF W c := rfl
      have hWc := hW c
      refine J.iload_n (pc := 30) G dX4_words_30 rfl ?_
      refine J.iconstN (pc := 31) G dX4_words_31 1 rfl ?_
      refine J.iconstN (pc := 32) G dX4_words_32 3 rfl ?_
      refine J.iload_n (pc := 33) G dX4_words_33 rfl ?_
      refine J.imulN (pc := 34) G dX4_words_34 ?_
      refine J.ishl1 (pc := 35) G dX4_words_35 (by omega) ?_
      refine J.icmp_geN (pc := 36) (tgt := 97) G dX4_words_36 (by decide) (by omega) (by omega) (fun h => ?_) (fun h => ?_)
      · have hcs : c = 2 ^ (3 * u) := by omega
        refine J.iload_n (pc := 97) G dX4_words_97 rfl ?_
        exact J.iret (pc := 98) G hO dX4_words_98 (by decide) (by decide) (Or.inl ⟨hs1, hv03, by rw [hcs], rfl, ⟨w, hw8, hM⟩, hFr⟩)
      · have hWc := hWc h w hw8
        have nx : ∀ (M : AH) (y : Nat), acF W (c + 1) = acF W c + y → (∃ w : Nat → Nat, (∀ i, i < 12 → w i < 8) ∧ Cl M a (modC a (upAN R 8 w) P (upN Z 0 0))) → Fr a (a + 9) M0 M → ∀ l4, J g 0 0 n M [some (.ref a), some (.int (iI (u : Int))), some (.int (iI (acF W c : Int))), some (.int (iI (c : Int))), l4] 89 [.int (iI (y : Int)), .int (iI (acF W c : Int))] := by
          intro M y hy hM hFr l4
          refine J.iaddN (pc := 89) G dX4_words_89 ?_
          refine J.istore_n (L' := [_, _, _, _, _]) (pc := 90) G dX4_words_90 rfl (Nat.le_of_ble_eq_true rfl) rfl ?_
          refine J.iincN (L' := [_, _, _, _, _]) (pc := 91) G dX4_words_91 1 rfl rfl rfl rfl ?_
          refine J.goto (pc := 94) (tgt := 30) G dX4_words_94 (by decide) ?_
          rw [← hy]
          exact ih (c + 1, M) ⟨by dsimp only; omega, hM, hFr⟩ (by dsimp only; omega) _
        generalize acF W c = x at nx hstep ⊢
        refine J.iconstN (pc := 39) G dX4_words_39 0 rfl ?_
        refine J.istore (L' := [_, _, _, _, _]) (pc := 40) G dX4_words_40 rfl (Nat.le_of_ble_eq_true rfl) rfl ?_
        have K2 : ∀ q : Nat × AH, (q.1 ≤ u ∧ Cl q.2 a (modC a (upAN R 8 (cdF w c q.1)) P (upN Z 0 0)) ∧ Fr a (a + 9) M0 q.2) → J g 0 0 n q.2 [some (.ref a), some (.int (iI (u : Int))), some (.int (iI (x : Int))), some (.int (iI (c : Int))), some (.int (iI (q.1 : Int)))] 42 [] := by
          refine loopJ (fun q => u - q.1) _ _ ?_
          clear hM hFr
          rintro ⟨j, M⟩ ⟨hj, hM, hFr⟩ ih2
          dsimp only at hj hM hFr ih2 ⊢
          have hs2 : cdF w c (j + 1) = upN (cdF w c j) j ((c >>> (3 * j)) &&& 7) := rfl
          have hcl := cdF_lt (c := c) (k := j) hw8
          have hend : j = u → cdF w c j = cdF w c u := fun e => by rw [e]
          generalize cdF w c j = w1 at hM hs2 hcl hend
          refine J.iload (pc := 42) G dX4_words_42 rfl ?_
          refine J.iload_n (pc := 44) G dX4_words_44 rfl ?_
          refine J.icmp_geN (pc := 45) (tgt := 70) G dX4_words_45 (by decide) (by omega) (by omega) (fun h5 => ?_) (fun h5 => ?_)
          · rw [← hend (by omega)] at hWc
            refine J.iload_n (pc := 70) G dX4_words_70 rfl ?_
            refine J.aload_n (pc := 71) G dX4_words_71 rfl ?_
            refine J.iconstN (pc := 72) G dX4_words_72 0 rfl ?_
            refine J.iconstN (pc := 73) G dX4_words_73 1 rfl ?_
            refine J.iload_n (pc := 74) G dX4_words_74 rfl ?_
            refine J.ishl1 (pc := 75) G dX4_words_75 (by omega) ?_
            refine J.iconstN (pc := 76) G dX4_words_76 1 rfl ?_
            refine J.isubN (pc := 77) G dX4_words_77 (by omega) ?_
            refine J.callV (pc := 78) (na := 2) G ((m_iw n M (R := upAN R 8 w1) (P := P) (Z := upN Z 0 0) (nd := nd) ⟨hM, hT.keep ⟨rfl, rfl, rfl⟩, hsh, hc8, hS8, hcl⟩ (hE w1 hcl) (28 * (nd.length - 0) + 4)).1 0 (2 ^ u - 1) hq1 (pow12' (by omega)) rfl) q937 q939 qp53 q940 q5 (by decide +kernel) dX4_words_78 (hM.at 0 rfl) rfl rfl (Nat.le_of_ble_eq_true rfl) rfl ⟨by omega, by decide, by omega, by omega⟩ ?_
            rintro r9 n9 M9 ⟨hr9, hn9, hM9⟩
            subst hr9
            rw [hn9, hM9]
            clear hn9 hM9 n9 M9
            dsimp only [Option.toList, List.cons_append, List.nil_append]
            rw [hWc]
            refine J.if_eq_b (pc := 81) (tgt := 88) G dX4_words_81 (by decide) (fun hb2 => ?_) (fun hb2 => ?_)
            · rw [hb2] at hstep
              refine J.iconstN (pc := 88) G dX4_words_88 0 rfl ?_
              exact nx M 0 hstep ⟨_, hcl, hM⟩ hFr _
            · rw [hb2, if_pos rfl] at hstep
              refine J.iconstN (pc := 84) G dX4_words_84 1 rfl ?_
              refine J.goto (pc := 85) (tgt := 89) G dX4_words_85 (by decide) ?_
              exact nx M 1 hstep ⟨_, hcl, hM⟩ hFr _
          · refine J.aload_n (pc := 48) G dX4_words_48 rfl ?_
            refine J.getf (pc := 49) (ci := 4) G inX4 rfl 12 q707 dX4_words_49 (hM.at 0 rfl) (by decide) rfl ?_
            refine J.iload (pc := 52) G dX4_words_52 rfl ?_
            refine J.iload_n (pc := 54) G dX4_words_54 rfl ?_
            refine J.iconstN (pc := 55) G dX4_words_55 3 rfl ?_
            refine J.iload (pc := 56) G dX4_words_56 rfl ?_
            refine J.imulN (pc := 58) G dX4_words_58 ?_
            refine J.ishrN (pc := 59) G dX4_words_59 (by omega) (by omega) ?_
            refine J.bipushN (pc := 60) G dX4_words_60 7 (by decide +kernel) ?_
            refine J.iandN (pc := 62) G dX4_words_62 ?_
            refine J.iastN (pc := 63) G dX4_words_63 (hM.at 8 rfl) (by omega) (by decide) (fun M hput hag => ?_)
            have hM := modA8 hM hput hag
            have hFr := hFr.put hag (by omega) (by omega)
            clear hput hag
            refine J.iincN (L' := [_, _, _, _, _]) (pc := 64) G dX4_words_64 1 rfl rfl rfl rfl ?_
            rw [upAN2, upAN_s, ← hs2] at hM
            refine J.goto (pc := 67) (tgt := 42) G dX4_words_67 (by decide) ?_
            exact ih2 (j + 1, M) ⟨by dsimp only; omega, hM, hFr⟩ (by dsimp only; omega)
        exact K2 (0, M) ⟨Nat.zero_le _, hM, hFr⟩
    exact K1 (0, M7) ⟨Nat.zero_le _, ⟨R 8, hw, by dsimp only; rw [upAN_same]; exact hM7⟩, hFr7⟩ _
  · have h0 := of_decide_eq_false hb
    have hz : Z 7 = 0 := by
      rcases (show Z 7 = 0 ∨ Z 7 = 1 by omega) with q | q
      · exact q
      · exact absurd (if_pos q) h0
    rw [if_neg (by omega)] at hM7
    refine J.iconstN (pc := 9) G dX4_words_9 0 rfl ?_
    exact J.iret (pc := 10) G hO dX4_words_10 (by decide) (by decide) (Or.inr (Or.inr ⟨hz, MReW.of hw ⟨rfl, rfl, hM7, hFr7⟩⟩))
end ISW4
