section PARTS1
theorem fiU_spec {f : Nat → Bool} : ∀ n, firstU f n ≤ n ∧ (firstU f n < n → f (firstU f n) = true) ∧ ∀ j, j < firstU f n → f j = false
  | 0 => ⟨Nat.le_refl _, fun h => absurd h (Nat.not_lt_zero _), fun j h => absurd h (Nat.not_lt_zero _)⟩
  | n + 1 => by
    obtain ⟨h1, h2, h3⟩ := fiU_spec (f := f) n
    rw [firstU]
    split
    · rename_i h
      exact ⟨by omega, fun _ => h2 h, h3⟩
    · have e : firstU f n = n := by omega
      rw [e] at h3
      split
      · rename_i h
        exact ⟨by omega, fun _ => h, h3⟩
      · rename_i h
        refine ⟨Nat.le_refl _, fun q => absurd q (by omega), fun j hj => ?_⟩
        by_cases q : j = n
        · rw [q]; exact eq_false_of_ne_true h
        · exact h3 j (by omega)
theorem loF_spec {m : Nat} (hm : m < 256) (h0 : 0 < m) : loF m < 8 ∧ m.testBit (loF m) = true ∧ ∀ j, j < loF m → m.testBit j = false := by
  obtain ⟨h1, h2, h3⟩ := fiU_spec (f := fun i => m.testBit i) 8
  have hlt : loF m < 8 := (ntz_ok m hm h0).1
  exact ⟨hlt, h2 hlt, h3⟩
theorem popc_le8 {m : Nat} (hm : m < 256) : popc m ≤ 8 := by
  have e : ∀ i, 8 ≤ i → m.testBit i = false := fun i hi => bit_lt (k := 8) hm hi
  have : popc m = pcI m 8 := by
    rw [popc_eq]
    show pcI m (11 + 1) = _
    rw [pcI_s, e 11 (by omega), if_neg (by decide)]
    show pcI m (10 + 1) = _
    rw [pcI_s, e 10 (by omega), if_neg (by decide)]
    show pcI m (9 + 1) = _
    rw [pcI_s, e 9 (by omega), if_neg (by decide)]
    show pcI m (8 + 1) = _
    rw [pcI_s, e 8 (by omega), if_neg (by decide)]
  rw [this]
  exact pcI_le 8
theorem popc_and {a b : Nat} : popc a = popc (a &&& b) + popc (andn a b) := by
  rw [popc_eq, popc_eq, popc_eq]
  refine pcI_add 12 (fun i _ => ?_)
  rw [andn_bit, Nat.testBit_and]
  cases a.testBit i <;> cases b.testBit i <;> simp
theorem popc_drop {a b i : Nat} (hi : i < 12) (ha : a.testBit i = true) (hb : b.testBit i = true) : popc (andn a b) + 1 ≤ popc a := by
  have h1 := popc_and (a := a) (b := b)
  have h2 : 1 ≤ popc (a &&& b) := by
    rw [popc_eq]
    exact pcI_pos 12 i hi (by rw [Nat.testBit_and, ha, hb]; rfl)
  omega
def paS (left : Nat) (jn : Nat → Nat) (a b part : Nat) : Nat := if left.testBit a && (left.testBit b && (((jn a).testBit b || (jn b).testBit a) && (part.testBit a || part.testBit b))) then part ||| (2 ^ a ||| 2 ^ b) else part
def paI (left : Nat) (jn : Nat → Nat) (a part k : Nat) : Nat := it (fun b p => paS left jn a b p) part k
def paA (left : Nat) (jn : Nat → Nat) (part k : Nat) : Nat := it (fun a p => paI left jn a p 8) part k
def paR (left : Nat) (jn : Nat → Nat) (part : Nat) : Nat := paA left jn part 8
def paJ (left : Nat) (jn : Nat → Nat) (k : Nat) : Nat := it (fun _ p => paR left jn p) (2 ^ loF left) k
/-- the part of a set's lowest label: what is joined, again and again -/
def paF (left : Nat) (jn : Nat → Nat) : Nat := paJ left jn 256
def paO (jn : Nat → Nat) : Nat → Nat → List Nat → List Nat
  | 0, _, ps => ps
  | f + 1, left, ps => if left = 0 then ps else paO jn f (andn left (paF left jn)) (ps ++ [paF left jn])
/-- the parts of a set -/
def paL (set : Nat) (jn : Nat → Nat) : List Nat := paO jn 8 set []
theorem paS_bit {left : Nat} {jn : Nat → Nat} {a b part i : Nat} (h : part.testBit i = true) : (paS left jn a b part).testBit i = true := by
  unfold paS
  split
  · rw [Nat.testBit_or, h, Bool.true_or]
  · exact h
theorem paS_lt {left : Nat} {jn : Nat → Nat} {a b part : Nat} (ha : a < 8) (hb : b < 8) (h : part < 256) : paS left jn a b part < 256 := by
  unfold paS
  split
  · exact or_lt8 h (or_lt8 (pow_lt8 ha) (pow_lt8 hb))
  · exact h
theorem paS_ge {left : Nat} {jn : Nat → Nat} {a b part : Nat} : part ≤ paS left jn a b part := by
  unfold paS
  split
  · exact Nat.left_le_or
  · exact Nat.le_refl _
theorem paI_lt {left : Nat} {jn : Nat → Nat} {a part k : Nat} (ha : a < 8) (hk : k ≤ 8) (h : part < 256) : paI left jn a part k < 256 :=
  it_inv (fun _ p => p < 256) k h (fun i p hi hp => paS_lt ha (by omega) hp)
theorem paA_lt {left : Nat} {jn : Nat → Nat} {part k : Nat} (hk : k ≤ 8) (h : part < 256) : paA left jn part k < 256 :=
  it_inv (fun _ p => p < 256) k h (fun i p hi hp => paI_lt (by omega) (Nat.le_refl _) hp)
theorem paR_ge {left : Nat} {jn : Nat → Nat} {part : Nat} : part ≤ paR left jn part :=
  it_inv (f := fun a p => paI left jn a p 8) (s := part) (fun _ p => part ≤ p) 8 (Nat.le_refl _) (fun i p _ hp => it_inv (f := fun b p => paS left jn i b p) (s := p) (fun _ q => part ≤ q) 8 hp (fun j q _ hq => Nat.le_trans hq paS_ge))
theorem paR_bit {left : Nat} {jn : Nat → Nat} {part i : Nat} (h : part.testBit i = true) : (paR left jn part).testBit i = true :=
  it_inv (f := fun a p => paI left jn a p 8) (s := part) (fun _ p => Nat.testBit p i = true) 8 h (fun a p _ hp => it_inv (f := fun b p => paS left jn a b p) (s := p) (fun _ q => Nat.testBit q i = true) 8 hp (fun j q _ hq => paS_bit hq))
theorem paJ_lt {left : Nat} {jn : Nat → Nat} (hl : left < 256) (h0 : 0 < left) (k : Nat) : paJ left jn k < 256 :=
  it_inv (fun _ p => p < 256) k (pow_lt8 (loF_spec hl h0).1) (fun _ p _ hp => paA_lt (Nat.le_refl _) hp)
theorem paJ_bit {left : Nat} {jn : Nat → Nat} (k : Nat) : (paJ left jn k).testBit (loF left) = true :=
  it_inv (f := fun _ p => paR left jn p) (s := 2 ^ loF left) (fun _ p => Nat.testBit p (loF left) = true) k (by rw [pow_bit]; exact decide_eq_true rfl) (fun _ p _ hp => paR_bit hp)
theorem paJ_fix {left : Nat} {jn : Nat → Nat} {j : Nat} (h : paR left jn (paJ left jn j) = paJ left jn j) : ∀ e, paJ left jn (j + e) = paJ left jn j
  | 0 => rfl
  | e + 1 => by
    show paR left jn (paJ left jn (j + e)) = _
    rw [paJ_fix h e, h]
theorem paF_of {left : Nat} {jn : Nat → Nat} {j : Nat} (hj : j ≤ 256) (h : paR left jn (paJ left jn j) = paJ left jn j) : paJ left jn j = paF left jn := by
  have := paJ_fix h (256 - j)
  rw [show j + (256 - j) = 256 by omega] at this
  exact this.symm
theorem paO_0 {jn : Nat → Nat} {ps : List Nat} : ∀ f, paO jn f 0 ps = ps
  | 0 => rfl
  | f + 1 => by rw [paO, if_pos rfl]
theorem gd_out {ps : List Nat} {j : Nat} (h : ps.length ≤ j) : gd ps j = 0 := by
  unfold gd
  rw [List.getD_eq_getElem?_getD, List.getElem?_eq_none h]
  rfl
theorem cpy_gd {e : Nat → Nat} {ps : List Nat} (h : Pl e ps) : va_cpy e (fun _ => 0) 0 0 ps.length = gd ps := by
  funext j
  unfold va_cpy
  by_cases hj : j < ps.length
  · rw [if_pos ⟨Nat.zero_le _, by omega⟩, show 0 + (j - 0) = j by omega]
    exact h j hj
  · rw [if_neg (by omega), gd_out (by omega)]
set_option maxRecDepth 100000 in
set_option maxHeartbeats 4000000 in
theorem m_parts (n : Nat) (M0 : AH) {jr set : Nat} {jn : Nat → Nat} (hj : M0 jr = some (cN 8 jn)) (hjr : jr < n) (hj8 : ∀ i, i < 8 → jn i < 256) (hset : set < 256) : Fn yX4_parts cX4_parts 9 (some (.array .int)) 1 [.int (iI (set : Int)), .ref jr] n M0 2 16 (fun r n' M' => r = some (.ref (n + 1)) ∧ n' = n + 2 ∧ M' (n + 1) = some (cN (paL set jn).length (gd (paL set jn))) ∧ ∀ q, q < n → M' q = M0 q) := by
  refine Fn.of (by decide) [some _, some _, none, none, none, none, none, none, none] rfl rfl (Nat.le_of_ble_eq_true rfl) ?_
  intro g G hin hO
  have hps := popc_le8 hset
  refine J.iload_n (pc := 0) G dX4_parts_0 rfl ?_
  refine J.callS (pc := 1) (na := 1) G (c_bitCount n M0 (m := set) (by omega)) q835 q230 q231 q12 (by decide +kernel) dX4_parts_1 rfl (Nat.le_of_ble_eq_true rfl) rfl ⟨by omega, by decide, by omega, by omega⟩ ?_
  rintro r9 n9 M9 ⟨hr9, hn9, hM9⟩
  subst hr9
  rw [hn9, hM9]
  clear hn9 hM9 n9 M9
  dsimp only [Option.toList, List.cons_append, List.nil_append]
  refine J.newI (pc := 4) G q62 dX4_parts_4 (by omega) (by omega) (by omega) (fun M hput hag => ?_)
  refine J.astore_n (L' := [_, _, _, _, _, _, _, _, _]) (pc := 6) G dX4_parts_6 rfl (Nat.le_of_ble_eq_true rfl) rfl ?_
  refine J.iconstN (pc := 7) G dX4_parts_7 0 rfl ?_
  refine J.istore_n (L' := [_, _, _, _, _, _, _, _, _]) (pc := 8) G dX4_parts_8 rfl (Nat.le_of_ble_eq_true rfl) rfl ?_
  refine J.iload_n (pc := 9) G dX4_parts_9 rfl ?_
  refine J.istore (L' := [_, _, _, _, _, _, _, _, _]) (pc := 10) G dX4_parts_10 rfl (Nat.le_of_ble_eq_true rfl) rfl ?_
  have K1 : ∀ q : Nat × Nat × List Nat × AH, (q.2.1 < 256 ∧ popc q.2.1 ≤ q.1 ∧ q.2.2.1.length + popc q.2.1 ≤ popc set ∧ paO jn q.1 q.2.1 q.2.2.1 = paL set jn ∧ (∃ e : Nat → Nat, q.2.2.2 n = some (cN (popc set) e) ∧ Pl e q.2.2.1) ∧ ∀ x, x < n → q.2.2.2 x = M0 x) → ∀ l5 l6 l7 l8, J g (0 + 1) (0 + popc set) (n + 1) q.2.2.2 [some (.int (iI (set : Int))), some (.ref jr), some (.ref n), some (.int (iI (q.2.2.1.length : Int))), some (.int (iI (q.2.1 : Int))), l5, l6, l7, l8] 12 [] := by
    refine loopJ (fun q => popc q.2.1) _ _ ?_
    clear hput hag
    rintro ⟨f, left, ps, M⟩ ⟨hl, hf, hlen, hpa, ⟨e, hn, hpl⟩, hFr⟩ ih l5 l6 l7 l8
    dsimp only at hl hf hlen hpa hn hpl hFr ih ⊢
    have hj := (hFr jr hjr).trans hj
    refine J.iload (pc := 12) G dX4_parts_12 rfl ?_
    refine J.if_eqN (pc := 14) (tgt := 171) G dX4_parts_14 (by decide) (by omega) (fun h0 => ?_) (fun h0 => ?_)
    · rw [h0, paO_0] at hpa
      refine J.iload_n (pc := 171) G dX4_parts_171 rfl ?_
      refine J.newI (pc := 172) G q62 dX4_parts_172 (by omega) (by omega) (by omega) (fun M2 hput hag => ?_)
      refine J.astore (L' := [_, _, _, _, _, _, _, _, _]) (pc := 174) G dX4_parts_174 rfl (Nat.le_of_ble_eq_true rfl) rfl ?_
      refine J.aload_n (pc := 176) G dX4_parts_176 rfl ?_
      refine J.iconstN (pc := 177) G dX4_parts_177 0 rfl ?_
      refine J.aload (pc := 178) G dX4_parts_178 rfl ?_
      refine J.iconstN (pc := 180) G dX4_parts_180 0 rfl ?_
      refine J.iload_n (pc := 181) G dX4_parts_181 rfl ?_
      refine J.copyI (pc := 182) G (f := e) q849 q851 q850 q13 dX4_parts_182 (by decide) (Nat.le_of_ble_eq_true rfl) rfl ((hag n (by omega)).trans hn) hput (by omega) (by omega) (by omega) (by omega) (fun M3 hput3 hag3 => ?_)
      rw [cpy_gd hpl] at hput3
      refine J.aload (pc := 185) G dX4_parts_185 rfl ?_
      exact J.aret (pc := 187) G (Or.inr ⟨_, rfl⟩) hO dX4_parts_187 (by omega) (by omega) ⟨rfl, rfl, by rw [← hpa]; exact hput3, fun q hq => (hag3 q (by omega)).trans ((hag q (by omega)).trans (hFr q hq))⟩
    · obtain ⟨f', hf'⟩ : ∃ f', f = f' + 1 := by
        have : 1 ≤ popc left := popc_pos (by omega) (by omega)
        exact ⟨f - 1, by omega⟩
      subst hf'
      obtain ⟨lo8, lob, -⟩ := loF_spec hl h0
      rw [paO, if_neg (by omega)] at hpa
      have K151 : ∀ l6 l7 l8, J g (0 + 1) (0 + popc set) (n + 1) M [some (.int (iI (set : Int))), some (.ref jr), some (.ref n), some (.int (iI (ps.length : Int))), some (.int (iI (left : Int))), some (.int (iI ((paF left jn : Nat) : Int))), l6, l7, l8] 151 [] := by
        intro l6 l7 l8
        have hdrop := popc_drop (a := left) (b := paF left jn) (i := loF left) (by omega) lob (paJ_bit 256)
        generalize paF left jn = v at hpa hdrop ⊢
        refine J.aload_n (pc := 151) G dX4_parts_151 rfl ?_
        refine J.iload_n (pc := 152) G dX4_parts_152 rfl ?_
        refine J.iload (pc := 153) G dX4_parts_153 rfl ?_
        refine J.iastN (pc := 155) G dX4_parts_155 hn (by omega) (by omega) (fun M2 hput hag => ?_)
        refine J.iincN (L' := [_, _, _, _, _, _, _, _, _]) (pc := 156) G dX4_parts_156 1 rfl rfl rfl rfl ?_
        refine J.iload (pc := 159) G dX4_parts_159 rfl ?_
        refine J.iload (pc := 161) G dX4_parts_161 rfl ?_
        refine J.andnN (pc := 163) G dX4_parts_163 dX4_parts_164 dX4_parts_165 ?_
        refine J.istore (L' := [_, _, _, _, _, _, _, _, _]) (pc := 166) G dX4_parts_166 rfl (Nat.le_of_ble_eq_true rfl) rfl ?_
        refine J.goto (pc := 168) (tgt := 12) G dX4_parts_168 (by decide) ?_
        have := ih (f', andn left v, ps ++ [v], M2) ⟨andn_lt8 hl, by dsimp only; omega, by dsimp only; rw [List.length_append]; show ps.length + 1 + _ ≤ _; omega, hpa, ⟨_, hput, hpl.push⟩, fun x hx => (hag x (by omega)).trans (hFr x hx)⟩ (by dsimp only; omega) (some (.int (iI (v : Int)))) l6 l7 l8
        dsimp only at this
        rw [List.length_append] at this
        exact this
      refine J.iload (pc := 17) G dX4_parts_17 rfl ?_
      refine J.callS (pc := 19) (na := 1) G (c_lowestOneBit (n + 1) M (m := left) hl h0) q846 q847 q848 q12 (by decide +kernel) dX4_parts_19 rfl (Nat.le_of_ble_eq_true rfl) rfl ⟨by omega, by decide, by omega, by omega⟩ ?_
      rintro r9 n9 M9 ⟨hr9, hn9, hM9⟩
      subst hr9
      rw [hn9, hM9]
      clear hn9 hM9 n9 M9
      dsimp only [Option.toList, List.cons_append, List.nil_append]
      refine J.istore (L' := [_, _, _, _, _, _, _, _, _]) (pc := 22) G dX4_parts_22 rfl (Nat.le_of_ble_eq_true rfl) rfl ?_
      refine J.iconstN (pc := 24) G dX4_parts_24 0 rfl ?_
      refine J.istore (L' := [_, _, _, _, _, _, _, _, _]) (pc := 25) G dX4_parts_25 rfl (Nat.le_of_ble_eq_true rfl) rfl ?_
      clear hpa ih
      have K2 : ∀ q : Nat × Nat × Nat, (q.1 = paJ left jn q.2.2 ∧ ((q.2.2 = 0 ∧ q.2.1 = 0) ∨ ∃ j, q.2.2 = j + 1 ∧ q.2.1 = paJ left jn j ∧ j + 1 ≤ q.2.1)) → ∀ l7 l8, J g (0 + 1) (0 + popc set) (n + 1) M [some (.int (iI (set : Int))), some (.ref jr), some (.ref n), some (.int (iI (ps.length : Int))), some (.int (iI (left : Int))), some (.int (iI (q.1 : Int))), some (.int (iI (q.2.1 : Int))), l7, l8] 27 [] := by
        refine loopJ (fun q => 256 - q.2.2) _ _ ?_
        rintro ⟨part, before, j⟩ ⟨hp, hb⟩ ih l7 l8
        dsimp only at hp hb ih ⊢
        have hp2 := paJ_lt (jn := jn) hl h0 j
        rw [← hp] at hp2
        have hb2 : before < 256 := by
          rcases hb with ⟨-, q⟩ | ⟨j', -, q, -⟩
          · omega
          · rw [q]; exact paJ_lt hl h0 j'
        have hp0 : 0 < part := by
          have := paJ_bit (left := left) (jn := jn) j
          rw [← hp] at this
          rcases Nat.eq_zero_or_pos part with q | q
          · rw [q, Nat.zero_testBit] at this; cases this
          · exact q
        refine J.iload (pc := 27) G dX4_parts_27 rfl ?_
        refine J.iload (pc := 29) G dX4_parts_29 rfl ?_
        refine J.icmp_eqN (pc := 31) (tgt := 151) G dX4_parts_31 (by decide) (by omega) (by omega) (fun hq => ?_) (fun hq => ?_)
        · rcases hb with ⟨-, q⟩ | ⟨j', q1, q2, q3⟩
          · omega
          · have e1 : part = paF left jn := by
              rw [hq, q2]
              refine paF_of (by omega) ?_
              rw [← q2, ← hq]
              show paR left jn part = part
              have : paJ left jn j = paR left jn (paJ left jn j') := by rw [q1]; rfl
              rw [hq, q2, ← this, ← hp, ← q2, hq]
            rw [e1]
            exact K151 _ _ _
        · have hj1 : j + 1 ≤ part := by
            rcases hb with ⟨q, -⟩ | ⟨j', q1, q2, q3⟩
            · omega
            · have h5 : paJ left jn j = paR left jn (paJ left jn j') := by rw [q1]; rfl
              have h6 := paR_ge (left := left) (jn := jn) (part := paJ left jn j')
              rw [← h5, ← hp, ← q2] at h6
              omega
          refine J.iload (pc := 34) G dX4_parts_34 rfl ?_
          refine J.istore (L' := [_, _, _, _, _, _, _, _, _]) (pc := 36) G dX4_parts_36 rfl (Nat.le_of_ble_eq_true rfl) rfl ?_
          refine J.iconstN (pc := 38) G dX4_parts_38 0 rfl ?_
          refine J.istore (L' := [_, _, _, _, _, _, _, _, _]) (pc := 39) G dX4_parts_39 rfl (Nat.le_of_ble_eq_true rfl) rfl ?_
          have K3 : ∀ a : Nat, a ≤ 8 → ∀ l8, J g (0 + 1) (0 + popc set) (n + 1) M [some (.int (iI (set : Int))), some (.ref jr), some (.ref n), some (.int (iI (ps.length : Int))), some (.int (iI (left : Int))), some (.int (iI (paA left jn part a : Int))), some (.int (iI (part : Int))), some (.int (iI (a : Int))), l8] 41 [] := by
            refine loopJ (fun a => 8 - a) _ _ ?_
            intro a ha ih3 l8
            have hs3 : paA left jn part (a + 1) = paI left jn a (paA left jn part a) 8 := rfl
            have hlt3 := paA_lt (left := left) (jn := jn) ha hp2
            refine J.iload (pc := 41) G dX4_parts_41 rfl ?_
            refine J.bipushN (pc := 43) G dX4_parts_43 8 (by decide +kernel) ?_
            refine J.icmp_geN (pc := 45) (tgt := 148) G dX4_parts_45 (by decide) (by omega) (by omega) (fun h5 => ?_) (fun h5 => ?_)
            · have ha8 : a = 8 := by omega
              subst ha8
              refine J.goto (pc := 148) (tgt := 27) G dX4_parts_148 (by decide) ?_
              exact ih (paA left jn part 8, part, j + 1) ⟨by dsimp only; rw [hp]; rfl, Or.inr ⟨j, rfl, hp, hj1⟩⟩ (by dsimp only; omega) _ _
            · generalize paA left jn part a = p0 at hs3 hlt3 ⊢
              refine J.iconstN (pc := 48) G dX4_parts_48 0 rfl ?_
              refine J.istore (L' := [_, _, _, _, _, _, _, _, _]) (pc := 49) G dX4_parts_49 rfl (Nat.le_of_ble_eq_true rfl) rfl ?_
              have K4 : ∀ b : Nat, b ≤ 8 → J g (0 + 1) (0 + popc set) (n + 1) M [some (.int (iI (set : Int))), some (.ref jr), some (.ref n), some (.int (iI (ps.length : Int))), some (.int (iI (left : Int))), some (.int (iI (paI left jn a p0 b : Int))), some (.int (iI (part : Int))), some (.int (iI (a : Int))), some (.int (iI (b : Int)))] 51 [] := by
                refine loopJ (fun b => 8 - b) _ _ ?_
                intro b hb8 ih4
                have hs4 : paI left jn a p0 (b + 1) = paS left jn a b (paI left jn a p0 b) := rfl
                have hlt4 := paI_lt (left := left) (jn := jn) (a := a) (k := b) h5 hb8 hlt3
                refine J.iload (pc := 51) G dX4_parts_51 rfl ?_
                refine J.bipushN (pc := 53) G dX4_parts_53 8 (by decide +kernel) ?_
                refine J.icmp_geN (pc := 55) (tgt := 142) G dX4_parts_55 (by decide) (by omega) (by omega) (fun h6 => ?_) (fun h6 => ?_)
                · have hb9 : b = 8 := by omega
                  subst hb9
                  rw [← hs3]
                  refine J.iincN (L' := [_, _, _, _, _, _, _, _, _]) (pc := 142) G dX4_parts_142 1 rfl rfl rfl rfl ?_
                  refine J.goto (pc := 145) (tgt := 41) G dX4_parts_145 (by decide) ?_
                  exact ih3 (a + 1) (by omega) (by omega) _
                · generalize paI left jn a p0 b = p at hs4 hlt4 ⊢
                  have hja := hj8 a h5
                  have hjb := hj8 b h6
                  unfold paS at hs4
                  have nx : ∀ y : Nat, paI left jn a p0 (b + 1) = y → J g (0 + 1) (0 + popc set) (n + 1) M [some (.int (iI (set : Int))), some (.ref jr), some (.ref n), some (.int (iI (ps.length : Int))), some (.int (iI (left : Int))), some (.int (iI (y : Int))), some (.int (iI (part : Int))), some (.int (iI (a : Int))), some (.int (iI (b : Int)))] 136 [] := by
                    intro y hy
                    refine J.iincN (L' := [_, _, _, _, _, _, _, _, _]) (pc := 136) G dX4_parts_136 1 rfl rfl rfl rfl ?_
                    refine J.goto (pc := 139) (tgt := 51) G dX4_parts_139 (by decide) ?_
                    rw [← hy]
                    exact ih4 (b + 1) (by omega) (by omega)
                  refine J.iload (pc := 58) G dX4_parts_58 rfl ?_
                  refine J.iload (pc := 60) G dX4_parts_60 rfl ?_
                  refine J.callS (pc := 62) (na := 2) G (m_has (n + 1) M (m := left) (l := a) (by omega) (by omega)) q805 q806 q807 q5 (by decide +kernel) dX4_parts_62 rfl (Nat.le_of_ble_eq_true rfl) rfl ⟨by omega, by decide, by omega, by omega⟩ ?_
                  rintro r9 n9 M9 ⟨hr9, hn9, hM9⟩
                  subst hr9
                  rw [hn9, hM9]
                  clear hn9 hM9 n9 M9
                  dsimp only [Option.toList, List.cons_append, List.nil_append]
                  refine J.if_eq_b (pc := 65) (tgt := 136) G dX4_parts_65 (by decide) (fun hb1 => ?_) (fun hb1 => ?_)
                  · exact nx p (by rw [hs4, hb1]; rfl)
                  · rw [hb1, Bool.true_and] at hs4
                    refine J.iload (pc := 68) G dX4_parts_68 rfl ?_
                    refine J.iload (pc := 70) G dX4_parts_70 rfl ?_
                    refine J.callS (pc := 72) (na := 2) G (m_has (n + 1) M (m := left) (l := b) (by omega) (by omega)) q805 q806 q807 q5 (by decide +kernel) dX4_parts_72 rfl (Nat.le_of_ble_eq_true rfl) rfl ⟨by omega, by decide, by omega, by omega⟩ ?_
                    rintro r9 n9 M9 ⟨hr9, hn9, hM9⟩
                    subst hr9
                    rw [hn9, hM9]
                    clear hn9 hM9 n9 M9
                    dsimp only [Option.toList, List.cons_append, List.nil_append]
                    refine J.if_eq_b (pc := 75) (tgt := 136) G dX4_parts_75 (by decide) (fun hb2 => ?_) (fun hb2 => ?_)
                    · exact nx p (by rw [hs4, hb2]; rfl)
                    · rw [hb2, Bool.true_and] at hs4
                      have K122 : paI left jn a p0 (b + 1) = p ||| (2 ^ a ||| 2 ^ b) → J g (0 + 1) (0 + popc set) (n + 1) M [some (.int (iI (set : Int))), some (.ref jr), some (.ref n), some (.int (iI (ps.length : Int))), some (.int (iI (left : Int))), some (.int (iI (p : Int))), some (.int (iI (part : Int))), some (.int (iI (a : Int))), some (.int (iI (b : Int)))] 122 [] := by
                        intro hy
                        refine J.iload (pc := 122) G dX4_parts_122 rfl ?_
                        refine J.iconstN (pc := 124) G dX4_parts_124 1 rfl ?_
                        refine J.iload (pc := 125) G dX4_parts_125 rfl ?_
                        refine J.ishl1 (pc := 127) G dX4_parts_127 (by omega) ?_
                        refine J.iconstN (pc := 128) G dX4_parts_128 1 rfl ?_
                        refine J.iload (pc := 129) G dX4_parts_129 rfl ?_
                        refine J.ishl1 (pc := 131) G dX4_parts_131 (by omega) ?_
                        refine J.iorN (pc := 132) G dX4_parts_132 ?_
                        refine J.iorN (pc := 133) G dX4_parts_133 ?_
                        refine J.istore (L' := [_, _, _, _, _, _, _, _, _]) (pc := 134) G dX4_parts_134 rfl (Nat.le_of_ble_eq_true rfl) rfl ?_
                        exact nx _ hy
                      have K102 : ((jn a).testBit b || (jn b).testBit a) = true → J g (0 + 1) (0 + popc set) (n + 1) M [some (.int (iI (set : Int))), some (.ref jr), some (.ref n), some (.int (iI (ps.length : Int))), some (.int (iI (left : Int))), some (.int (iI (p : Int))), some (.int (iI (part : Int))), some (.int (iI (a : Int))), some (.int (iI (b : Int)))] 102 [] := by
                        intro hy
                        rw [hy, Bool.true_and] at hs4
                        refine J.iload (pc := 102) G dX4_parts_102 rfl ?_
                        refine J.iload (pc := 104) G dX4_parts_104 rfl ?_
                        refine J.callS (pc := 106) (na := 2) G (m_has (n + 1) M (m := p) (l := a) (by omega) (by omega)) q805 q806 q807 q5 (by decide +kernel) dX4_parts_106 rfl (Nat.le_of_ble_eq_true rfl) rfl ⟨by omega, by decide, by omega, by omega⟩ ?_
                        rintro r9 n9 M9 ⟨hr9, hn9, hM9⟩
                        subst hr9
                        rw [hn9, hM9]
                        clear hn9 hM9 n9 M9
                        dsimp only [Option.toList, List.cons_append, List.nil_append]
                        refine J.if_ne_b (pc := 109) (tgt := 122) G dX4_parts_109 (by decide) (fun hb5 => K122 (by rw [hs4, hb5]; rfl)) (fun hb5 => ?_)
                        rw [hb5, Bool.false_or] at hs4
                        refine J.iload (pc := 112) G dX4_parts_112 rfl ?_
                        refine J.iload (pc := 114) G dX4_parts_114 rfl ?_
                        refine J.callS (pc := 116) (na := 2) G (m_has (n + 1) M (m := p) (l := b) (by omega) (by omega)) q805 q806 q807 q5 (by decide +kernel) dX4_parts_116 rfl (Nat.le_of_ble_eq_true rfl) rfl ⟨by omega, by decide, by omega, by omega⟩ ?_
                        rintro r9 n9 M9 ⟨hr9, hn9, hM9⟩
                        subst hr9
                        rw [hn9, hM9]
                        clear hn9 hM9 n9 M9
                        dsimp only [Option.toList, List.cons_append, List.nil_append]
                        refine J.if_eq_b (pc := 119) (tgt := 136) G dX4_parts_119 (by decide) (fun hb6 => ?_) (fun hb6 => ?_)
                        · exact nx p (by rw [hs4, hb6]; rfl)
                        · exact K122 (by rw [hs4, hb6]; rfl)
                      refine J.aload_n (pc := 78) G dX4_parts_78 rfl ?_
                      refine J.iload (pc := 79) G dX4_parts_79 rfl ?_
                      refine J.ialdN (pc := 81) G dX4_parts_81 hj h5 (by decide) ?_
                      refine J.iload (pc := 82) G dX4_parts_82 rfl ?_
                      refine J.callS (pc := 84) (na := 2) G (m_has (n + 1) M (m := jn a) (l := b) (by omega) (by omega)) q805 q806 q807 q5 (by decide +kernel) dX4_parts_84 rfl (Nat.le_of_ble_eq_true rfl) rfl ⟨by omega, by decide, by omega, by omega⟩ ?_
                      rintro r9 n9 M9 ⟨hr9, hn9, hM9⟩
                      subst hr9
                      rw [hn9, hM9]
                      clear hn9 hM9 n9 M9
                      dsimp only [Option.toList, List.cons_append, List.nil_append]
                      refine J.if_ne_b (pc := 87) (tgt := 102) G dX4_parts_87 (by decide) (fun hb3 => K102 (by rw [hb3]; rfl)) (fun hb3 => ?_)
                      rw [hb3, Bool.false_or] at hs4 K102
                      refine J.aload_n (pc := 90) G dX4_parts_90 rfl ?_
                      refine J.iload (pc := 91) G dX4_parts_91 rfl ?_
                      refine J.ialdN (pc := 93) G dX4_parts_93 hj h6 (by decide) ?_
                      refine J.iload (pc := 94) G dX4_parts_94 rfl ?_
                      refine J.callS (pc := 96) (na := 2) G (m_has (n + 1) M (m := jn b) (l := a) (by omega) (by omega)) q805 q806 q807 q5 (by decide +kernel) dX4_parts_96 rfl (Nat.le_of_ble_eq_true rfl) rfl ⟨by omega, by decide, by omega, by omega⟩ ?_
                      rintro r9 n9 M9 ⟨hr9, hn9, hM9⟩
                      subst hr9
                      rw [hn9, hM9]
                      clear hn9 hM9 n9 M9
                      dsimp only [Option.toList, List.cons_append, List.nil_append]
                      refine J.if_eq_b (pc := 99) (tgt := 136) G dX4_parts_99 (by decide) (fun hb4 => ?_) (fun hb4 => ?_)
                      · exact nx p (by rw [hs4, hb4]; rfl)
                      · exact K102 hb4
              exact K4 0 (Nat.zero_le _)
          exact K3 0 (Nat.zero_le _) _
      exact K2 (2 ^ loF left, 0, 0) ⟨rfl, Or.inl ⟨rfl, rfl⟩⟩ _ _
  exact K1 (8, set, [], M) ⟨hset, hps, by dsimp only; show 0 + _ ≤ _; omega, rfl, ⟨_, hput, fun j hj => absurd hj (Nat.not_lt_zero _)⟩, fun x hx => hag x (by omega)⟩ _ _ _ _
end PARTS1
