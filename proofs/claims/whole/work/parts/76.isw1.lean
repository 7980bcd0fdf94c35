section ISW1
/-- a method that only answers a truth value -/
abbrev IP (n : Nat) (M : AH) (b : Bool) : Option Value → Nat → AH → Prop := fun r n' M' => r = some (.int (bI b)) ∧ n' = n ∧ M' = M
theorem J.icmp_eq_b {g : GT} {ow : String} {cc : ByteArray} {nL d mc ms k z n pc : Nat} {M : AH} {L : List (Option Value)} {st : List Value} (G : Cx g ow cc nL d mc ms) {x y : Bool} {off : Int} {tgt : Nat} (hd : decode cc pc = .ok (.if_icmp .eq off, 3)) (ht : (pc : Int) + off = (tgt : Int)) (kt : x = y → J g k z n M L tgt st) (kf : x ≠ y → J g k z n M L (pc + 3) st) : J g k z n M L pc (.int (bI y) :: .int (bI x) :: st) := by
  have e : ∀ b : Bool, bI b = iI ((if b then 1 else 0 : Nat) : Int) := by intro b; cases b <;> decide +kernel
  rw [e x, e y]
  refine J.icmp_eqN G hd ht (by split <;> omega) (by split <;> omega) (fun h => kt ?_) (fun h => kf ?_)
  · cases x <;> cases y <;> simp_all
  · intro q; rw [q] at h; exact h rfl
theorem anyU_mono {f : Nat → Bool} {k n : Nat} (h : anyU f k = true) (hk : k ≤ n) : anyU f n = true := by
  obtain ⟨i, h1, h2⟩ := anyU_iff.mp h
  exact anyU_hit (by omega) h2
theorem anyU_s {f : Nat → Bool} {k : Nat} (h : anyU f k = false) : anyU f (k + 1) = f k := by
  show (anyU f k || f k) = f k
  rw [h, Bool.false_or]
theorem pow12 {a : Nat} (ha : a < 12) : 2 ^ a < 4096 := Nat.pow_lt_pow_right (a := 2) (by omega) (show a < 12 from ha)
theorem or_lt12 {a b : Nat} (ha : a < 4096) (hb : b < 4096) : a ||| b < 4096 := Nat.or_lt_two_pow (n := 12) ha hb
theorem utF_lt {p k : Nat} (h : p < 4096) : utF p k < 4096 := Nat.lt_of_le_of_lt Nat.and_le_left h
theorem andn_lt12 {p q : Nat} (h : p < 4096) : andn p q < 4096 := Nat.xor_lt_two_pow (n := 12) h (Nat.lt_of_le_of_lt Nat.and_le_left h)
theorem plF_lt {w : Nat → Nat} {p l k : Nat} (hk : k ≤ 12) : plF w p l k < 4096 :=
  it_inv (fun _ s => s < 4096) k (by decide) (fun i s hi hs => by
    split
    · split
      · exact or_lt12 hs (pow12 (by omega))
      · exact hs
    · exact hs)
def pcI (m k : Nat) : Nat := it (fun i c => if m.testBit i then c + 1 else c) 0 k
theorem pcI_s {m k : Nat} : pcI m (k + 1) = if m.testBit k then pcI m k + 1 else pcI m k := rfl
theorem pcI_add {a b c : Nat} : ∀ k, (∀ i, i < k → (a.testBit i = (b.testBit i || c.testBit i)) ∧ (b.testBit i && c.testBit i) = false) → pcI a k = pcI b k + pcI c k
  | 0, _ => rfl
  | k + 1, h => by
    have ih := pcI_add (a := a) (b := b) (c := c) k (fun i hi => h i (by omega))
    obtain ⟨h1, h2⟩ := h k (by omega)
    rw [pcI_s, pcI_s, pcI_s, ih, h1]
    cases hb : b.testBit k <;> cases hc : c.testBit k <;> simp_all <;> omega
theorem pcI_pos {a : Nat} : ∀ k i, i < k → a.testBit i = true → 1 ≤ pcI a k
  | 0, _, h, _ => absurd h (Nat.not_lt_zero _)
  | k + 1, i, h, hb => by
    rw [pcI_s]
    by_cases e : i = k
    · subst e; rw [if_pos hb]; omega
    · have := pcI_pos (a := a) k i (by omega) hb
      split <;> omega
theorem pcI_le {a : Nat} : ∀ k, pcI a k ≤ k
  | 0 => Nat.le_refl _
  | k + 1 => by
    have := pcI_le (a := a) k
    rw [pcI_s]
    split <;> omega
theorem popc_eq (m : Nat) : popc m = pcI m 12 := rfl
theorem popc_le (m : Nat) : popc m ≤ 12 := pcI_le 12
theorem popc_pos {m : Nat} (h : m < 4096) (h0 : m ≠ 0) : 1 ≤ popc m := by
  rcases Nat.exists_testBit_of_ne_zero h0 with ⟨i, hi⟩
  rw [popc_eq]
  refine pcI_pos 12 i ?_ hi
  rcases Nat.lt_or_ge i 12 with q | q
  · exact q
  · rw [bit_lt (k := 12) h q] at hi; cases hi
theorem utF_bit (p k i : Nat) : (utF p k).testBit i = (p.testBit i && decide (i < k)) := by
  unfold utF
  rw [Nat.testBit_and, Nat.testBit_two_pow_sub_one]
theorem popc_split {p k : Nat} : popc p = popc (utF p k) + popc (andn p (utF p k)) := by
  rw [popc_eq, popc_eq, popc_eq]
  refine pcI_add 12 (fun i _ => ?_)
  rw [andn_bit, utF_bit]
  cases p.testBit i <;> cases decide (i < k) <;> simp
/-- the model's way to see whether the places of a set are a word, as equations -/
def IwEq (nd : List Nd) (w : Nat → Nat) (iw aw : Nat → Nat → Bool) (od : Nat → Nat → Nat → Bool) (ag : Nat → Nat → Bool) (go : Nat → Nat → Nat → Bool) : Prop :=
  (∀ (i p : Nat), i < nd.length → p < 4096 → iw i p = (decide (plF w p (ndS nd i) 12 = p) && (if ndK nd i = 0 then decide (p = 0) else if ndK nd i = 1 then decide (popc p = 1) else if ndK nd i = 6 then true else if ndK nd i = 3 then od i 0 p else if ndK nd i = 5 then ag i p else aw i p))) ∧
  (∀ (i p : Nat), i < nd.length → p < 4096 → aw i p = if ndK nd i = 2 then anyU (fun k => iw (gd (chl nd i) k) p) (chl nd i).length else !anyU (fun k => !iw (gd (chl nd i) k) (plF w p (ndS nd (gd (chl nd i) k)) 12)) (chl nd i).length) ∧
  (∀ (i k p : Nat), i < nd.length → k < (chl nd i).length → p < 4096 → od i k p = if k + 1 = (chl nd i).length then iw (gd (chl nd i) k) p else anyU (fun q => cuB p q && (iw (gd (chl nd i) k) (utF p q) && od i (k + 1) (andn p (utF p q)))) 13) ∧
  (∀ (i p : Nat), i < nd.length → p < 4096 → ag i p = (iw (gd (chl nd i) 0) p || anyU (fun q => cuB p q && (iw (gd (chl nd i) 0) (utF p q) && go i (utF p q) (andn p (utF p q)))) 13)) ∧
  (∀ (i t r : Nat), i < nd.length → t < 4096 → r < 4096 → go i t r = anyU (fun k => anyU (fun q => cuB r q && (decide (0 < (t ||| utF r q)) && (iw (gd (chl nd i) (1 + k)) (utF r q) && ag i (andn r (utF r q))))) 13) ((chl nd i).length - 1))
abbrev IwW (n : Nat) (M : AH) (a : Nat) (nd : List Nd) (iw : Nat → Nat → Bool) (m : Nat) : Prop := ∀ (i p : Nat), i < nd.length → p < 4096 → 28 * (nd.length - i) + 4 = m → Fn yX4_isWord cX4_isWord 3 (some .boolean) m [.ref a, .int (iI (i : Int)), .int (iI (p : Int))] n M 0 0 (IP n M (iw i p))
abbrev IwA (n : Nat) (M : AH) (a : Nat) (nd : List Nd) (aw : Nat → Nat → Bool) (m : Nat) : Prop := ∀ (i p : Nat), i < nd.length → p < 4096 → 28 * (nd.length - i) + 3 = m → Fn yX4_areWords cX4_areWords 8 (some .boolean) m [.ref a, .int (iI (i : Int)), .int (iI (p : Int))] n M 0 0 (IP n M (aw i p))
abbrev IwO (n : Nat) (M : AH) (a : Nat) (nd : List Nd) (od : Nat → Nat → Nat → Bool) (m : Nat) : Prop := ∀ (i k p : Nat), i < nd.length → k < (chl nd i).length → p < 4096 → 28 * (nd.length - i) - 15 - k = m → Fn yX4_isOrder cX4_isOrder 7 (some .boolean) m [.ref a, .int (iI (i : Int)), .int (iI (k : Int)), .int (iI (p : Int))] n M 0 0 (IP n M (od i k p))
abbrev IwG (n : Nat) (M : AH) (a : Nat) (nd : List Nd) (ag : Nat → Nat → Bool) (m : Nat) : Prop := ∀ (i p : Nat), i < nd.length → 1 ≤ (chl nd i).length → p < 4096 → 28 * (nd.length - i) - 22 + 2 * popc p = m → Fn yX4_isAgain cX4_isAgain 7 (some .boolean) m [.ref a, .int (iI (i : Int)), .int (iI (p : Int))] n M 0 0 (IP n M (ag i p))
abbrev IwN (n : Nat) (M : AH) (a : Nat) (nd : List Nd) (go : Nat → Nat → Nat → Bool) (m : Nat) : Prop := ∀ (i t r : Nat), i < nd.length → 1 ≤ (chl nd i).length → t < 4096 → r < 4096 → 28 * (nd.length - i) - 23 + 2 * (popc t + popc r) = m → Fn yX4_goesOn cX4_goesOn 10 (some .boolean) m [.ref a, .int (iI (i : Int)), .int (iI (t : Int)), .int (iI (r : Int))] n M 0 0 (IP n M (go i t r))
/-- what the walk of one of the five rests on -/
abbrev IwH (M : AH) (a : Nat) (R : Nat → Nat → Nat) (P : Nat → Int) (Z : Nat → Nat) (nd : List Nd) : Prop := Cl M a (modC a R P Z) ∧ MdT R P Z nd ∧ ShOk nd ∧ (∀ i, i < nd.length → (chl nd i).length ≤ 8) ∧ (∀ i, i < nd.length → ndS nd i < 256) ∧ ∀ i, i < 12 → R 8 i < 8
set_option maxRecDepth 100000 in
set_option maxHeartbeats 4000000 in
theorem m_isWord (n : Nat) (M : AH) {a : Nat} {R : Nat → Nat → Nat} {P : Nat → Int} {Z : Nat → Nat} {nd : List Nd} {iw aw : Nat → Nat → Bool} {od : Nat → Nat → Nat → Bool} {ag : Nat → Nat → Bool} {go : Nat → Nat → Nat → Bool} (hH : IwH M a R P Z nd) (hE : IwEq nd (R 8) iw aw od ag go) (m : Nat) (h1 : ∀ m', m' < m → IwA n M a nd aw m') (h2 : ∀ m', m' < m → IwO n M a nd od m') (h3 : ∀ m', m' < m → IwG n M a nd ag m') : IwW n M a nd iw m := by
  intro i p hi hp hm
  refine Fn.of (by decide) [some _, some _, some _] rfl rfl (Nat.le_of_ble_eq_true rfl) ?_
  intro g G hin hO
  obtain ⟨hM, hT, hsh, hc8, hS, hw⟩ := hH
  obtain ⟨g8, g64, gi, gp⟩ := id hT
  obtain ⟨hk6, hlf, hin9⟩ := hsh i hi
  have hSi := hS i hi
  have hK := (gi i hi).1
  have hSt := (gi i hi).2.2
  have hE1 := hE.1 i p hi hp
  have hpl := plF_lt (w := R 8) (p := p) (l := ndS nd i) (k := 12) (Nat.le_refl _)
  have hc8i := hc8 i hi
  have hpc := popc_le p
  refine J.aload_n (pc := 0) G dX4_isWord_0 rfl ?_
  refine J.iload_n (pc := 1) G dX4_isWord_1 rfl ?_
  refine J.aload_n (pc := 2) G dX4_isWord_2 rfl ?_
  refine J.getf (pc := 3) (ci := 4) G inX4 rfl 11 q706 dX4_isWord_3 (hM.at 0 rfl) (by decide) rfl ?_
  refine J.iload_n (pc := 6) G dX4_isWord_6 rfl ?_
  refine J.ialdN (pc := 7) G dX4_isWord_7 (hM.at 7 rfl) (by omega) (by decide) ?_
  rw [hSt]
  refine J.callV (pc := 8) (na := 2) G (m_placesOf n M (p := p) (l := ndS nd i) hM (by omega) (by omega) hw) q941 q943 qp54 q944 q5 (by decide +kernel) dX4_isWord_8 (hM.at 0 rfl) rfl rfl (Nat.le_of_ble_eq_true rfl) rfl ⟨by omega, by decide, by omega, by omega⟩ ?_
  rintro r9 n9 M9 ⟨hr9, hn9, hM9⟩
  subst hr9
  rw [hn9, hM9]
  clear hn9 hM9 n9 M9
  dsimp only [Option.toList, List.cons_append, List.nil_append]
  refine J.iload_n (pc := 11) G dX4_isWord_11 rfl ?_
  refine J.icmp_eqN (pc := 12) (tgt := 17) G dX4_isWord_12 (by decide) (by omega) (by omega) (fun hq => ?_) (fun hq => ?_)
  · rw [decide_eq_true hq, Bool.true_and] at hE1
    refine J.aload_n (pc := 17) G dX4_isWord_17 rfl ?_
    refine J.getf (pc := 18) (ci := 4) G inX4 rfl 9 q704 dX4_isWord_18 (hM.at 0 rfl) (by decide) rfl ?_
    refine J.iload_n (pc := 21) G dX4_isWord_21 rfl ?_
    refine J.ialdN (pc := 22) G dX4_isWord_22 (hM.at 5 rfl) (by omega) (by decide) ?_
    rw [hK]
    rcases (show ndK nd i = 0 ∨ ndK nd i = 1 ∨ ndK nd i = 6 ∨ ndK nd i = 3 ∨ ndK nd i = 5 ∨ ndK nd i = 2 ∨ ndK nd i = 4 by omega) with e | e | e | e | e | e | e
    · rw [e]
      rw [if_pos e] at hE1
      refine J.tableIn (pc := 23) (tgt := 64) G dX4_isWord_23 (by decide) (by decide) (by decide) (by decide) rfl (by decide) ?_
      refine J.iload_n (pc := 64) G dX4_isWord_64 rfl ?_
      refine J.if_neN (pc := 65) (tgt := 72) G dX4_isWord_65 (by decide) (by omega) (fun h5 => ?_) (fun h5 => ?_)
      · refine J.iconstN (pc := 72) G dX4_isWord_72 0 rfl ?_
        exact J.zret0 (pc := 73) G hO dX4_isWord_73 (by decide) (by decide) ⟨by rw [hE1, decide_eq_false (by omega)], rfl, rfl⟩
      · refine J.iconstN (pc := 68) G dX4_isWord_68 1 rfl ?_
        refine J.goto (pc := 69) (tgt := 73) G dX4_isWord_69 (by decide) ?_
        exact J.zret1 (pc := 73) G hO dX4_isWord_73 (by decide) (by decide) ⟨by rw [hE1, decide_eq_true h5], rfl, rfl⟩
    · rw [e]
      rw [if_neg (by omega), if_pos e] at hE1
      refine J.tableIn (pc := 23) (tgt := 74) G dX4_isWord_23 (by decide) (by decide) (by decide) (by decide) rfl (by decide) ?_
      refine J.iload_n (pc := 74) G dX4_isWord_74 rfl ?_
      refine J.callS (pc := 75) (na := 1) G (c_bitCount n M (m := p) hp) q835 q230 q231 q12 (by decide +kernel) dX4_isWord_75 rfl (Nat.le_of_ble_eq_true rfl) rfl ⟨by omega, by decide, by omega, by omega⟩ ?_
      rintro r9 n9 M9 ⟨hr9, hn9, hM9⟩
      subst hr9
      rw [hn9, hM9]
      clear hn9 hM9 n9 M9
      dsimp only [Option.toList, List.cons_append, List.nil_append]
      refine J.iconstN (pc := 78) G dX4_isWord_78 1 rfl ?_
      refine J.icmp_neN (pc := 79) (tgt := 86) G dX4_isWord_79 (by decide) (by omega) (by omega) (fun h5 => ?_) (fun h5 => ?_)
      · refine J.iconstN (pc := 86) G dX4_isWord_86 0 rfl ?_
        exact J.zret0 (pc := 87) G hO dX4_isWord_87 (by decide) (by decide) ⟨by rw [hE1, decide_eq_false (by omega)], rfl, rfl⟩
      · refine J.iconstN (pc := 82) G dX4_isWord_82 1 rfl ?_
        refine J.goto (pc := 83) (tgt := 87) G dX4_isWord_83 (by decide) ?_
        exact J.zret1 (pc := 87) G hO dX4_isWord_87 (by decide) (by decide) ⟨by rw [hE1, decide_eq_true h5], rfl, rfl⟩
    · rw [e]
      rw [if_neg (by omega), if_neg (by omega), if_pos e] at hE1
      refine J.tableIn (pc := 23) (tgt := 88) G dX4_isWord_23 (by decide) (by decide) (by decide) (by decide) rfl (by decide) ?_
      refine J.iconstN (pc := 88) G dX4_isWord_88 1 rfl ?_
      exact J.zret1 (pc := 89) G hO dX4_isWord_89 (by decide) (by decide) ⟨by rw [hE1], rfl, rfl⟩
    · have hc1 := hin9 (by omega)
      rw [e]
      rw [if_neg (by omega), if_neg (by omega), if_neg (by omega), if_pos e] at hE1
      refine J.tableIn (pc := 23) (tgt := 90) G dX4_isWord_23 (by decide) (by decide) (by decide) (by decide) rfl (by decide) ?_
      refine J.aload_n (pc := 90) G dX4_isWord_90 rfl ?_
      refine J.iload_n (pc := 91) G dX4_isWord_91 rfl ?_
      refine J.iconstN (pc := 92) G dX4_isWord_92 0 rfl ?_
      refine J.iload_n (pc := 93) G dX4_isWord_93 rfl ?_
      refine J.callV (pc := 94) (na := 3) G (h2 (28 * (nd.length - i) - 15 - 0) (by omega) i 0 p hi (by omega) hp rfl) q945 q947 qp55 q948 q5 (by decide +kernel) dX4_isWord_94 (hM.at 0 rfl) rfl rfl (Nat.le_of_ble_eq_true rfl) rfl ⟨by omega, by decide, by omega, by omega⟩ ?_
      rintro r9 n9 M9 ⟨hr9, hn9, hM9⟩
      subst hr9
      rw [hn9, hM9]
      clear hn9 hM9 n9 M9
      dsimp only [Option.toList, List.cons_append, List.nil_append]
      exact J.zret (pc := 97) G hO dX4_isWord_97 (by decide) (by decide) ⟨by rw [hE1], rfl, rfl⟩
    · have hc1 := hin9 (by omega)
      rw [e]
      rw [if_neg (by omega), if_neg (by omega), if_neg (by omega), if_neg (by omega), if_pos e] at hE1
      refine J.tableIn (pc := 23) (tgt := 98) G dX4_isWord_23 (by decide) (by decide) (by decide) (by decide) rfl (by decide) ?_
      refine J.aload_n (pc := 98) G dX4_isWord_98 rfl ?_
      refine J.iload_n (pc := 99) G dX4_isWord_99 rfl ?_
      refine J.iload_n (pc := 100) G dX4_isWord_100 rfl ?_
      refine J.callV (pc := 101) (na := 2) G (h3 (28 * (nd.length - i) - 22 + 2 * popc p) (by omega) i p hi hc1 hp rfl) q955 q957 qp56 q958 q5 (by decide +kernel) dX4_isWord_101 (hM.at 0 rfl) rfl rfl (Nat.le_of_ble_eq_true rfl) rfl ⟨by omega, by decide, by omega, by omega⟩ ?_
      rintro r9 n9 M9 ⟨hr9, hn9, hM9⟩
      subst hr9
      rw [hn9, hM9]
      clear hn9 hM9 n9 M9
      dsimp only [Option.toList, List.cons_append, List.nil_append]
      exact J.zret (pc := 104) G hO dX4_isWord_104 (by decide) (by decide) ⟨by rw [hE1], rfl, rfl⟩
    · rw [e]
      rw [if_neg (by omega), if_neg (by omega), if_neg (by omega), if_neg (by omega), if_neg (by omega)] at hE1
      refine J.tableIn (pc := 23) (tgt := 105) G dX4_isWord_23 (by decide) (by decide) (by decide) (by decide) rfl (by decide) ?_
      refine J.aload_n (pc := 105) G dX4_isWord_105 rfl ?_
      refine J.iload_n (pc := 106) G dX4_isWord_106 rfl ?_
      refine J.iload_n (pc := 107) G dX4_isWord_107 rfl ?_
      refine J.callV (pc := 108) (na := 2) G (h1 (28 * (nd.length - i) + 3) (by omega) i p hi hp rfl) q963 q965 qp58 q966 q5 (by decide +kernel) dX4_isWord_108 (hM.at 0 rfl) rfl rfl (Nat.le_of_ble_eq_true rfl) rfl ⟨by omega, by decide, by omega, by omega⟩ ?_
      rintro r9 n9 M9 ⟨hr9, hn9, hM9⟩
      subst hr9
      rw [hn9, hM9]
      clear hn9 hM9 n9 M9
      dsimp only [Option.toList, List.cons_append, List.nil_append]
      exact J.zret (pc := 111) G hO dX4_isWord_111 (by decide) (by decide) ⟨by rw [hE1], rfl, rfl⟩
    · rw [e]
      rw [if_neg (by omega), if_neg (by omega), if_neg (by omega), if_neg (by omega), if_neg (by omega)] at hE1
      refine J.tableIn (pc := 23) (tgt := 105) G dX4_isWord_23 (by decide) (by decide) (by decide) (by decide) rfl (by decide) ?_
      refine J.aload_n (pc := 105) G dX4_isWord_105 rfl ?_
      refine J.iload_n (pc := 106) G dX4_isWord_106 rfl ?_
      refine J.iload_n (pc := 107) G dX4_isWord_107 rfl ?_
      refine J.callV (pc := 108) (na := 2) G (h1 (28 * (nd.length - i) + 3) (by omega) i p hi hp rfl) q963 q965 qp58 q966 q5 (by decide +kernel) dX4_isWord_108 (hM.at 0 rfl) rfl rfl (Nat.le_of_ble_eq_true rfl) rfl ⟨by omega, by decide, by omega, by omega⟩ ?_
      rintro r9 n9 M9 ⟨hr9, hn9, hM9⟩
      subst hr9
      rw [hn9, hM9]
      clear hn9 hM9 n9 M9
      dsimp only [Option.toList, List.cons_append, List.nil_append]
      exact J.zret (pc := 111) G hO dX4_isWord_111 (by decide) (by decide) ⟨by rw [hE1], rfl, rfl⟩
  · refine J.iconstN (pc := 15) G dX4_isWord_15 0 rfl ?_
    exact J.zret0 (pc := 16) G hO dX4_isWord_16 (by decide) (by decide) ⟨by rw [hE1, decide_eq_false hq]; rfl, rfl, rfl⟩
set_option maxRecDepth 100000 in
set_option maxHeartbeats 4000000 in
theorem m_areWords (n : Nat) (M : AH) {a : Nat} {R : Nat → Nat → Nat} {P : Nat → Int} {Z : Nat → Nat} {nd : List Nd} {iw aw : Nat → Nat → Bool} {od : Nat → Nat → Nat → Bool} {ag : Nat → Nat → Bool} {go : Nat → Nat → Nat → Bool} (hH : IwH M a R P Z nd) (hE : IwEq nd (R 8) iw aw od ag go) (m : Nat) (h1 : ∀ m', m' < m → IwW n M a nd iw m') : IwA n M a nd aw m := by
  intro i p hi hp hm
  refine Fn.of (by decide) [some _, some _, some _, none, none, none, none, none] rfl rfl (Nat.le_of_ble_eq_true rfl) ?_
  intro g G hin hO
  obtain ⟨hM, hT, hsh, hc8, hS, hw⟩ := hH
  obtain ⟨g8, g64, gi, gp⟩ := id hT
  obtain ⟨hk6, hlf, hin9⟩ := hsh i hi
  have hK := (gi i hi).1
  have hE1 := hE.2.1 i p hi hp
  have hc8i := hc8 i hi
  have K97 : ∀ b : Bool, b = aw i p → ∀ l3 l4 l6 l7, J g 0 0 n M [some (.ref a), some (.int (iI (i : Int))), some (.int (iI (p : Int))), l3, l4, some (.int (bI b)), l6, l7] 95 [] := by
    intro b hb l3 l4 l6 l7
    refine J.iload (pc := 95) G dX4_areWords_95 rfl ?_
    exact J.zret (pc := 97) G hO dX4_areWords_97 (by decide) (by decide) ⟨by rw [hb], rfl, rfl⟩
  refine J.aload_n (pc := 0) G dX4_areWords_0 rfl ?_
  refine J.iload_n (pc := 1) G dX4_areWords_1 rfl ?_
  refine J.callV (pc := 2) (na := 1) G (m_childCount n M (i := i) (nd := nd) hM hT hi) q905 q907 qp49 q908 q5 (by decide +kernel) dX4_areWords_2 (hM.at 0 rfl) rfl rfl (Nat.le_of_ble_eq_true rfl) rfl ⟨by omega, by decide, by omega, by omega⟩ ?_
  rintro r9 n9 M9 ⟨hr9, hn9, hM9⟩
  subst hr9
  rw [hn9, hM9]
  clear hn9 hM9 n9 M9
  dsimp only [Option.toList, List.cons_append, List.nil_append]
  refine J.istore_n (L' := [_, _, _, _, _, _, _, _]) (pc := 5) G dX4_areWords_5 rfl (Nat.le_of_ble_eq_true rfl) rfl ?_
  refine J.aload_n (pc := 6) G dX4_areWords_6 rfl ?_
  refine J.getf (pc := 7) (ci := 4) G inX4 rfl 9 q704 dX4_areWords_7 (hM.at 0 rfl) (by decide) rfl ?_
  refine J.iload_n (pc := 10) G dX4_areWords_10 rfl ?_
  refine J.ialdN (pc := 11) G dX4_areWords_11 (hM.at 5 rfl) (by omega) (by decide) ?_
  rw [hK]
  refine J.iconstN (pc := 12) G dX4_areWords_12 2 rfl ?_
  have K44 : ∀ k : Nat, k < (chl nd i).length → ∀ (c x : Bool), (∀ y : Bool, y = iw (gd (chl nd i) k) (if c then p else plF (R 8) p (ndS nd (gd (chl nd i) k)) 12) → J g 0 0 n M [some (.ref a), some (.int (iI (i : Int))), some (.int (iI (p : Int))), some (.int (iI ((chl nd i).length : Int))), some (.int (bI c)), some (.int (bI y)), some (.int (iI (k : Int))), some (.int (iI ((gd (chl nd i) k : Nat) : Int)))] 89 []) → ∀ l7, J g 0 0 n M [some (.ref a), some (.int (iI (i : Int))), some (.int (iI (p : Int))), some (.int (iI ((chl nd i).length : Int))), some (.int (bI c)), some (.int (bI x)), some (.int (iI (k : Int))), l7] 51 [] := by
    intro k hk c x nx l7
    have hck := chl_in (nd := nd) (i := i) (c := k) hk
    have hpk := (gp _ hck.1).2
    have hSc := (gi _ hck.1).2.2
    have hS8 := hS _ hck.1
    have hpl := plF_lt (w := R 8) (p := p) (l := ndS nd (gd (chl nd i) k)) (k := 12) (Nat.le_refl _)
    refine J.aload_n (pc := 51) G dX4_areWords_51 rfl ?_
    refine J.iload_n (pc := 52) G dX4_areWords_52 rfl ?_
    refine J.iload (pc := 53) G dX4_areWords_53 rfl ?_
    refine J.callV (pc := 55) (na := 2) G (m_childOf n M (i := i) (c := k) (nd := nd) hM hT hi hk) q913 q915 qp50 q916 q5 (by decide +kernel) dX4_areWords_55 (hM.at 0 rfl) rfl rfl (Nat.le_of_ble_eq_true rfl) rfl ⟨by omega, by decide, by omega, by omega⟩ ?_
    rintro r9 n9 M9 ⟨hr9, hn9, hM9⟩
    subst hr9
    rw [hn9, hM9]
    clear hn9 hM9 n9 M9
    dsimp only [Option.toList, List.cons_append, List.nil_append]
    refine J.istore (L' := [_, _, _, _, _, _, _, _]) (pc := 58) G dX4_areWords_58 rfl (Nat.le_of_ble_eq_true rfl) rfl ?_
    refine J.aload_n (pc := 60) G dX4_areWords_60 rfl ?_
    refine J.iload (pc := 61) G dX4_areWords_61 rfl ?_
    refine J.iload (pc := 63) G dX4_areWords_63 rfl ?_
    refine J.if_eq_b (pc := 65) (tgt := 72) G dX4_areWords_65 (by decide) (fun hc => ?_) (fun hc => ?_)
    · subst hc
      refine J.aload_n (pc := 72) G dX4_areWords_72 rfl ?_
      refine J.iload_n (pc := 73) G dX4_areWords_73 rfl ?_
      refine J.aload_n (pc := 74) G dX4_areWords_74 rfl ?_
      refine J.getf (pc := 75) (ci := 4) G inX4 rfl 11 q706 dX4_areWords_75 (hM.at 0 rfl) (by decide) rfl ?_
      refine J.iload (pc := 78) G dX4_areWords_78 rfl ?_
      refine J.ialdN (pc := 80) G dX4_areWords_80 (hM.at 7 rfl) (by omega) (by decide) ?_
      rw [hSc]
      refine J.callV (pc := 81) (na := 2) G (m_placesOf n M (p := p) (l := ndS nd (gd (chl nd i) k)) hM (by omega) (by omega) hw) q941 q943 qp54 q944 q5 (by decide +kernel) dX4_areWords_81 (hM.at 0 rfl) rfl rfl (Nat.le_of_ble_eq_true rfl) rfl ⟨by omega, by decide, by omega, by omega⟩ ?_
      rintro r9 n9 M9 ⟨hr9, hn9, hM9⟩
      subst hr9
      rw [hn9, hM9]
      clear hn9 hM9 n9 M9
      dsimp only [Option.toList, List.cons_append, List.nil_append]
      refine J.callV (pc := 84) (na := 2) G (h1 (28 * (nd.length - gd (chl nd i) k) + 4) (by omega) (gd (chl nd i) k) (plF (R 8) p (ndS nd (gd (chl nd i) k)) 12) hck.1 hpl rfl) q937 q939 qp53 q940 q5 (by decide +kernel) dX4_areWords_84 (hM.at 0 rfl) rfl rfl (Nat.le_of_ble_eq_true rfl) rfl ⟨by omega, by decide, by omega, by omega⟩ ?_
      rintro r9 n9 M9 ⟨hr9, hn9, hM9⟩
      subst hr9
      rw [hn9, hM9]
      clear hn9 hM9 n9 M9
      dsimp only [Option.toList, List.cons_append, List.nil_append]
      refine J.istore (L' := [_, _, _, _, _, _, _, _]) (pc := 87) G dX4_areWords_87 rfl (Nat.le_of_ble_eq_true rfl) rfl ?_
      exact nx _ rfl
    · subst hc
      refine J.iload_n (pc := 68) G dX4_areWords_68 rfl ?_
      refine J.goto (pc := 69) (tgt := 84) G dX4_areWords_69 (by decide) ?_
      refine J.callV (pc := 84) (na := 2) G (h1 (28 * (nd.length - gd (chl nd i) k) + 4) (by omega) (gd (chl nd i) k) p hck.1 hp rfl) q937 q939 qp53 q940 q5 (by decide +kernel) dX4_areWords_84 (hM.at 0 rfl) rfl rfl (Nat.le_of_ble_eq_true rfl) rfl ⟨by omega, by decide, by omega, by omega⟩ ?_
      rintro r9 n9 M9 ⟨hr9, hn9, hM9⟩
      subst hr9
      rw [hn9, hM9]
      clear hn9 hM9 n9 M9
      dsimp only [Option.toList, List.cons_append, List.nil_append]
      refine J.istore (L' := [_, _, _, _, _, _, _, _]) (pc := 87) G dX4_areWords_87 rfl (Nat.le_of_ble_eq_true rfl) rfl ?_
      exact nx _ rfl
  refine J.icmp_neN (pc := 13) (tgt := 20) G dX4_areWords_13 (by decide) (by omega) (by omega) (fun h5 => ?_) (fun h5 => ?_)
  · rw [if_neg h5] at hE1
    refine J.iconstN (pc := 20) G dX4_areWords_20 0 rfl ?_
    refine J.topv (b := bI false) rfl ?_
    refine J.istore (L' := [_, _, _, _, _, _, _, _]) (pc := 21) G dX4_areWords_21 rfl (Nat.le_of_ble_eq_true rfl) rfl ?_
    refine J.iload (pc := 23) G dX4_areWords_23 rfl ?_
    refine J.if_ne_b (pc := 25) (tgt := 32) G dX4_areWords_25 (by decide) (fun h => by cases h) (fun _ => ?_)
    refine J.iconstN (pc := 28) G dX4_areWords_28 1 rfl ?_
    refine J.goto (pc := 29) (tgt := 33) G dX4_areWords_29 (by decide) ?_
    refine J.topv (b := bI true) rfl ?_
    refine J.istore (L' := [_, _, _, _, _, _, _, _]) (pc := 33) G dX4_areWords_33 rfl (Nat.le_of_ble_eq_true rfl) rfl ?_
    refine J.iconstN (pc := 35) G dX4_areWords_35 0 rfl ?_
    refine J.istore (L' := [_, _, _, _, _, _, _, _]) (pc := 36) G dX4_areWords_36 rfl (Nat.le_of_ble_eq_true rfl) rfl ?_
    generalize hf : (fun k => !iw (gd (chl nd i) k) (plF (R 8) p (ndS nd (gd (chl nd i) k)) 12)) = f at hE1
    have K1 : ∀ k : Nat, k ≤ (chl nd i).length → ∀ l7, J g 0 0 n M [some (.ref a), some (.int (iI (i : Int))), some (.int (iI (p : Int))), some (.int (iI ((chl nd i).length : Int))), some (.int (bI false)), some (.int (bI (!anyU f k))), some (.int (iI (k : Int))), l7] 38 [] := by
      refine loopJ (fun k => (chl nd i).length - k) _ _ ?_
      intro k hk ih l7
      refine J.iload (pc := 38) G dX4_areWords_38 rfl ?_
      refine J.iload_n (pc := 40) G dX4_areWords_40 rfl ?_
      refine J.icmp_geN (pc := 41) (tgt := 95) G dX4_areWords_41 (by decide) (by omega) (by omega) (fun h => ?_) (fun h => ?_)
      · exact K97 _ (by rw [hE1, show k = (chl nd i).length by omega]) _ _ _ _
      · cases hx : anyU f k with
        | true =>
          refine J.iload (pc := 44) G dX4_areWords_44 rfl ?_
          refine J.iload (pc := 46) G dX4_areWords_46 rfl ?_
          refine J.icmp_eq_b (pc := 48) (tgt := 95) G dX4_areWords_48 (by decide) (fun _ => ?_) (fun hne => absurd rfl hne)
          exact K97 _ (by rw [hE1, anyU_mono hx (by omega)]) _ _ _ _
        | false =>
          refine J.iload (pc := 44) G dX4_areWords_44 rfl ?_
          refine J.iload (pc := 46) G dX4_areWords_46 rfl ?_
          refine J.icmp_eq_b (pc := 48) (tgt := 95) G dX4_areWords_48 (by decide) (fun hne => by cases hne) (fun _ => ?_)
          refine K44 k h false _ (fun y hy => ?_) _
          refine J.iincN (L' := [_, _, _, _, _, _, _, _]) (pc := 89) G dX4_areWords_89 1 rfl rfl rfl rfl ?_
          refine J.goto (pc := 92) (tgt := 38) G dX4_areWords_92 (by decide) ?_
          have hy2 : y = !anyU f (k + 1) := by rw [anyU_s hx, ← hf, hy]; simp
          rw [hy2]
          exact ih (k + 1) (by omega) (by omega) _
    exact K1 0 (Nat.zero_le _) _
  · rw [if_pos h5] at hE1
    refine J.iconstN (pc := 16) G dX4_areWords_16 1 rfl ?_
    refine J.goto (pc := 17) (tgt := 21) G dX4_areWords_17 (by decide) ?_
    refine J.topv (b := bI true) rfl ?_
    refine J.istore (L' := [_, _, _, _, _, _, _, _]) (pc := 21) G dX4_areWords_21 rfl (Nat.le_of_ble_eq_true rfl) rfl ?_
    refine J.iload (pc := 23) G dX4_areWords_23 rfl ?_
    refine J.if_ne_b (pc := 25) (tgt := 32) G dX4_areWords_25 (by decide) (fun _ => ?_) (fun h => by cases h)
    refine J.iconstN (pc := 32) G dX4_areWords_32 0 rfl ?_
    refine J.topv (b := bI false) rfl ?_
    refine J.istore (L' := [_, _, _, _, _, _, _, _]) (pc := 33) G dX4_areWords_33 rfl (Nat.le_of_ble_eq_true rfl) rfl ?_
    refine J.iconstN (pc := 35) G dX4_areWords_35 0 rfl ?_
    refine J.istore (L' := [_, _, _, _, _, _, _, _]) (pc := 36) G dX4_areWords_36 rfl (Nat.le_of_ble_eq_true rfl) rfl ?_
    generalize hf : (fun k => iw (gd (chl nd i) k) p) = f at hE1
    have K1 : ∀ k : Nat, k ≤ (chl nd i).length → ∀ l7, J g 0 0 n M [some (.ref a), some (.int (iI (i : Int))), some (.int (iI (p : Int))), some (.int (iI ((chl nd i).length : Int))), some (.int (bI true)), some (.int (bI (anyU f k))), some (.int (iI (k : Int))), l7] 38 [] := by
      refine loopJ (fun k => (chl nd i).length - k) _ _ ?_
      intro k hk ih l7
      refine J.iload (pc := 38) G dX4_areWords_38 rfl ?_
      refine J.iload_n (pc := 40) G dX4_areWords_40 rfl ?_
      refine J.icmp_geN (pc := 41) (tgt := 95) G dX4_areWords_41 (by decide) (by omega) (by omega) (fun h => ?_) (fun h => ?_)
      · exact K97 _ (by rw [hE1, show k = (chl nd i).length by omega]) _ _ _ _
      · cases hx : anyU f k with
        | true =>
          refine J.iload (pc := 44) G dX4_areWords_44 rfl ?_
          refine J.iload (pc := 46) G dX4_areWords_46 rfl ?_
          refine J.icmp_eq_b (pc := 48) (tgt := 95) G dX4_areWords_48 (by decide) (fun _ => ?_) (fun hne => absurd rfl hne)
          exact K97 _ (by rw [hE1, anyU_mono hx (by omega)]) _ _ _ _
        | false =>
          refine J.iload (pc := 44) G dX4_areWords_44 rfl ?_
          refine J.iload (pc := 46) G dX4_areWords_46 rfl ?_
          refine J.icmp_eq_b (pc := 48) (tgt := 95) G dX4_areWords_48 (by decide) (fun hne => by cases hne) (fun _ => ?_)
          refine K44 k h true _ (fun y hy => ?_) _
          refine J.iincN (L' := [_, _, _, _, _, _, _, _]) (pc := 89) G dX4_areWords_89 1 rfl rfl rfl rfl ?_
          refine J.goto (pc := 92) (tgt := 38) G dX4_areWords_92 (by decide) ?_
          have hy2 : y = anyU f (k + 1) := by rw [anyU_s hx, ← hf, hy]; rfl
          rw [hy2]
          exact ih (k + 1) (by omega) (by omega) _
    exact K1 0 (Nat.zero_le _) _
end ISW1
