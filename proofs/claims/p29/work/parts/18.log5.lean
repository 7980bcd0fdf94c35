section LOG5
def anyU (f : Nat → Bool) : Nat → Bool
  | 0 => false
  | n + 1 => anyU f n || f n
theorem anyU_iff {f : Nat → Bool} : ∀ {n : Nat}, anyU f n = true ↔ ∃ i, i < n ∧ f i = true
  | 0 => ⟨fun h => by simp [anyU] at h, fun ⟨i, h, _⟩ => absurd h (Nat.not_lt_zero i)⟩
  | n + 1 => by
    rw [anyU, Bool.or_eq_true, anyU_iff]
    constructor
    · rintro (⟨i, h1, h2⟩ | h)
      · exact ⟨i, by omega, h2⟩
      · exact ⟨n, by omega, h⟩
    · rintro ⟨i, h1, h2⟩
      by_cases e : i = n
      · subst e; exact Or.inr h2
      · exact Or.inl ⟨i, by omega, h2⟩
theorem anyU_hit {f : Nat → Bool} {n i : Nat} (hi : i < n) (h : f i = true) : anyU f n = true := anyU_iff.mpr ⟨i, hi, h⟩
def firstU (f : Nat → Bool) : Nat → Nat
  | 0 => 0
  | n + 1 => if firstU f n < n then firstU f n else if f n then n else n + 1
theorem firstU_no {f : Nat → Bool} : ∀ {n : Nat}, (∀ j, j < n → f j = false) → firstU f n = n
  | 0, _ => rfl
  | n + 1, h => by
    have ih := firstU_no (f := f) (n := n) (fun j hj => h j (by omega))
    rw [firstU, ih, if_neg (by omega), h n (by omega)]; simp
theorem firstU_hit {f : Nat → Bool} {i : Nat} (h1 : ∀ j, j < i → f j = false) (h2 : f i = true) : ∀ {n : Nat}, i < n → firstU f n = i
  | 0, h => absurd h (Nat.not_lt_zero i)
  | n + 1, h => by
    by_cases e : i = n
    · subst e
      rw [firstU, firstU_no h1, if_neg (by omega), h2]; simp
    · have ih := firstU_hit h1 h2 (n := n) (by omega)
      rw [firstU, ih, if_pos (by omega)]
abbrev gd (ps : List Nat) (j : Nat) : Nat := ps.getD j 0
theorem gd_set {ps : List Nat} {i j v : Nat} (hi : i < ps.length) : gd (ps.set i v) j = if j = i then v else gd ps j := by
  simp only [gd, List.getD_eq_getElem?_getD]
  by_cases e : j = i
  · subst e; rw [List.getElem?_set_self hi]; simp
  · rw [List.getElem?_set_ne (fun q => e q.symm), if_neg e]
theorem Pl.set {p : Nat → Nat} {ps : List Nat} {i v : Nat} (h : Pl p ps) (hi : i < ps.length) : Pl (upN p i v) (ps.set i v) := by
  intro j hj
  rw [List.length_set] at hj
  have := gd_set (v := v) (j := j) hi
  show upN p i v j = gd (ps.set i v) j
  rw [this]
  by_cases e : j = i
  · subst e; rw [upN_s, if_pos rfl]
  · rw [upN_n e, if_neg e]; exact h j hj
/-! hasNext -/
set_option maxRecDepth 100000 in
set_option maxHeartbeats 4000000 in
theorem c_hasNext (n : Nat) (M : AH) {a : Nat} {A : Nat → Nat → Nat} {S : Nat → Nat} (hL : Cl M a (logC a A S)) (hb : ∀ j, j < 8 → A 3 j < 256) : Fn yX0_hasNext cX0_hasNext 2 (some .boolean) 0 [.ref a] n M 0 0 (fun r n' M' => r = some (.int (bI (anyU (fun x => decide (A 3 x ≠ 0)) 8))) ∧ n' = n ∧ M' = M) := by
  refine Fn.of (by decide) [some _, none] rfl rfl (Nat.le_of_ble_eq_true rfl) ?_
  intro g G hin hO
  refine J.iconstN (pc := 0) G dX0_hasNext_0 0 rfl ?_
  refine J.istore_n (L' := [_, _]) (pc := 1) G dX0_hasNext_1 rfl (Nat.le_of_ble_eq_true rfl) rfl ?_
  have K1 : ∀ s : Nat, (s ≤ 8 ∧ anyU (fun x => decide (A 3 x ≠ 0)) s = false) → J g 0 0 n M [some (.ref a), some (.int (iI (s : Int)))] 2 [] := by
    refine loopJ (fun s => 8 - s) _ _ ?_
    rintro i ⟨hi, hn⟩ ih
    try dsimp only at hi ih ⊢
    refine J.iload_n (pc := 2) G dX0_hasNext_2 rfl ?_
    refine J.bipushN (pc := 3) G dX0_hasNext_3 8 (by decide +kernel) ?_
    refine J.icmp_geN (pc := 5) (tgt := 25) G dX0_hasNext_5 (by decide) (by omega) (by omega) (fun h => ?_) (fun h => ?_)
    · have e8 : i = 8 := by omega
      subst e8
      refine J.iconstN (pc := 25) G dX0_hasNext_25 0 rfl ?_
      exact J.zret0 (pc := 26) G hO dX0_hasNext_26 (Nat.le_refl _) (Nat.le_refl _) ⟨by rw [hn], rfl, rfl⟩
    · have hi8 : i < 8 := h
      have b1 := hb i hi8
      refine J.aload_n (pc := 8) G dX0_hasNext_8 rfl ?_
      refine J.getf (pc := 9) (ci := 0) G inX0 rfl 8 q99 dX0_hasNext_9 (hL.at 0 rfl) (by decide) rfl ?_
      refine J.iload_n (pc := 12) G dX0_hasNext_12 rfl ?_
      refine J.ialdN (pc := 13) G dX0_hasNext_13 (hL.at 3 rfl) (by omega) (by decide) ?_
      refine J.if_eqN (pc := 14) (tgt := 19) G dX0_hasNext_14 (by decide) (by omega) (fun h2 => ?_) (fun h2 => ?_)
      · refine J.iincN (L' := [_, _]) (pc := 19) G dX0_hasNext_19 1 rfl rfl rfl rfl ?_
        refine J.goto (tgt := 2) (pc := 22) G dX0_hasNext_22 (by decide) ?_
        refine ih (i + 1) ⟨by omega, ?_⟩ (by omega)
        rw [anyU, hn, h2]; rfl
      · refine J.iconstN (pc := 17) G dX0_hasNext_17 1 rfl ?_
        refine J.zret1 (pc := 18) G hO dX0_hasNext_18 (Nat.le_refl _) (Nat.le_refl _) ⟨?_, rfl, rfl⟩
        rw [anyU_hit (i := i) hi8 (by simpa using (by omega : A 3 i ≠ 0))]
  exact K1 0 ⟨by omega, rfl⟩
/-! leadsInto, sortByReach -/
def ldI (rc : Nat → Nat) (part other : Nat) : Bool := anyU (fun x => part.testBit x && decide (rc x &&& other ≠ 0)) 8
set_option maxRecDepth 100000 in
set_option maxHeartbeats 4000000 in
theorem c_leadsInto (n : Nat) (M : AH) {a part other : Nat} {A : Nat → Nat → Nat} {S : Nat → Nat} (hL : Cl M a (logC a A S)) (hb : ∀ j, j < 8 → A 4 j < 256) (hp : part < 256) : Fn yX0_leadsInto cX0_leadsInto 4 (some .boolean) 1 [.ref a, .int (iI (part : Int)), .int (iI (other : Int))] n M 0 0 (fun r n' M' => r = some (.int (bI (ldI (A 4) part other))) ∧ n' = n ∧ M' = M) := by
  refine Fn.of (by decide) [some _, some _, some _, none] rfl rfl (Nat.le_of_ble_eq_true rfl) ?_
  intro g G hin hO
  refine J.iconstN (pc := 0) G dX0_leadsInto_0 0 rfl ?_
  refine J.istore_n (L' := [_, _, _, _]) (pc := 1) G dX0_leadsInto_1 rfl (Nat.le_of_ble_eq_true rfl) rfl ?_
  have K1 : ∀ s : Nat, (s ≤ 8 ∧ anyU (fun x => part.testBit x && decide (A 4 x &&& other ≠ 0)) s = false) → J g 0 0 n M [some (.ref a), some (.int (iI (part : Int))), some (.int (iI (other : Int))), some (.int (iI (s : Int)))] 2 [] := by
    refine loopJ (fun s => 8 - s) _ _ ?_
    rintro i ⟨hi, hn⟩ ih
    try dsimp only at hi ih ⊢
    refine J.iload_n (pc := 2) G dX0_leadsInto_2 rfl ?_
    refine J.bipushN (pc := 3) G dX0_leadsInto_3 8 (by decide +kernel) ?_
    refine J.icmp_geN (pc := 5) (tgt := 35) G dX0_leadsInto_5 (by decide) (by omega) (by omega) (fun h => ?_) (fun h => ?_)
    · have e8 : i = 8 := by omega
      subst e8
      refine J.iconstN (pc := 35) G dX0_leadsInto_35 0 rfl ?_
      exact J.zret0 (pc := 36) G hO dX0_leadsInto_36 (Nat.le_refl _) (Nat.le_refl _) ⟨by unfold ldI; rw [hn], rfl, rfl⟩
    · have hi8 : i < 8 := h
      have b1 := hb i hi8
      have b2 : A 4 i &&& other < 256 := and_lt8 b1
      refine J.iload_n (pc := 8) G dX0_leadsInto_8 rfl ?_
      refine J.iload_n (pc := 9) G dX0_leadsInto_9 rfl ?_
      refine J.callSN (pc := 10) (na := 2) G (c_contains n M (m := part) (l := i) (by omega) (by omega)) (mem_nw 3) q248 q249 q1 (by decide +kernel) dX0_leadsInto_10 rfl (Nat.le_of_ble_eq_true rfl) rfl ⟨by omega, by decide, by omega, by omega⟩ ?_
      rintro r9 n9 M9 ⟨hr9, hn9, hM9⟩
      subst hr9
      rw [hn9, hM9]
      clear hn9 hM9 n9 M9
      dsimp only [Option.toList, List.cons_append, List.nil_append]
      refine J.if_eq_b (pc := 13) (tgt := 29) G dX0_leadsInto_13 (by decide) (fun hc => ?_) (fun hc => ?_)
      · refine J.iincN (L' := [_, _, _, _]) (pc := 29) G dX0_leadsInto_29 1 rfl rfl rfl rfl ?_
        refine J.goto (tgt := 2) (pc := 32) G dX0_leadsInto_32 (by decide) ?_
        refine ih (i + 1) ⟨by omega, ?_⟩ (by omega)
        rw [anyU, hn, hc]; rfl
      · refine J.aload_n (pc := 16) G dX0_leadsInto_16 rfl ?_
        refine J.getf (pc := 17) (ci := 0) G inX0 rfl 9 q101 dX0_leadsInto_17 (hL.at 0 rfl) (by decide) rfl ?_
        refine J.iload_n (pc := 20) G dX0_leadsInto_20 rfl ?_
        refine J.ialdN (pc := 21) G dX0_leadsInto_21 (hL.at 4 rfl) (by omega) (by decide) ?_
        refine J.iload_n (pc := 22) G dX0_leadsInto_22 rfl ?_
        refine J.iandN (pc := 23) G dX0_leadsInto_23 ?_
        refine J.if_eqN (pc := 24) (tgt := 29) G dX0_leadsInto_24 (by decide) (by omega) (fun h2 => ?_) (fun h2 => ?_)
        · refine J.iincN (L' := [_, _, _, _]) (pc := 29) G dX0_leadsInto_29 1 rfl rfl rfl rfl ?_
          refine J.goto (tgt := 2) (pc := 32) G dX0_leadsInto_32 (by decide) ?_
          refine ih (i + 1) ⟨by omega, ?_⟩ (by omega)
          rw [anyU, hn, hc, h2]; rfl
        · refine J.iconstN (pc := 27) G dX0_leadsInto_27 1 rfl ?_
          refine J.zret1 (pc := 28) G hO dX0_leadsInto_28 (Nat.le_refl _) (Nat.le_refl _) ⟨?_, rfl, rfl⟩
          unfold ldI
          rw [anyU_hit (i := i) hi8 (by rw [hc]; simpa using (by omega : A 4 i &&& other ≠ 0))]
  exact K1 0 ⟨by omega, rfl⟩
def swp (ps : List Nat) (i j : Nat) : List Nat := (ps.set i (gd ps j)).set j (gd ps i)
theorem swp_len {ps : List Nat} {i j : Nat} : (swp ps i j).length = ps.length := by simp [swp]
def srtS (rc : Nat → Nat) (i j : Nat) (ps : List Nat) : List Nat := if ldI rc (gd ps j) (gd ps i) then swp ps i j else ps
theorem srtS_len {rc : Nat → Nat} {i j : Nat} {ps : List Nat} : (srtS rc i j ps).length = ps.length := by
  unfold srtS; split
  · exact swp_len
  · rfl
def srtIn (rc : Nat → Nat) (i : Nat) (ps : List Nat) (k : Nat) : List Nat := it (fun t ps => srtS rc i (i + 1 + t) ps) ps k
theorem srtIn_len {rc : Nat → Nat} {i : Nat} {ps : List Nat} (k : Nat) : (srtIn rc i ps k).length = ps.length :=
  it_inv (fun _ (q : List Nat) => q.length = ps.length) k rfl (fun _ _ _ hx => srtS_len.trans hx)
def srt (rc : Nat → Nat) (ps : List Nat) (k : Nat) : List Nat := it (fun i qs => srtIn rc i qs (ps.length - (i + 1))) ps k
theorem srt_len {rc : Nat → Nat} {ps : List Nat} (k : Nat) : (srt rc ps k).length = ps.length :=
  it_inv (fun _ (q : List Nat) => q.length = ps.length) k rfl (fun _ _ _ hx => (srtIn_len _).trans hx)
def All8 (ps : List Nat) : Prop := ∀ j, j < ps.length → gd ps j < 256
theorem All8.set {ps : List Nat} {i v : Nat} (h : All8 ps) (hi : i < ps.length) (hv : v < 256) : All8 (ps.set i v) := by
  intro j hj
  rw [List.length_set] at hj
  rw [gd_set hi]
  split
  · exact hv
  · exact h j hj
set_option maxRecDepth 100000 in
set_option maxHeartbeats 4000000 in
theorem c_sortByReach (n : Nat) (M0 : AH) {a : Nat} {A : Nat → Nat → Nat} {S : Nat → Nat} {ps : List Nat} (hL : Cl M0 a (logC a A S)) (hp : Pl (A 6) ps) (hc : S 12 = ps.length) (h8 : ps.length ≤ 8) (hb : ∀ j, j < 8 → A 4 j < 256) (ha : All8 ps) : Fn yX0_sortByReach cX0_sortByReach 4 none 2 [.ref a] n M0 0 0 (fun r n' M' => r = none ∧ n' = n ∧ (∃ p', Cl M' a (logC a (upAN A 6 p') S) ∧ Pl p' (srt (A 4) ps ps.length) ∧ All8 (srt (A 4) ps ps.length)) ∧ Fr a (a + 7) M0 M') := by
  refine Fn.of (by decide) [some _, none, none, none] rfl rfl (Nat.le_of_ble_eq_true rfl) ?_
  intro g G hin hO
  refine J.iconstN (pc := 0) G dX0_sortByReach_0 0 rfl ?_
  refine J.istore_n (L' := [_, _, _, _]) (pc := 1) G dX0_sortByReach_1 rfl (Nat.le_of_ble_eq_true rfl) rfl ?_
  have K1 : ∀ s : Nat × AH, (s.1 ≤ ps.length ∧ (∃ p', Cl s.2 a (logC a (upAN A 6 p') S) ∧ Pl p' (srt (A 4) ps s.1) ∧ All8 (srt (A 4) ps s.1)) ∧ Fr a (a + 7) M0 s.2) → J g 0 0 n s.2 [some (.ref a), some (.int (iI (s.1 : Int))), none, none] 2 [] := by
    refine loopJ (fun s => ps.length - s.1) _ _ ?_
    rintro ⟨i, M⟩ ⟨hi, ⟨p, hL, hp, ha⟩, hFr⟩ ih
    dsimp only at hi hL hp ha hFr ih ⊢
    have hsl := srt_len (rc := A 4) (ps := ps) i
    have hnx : srt (A 4) ps (i + 1) = srtIn (A 4) i (srt (A 4) ps i) (ps.length - (i + 1)) := rfl
    generalize hq : srt (A 4) ps i = qs at hp ha hsl hnx
    refine J.iload_n (pc := 2) G dX0_sortByReach_2 rfl ?_
    refine J.aload_n (pc := 3) G dX0_sortByReach_3 rfl ?_
    refine J.getf (pc := 4) (ci := 0) G inX0 rfl 12 q106 dX0_sortByReach_4 (hL.at 0 rfl) (by decide) rfl ?_
    refine J.icmp_geN (pc := 7) (tgt := 79) G dX0_sortByReach_7 (by decide) (by omega) (by omega) (fun h => ?_) (fun h => ?_)
    · have e8 : i = ps.length := by omega
      subst e8
      exact J.vret (pc := 79) G hO dX0_sortByReach_79 (Nat.le_refl _) (Nat.le_refl _) ⟨rfl, rfl, ⟨p, hL, by rw [hq]; exact hp, by rw [hq]; exact ha⟩, hFr⟩
    · have hi8 : i < ps.length := by omega
      refine J.iload_n (pc := 10) G dX0_sortByReach_10 rfl ?_
      refine J.iconstN (pc := 11) G dX0_sortByReach_11 1 rfl ?_
      refine J.iaddN (pc := 12) G dX0_sortByReach_12 ?_
      refine J.istore_n (L' := [_, _, _, _]) (pc := 13) G dX0_sortByReach_13 rfl (Nat.le_of_ble_eq_true rfl) rfl ?_
      have K2 : ∀ s : Nat × AH, (i + 1 + s.1 ≤ ps.length ∧ (∃ p', Cl s.2 a (logC a (upAN A 6 p') S) ∧ Pl p' (srtIn (A 4) i qs s.1) ∧ All8 (srtIn (A 4) i qs s.1)) ∧ Fr a (a + 7) M0 s.2) → J g 0 0 n s.2 [some (.ref a), some (.int (iI (i : Int))), some (.int (iI ((i + 1 + s.1 : Nat) : Int))), none] 14 [] := by
        refine loopJ (fun s => ps.length - s.1) _ _ ?_
        rintro ⟨t, M⟩ ⟨ht, ⟨p, hL, hp, ha⟩, hFr⟩ ih3
        dsimp only at ht hL hp ha hFr ih3 ⊢
        have hsl2 := (srtIn_len (rc := A 4) (i := i) (ps := qs) t).trans hsl
        have hnx2 : srtIn (A 4) i qs (t + 1) = srtS (A 4) i (i + 1 + t) (srtIn (A 4) i qs t) := rfl
        generalize hr : srtIn (A 4) i qs t = rs at hp ha hsl2 hnx2
        generalize hj : i + 1 + t = j at ht hnx2 ⊢
        refine J.iload_n (pc := 14) G dX0_sortByReach_14 rfl ?_
        refine J.aload_n (pc := 15) G dX0_sortByReach_15 rfl ?_
        refine J.getf (pc := 16) (ci := 0) G inX0 rfl 12 q106 dX0_sortByReach_16 (hL.at 0 rfl) (by decide) rfl ?_
        refine J.icmp_geN (pc := 19) (tgt := 73) G dX0_sortByReach_19 (by decide) (by omega) (by omega) (fun h9 => ?_) (fun h9 => ?_)
        · have e8 : t = ps.length - (i + 1) := by omega
          subst e8
          refine J.fgt (L' := [_, _, _, _]) 2 rfl ?_
          refine J.iincN (L' := [_, _, _, _]) (pc := 73) G dX0_sortByReach_73 1 rfl rfl rfl rfl ?_
          refine J.goto (tgt := 2) (pc := 76) G dX0_sortByReach_76 (by decide) ?_
          exact ih (i + 1, M) ⟨by dsimp only; omega, ⟨p, hL, by rw [hnx, hr]; exact hp, by rw [hnx, hr]; exact ha⟩, hFr⟩ (by dsimp only; omega)
        · have hj8 : j < ps.length := by omega
          have pi : p i = gd rs i := hp i (by omega)
          have pj : p j = gd rs j := hp j (by omega)
          refine J.aload_n (pc := 22) G dX0_sortByReach_22 rfl ?_
          refine J.aload_n (pc := 23) G dX0_sortByReach_23 rfl ?_
          refine J.getf (pc := 24) (ci := 0) G inX0 rfl 11 q104 dX0_sortByReach_24 (hL.at 0 rfl) (by decide) rfl ?_
          refine J.iload_n (pc := 27) G dX0_sortByReach_27 rfl ?_
          refine J.ialdN (pc := 28) G dX0_sortByReach_28 (hL.at 6 rfl) (by omega) (by decide) ?_
          refine J.aload_n (pc := 29) G dX0_sortByReach_29 rfl ?_
          refine J.getf (pc := 30) (ci := 0) G inX0 rfl 11 q104 dX0_sortByReach_30 (hL.at 0 rfl) (by decide) rfl ?_
          refine J.iload_n (pc := 33) G dX0_sortByReach_33 rfl ?_
          refine J.ialdN (pc := 34) G dX0_sortByReach_34 (hL.at 6 rfl) (by omega) (by decide) ?_
          rw [show upAN A 6 p 6 j = gd rs j from pj, show upAN A 6 p 6 i = gd rs i from pi]
          refine J.callV (pc := 35) (na := 2) G (c_leadsInto n M (part := gd rs j) (other := gd rs i) hL hb (ha j (by omega))) q270 q272 qp12 q273 q4 (by decide +kernel) dX0_sortByReach_35 (hL.at 0 rfl) rfl rfl (Nat.le_of_ble_eq_true rfl) rfl ⟨by omega, by decide, by omega, by omega⟩ ?_
          rintro r9 n9 M9 ⟨hr9, hn9, hM9⟩
          subst hr9
          rw [hn9, hM9]
          clear hn9 hM9 n9 M9
          dsimp only [Option.toList, List.cons_append, List.nil_append]
          refine J.if_eq_b (pc := 38) (tgt := 67) G dX0_sortByReach_38 (by decide) (fun hc2 => ?_) (fun hc2 => ?_)
          · refine J.iincN (L' := [_, _, _, _]) (pc := 67) G dX0_sortByReach_67 1 rfl rfl rfl rfl ?_
            refine J.goto (tgt := 14) (pc := 70) G dX0_sortByReach_70 (by decide) ?_
            have e9 : srtIn (A 4) i qs (t + 1) = rs := by
              rw [hnx2]; unfold srtS; rw [if_neg]; rw [show ldI (A 4) (gd rs j) (gd rs i) = false from hc2]; simp
            have := ih3 (t + 1, M) ⟨by dsimp only; omega, ⟨p, hL, by rw [e9]; exact hp, by rw [e9]; exact ha⟩, hFr⟩ (by dsimp only; omega)
            dsimp only at this
            rw [show i + 1 + (t + 1) = j + 1 by omega] at this
            exact this
          · refine J.aload_n (pc := 41) G dX0_sortByReach_41 rfl ?_
            refine J.getf (pc := 42) (ci := 0) G inX0 rfl 11 q104 dX0_sortByReach_42 (hL.at 0 rfl) (by decide) rfl ?_
            refine J.iload_n (pc := 45) G dX0_sortByReach_45 rfl ?_
            refine J.ialdN (pc := 46) G dX0_sortByReach_46 (hL.at 6 rfl) (by omega) (by decide) ?_
            refine J.istore_n (L' := [_, _, _, _]) (pc := 47) G dX0_sortByReach_47 rfl (Nat.le_of_ble_eq_true rfl) rfl ?_
            refine J.aload_n (pc := 48) G dX0_sortByReach_48 rfl ?_
            refine J.getf (pc := 49) (ci := 0) G inX0 rfl 11 q104 dX0_sortByReach_49 (hL.at 0 rfl) (by decide) rfl ?_
            refine J.iload_n (pc := 52) G dX0_sortByReach_52 rfl ?_
            refine J.aload_n (pc := 53) G dX0_sortByReach_53 rfl ?_
            refine J.getf (pc := 54) (ci := 0) G inX0 rfl 11 q104 dX0_sortByReach_54 (hL.at 0 rfl) (by decide) rfl ?_
            refine J.iload_n (pc := 57) G dX0_sortByReach_57 rfl ?_
            refine J.ialdN (pc := 58) G dX0_sortByReach_58 (hL.at 6 rfl) (by omega) (by decide) ?_
            refine J.iastN (pc := 59) G dX0_sortByReach_59 (hL.at 6 rfl) (by omega) (by decide) (fun M hput hag => ?_)
            have hL := logA6 hL hput hag
            have hFr := hFr.put hag (by omega) (by omega)
            clear hput hag
            refine J.aload_n (pc := 60) G dX0_sortByReach_60 rfl ?_
            refine J.getf (pc := 61) (ci := 0) G inX0 rfl 11 q104 dX0_sortByReach_61 (hL.at 0 rfl) (by decide) rfl ?_
            refine J.iload_n (pc := 64) G dX0_sortByReach_64 rfl ?_
            refine J.iload_n (pc := 65) G dX0_sortByReach_65 rfl ?_
            refine J.iastN (pc := 66) G dX0_sortByReach_66 (hL.at 6 rfl) (by omega) (by decide) (fun M hput hag => ?_)
            have hL := logA6 hL hput hag
            have hFr := hFr.put hag (by omega) (by omega)
            clear hput hag
            rw [upAN2, upAN2] at hL
            refine J.fgt (L' := [_, _, _, _]) 3 rfl ?_
            refine J.iincN (L' := [_, _, _, _]) (pc := 67) G dX0_sortByReach_67 1 rfl rfl rfl rfl ?_
            refine J.goto (tgt := 14) (pc := 70) G dX0_sortByReach_70 (by decide) ?_
            have e9 : srtIn (A 4) i qs (t + 1) = swp rs i j := by
              rw [hnx2]; unfold srtS; rw [if_pos]; exact hc2
            have hL9 : Cl M a (logC a (upAN A 6 (upN (upN p i (p j)) j (p i))) S) := hL
            have hp9 : Pl (upN (upN p i (p j)) j (p i)) (swp rs i j) := by
              unfold swp
              rw [← pi, ← pj]
              exact (hp.set (by omega)).set (by rw [List.length_set]; omega)
            have ha9 : All8 (swp rs i j) := (ha.set (by omega) (ha j (by omega))).set (by rw [List.length_set]; omega) (ha i (by omega))
            have := ih3 (t + 1, M) ⟨by dsimp only; omega, ⟨_, hL9, by rw [e9]; exact hp9, by rw [e9]; exact ha9⟩, hFr⟩ (by dsimp only; omega)
            dsimp only at this
            rw [show i + 1 + (t + 1) = j + 1 by omega] at this
            exact this
      exact K2 (0, M) ⟨by dsimp only; omega, ⟨p, hL, hp, ha⟩, hFr⟩
  exact K1 (0, M0) ⟨by omega, ⟨A 6, by dsimp only; rw [upAN_same]; exact hL, hp, ha⟩, Fr.rf⟩
end LOG5
