section LOG7
def bcE1 (x : Int32) : Int32 := x - ((x.toUInt32 >>> ((iI 1).toUInt32 &&& Int32.toUInt32 31)).toInt32 &&& 1431655765)
def bcE2 (x : Int32) : Int32 := (x &&& 858993459) + ((x.toUInt32 >>> ((iI 2).toUInt32 &&& Int32.toUInt32 31)).toInt32 &&& 858993459)
def bcE3 (x : Int32) : Int32 := (x + (x.toUInt32 >>> ((iI 4).toUInt32 &&& Int32.toUInt32 31)).toInt32) &&& 252645135
def bcE4 (x : Int32) : Int32 := x + (x.toUInt32 >>> ((iI 8).toUInt32 &&& Int32.toUInt32 31)).toInt32
def bcE5 (x : Int32) : Int32 := (x + (x.toUInt32 >>> ((iI 16).toUInt32 &&& Int32.toUInt32 31)).toInt32) &&& iI 63
def popc (m : Nat) : Nat := it (fun i c => if m.testBit i then c + 1 else c) 0 12
theorem bcE_ok : ∀ m : Nat, m < 4096 → bcE5 (bcE4 (bcE3 (bcE2 (bcE1 (iI (m : Int)))))) = iI (popc m : Int) := by
  have h : (List.range 4096).all (fun m => decide (bcE5 (bcE4 (bcE3 (bcE2 (bcE1 (iI (m : Int)))))) = iI (popc m : Int))) = true := by decide +kernel
  intro m hm
  exact of_decide_eq_true (List.all_eq_true.mp h m (List.mem_range.mpr hm))
set_option maxRecDepth 100000 in
set_option maxHeartbeats 4000000 in
theorem c_bitCount (n : Nat) (M : AH) {m : Nat} (hm : m < 4096) : Fn yJ6_bitCount_0f7a4 cJ6_bitCount_0f7a4 1 (some .int) 0 [.int (iI (m : Int))] n M 0 0 (fun r n' M' => r = some (.int (iI ((popc m : Nat) : Int))) ∧ n' = n ∧ M' = M) := by
  refine Fn.of (by decide) [some _] rfl rfl (Nat.le_of_ble_eq_true rfl) ?_
  intro g G hin hO
  have e := bcE_ok m hm
  generalize iI (m : Int) = x0 at e ⊢
  refine J.iload_n (pc := 0) G dJ6_bitCount_0f7a4_0 rfl ?_
  refine J.iload_n (pc := 1) G dJ6_bitCount_0f7a4_1 rfl ?_
  refine J.iconst (pc := 2) G dJ6_bitCount_0f7a4_2 ?_
  refine J.iushr_r (pc := 3) G dJ6_bitCount_0f7a4_3 ?_
  refine J.ldcw (pc := 4) G q232 dJ6_bitCount_0f7a4_4 ?_
  refine J.iand_r (pc := 7) G dJ6_bitCount_0f7a4_7 ?_
  refine J.isub_r (pc := 8) G dJ6_bitCount_0f7a4_8 ?_
  refine J.topv (b := bcE1 x0) rfl ?_
  generalize bcE1 x0 = x1 at e ⊢
  refine J.istore_n (L' := [_]) (pc := 9) G dJ6_bitCount_0f7a4_9 rfl (Nat.le_of_ble_eq_true rfl) rfl ?_
  refine J.iload_n (pc := 10) G dJ6_bitCount_0f7a4_10 rfl ?_
  refine J.ldcw (pc := 11) G q233 dJ6_bitCount_0f7a4_11 ?_
  refine J.iand_r (pc := 14) G dJ6_bitCount_0f7a4_14 ?_
  refine J.iload_n (pc := 15) G dJ6_bitCount_0f7a4_15 rfl ?_
  refine J.iconst (pc := 16) G dJ6_bitCount_0f7a4_16 ?_
  refine J.iushr_r (pc := 17) G dJ6_bitCount_0f7a4_17 ?_
  refine J.ldcw (pc := 18) G q233 dJ6_bitCount_0f7a4_18 ?_
  refine J.iand_r (pc := 21) G dJ6_bitCount_0f7a4_21 ?_
  refine J.iadd_r (pc := 22) G dJ6_bitCount_0f7a4_22 ?_
  refine J.topv (b := bcE2 x1) rfl ?_
  generalize bcE2 x1 = x2 at e ⊢
  refine J.istore_n (L' := [_]) (pc := 23) G dJ6_bitCount_0f7a4_23 rfl (Nat.le_of_ble_eq_true rfl) rfl ?_
  refine J.iload_n (pc := 24) G dJ6_bitCount_0f7a4_24 rfl ?_
  refine J.iload_n (pc := 25) G dJ6_bitCount_0f7a4_25 rfl ?_
  refine J.iconst (pc := 26) G dJ6_bitCount_0f7a4_26 ?_
  refine J.iushr_r (pc := 27) G dJ6_bitCount_0f7a4_27 ?_
  refine J.iadd_r (pc := 28) G dJ6_bitCount_0f7a4_28 ?_
  refine J.ldcw (pc := 29) G q234 dJ6_bitCount_0f7a4_29 ?_
  refine J.iand_r (pc := 32) G dJ6_bitCount_0f7a4_32 ?_
  refine J.topv (b := bcE3 x2) rfl ?_
  generalize bcE3 x2 = x3 at e ⊢
  refine J.istore_n (L' := [_]) (pc := 33) G dJ6_bitCount_0f7a4_33 rfl (Nat.le_of_ble_eq_true rfl) rfl ?_
  refine J.iload_n (pc := 34) G dJ6_bitCount_0f7a4_34 rfl ?_
  refine J.iload_n (pc := 35) G dJ6_bitCount_0f7a4_35 rfl ?_
  refine J.bipush (pc := 36) G dJ6_bitCount_0f7a4_36 (by decide +kernel) ?_
  refine J.iushr_r (pc := 38) G dJ6_bitCount_0f7a4_38 ?_
  refine J.iadd_r (pc := 39) G dJ6_bitCount_0f7a4_39 ?_
  refine J.topv (b := bcE4 x3) rfl ?_
  generalize bcE4 x3 = x4 at e ⊢
  refine J.istore_n (L' := [_]) (pc := 40) G dJ6_bitCount_0f7a4_40 rfl (Nat.le_of_ble_eq_true rfl) rfl ?_
  refine J.iload_n (pc := 41) G dJ6_bitCount_0f7a4_41 rfl ?_
  refine J.iload_n (pc := 42) G dJ6_bitCount_0f7a4_42 rfl ?_
  refine J.bipush (pc := 43) G dJ6_bitCount_0f7a4_43 (by decide +kernel) ?_
  refine J.iushr_r (pc := 45) G dJ6_bitCount_0f7a4_45 ?_
  refine J.iadd_r (pc := 46) G dJ6_bitCount_0f7a4_46 ?_
  refine J.istore_n (L' := [_]) (pc := 47) G dJ6_bitCount_0f7a4_47 rfl (Nat.le_of_ble_eq_true rfl) rfl ?_
  refine J.iload_n (pc := 48) G dJ6_bitCount_0f7a4_48 rfl ?_
  refine J.bipush (pc := 49) G dJ6_bitCount_0f7a4_49 (by decide +kernel) ?_
  refine J.iand_r (pc := 51) G dJ6_bitCount_0f7a4_51 ?_
  exact J.iret (pc := 52) G hO dJ6_bitCount_0f7a4_52 (Nat.le_refl _) (Nat.le_refl _) ⟨by rw [← e]; rfl, rfl, rfl⟩
/-! what the finer parts depend on -/
theorem grp_cong {nr nr' : Nat → Nat} {set a : Nat} (h : ∀ j, j < 8 → nr j = nr' j) : grp nr set a = grp nr' set a := by
  unfold grp
  refine it_cong 8 (fun i x _ => ?_)
  unfold grow8
  refine it_cong 8 (fun j y hj => ?_)
  unfold gstep
  rw [h j hj]
theorem grps_cong {nr nr' : Nat → Nat} {set : Nat} {ps : List Nat} (h : ∀ j, j < 8 → nr j = nr' j) : grps nr set ps = grps nr' set ps := by
  unfold grps grpsI
  rw [it_cong (g := fun x s => grpsStep nr' set x s) 8 (fun i x _ => by unfold grpsStep; rw [grp_cong h])]
theorem addP_all {ps : List Nat} {v : Nat} (h : All8 ps) (hv : v < 256) : All8 (addP ps v) := by
  unfold addP
  split
  · intro j hj
    rw [List.length_append, List.length_singleton] at hj
    by_cases e : j = ps.length
    · subst e; simpa [gd, List.getD_eq_getElem?_getD] using hv
    · have := h j (by omega)
      simp only [gd, List.getD_eq_getElem?_getD] at this ⊢
      rw [List.getElem?_append_left (by omega)]
      exact this
  · exact h
theorem grps_all {nr : Nat → Nat} {set : Nat} {ps : List Nat} (hb : ∀ j, j < 8 → nr j < 256) (h : All8 ps) : All8 (grps nr set ps) := by
  unfold grps grpsI
  refine it_inv (fun _ (s : Nat × List Nat) => All8 s.2) 8 h (fun i x hi hx => ?_)
  unfold grpsStep
  split
  · exact addP_all hx (grp_lt hb hi 8)
  · exact hx
theorem grps_len {nr : Nat → Nat} {set : Nat} {ps : List Nat} (hs : set < 256) (h8 : ps.length ≤ 8) : (grps nr set ps).length ≤ 8 := (grpsI_inv hs h8 8).2
theorem all8_nil : All8 [] := fun _ h => absurd h (Nat.not_lt_zero _)
theorem linkV_lt {nx : Nat → Nat} (hb : ∀ j, j < 8 → nx j < 256) {a : Nat} (ha : a < 8) : linkV nx a < 256 := linkI_lt nx hb ha 8 (Nat.le_refl 8)
theorem rall_lt {f : Nat → Nat} (h : ∀ j, j < 8 → f j < 256) : ∀ j, j < 8 → rall f j < 256 :=
  it_inv (fun _ (r : Nat → Nat) => ∀ j, j < 8 → r j < 256) 8 h (fun w r hw hr => it_inv (fun _ (r : Nat → Nat) => ∀ j, j < 8 → r j < 256) 8 hr (fun a r _ hr => rstep_lt hw hr))
/-- two loops side by side -/
theorem it_rel {σ τ : Type} {f : Nat → σ → σ} {g : Nat → τ → τ} {s : σ} {t : τ} (R : σ → τ → Prop) (n : Nat) (h0 : R s t) (hs : ∀ i x y, i < n → R x y → R (f i x) (g i y)) : R (it f s n) (it g t n) := by
  induction n with
  | zero => exact h0
  | succ n ih => exact hs n _ _ (Nat.lt_succ_self n) (ih (fun i x y hi => hs i x y (by omega)))
theorem rall_cong {f f' : Nat → Nat} (h : ∀ j, j < 8 → f j = f' j) : ∀ j, j < 8 → rall f j = rall f' j := by
  unfold rall
  refine it_rel (fun (r r' : Nat → Nat) => ∀ j, j < 8 → r j = r' j) 8 h (fun w r r' hw hr => ?_)
  refine it_rel (fun (r r' : Nat → Nat) => ∀ j, j < 8 → r j = r' j) 8 hr (fun a r r' ha hr => ?_)
  intro j hj
  unfold rstep
  rw [hr a ha, hr w hw]
  split
  · by_cases e : j = a
    · subst e; rw [upN_s, upN_s]
    · rw [upN_n e, upN_n e]; exact hr j hj
  · exact hr j hj
def nearO (rc : Nat → Nat) (a : Nat) : Nat := it (fun b v => if (rc a).testBit b = (rc b).testBit a then v ||| 2 ^ b else v) 0 8
def nearB (nx : Nat → Nat) (a : Nat) : Nat := it (fun b v => if (nx a).testBit b = true ∧ (nx b).testBit a = true then v else v ||| 2 ^ b) 0 8
theorem nearO_lt {rc : Nat → Nat} {a k : Nat} (hk : k ≤ 8) : it (fun b v => if (rc a).testBit b = (rc b).testBit a then v ||| 2 ^ b else v) 0 k < 256 :=
  it_inv (fun _ v => v < 256) k (by omega) (fun i x hi hx => by
    try dsimp only
    split
    · exact or_lt8 hx (pow_lt8 (by omega))
    · exact hx)
theorem nearB_lt {nx : Nat → Nat} {a k : Nat} (hk : k ≤ 8) : it (fun b v => if (nx a).testBit b = true ∧ (nx b).testBit a = true then v else v ||| 2 ^ b) 0 k < 256 :=
  it_inv (fun _ v => v < 256) k (by omega) (fun i x hi hx => by
    try dsimp only
    split
    · exact hx
    · exact or_lt8 hx (pow_lt8 (by omega)))
/-- a cut leaves the log itself and what follows what -/
def KeepA (A A' : Nat → Nat → Nat) : Prop := A' 1 = A 1 ∧ A' 2 = A 2 ∧ A' 3 = A 3
theorem KeepA.rf {A : Nat → Nat → Nat} : KeepA A A := ⟨rfl, rfl, rfl⟩
theorem KeepA.tr {A B C : Nat → Nat → Nat} (h : KeepA A B) (h2 : KeepA B C) : KeepA A C := ⟨h2.1.trans h.1, h2.2.1.trans h.2.1, h2.2.2.trans h.2.2⟩
theorem KeepA.up {A : Nat → Nat → Nat} {k : Nat} {f : Nat → Nat} (h : 4 ≤ k) : KeepA A (upAN A k f) := ⟨upAN_n (by omega), upAN_n (by omega), upAN_n (by omega)⟩
/-- the parts that a cut has left -/
def Cut (M' : AH) (a : Nat) (A : Nat → Nat → Nat) (S : Nat → Nat) (ps : List Nat) : Prop := ∃ A', KeepA A A' ∧ Cl M' a (logC a A' (upN S 12 ps.length)) ∧ Pl (A' 6) ps ∧ ps.length ≤ 8 ∧ All8 ps
def pCh (nx : Nat → Nat) (u : Nat) : List Nat := grps (linkV nx) u []
set_option maxRecDepth 100000 in
set_option maxHeartbeats 4000000 in
theorem c_isCutByChoice (n : Nat) (M0 : AH) {a : Nat} {A : Nat → Nat → Nat} {S : Nat → Nat} (hL : Cl M0 a (logC a A S)) (hb : ∀ j, j < 8 → A 3 j < 256) (hu : S 4 < 256) : Fn yX0_isCutByChoice cX0_isCutByChoice 1 (some .boolean) 3 [.ref a] n M0 0 0 (fun r n' M' => r = some (.int (bI (decide (1 < (pCh (A 3) (S 4)).length)))) ∧ n' = n ∧ Cut M' a A S (pCh (A 3) (S 4)) ∧ Fr a (a + 7) M0 M') := by
  refine Fn.of (by decide) [some _] rfl rfl (Nat.le_of_ble_eq_true rfl) ?_
  intro g G hin hO
  have hFr : Fr a (a + 7) M0 M0 := Fr.rf
  generalize hM1 : M0 = M1 at hL hFr
  refine J.aload_n (pc := 0) G dX0_isCutByChoice_0 rfl ?_
  refine J.iconstN (pc := 1) G dX0_isCutByChoice_1 0 rfl ?_
  refine J.putf (pc := 2) (ci := 0) G inX0 rfl tyX0 tyX0_ok nmX0 12 q106 dX0_isCutByChoice_2 (hL.at 0 rfl) (by decide) (Nat.le_of_ble_eq_true rfl) (Or.inl rfl) (tyX0_ok 12 (by decide)) (by first | rfl | decide +kernel) (by first | rfl | decide +kernel) (fun M hput hag => ?_)
  have hL := logS12 hL hput hag
  have hFr := hFr.put hag (by omega) (by omega)
  clear hput hag
  refine J.aload_n (pc := 5) G dX0_isCutByChoice_5 rfl ?_
  refine J.callV (pc := 6) (na := 0) G (c_linkNeighbours n M hL hb) q243 q245 qp7 q246 q4 (by decide +kernel) dX0_isCutByChoice_6 (hL.at 0 rfl) rfl rfl (Nat.le_of_ble_eq_true rfl) rfl ⟨by omega, by decide, by omega, by omega⟩ ?_
  rintro r9 n9 M ⟨hr9, hn9, ⟨hL, hFr1⟩⟩
  subst hr9
  rw [hn9]
  clear hn9 n9
  dsimp only [Option.toList, List.cons_append, List.nil_append]
  have hFr := hFr.trans hFr1
  have hg : grps (fillN (linkV (A 3)) (A 5) 8) (S 4) [] = pCh (A 3) (S 4) := grps_cong (fun j hj => fillN_in hj)
  have hn8 : ∀ j, j < 8 → fillN (linkV (A 3)) (A 5) 8 j < 256 := fun j hj => by rw [fillN_in hj]; exact linkV_lt hb hj
  refine J.aload_n (pc := 9) G dX0_isCutByChoice_9 rfl ?_
  refine J.aload_n (pc := 10) G dX0_isCutByChoice_10 rfl ?_
  refine J.getf (pc := 11) (ci := 0) G inX0 rfl 4 q91 dX0_isCutByChoice_11 (hL.at 0 rfl) (by decide) rfl ?_
  refine J.callV (pc := 14) (na := 1) G (c_addGroups n M (set := S 4) (ps := []) hL (fun j hj => absurd hj (Nat.not_lt_zero j)) rfl (Nat.zero_le _) hn8 hu) q250 q252 qp8 q253 q4 (by decide +kernel) dX0_isCutByChoice_14 (hL.at 0 rfl) rfl rfl (Nat.le_of_ble_eq_true rfl) rfl ⟨by omega, by decide, by omega, by omega⟩ ?_
  rintro r9 n9 M ⟨hr9, hn9, ⟨⟨p7, hL7, hp7⟩, hFr7⟩⟩
  subst hr9
  rw [hn9]
  clear hn9 n9
  dsimp only [Option.toList, List.cons_append, List.nil_append]
  have hFr := hFr.trans hFr7
  have hL9 : Cl M a (logC a (upAN (upAN A 5 (fillN (linkV (A 3)) (A 5) 8)) 6 p7) (upN S 12 (pCh (A 3) (S 4)).length)) := by rw [← hg, ← upN2 S 12 0]; exact hL7
  have hp9 : Pl p7 (pCh (A 3) (S 4)) := by rw [← hg]; exact hp7
  have hlen : (pCh (A 3) (S 4)).length ≤ 8 := grps_len hu (Nat.zero_le _)
  have hcut : Cut M a A S (pCh (A 3) (S 4)) := ⟨_, KeepA.tr (KeepA.up (by omega)) (KeepA.up (by omega)), hL9, hp9, hlen, grps_all (fun j hj => linkV_lt hb hj) all8_nil⟩
  have hS : upN S 12 (pCh (A 3) (S 4)).length 12 = (pCh (A 3) (S 4)).length := upN_s
  clear hL hL7
  have hL := hL9
  refine J.aload_n (pc := 17) G dX0_isCutByChoice_17 rfl ?_
  refine J.getf (pc := 18) (ci := 0) G inX0 rfl 12 q106 dX0_isCutByChoice_18 (hL.at 0 rfl) (by decide) rfl ?_
  refine J.iconstN (pc := 21) G dX0_isCutByChoice_21 1 rfl ?_
  refine J.icmp_leN (pc := 22) (tgt := 29) G dX0_isCutByChoice_22 (by decide) (by omega) (by omega) (fun h => ?_) (fun h => ?_)
  · refine J.iconstN (pc := 29) G dX0_isCutByChoice_29 0 rfl ?_
    exact J.zret0 (pc := 30) G hO dX0_isCutByChoice_30 (Nat.le_refl _) (Nat.le_refl _) ⟨by rw [decide_eq_false (by omega)], rfl, hcut, hM1 ▸ hFr⟩
  · refine J.iconstN (pc := 25) G dX0_isCutByChoice_25 1 rfl ?_
    refine J.goto (tgt := 30) (pc := 26) G dX0_isCutByChoice_26 (by decide) ?_
    exact J.zret1 (pc := 30) G hO dX0_isCutByChoice_30 (Nat.le_refl _) (Nat.le_refl _) ⟨by rw [decide_eq_true (by omega)], rfl, hcut, hM1 ▸ hFr⟩
end LOG7
