section MINE1
/-- the model's rows tell the tree so far -/
def MdG (R : Nat → Nat → Nat) (P : Nat → Int) (Z : Nat → Nat) (nd : List Nd) : Prop := Z 8 = nd.length ∧ ∀ i, i < nd.length → R 5 i = ndK nd i ∧ P i = ndP nd i ∧ R 7 i = ndS nd i
theorem MdG.add {R : Nat → Nat → Nat} {P : Nat → Int} {Z : Nat → Nat} {nd : List Nd} {kd set : Nat} {p : Int} (h : MdG R P Z nd) : MdG (adR R Z kd set) (upI P (Z 8) p) (upN Z 8 (Z 8 + 1)) (nd ++ [(kd, p, set)]) := by
  obtain ⟨h8, hi⟩ := h
  refine ⟨?_, fun i hi9 => ?_⟩
  · rw [upN_s, List.length_append, h8]; rfl
  · rw [List.length_append, List.length_singleton] at hi9
    have e5 : adR R Z kd set 5 = upN (R 5) (Z 8) kd := by unfold adR; rw [upAN_n (by decide), upAN_s]
    have e7 : adR R Z kd set 7 = upN (R 7) (Z 8) set := by unfold adR; rw [upAN_s]
    rw [e5, e7, h8]
    unfold ndK ndP ndS
    rw [nd_app]
    by_cases e : i = nd.length
    · subst e
      rw [if_pos rfl, upN_s, upN_s, upI_s]
      exact ⟨rfl, rfl, rfl⟩
    · rw [if_neg e, upN_n e, upN_n e, upI_n e]
      exact hi i (by omega)
/-- what growing leaves of the model's rows -/
def KpW (R : Nat → Nat → Nat) (Z : Nat → Nat) (R' : Nat → Nat → Nat) (Z' : Nat → Nat) : Prop := (∀ i, i ≠ 5 → i ≠ 7 → R' i = R i) ∧ ∀ i, i ≠ 8 → Z' i = Z i
theorem KpW.rf {R : Nat → Nat → Nat} {Z : Nat → Nat} : KpW R Z R Z := ⟨fun _ _ _ => rfl, fun _ _ => rfl⟩
theorem KpW.tr {R R1 R2 : Nat → Nat → Nat} {Z Z1 Z2 : Nat → Nat} (h : KpW R Z R1 Z1) (h2 : KpW R1 Z1 R2 Z2) : KpW R Z R2 Z2 := ⟨fun i a b => (h2.1 i a b).trans (h.1 i a b), fun i a => (h2.2 i a).trans (h.2 i a)⟩
theorem KpW.add {R : Nat → Nat → Nat} {Z : Nat → Nat} {kd set : Nat} : KpW R Z (adR R Z kd set) (upN Z 8 (Z 8 + 1)) := ⟨fun i a b => by unfold adR; rw [upAN_n b, upAN_n a], fun i a => upN_n a⟩
/-- all stays below n, but for the model's own cells -/
def FrM (a n : Nat) (M0 M : AH) : Prop := ∀ q, q < n → (q < a ∨ a + 9 ≤ q) → M q = M0 q
theorem FrM.rf {a n : Nat} {M : AH} : FrM a n M M := fun _ _ _ => rfl
theorem FrM.tr {a n n1 : Nat} {M0 M1 M2 : AH} (h : FrM a n M0 M1) (h2 : FrM a n1 M1 M2) (hn : n ≤ n1) : FrM a n M0 M2 := fun q h3 h4 => (h2 q (by omega) h4).trans (h q h3 h4)
theorem FrM.fr {a n : Nat} {M0 M1 : AH} (h : Fr a (a + 9) M0 M1) : FrM a n M0 M1 := fun q _ h4 => h q h4
theorem FrM.al {a n : Nat} {M0 M1 : AH} (h : ∀ q, q < n → M1 q = M0 q) : FrM a n M0 M1 := fun q h3 _ => h q h3
/-- a log that is not too large -/
def GoodM (tr : List (List Nat)) : Prop := GoodL tr ∧ ∀ t, t < tr.length → (tr.getD t []).length ≤ 12
def L12 (tr : List (List Nat)) : Prop := ∀ t, t < tr.length → (tr.getD t []).length ≤ 12
theorem L12.app {tr : List (List Nat)} {w : List Nat} (h : L12 tr) (hw : w.length ≤ 12) : L12 (tr ++ [w]) := by
  intro t ht
  rw [List.length_append, List.length_singleton] at ht
  rw [getD_app]
  split
  · exact hw
  · exact h t (by omega)
theorem tkT_12 {part : Nat} {sp : Bool} {q : List (List Nat)} {t : List Nat} (hq : L12 q) : ∀ k, k ≤ 12 → L12 (tkT part sp (q, []) t k).1 ∧ (tkT part sp (q, []) t k).2.length ≤ k
  | 0, _ => ⟨hq, Nat.le_refl _⟩
  | k + 1, hk => by
    obtain ⟨h1, h2⟩ := tkT_12 (part := part) (sp := sp) (t := t) hq k (by omega)
    rw [tkT_s]
    unfold tkS
    split
    · exact ⟨h1, by dsimp only; rw [List.length_append]; show _ + 1 ≤ _; omega⟩
    · split
      · exact ⟨h1.app (by omega), Nat.zero_le _⟩
      · exact ⟨h1, by omega⟩
theorem takeF_12 {tr : List (List Nat)} {part kind : Nat} (h : L12 tr) : L12 (takeF tr part kind) :=
  it_inv (f := fun i q => tkL part (decide (kind = 5)) (decide (kind = 3 ∨ kind = 4)) q (tr.getD i [])) (s := []) (fun _ q => L12 q) tr.length (fun t ht => absurd ht (Nat.not_lt_zero t)) (fun i q hi hq => by
    have hl := h i hi
    obtain ⟨h1, h2⟩ := tkT_12 (part := part) (sp := decide (kind = 5)) (t := tr.getD i []) hq (tr.getD i []).length hl
    unfold tkL
    split
    · exact h1.app (by omega)
    · exact h1)
theorem takeF_goodM {tr : List (List Nat)} {part kind : Nat} (h : GoodM tr) : GoodM (takeF tr part kind) := ⟨takeF_good h.1, takeF_12 h.2⟩
/-- what the model looks at -/
def emB (tr : List (List Nat)) (k : Nat) : Bool := anyU (fun t => decide ((tr.getD t []).length = 0)) k
def siB (tr : List (List Nat)) (k : Nat) : Bool := !anyU (fun t => !decide ((tr.getD t []).length = 1)) k
def moL (tr : List (List Nat)) : Nat := lbL tr tr.length
def moF (tr : List (List Nat)) : Nat → Nat := foL tr tr.length
def moB (tr : List (List Nat)) : Nat := egL tr false tr.length
def moE (tr : List (List Nat)) : Nat := egL tr true tr.length
def mp2 (tr : List (List Nat)) : List Nat := paL (moL tr) (moF tr)
def ahF (rc : Nat → Nat) (ps : List Nat) (part k : Nat) : Nat := it (fun i s => if gd ps i ≠ part ∧ (rc (loF (gd ps i))).testBit (loF part) = true then s + 1 else s) 0 k
def orI (rc : Nat → Nat) (ps : List Nat) (place : Nat) (l : List Nat) (k : Nat) : List Nat := it (fun i l => if ahF rc ps (gd ps i) ps.length = place then l ++ [gd ps i] else l) l k
def orM (rc : Nat → Nat) (ps : List Nat) (k : Nat) : List Nat := it (fun pl l => orI rc ps pl l ps.length) [] k
def mq3 (tr : List (List Nat)) : List Nat := paL (moL tr) (fillN (nearO (rall (moF tr))) (fun _ => 0) 8)
def mp3 (tr : List (List Nat)) : List Nat := orM (rall (moF tr)) (mq3 tr) (mq3 tr).length
def mq4 (tr : List (List Nat)) : List Nat := paL (moL tr) (fillN (nearB (moF tr)) (fun _ => 0) 8)
def mp4 (tr : List (List Nat)) : List Nat := jl (moB tr) (moE tr) 8 (mq4 tr)
def agS (be en : Nat) (fo : Nat → Nat) (k : Nat) (s : Nat × List Nat) : Nat × List Nat := if gd s.2 k ≠ 0 ∧ beF (gd s.2 k) s.1 be en fo 8 = true then (s.1 ||| gd s.2 k, s.2.set k 0) else s
def agP (be en : Nat) (fo : Nat → Nat) (s : Nat × List Nat) (k : Nat) : Nat × List Nat := it (agS be en fo) s k
def agN (be en : Nat) (fo : Nat → Nat) (s : Nat × List Nat) (j : Nat) : Nat × List Nat := it (fun _ s => agP be en fo s s.2.length) s j
def mq5 (tr : List (List Nat)) : Nat × List Nat := agN (moB tr) (moE tr) (moF tr) (moB tr ||| moE tr, paL (andn (moL tr) (moB tr ||| moE tr)) (moF tr)) 9
def mp5 (tr : List (List Nat)) : List Nat := (mq5 tr).1 :: (mq5 tr).2.filter (fun x => decide (x ≠ 0))
def cutM (tr : List (List Nat)) : Nat × List Nat :=
  if moL tr = 0 then (0, []) else if emB tr tr.length then (2, [moL tr]) else
  if popc (moL tr) = 1 then (if siB tr tr.length then (1, []) else (5, [])) else
  if 2 ≤ (mp2 tr).length then (2, mp2 tr) else
  if 2 ≤ (mq3 tr).length then (3, mp3 tr) else
  if 2 ≤ (mp4 tr).length then (4, mp4 tr) else
  if (mq5 tr).1 ≠ moL tr then (5, mp5 tr) else (6, [])
/-- the model cuts as the miner does -/
def CutQ (tr : List (List Nat)) : Prop := cutT tr = cutM tr ∧ (mL tr).1 = moL tr ∧ (moL tr ≠ 0 → (0 < (mL tr).2.2.2.1 ↔ emB tr tr.length = true)) ∧ ((cutM tr).1 = 5 ∧ (cutM tr).2.length = 0 → popc (moL tr) = 1)
/-- cutting comes to its end -/
def dpOk : Nat → List (List Nat) → Prop
  | 0, _ => False
  | f + 1, tr => ∀ i, i < (cutT tr).2.length → dpOk f (takeF tr (gd (cutT tr).2 i) (cutT tr).1)
/-- what a part's log costs, cells and slots -/
def opC (tr : List (List Nat)) (kd part : Nat) : Nat := if kd = 5 then (takeF tr part 5).length + 2 else tr.length + 2
def opS (tr : List (List Nat)) (kd part : Nat) : Nat := if kd = 5 then 12 * (tr.length + 1) + tot (takeF tr part 5) + (takeF tr part 5).length else 2 * tr.length + tot (takeF tr part kd)
def csC (F : List (List Nat) → Nat) (tr : List (List Nat)) (kd : Nat) (ps : List Nat) (k : Nat) : Nat := it (fun i s => s + (opC tr kd (gd ps i) + F (takeF tr (gd ps i) kd))) 0 k
def csS (F : List (List Nat) → Nat) (tr : List (List Nat)) (kd : Nat) (ps : List Nat) (k : Nat) : Nat := it (fun i s => s + (opS tr kd (gd ps i) + F (takeF tr (gd ps i) kd))) 0 k
def cC : Nat → List (List Nat) → Nat
  | 0, _ => 0
  | f + 1, tr => 12 + csC (cC f) tr (cutT tr).1 (cutT tr).2 (cutT tr).2.length
def cS : Nat → List (List Nat) → Nat
  | 0, _ => 0
  | f + 1, tr => 96 + csS (cS f) tr (cutT tr).1 (cutT tr).2 (cutT tr).2.length
theorem csC_le {F : List (List Nat) → Nat} {tr : List (List Nat)} {kd : Nat} {ps : List Nat} {k : Nat} : ∀ e, csC F tr kd ps k ≤ csC F tr kd ps (k + e)
  | 0 => Nat.le_refl _
  | e + 1 => Nat.le_trans (csC_le e) (Nat.le_add_right _ _)
theorem csS_le {F : List (List Nat) → Nat} {tr : List (List Nat)} {kd : Nat} {ps : List Nat} {k : Nat} : ∀ e, csS F tr kd ps k ≤ csS F tr kd ps (k + e)
  | 0 => Nat.le_refl _
  | e + 1 => Nat.le_trans (csS_le e) (Nat.le_add_right _ _)
theorem csC_to {F : List (List Nat) → Nat} {tr : List (List Nat)} {kd : Nat} {ps : List Nat} {k m : Nat} (h : k ≤ m) : csC F tr kd ps k ≤ csC F tr kd ps m := by
  obtain ⟨e, rfl⟩ := Nat.exists_eq_add_of_le h
  exact csC_le e
theorem csS_to {F : List (List Nat) → Nat} {tr : List (List Nat)} {kd : Nat} {ps : List Nat} {k m : Nat} (h : k ≤ m) : csS F tr kd ps k ≤ csS F tr kd ps m := by
  obtain ⟨e, rfl⟩ := Nat.exists_eq_add_of_le h
  exact csS_le e
/-- the trees of the parts, one behind the other -/
def fld (f : Nat) (tr : List (List Nat)) (kd : Nat) (ps : List Nat) (m : Int) (nd : List Nd) (k : Nat) : List Nd := it (fun i q => growF f (takeF tr (gd ps i) kd) m q) nd k
/-- there is room for the trees of the parts, and they come to an end -/
def fldOk (f : Nat) (tr : List (List Nat)) (kd : Nat) (ps : List Nat) (m : Int) (nd : List Nd) : Prop := ∀ i, i < ps.length → dpOk f (takeF tr (gd ps i) kd) ∧ growOk f (takeF tr (gd ps i) kd) m (fld f tr kd ps m nd i)
/-- the contract of mineInto -/
def GrowM (a f : Nat) : Prop := ∀ (n : Nat) (M0 : AH) (b : Nat) (p : Int) (tr : List (List Nat)) (nd : List Nd) (R : Nat → Nat → Nat) (P : Nat → Int) (Z : Nat → Nat), LgB M0 b (a + 9) tr → (∀ q x, M0 q = some x → q < n) → GoodM tr → Cl M0 a (modC a R P Z) → MdG R P Z nd → Rng p → dpOk f tr → growOk f tr p nd → Fn yX4_mineInto cX4_mineInto 10 none (2 * f + 4) [.ref a, .ref b, .int (iI p)] n M0 (cC f tr) (cS f tr) (fun r n' M' => r = none ∧ n ≤ n' ∧ (∃ R' P' Z', Cl M' a (modC a R' P' Z') ∧ MdG R' P' Z' (growF f tr p nd) ∧ KpW R Z R' Z') ∧ FrM a n M0 M')
/-- what a cut by one rule gives -/
abbrev MCut (a n f : Nat) (M0 : AH) (R : Nat → Nat → Nat) (P : Nat → Int) (Z : Nat → Nat) (tr : List (List Nat)) (kd : Nat) (ps : List Nat) (c : Prop) (p : Int) (nd : List Nd) : Option Value → Nat → AH → Prop := fun r n' M' => n ≤ n' ∧ FrM a n M0 M' ∧ ((c ∧ r = some (.int (bI true)) ∧ ∃ R' P' Z', Cl M' a (modC a R' P' Z') ∧ MdG R' P' Z' (fld f tr kd ps (nd.length : Int) (nd ++ [(kd, p, moL tr)]) ps.length) ∧ KpW R Z R' Z') ∨ (¬ c ∧ r = some (.int (bI false)) ∧ Cl M' a (modC a R P Z)))
theorem paO_all {jn : Nat → Nat} : ∀ (f left : Nat) (ps : List Nat), left < 256 → (∀ i, i < ps.length → 0 < gd ps i ∧ gd ps i < 256) → ∀ i, i < (paO jn f left ps).length → 0 < gd (paO jn f left ps) i ∧ gd (paO jn f left ps) i < 256
  | 0, _, _, _, h => h
  | f + 1, left, ps, hl, h => by
    rw [paO]
    split
    · exact h
    · rename_i h0
      refine paO_all f _ _ (andn_lt8 hl) (fun i hi => ?_)
      rw [List.length_append, List.length_singleton] at hi
      rw [gd_snoc]
      split
      · refine ⟨?_, paJ_lt hl (by omega) 256⟩
        have := paJ_bit (left := left) (jn := jn) 256
        rcases Nat.eq_zero_or_pos (paF left jn) with q | q
        · rw [show paJ left jn 256 = 0 from q, Nat.zero_testBit] at this
          cases this
        · exact q
      · exact h i (by omega)
theorem paL_all {set : Nat} {jn : Nat → Nat} (h : set < 256) : ∀ i, i < (paL set jn).length → 0 < gd (paL set jn) i ∧ gd (paL set jn) i < 256 := paO_all 8 set [] h (fun i hi => absurd hi (Nat.not_lt_zero i))
theorem paO_len {jn : Nat → Nat} : ∀ (f left : Nat) (ps : List Nat), (paO jn f left ps).length ≤ ps.length + f
  | 0, _, ps => Nat.le_refl _
  | f + 1, left, ps => by
    rw [paO]
    split
    · omega
    · have := paO_len (jn := jn) f (andn left (paF left jn)) (ps ++ [paF left jn])
      rw [List.length_append, List.length_singleton] at this
      omega
theorem paL_len {set : Nat} {jn : Nat → Nat} : (paL set jn).length ≤ 8 := by
  have := paO_len (jn := jn) 8 set []
  have e : ([] : List Nat).length = 0 := rfl
  unfold paL
  omega
theorem lbL_lt {tr : List (List Nat)} (h : LabL tr) : lbL tr tr.length < 256 :=
  it_inv (f := fun t s => lbI (tr.getD t []) s (tr.getD t []).length) (s := 0) (fun _ s => s < 256) tr.length (by decide) (fun t s ht hs =>
    it_inv (f := fun i s => s ||| 2 ^ gd (tr.getD t []) i) (s := s) (fun _ v => v < 256) (tr.getD t []).length hs (fun i v hi hv => or_lt8 hv (pow_lt8 (h t ht i hi))))
theorem Cl.al {M M' : AH} {a n : Nat} {cs : List Ce} (h : Cl M a cs) (hbn : ∀ q x, M q = some x → q < n) (hag : ∀ q, q < n → M' q = M q) : Cl M' a cs := fun i x hi => by
  have h1 := h i x hi
  rw [hag _ (hbn _ _ h1)]
  exact h1
set_option maxRecDepth 100000 in
set_option maxHeartbeats 4000000 in
theorem m_mineChoice {a f : Nat} (hrec : GrowM a f) (n : Nat) (M0 : AH) {b fr mc ms : Nat} {p : Int} {tr : List (List Nat)} {nd : List Nd} {R : Nat → Nat → Nat} {P : Nat → Int} {Z : Nat → Nat} (hg : LgB M0 b (a + 9) tr) (hbn : ∀ q x, M0 q = some x → q < n) (hgd : GoodM tr) (hM : Cl M0 a (modC a R P Z)) (hT : MdG R P Z nd) (hp : Rng p) (hfo : M0 fr = some (cN 8 (moF tr))) (hfa : a + 9 ≤ fr) (hok : 2 ≤ (mp2 tr).length → nd.length < 64 ∧ fldOk f tr 2 (mp2 tr) (nd.length : Int) (nd ++ [(2, p, moL tr)])) (hc2 : 2 ≤ mc) (hs2 : 16 ≤ ms) (hmc : 2 ≤ (mp2 tr).length → 2 + csC (cC f) tr 2 (mp2 tr) (mp2 tr).length ≤ mc) (hms : 2 ≤ (mp2 tr).length → 16 + csS (cS f) tr 2 (mp2 tr) (mp2 tr).length ≤ ms) : Fn yX4_mineChoice cX4_mineChoice 11 (some .boolean) (2 * f + 5) [.ref a, .ref b, .int (iI (moL tr : Int)), .ref fr, .int (iI p)] n M0 mc ms (MCut a n f M0 R P Z tr 2 (mp2 tr) (2 ≤ (mp2 tr).length) p nd) := by
  refine Fn.of (by decide) [some _, some _, some _, some _, some _, none, none, none, none, none, none] rfl rfl (Nat.le_of_ble_eq_true rfl) ?_
  intro g G hin hO
  obtain ⟨hgl, hl12⟩ := id hgd
  obtain ⟨hlab, ht1, ht2⟩ := id hgl
  have hall := lbL_lt hlab
  have hfo8 := foL_lt hlab (Nat.le_refl tr.length)
  have hbig : a + 9 ≤ n := by
    have := hbn _ _ (hM.at 8 rfl)
    omega
  have hpl := paL_len (set := moL tr) (jn := moF tr)
  have hpa := paL_all (jn := moF tr) (show moL tr < 256 from hall)
  refine J.iload_n (pc := 0) G dX4_mineChoice_0 rfl ?_
  refine J.aload_n (pc := 1) G dX4_mineChoice_1 rfl ?_
  refine J.callS (pc := 2) (na := 2) G (m_parts n M0 (jr := fr) (set := moL tr) (jn := moF tr) hfo (hbn _ _ hfo) hfo8 hall) q843 q844 q845 q5 (by decide +kernel) dX4_mineChoice_2 rfl (Nat.le_of_ble_eq_true rfl) rfl ⟨by omega, by decide, by omega, by omega⟩ ?_
  rintro r9 n9 M1 ⟨hr9, hn9, hps, hag1⟩
  dsimp only [Option.toList, List.cons_append, List.nil_append]
  subst hr9
  subst hn9
  dsimp only [Option.toList, List.cons_append, List.nil_append]
  have eps : paL (moL tr) (moF tr) = mp2 tr := rfl
  rw [eps] at hps hpl hpa
  generalize mp2 tr = ps at hO hok hmc hms hps hpl hpa
  have hM1 := hM.al hbn hag1
  refine J.astore (L' := [_, _, _, _, _, _, _, _, _, _, _]) (pc := 5) G dX4_mineChoice_5 rfl (Nat.le_of_ble_eq_true rfl) rfl ?_
  refine J.aload (pc := 7) G dX4_mineChoice_7 rfl ?_
  refine J.alenI (pc := 9) G dX4_mineChoice_9 hps ?_
  refine J.iconstN (pc := 10) G dX4_mineChoice_10 2 rfl ?_
  refine J.icmp_geN (pc := 11) (tgt := 16) G dX4_mineChoice_11 (by decide) (by omega) (by decide) (fun h2 => ?_) (fun h2 => ?_)
  · obtain ⟨hok1, hok2⟩ := hok h2
    have hmc := hmc h2
    have hms := hms h2
    have h8 := hT.1
    refine J.aload_n (pc := 16) G dX4_mineChoice_16 rfl ?_
    refine J.iconstN (pc := 17) G dX4_mineChoice_17 2 rfl ?_
    refine J.iload (pc := 18) G dX4_mineChoice_18 rfl ?_
    refine J.iload_n (pc := 20) G dX4_mineChoice_20 rfl ?_
    refine J.callV (pc := 21) (na := 3) G (m_add (n + 2) M1 (kd := 2) (set := moL tr) (p := p) hM1 (by omega)) q828 q830 qp43 q831 q5 (by decide +kernel) dX4_mineChoice_21 (hM1.at 0 rfl) rfl rfl (Nat.le_of_ble_eq_true rfl) rfl ⟨by omega, by decide, by omega, by omega⟩ ?_
    rintro r9 n9 M2 ⟨hr9, hn9, ⟨hM2, hFr2⟩⟩
    subst hr9
    rw [hn9]
    clear hn9 n9
    dsimp only [Option.toList, List.cons_append, List.nil_append]
    rw [h8]
    have hT2 := hT.add (kd := 2) (set := moL tr) (p := p)
    have hps2 : M2 (n + 1) = some (cN ps.length (gd ps)) := (hFr2 (n + 1) (by omega)).trans hps
    refine J.istore (L' := [_, _, _, _, _, _, _, _, _, _, _]) (pc := 24) G dX4_mineChoice_24 rfl (Nat.le_of_ble_eq_true rfl) rfl ?_
    refine J.aload (pc := 26) G dX4_mineChoice_26 rfl ?_
    refine J.astore (L' := [_, _, _, _, _, _, _, _, _, _, _]) (pc := 28) G dX4_mineChoice_28 rfl (Nat.le_of_ble_eq_true rfl) rfl ?_
    refine J.aload (pc := 30) G dX4_mineChoice_30 rfl ?_
    refine J.alenI (pc := 32) G dX4_mineChoice_32 hps2 ?_
    refine J.istore (L' := [_, _, _, _, _, _, _, _, _, _, _]) (pc := 33) G dX4_mineChoice_33 rfl (Nat.le_of_ble_eq_true rfl) rfl ?_
    refine J.iconstN (pc := 35) G dX4_mineChoice_35 0 rfl ?_
    refine J.istore (L' := [_, _, _, _, _, _, _, _, _, _, _]) (pc := 36) G dX4_mineChoice_36 rfl (Nat.le_of_ble_eq_true rfl) rfl ?_
    have K1 : ∀ s : Nat × Nat × AH × (Nat → Nat → Nat) × (Nat → Int) × (Nat → Nat), (s.1 ≤ ps.length ∧ n + 2 ≤ s.2.1 ∧ Cl s.2.2.1 a (modC a s.2.2.2.1 s.2.2.2.2.1 s.2.2.2.2.2) ∧ MdG s.2.2.2.1 s.2.2.2.2.1 s.2.2.2.2.2 (fld f tr 2 ps (nd.length : Int) (nd ++ [(2, p, moL tr)]) s.1) ∧ KpW R Z s.2.2.2.1 s.2.2.2.2.2 ∧ s.2.2.1 (n + 1) = some (cN ps.length (gd ps)) ∧ FrM a n M0 s.2.2.1) → ∀ l10, J g (2 + csC (cC f) tr 2 ps s.1) (16 + csS (cS f) tr 2 ps s.1) s.2.1 s.2.2.1 [some (.ref a), some (.ref b), some (.int (iI (moL tr : Int))), some (.ref fr), some (.int (iI p)), some (.ref (n + 1)), some (.int (iI (nd.length : Int))), some (.ref (n + 1)), some (.int (iI (ps.length : Int))), some (.int (iI (s.1 : Int))), l10] 38 [] := by
      refine loopJ (fun s => ps.length - s.1) _ _ ?_
      rintro ⟨i, nc, M, R1, P1, Z1⟩ ⟨hi, hnc, hM, hT, hK, hps, hFr⟩ ih l10
      dsimp only at hi hnc hM hT hK hps hFr ih ⊢
      refine J.iload (pc := 38) G dX4_mineChoice_38 rfl ?_
      refine J.iload (pc := 40) G dX4_mineChoice_40 rfl ?_
      refine J.icmp_geN (pc := 42) (tgt := 71) G dX4_mineChoice_42 (by decide) (by omega) (by omega) (fun h5 => ?_) (fun h5 => ?_)
      · have hie : i = ps.length := by omega
        subst hie
        refine J.iconstN (pc := 71) G dX4_mineChoice_71 1 rfl ?_
        exact J.zret1 (pc := 72) G hO dX4_mineChoice_72 (by omega) (by omega) ⟨by omega, hFr, Or.inl ⟨h2, rfl, R1, P1, Z1, hM, hT, hK⟩⟩
      · refine J.dom (fun hbc => ?_)
        have hgi := hpa i h5
        obtain ⟨hd1, hd2⟩ := hok2 i h5
        have hst := csC_to (F := cC f) (tr := tr) (kd := 2) (ps := ps) (show i + 1 ≤ ps.length by omega)
        have hss := csS_to (F := cS f) (tr := tr) (kd := 2) (ps := ps) (show i + 1 ≤ ps.length by omega)
        have e1 : csC (cC f) tr 2 ps (i + 1) = csC (cC f) tr 2 ps i + (opC tr 2 (gd ps i) + cC f (takeF tr (gd ps i) 2)) := rfl
        have e2 : csS (cS f) tr 2 ps (i + 1) = csS (cS f) tr 2 ps i + (opS tr 2 (gd ps i) + cS f (takeF tr (gd ps i) 2)) := rfl
        have e3 : opC tr 2 (gd ps i) = tr.length + 2 := rfl
        have e4 : opS tr 2 (gd ps i) = 2 * tr.length + tot (takeI (gd ps i) false false tr tr.length) := rfl
        have e5 : takeF tr (gd ps i) 2 = takeI (gd ps i) false false tr tr.length := rfl
        have hstep : fld f tr 2 ps (nd.length : Int) (nd ++ [(2, p, moL tr)]) (i + 1) = growF f (takeF tr (gd ps i) 2) (nd.length : Int) (fld f tr 2 ps (nd.length : Int) (nd ++ [(2, p, moL tr)]) i) := rfl
        have hgM : LgB M b (a + 9) tr := hg.keep hbn (fun x g1 g2 => hFr x g2 (by omega))
        generalize fld f tr 2 ps (nd.length : Int) (nd ++ [(2, p, moL tr)]) i = nq at hT hd2 hstep
        refine J.aload (pc := 45) G dX4_mineChoice_45 rfl ?_
        refine J.iload (pc := 47) G dX4_mineChoice_47 rfl ?_
        refine J.ialdN (pc := 49) G dX4_mineChoice_49 hps h5 (by omega) ?_
        refine J.istore (L' := [_, _, _, _, _, _, _, _, _, _, _]) (pc := 50) G dX4_mineChoice_50 rfl (Nat.le_of_ble_eq_true rfl) rfl ?_
        refine J.aload_n (pc := 52) G dX4_mineChoice_52 rfl ?_
        refine J.aload_n (pc := 53) G dX4_mineChoice_53 rfl ?_
        refine J.iload (pc := 54) G dX4_mineChoice_54 rfl ?_
        refine J.iconstN (pc := 56) G dX4_mineChoice_56 0 rfl ?_
        refine J.topv (b := bI false) rfl ?_
        refine J.callS (pc := 57) (na := 3) G (m_only nc M (b := b) (set := gd ps i) (we := false) (tr := tr) hgM.lg hbc hgi.2 hlab (by omega) (fun t ht => by have := hl12 t ht; omega)) q832 q833 q834 q5 (by decide +kernel) dX4_mineChoice_57 rfl (Nat.le_of_ble_eq_true rfl) rfl ⟨by omega, by decide, by omega, by omega⟩ ?_
        rintro r9 n9 M3 ⟨hr9, hn9, hlg3, hag3⟩
        dsimp only [Option.toList, List.cons_append, List.nil_append]
        subst hr9
        subst hn9
        dsimp only [Option.toList, List.cons_append, List.nil_append]
        rw [← e5] at hlg3 e4 ⊢
        have hM3 := hM.al hbc hag3
        refine J.dom (fun hbc3 => ?_)
        refine J.iload (pc := 60) G dX4_mineChoice_60 rfl ?_
        refine J.callV (pc := 62) (na := 2) G (hrec (nc + 2 + (takeF tr (gd ps i) 2).length) M3 (nc + 1 + (takeF tr (gd ps i) 2).length) (nd.length : Int) (takeF tr (gd ps i) 2) nq R1 P1 Z1 (hlg3.wide (by omega)) hbc3 (takeF_goodM hgd) hM3 hT ⟨by omega, by omega⟩ hd1 hd2) q821 q823 qp42 q824 q5 (by decide +kernel) dX4_mineChoice_62 (hM3.at 0 rfl) rfl rfl (Nat.le_of_ble_eq_true rfl) rfl ⟨by omega, by decide, by omega, by omega⟩ ?_
        rintro r8 n8 M4 ⟨hr8, hn8, ⟨R4, P4, Z4, hM4, hT4, hK4⟩, hFr4⟩
        dsimp only [Option.toList, List.cons_append, List.nil_append]
        subst hr8
        dsimp only [Option.toList, List.cons_append, List.nil_append]
        refine J.iincN (L' := [_, _, _, _, _, _, _, _, _, _, _]) (pc := 65) G dX4_mineChoice_65 1 rfl rfl rfl rfl ?_
        refine J.goto (pc := 68) (tgt := 38) G dX4_mineChoice_68 (by decide) ?_
        refine J.wid (k' := 2 + csC (cC f) tr 2 ps (i + 1)) (z' := 16 + csS (cS f) tr 2 ps (i + 1)) (by omega) (by omega) ?_
        exact ih (i + 1, n8, M4, R4, P4, Z4) ⟨by dsimp only; omega, by dsimp only; omega, hM4, by dsimp only; rw [hstep]; exact hT4, hK.tr hK4, (hFr4 (n + 1) (by omega) (by omega)).trans ((hag3 _ (by omega)).trans hps), hFr.tr (FrM.tr (FrM.al hag3) hFr4 (by omega)) (by omega)⟩ (by dsimp only; omega) _
    refine J.wid (k' := 2 + csC (cC f) tr 2 ps 0) (z' := 16 + csS (cS f) tr 2 ps 0) (by show _ ≤ 2 + 0; omega) (by show _ ≤ 16 + 0; omega) ?_
    exact K1 (0, n + 2, M2, _, _, _) ⟨Nat.zero_le _, Nat.le_refl _, hM2, hT2, KpW.add, hps2, FrM.tr (FrM.al hag1) (FrM.fr (n := n) hFr2) (Nat.le_refl _)⟩ _
  · refine J.iconstN (pc := 14) G dX4_mineChoice_14 0 rfl ?_
    exact J.zret0 (pc := 15) G hO dX4_mineChoice_15 (by omega) (by omega) ⟨by omega, FrM.al hag1, Or.inr ⟨by omega, rfl, hM1⟩⟩
end MINE1
