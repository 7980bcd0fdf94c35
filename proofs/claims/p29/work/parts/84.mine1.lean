section MINE1
/-- a log that is not too large -/
def GoodM (tr : List (List Nat)) : Prop := GoodL tr ∧ ∀ t, t < tr.length → (tr.getD t []).length ≤ 12
def L12 (tr : List (List Nat)) : Prop := ∀ t, t < tr.length → (tr.getD t []).length ≤ 12
theorem L12.app {tr : List (List Nat)} {w : List Nat} (h : L12 tr) (hw : w.length ≤ 12) : L12 (tr ++ [w]) := by
  intro t ht
  rw [List.length_append, List.length_singleton] at ht
  rw [getD_app]
  split
  · exact hw
  · exact h t (by omega)
theorem tkT_12 {part : Nat} {sp : Bool} {q : List (List Nat)} {t : List Nat} (hq : L12 q) : ∀ k, k ≤ 12 → L12 (tkT part sp (q, []) t k).1 ∧ (tkT part sp (q, []) t k).2.length ≤ k
  | 0, _ => ⟨hq, Nat.le_refl _⟩
  | k + 1, hk => by
    obtain ⟨h1, h2⟩ := tkT_12 (part := part) (sp := sp) (t := t) hq k (by omega)
    rw [tkT_s]
    unfold tkS
    split
    · exact ⟨h1, by dsimp only; rw [List.length_append]; show _ + 1 ≤ _; omega⟩
    · split
      · exact ⟨h1.app (by omega), Nat.zero_le _⟩
      · exact ⟨h1, by omega⟩
theorem takeF_12 {tr : List (List Nat)} {part kind : Nat} (h : L12 tr) : L12 (takeF tr part kind) :=
  it_inv (f := fun i q => tkL part (decide (kind = 5)) (decide (kind = 3 ∨ kind = 4)) q (tr.getD i [])) (s := []) (fun _ q => L12 q) tr.length (fun t ht => absurd ht (Nat.not_lt_zero t)) (fun i q hi hq => by
    have hl := h i hi
    obtain ⟨h1, h2⟩ := tkT_12 (part := part) (sp := decide (kind = 5)) (t := tr.getD i []) hq (tr.getD i []).length hl
    unfold tkL
    split
    · exact h1.app (by omega)
    · exact h1)
theorem takeF_goodM {tr : List (List Nat)} {part kind : Nat} (h : GoodM tr) : GoodM (takeF tr part kind) := ⟨takeF_good h.1, takeF_12 h.2⟩
/-- what the model looks at -/
def emB (tr : List (List Nat)) (k : Nat) : Bool := anyU (fun t => decide ((tr.getD t []).length = 0)) k
def siB (tr : List (List Nat)) (k : Nat) : Bool := !anyU (fun t => !decide ((tr.getD t []).length = 1)) k
def moL (tr : List (List Nat)) : Nat := lbL tr tr.length
def moF (tr : List (List Nat)) : Nat → Nat := foL tr tr.length
def moB (tr : List (List Nat)) : Nat := egL tr false tr.length
def moE (tr : List (List Nat)) : Nat := egL tr true tr.length
def mp2 (tr : List (List Nat)) : List Nat := paL (moL tr) (moF tr)
def ahF (rc : Nat → Nat) (ps : List Nat) (part k : Nat) : Nat := it (fun i s => if gd ps i ≠ part ∧ (rc (loF (gd ps i))).testBit (loF part) = true then s + 1 else s) 0 k
def orI (rc : Nat → Nat) (ps : List Nat) (place : Nat) (l : List Nat) (k : Nat) : List Nat := it (fun i l => if ahF rc ps (gd ps i) ps.length = place then l ++ [gd ps i] else l) l k
def orM (rc : Nat → Nat) (ps : List Nat) (k : Nat) : List Nat := it (fun pl l => orI rc ps pl l ps.length) [] k
def mq3 (tr : List (List Nat)) : List Nat := paL (moL tr) (fillN (nearO (rall (moF tr))) (fun _ => 0) 8)
def mp3 (tr : List (List Nat)) : List Nat := orM (rall (moF tr)) (mq3 tr) (mq3 tr).length
def mq4 (tr : List (List Nat)) : List Nat := paL (moL tr) (fillN (nearB (moF tr)) (fun _ => 0) 8)
def mp4 (tr : List (List Nat)) : List Nat := jl (moB tr) (moE tr) 8 (mq4 tr)
def agS (be en : Nat) (fo : Nat → Nat) (k : Nat) (s : Nat × List Nat) : Nat × List Nat := if gd s.2 k ≠ 0 ∧ beF (gd s.2 k) s.1 be en fo 8 = true then (s.1 ||| gd s.2 k, s.2.set k 0) else s
def agP (be en : Nat) (fo : Nat → Nat) (s : Nat × List Nat) (k : Nat) : Nat × List Nat := it (agS be en fo) s k
def agN (be en : Nat) (fo : Nat → Nat) (s : Nat × List Nat) (j : Nat) : Nat × List Nat := it (fun _ s => agP be en fo s s.2.length) s j
def mq5 (tr : List (List Nat)) : Nat × List Nat := agN (moB tr) (moE tr) (moF tr) (moB tr ||| moE tr, paL (andn (moL tr) (moB tr ||| moE tr)) (moF tr)) 9
def mp5 (tr : List (List Nat)) : List Nat := (mq5 tr).1 :: (mq5 tr).2.filter (fun x => decide (x ≠ 0))
def cutM (tr : List (List Nat)) : Nat × List Nat :=
  if moL tr = 0 then (0, []) else if emB tr tr.length then (2, [moL tr]) else
  if popc (moL tr) = 1 then (if siB tr tr.length then (1, []) else (5, [])) else
  if 2 ≤ (mp2 tr).length then (2, mp2 tr) else
  if 2 ≤ (mq3 tr).length then (3, mp3 tr) else
  if 2 ≤ (mp4 tr).length then (4, mp4 tr) else
  if (mq5 tr).1 ≠ moL tr then (5, mp5 tr) else (6, [])
/-- the model cuts as the miner does -/
def CutQ (tr : List (List Nat)) : Prop := cutT tr = cutM tr ∧ (mL tr).1 = moL tr ∧ (moL tr ≠ 0 → (0 < (mL tr).2.2.2.1 ↔ emB tr tr.length = true)) ∧ ((cutM tr).1 = 5 ∧ (cutM tr).2.length = 0 → popc (moL tr) = 1)
/-- cutting comes to its end -/
def dpOk : Nat → List (List Nat) → Prop
  | 0, _ => False
  | f + 1, tr => ∀ i, i < (cutT tr).2.length → dpOk f (takeF tr (gd (cutT tr).2 i) (cutT tr).1)
theorem paO_all {jn : Nat → Nat} : ∀ (f left : Nat) (ps : List Nat), left < 256 → (∀ i, i < ps.length → 0 < gd ps i ∧ gd ps i < 256) → ∀ i, i < (paO jn f left ps).length → 0 < gd (paO jn f left ps) i ∧ gd (paO jn f left ps) i < 256
  | 0, _, _, _, h => h
  | f + 1, left, ps, hl, h => by
    rw [paO]
    split
    · exact h
    · rename_i h0
      refine paO_all f _ _ (andn_lt8 hl) (fun i hi => ?_)
      rw [List.length_append, List.length_singleton] at hi
      rw [gd_snoc]
      split
      · refine ⟨?_, paJ_lt hl (by omega) 256⟩
        have := paJ_bit (left := left) (jn := jn) 256
        rcases Nat.eq_zero_or_pos (paF left jn) with q | q
        · rw [show paJ left jn 256 = 0 from q, Nat.zero_testBit] at this
          cases this
        · exact q
      · exact h i (by omega)
theorem paL_all {set : Nat} {jn : Nat → Nat} (h : set < 256) : ∀ i, i < (paL set jn).length → 0 < gd (paL set jn) i ∧ gd (paL set jn) i < 256 := paO_all 8 set [] h (fun i hi => absurd hi (Nat.not_lt_zero i))
theorem lbL_lt {tr : List (List Nat)} (h : LabL tr) : lbL tr tr.length < 256 :=
  it_inv (f := fun t s => lbI (tr.getD t []) s (tr.getD t []).length) (s := 0) (fun _ s => s < 256) tr.length (by decide) (fun t s ht hs =>
    it_inv (f := fun i s => s ||| 2 ^ gd (tr.getD t []) i) (s := s) (fun _ v => v < 256) (tr.getD t []).length hs (fun i v hi hv => or_lt8 hv (pow_lt8 (h t ht i hi))))
end MINE1
