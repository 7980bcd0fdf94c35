section HEAP1
variable {g : GT} {ow : String} {cc : ByteArray} {nL d mc ms k z n pc : Nat} {M : AH} {L : List (Option Value)} {st : List Value}
theorem P1 {D : va_G} {cl : List vw_C} {q : Nat × va_E} {H : Heap} (h : va_at D cl q H) : va_P D cl [q] H := by
  intro i x hx
  have hz : i < 1 := (List.getElem?_eq_some_iff.mp hx).1
  rw [show i = 0 by omega] at hx
  cases hx
  exact h
/-- one cell is new, the others stay -/
def hset (M : AH) (a : Nat) (x : Ce) : AH := fun q => if q = a then some x else M q
theorem hset_s {M : AH} {a : Nat} {x : Ce} : hset M a x a = some x := by simp [hset]
theorem hset_n {M : AH} {a q : Nat} {x : Ce} (h : q ≠ a) : hset M a x q = M q := by simp [hset, h]
theorem Rp.set {E : En} {lo n : Nat} {M : AH} {H H' : Heap} {a : Nat} {x0 x : Ce} (hR : Rp E lo n M H) (hM : M a = some x0) (e1 : va_at E.1 vwCl (a, toE E x) H') (e2 : H'.size = H.size) (e3 : ∀ q : Nat, q ≠ a → H'[q]? = H[q]?) : Rp E lo n (hset M a x) H' := by
  refine ⟨e2.trans hR.1, hR.2.1, fun q y hq => ?_⟩
  by_cases h : q = a
  · subst h
    rw [hset_s] at hq
    cases hq
    exact ⟨(hR.2.2 _ _ hM).1, (hR.2.2 _ _ hM).2.1, e1⟩
  · rw [hset_n h] at hq
    obtain ⟨h1, h2, h3⟩ := hR.2.2 _ _ hq
    exact ⟨h1, h2, h3.kept (e3 q h)⟩
theorem Rp.new {E : En} {lo n : Nat} {M : AH} {H H' : Heap} {x : Ce} (hR : Rp E lo n M H) (e1 : va_at E.1 vwCl (n, toE E x) H') (e2 : H'.size = n + 1) (e3 : ∀ q : Nat, q < n → H'[q]? = H[q]?) : Rp E lo (n + 1) (hset M n x) H' := by
  refine ⟨e2, Nat.le_succ_of_le hR.2.1, fun q y hq => ?_⟩
  by_cases h : q = n
  · subst h
    rw [hset_s] at hq
    cases hq
    exact ⟨hR.2.1, Nat.lt_succ_self _, e1⟩
  · rw [hset_n h] at hq
    obtain ⟨h1, h2, h3⟩ := hR.2.2 _ _ hq
    exact ⟨h1, Nat.lt_succ_of_lt h2, h3.kept (e3 q h2)⟩
theorem Rp.none {E : En} {lo n : Nat} {M : AH} {H : Heap} (hR : Rp E lo n M H) {q : Nat} (hq : n ≤ q) : M q = none := by
  cases h : M q with
  | none => rfl
  | some x => exact absurd (hR.2.2 q x h).2.1 (by omega)
theorem J.getf (G : Cx g ow cc nL d mc ms) {C : String} {T : u_T} {N ci idx a : Nat} {fs : List Value} {v : Value} (hin : ∀ w ∈ u_ws C T N, w ∈ wG) (hc : vwCl[ci]? = some (C, T, N)) (i : Nat) (hw : Cond.fieldLink ow idx (T i).1 (T i).2.1 (T i).2.2.1 ∈ wG) (hd : decode cc pc = .ok (.getfield idx, 3)) (hM : M a = some (cO ci fs)) (hi : i < N) (hv : fs[i]? = some v) (kk : J g k z n M L (pc + 3) (v :: st)) : J g k z n M L pc (.ref a :: st) := by
  intro H locs ls hR hS hl
  exact va_get G.exec G.bytes G.words hin G.own G.kw.1 (P1 (hR.2.2 a _ hM).2.2) 0 rfl hc i hi (G.words _ hw) (fun _ h => h) hv hd (kk H locs ls hR hS hl)
theorem J.putf (G : Cx g ow cc nL d mc ms) {C : String} {T : u_T} {N ci idx a : Nat} {fs : List Value} {v : Value} {ty : FieldType} (hin : ∀ w ∈ u_ws C T N, w ∈ wG) (hc : vwCl[ci]? = some (C, T, N)) (ty0 : Nat → FieldType) (hty : ∀ k, k < N → parseFieldDescriptor (T k).2.2.1 = some (ty0 k)) (hnm : ∀ a, a < N → ∀ b, b < N → a ≠ b → (T a).2.1 ≠ (T b).2.1) (i : Nat) (hw : Cond.fieldLink ow idx (T i).1 (T i).2.1 (T i).2.2.1 ∈ wG) (hd : decode cc pc = .ok (.putfield idx, 3)) (hM : M a = some (cO ci fs)) (hi : i < N) (hl9 : i < fs.length) (hfin : (T i).2.2.2 = false ∨ ((gM g).name = "<init>" ∧ (T i).1 = ow)) (hde : parseFieldDescriptor (T i).2.2.1 = some ty) (hn : narrow ty v = v) (hfit : fits ty v = true) (kk : ∀ M' : AH, M' a = some (cO ci (fs.set i v)) → (∀ q, q ≠ a → M' q = M q) → J g k z n M' L (pc + 3) st) : J g k z n M L pc (v :: .ref a :: st) := by
  intro H locs ls hR hS hl
  have hP := P1 (hR.2.2 a _ hM).2.2
  have hcont : ∀ (H1 : Heap) (locs1 : List Loc), va_at (gE g).1 vwCl (a, .inr (ci, fs.set i v)) H1 → H1.size = H.size → (∀ q : Nat, q ≠ a → H1[q]? = H[q]?) → va_S (fun q => glo g ≤ q) (gs g).heap H1 locs1 → W (gp g) (gl g) (ge g) (gR g) (gs g) (gm g) (ga g) (gb g) (gM g) (gc g) H1 locs1 k z (gQ g) (F0 (gm g) (pc + 3) ls st) := by
    intro H1 locs1 h1 h2 h3 h4
    exact kk (hset M a (cO ci (fs.set i v))) hset_s (fun q hq => hset_n hq) H1 locs1 ls (hR.set hM h1 h2 h3) h4 hl
  have hap := va_apart (own := ow) G.words hin ty0 hty hnm G.kw.1 hc
  obtain ⟨r, h1, cell, q1, q2, q3, q4⟩ := hP 0 _ rfl
  have hr : r = (C, T, N) := Option.some.inj (h1.symm.trans hc)
  subst hr
  obtain ⟨hSl, hfc, kC, hkC, hkind⟩ := G.kw.1.1 ci _ hc
  obtain ⟨cf, kf, fi, f, hfd, hsl⟩ := hSl i hi
  have hlays := u_lays G.words hin hi
  have hst := (u_facts hfc hkC hlays hfd).1
  rcases hfin with hfin | ⟨hini, hdecl⟩
  · have hlay := G.words _ (hin _ (u_in_lay hi))
    unfold u_lay at hlay
    rw [if_neg (by rw [hfin]; decide)] at hlay
    have h6 := u_store hfc hkC hkind hlay hfd hde hn hfit
    refine W.putK G.exec G.bytes (f := f) ⟨G.own, G.words _ hw, ⟨_, _, _, hfd⟩, hst⟩ (by rw [q2]; exact h6) q1 q3 (by rw [hsl]; exact k2_hasslot (q4 i hi)) rfl rfl hd fun H' e1 e2 e3 => ?_
    rw [hsl] at e1 ⊢
    exact hcont H' _ ⟨_, hc, t_OB.to (V := updV (vp_V fs) i v) ⟨_, e1, q2, q3, t_set q4 hap hi v⟩ (fun j _ => vp_updV_set hl9 v j)⟩ e2 e3 (hS.put e2 e3 (hR.2.2 a _ hM).1)
  · have hlay := G.words _ (hin _ (u_in_lay hi))
    unfold u_lay at hlay
    by_cases hfin : (T i).2.2.2 = true
    · rw [if_pos hfin] at hlay
      have hcf : (gm g).cls = cf := by
        obtain ⟨_, _, c', _, _, _, -, -, hf', -, -, -, hown2, -⟩ := Cond.laysFinal_spec hlay
        have e1 : c' = cf := by have := hfd.symm.trans hf'; simp at this; exact this.1.symm
        rw [hdecl] at hown2
        rw [← e1]; exact Option.some.inj (G.own.symm.trans hown2)
      have h6 := u_fits hfc hkC hkind (Or.inr hlay) hfd hde hn hfit
      refine W.putFinK G.exec G.bytes G.own (G.words _ hw) hfd hst hcf hini (by rw [q2]; exact h6) q1 q3 (by rw [hsl]; exact k2_hasslot (q4 i hi)) rfl rfl hd fun H' e1 e2 e3 => ?_
      rw [hsl] at e1 ⊢
      exact hcont H' _ ⟨_, hc, t_OB.to (V := updV (vp_V fs) i v) ⟨_, e1, q2, q3, t_set q4 hap hi v⟩ (fun j _ => vp_updV_set hl9 v j)⟩ e2 e3 (hS.put e2 e3 (hR.2.2 a _ hM).1)
    · rw [if_neg hfin] at hlay
      have h6 := u_store hfc hkC hkind hlay hfd hde hn hfit
      refine W.putK G.exec G.bytes (f := f) ⟨G.own, G.words _ hw, ⟨_, _, _, hfd⟩, hst⟩ (by rw [q2]; exact h6) q1 q3 (by rw [hsl]; exact k2_hasslot (q4 i hi)) rfl rfl hd fun H' e1 e2 e3 => ?_
      rw [hsl] at e1 ⊢
      exact hcont H' _ ⟨_, hc, t_OB.to (V := updV (vp_V fs) i v) ⟨_, e1, q2, q3, t_set q4 hap hi v⟩ (fun j _ => vp_updV_set hl9 v j)⟩ e2 e3 (hS.put e2 e3 (hR.2.2 a _ hM).1)
/-! rows of numbers -/
theorem J.alen (G : Cx g ow cc nL d mc ms) {a K len : Nat} {x : vp_A} (hd : decode cc pc = .ok (.arraylength, 1)) (hM : M a = some (.inr (K, x))) (hK : K < 5) (hx : x.1 = len) (hfit : ∀ (cA : ClassId) (ty : FieldType), ArrOfT (gs g) cA ty → (gs g).isArrayOf (vp_cell cA x) ty) (kk : J g k z n M L (pc + 1) (.int (iI (len : Int)) :: st)) : J g k z n M L pc (.ref a :: st) := by
  intro H locs ls hR hS hl
  have hcell : H[a]? = some (vp_cell ((gE g).2 K) x) := (hR.2.2 a _ hM).2.2
  have hsz : (vp_cell ((gE g).2 K) x).slots.size = x.1 := by
    obtain ⟨n, f | f | f | f | f⟩ := x <;> exact arrV_size _ _ _
  have hty : ∃ ty, ArrOfT (gs g) ((gE g).2 K) ty := by
    have hk2 := G.kw.1.2
    rcases (show K = 0 ∨ K = 1 ∨ K = 2 ∨ K = 3 ∨ K = 4 by omega) with rfl | rfl | rfl | rfl | rfl
    · exact ⟨_, (hk2 0 _ rfl).1⟩
    · exact ⟨_, (hk2 1 _ rfl).1⟩
    · exact ⟨_, (hk2 2 _ rfl).1⟩
    · exact ⟨_, (hk2 3 _ rfl).1⟩
    · exact ⟨_, (hk2 4 _ rfl).1⟩
  obtain ⟨ty, hty⟩ := hty
  refine W.alen (n := iI (len : Int)) G.exec G.bytes hcell (hfit _ ty hty) ?_ rfl rfl hd (kk H locs ls hR hS hl)
  rw [hsz, hx, iI_nat]
  rfl
theorem J.alenI (G : Cx g ow cc nL d mc ms) {a len : Nat} {f : Nat → Int32} (hd : decode cc pc = .ok (.arraylength, 1)) (hM : M a = some (.inr (0, len, .inl f))) (kk : J g k z n M L (pc + 1) (.int (iI (len : Int)) :: st)) : J g k z n M L pc (.ref a :: st) :=
  J.alen G hd hM (by decide) rfl (fun _ _ h => h len (fun j => .int (f j))) kk
theorem J.alenR (G : Cx g ow cc nL d mc ms) {a K len : Nat} {f : Nat → Option Nat} (hd : decode cc pc = .ok (.arraylength, 1)) (hM : M a = some (cR K len f)) (hK : K < 5) (kk : J g k z n M L (pc + 1) (.int (iI (len : Int)) :: st)) : J g k z n M L pc (.ref a :: st) :=
  J.alen G hd hM hK rfl (fun _ _ h => h len (fun j => va_rf (f j))) kk
theorem J.iald (G : Cx g ow cc nL d mc ms) {a len : Nat} {f : Nat → Int} {zi : Int} (hd : decode cc pc = .ok (.iaload, 1)) (hM : M a = some (cA len f)) (j : Nat) (hz : zi = (j : Int)) (hj : j < len) (hN : len < 2147483648) (kk : J g k z n M L (pc + 1) (.int (iI (f j)) :: st)) : J g k z n M L pc (.int (iI zi) :: .ref a :: st) := by
  intro H locs ls hR hS hl
  subst hz
  refine va_iald G.exec G.bytes G.kw.1 (P1 (hR.2.2 a _ hM).2.2) 0 0 rfl rfl (iI_vp hj hN) hd ?_
  rw [iI_cl (by omega)]
  exact kk H locs ls hR hS hl
theorem J.iast (G : Cx g ow cc nL d mc ms) {a len : Nat} {f : Nat → Int} {zi v : Int} (hd : decode cc pc = .ok (.iastore, 1)) (hM : M a = some (cA len f)) (j : Nat) (hz : zi = (j : Int)) (hj : j < len) (hN : len < 2147483648) (kk : ∀ M' : AH, M' a = some (cA len (upI f j v)) → (∀ q, q ≠ a → M' q = M q) → J g k z n M' L (pc + 1) st) : J g k z n M L pc (.int (iI v) :: .int (iI zi) :: .ref a :: st) := by
  intro H locs ls hR hS hl
  subst hz
  have hin : vp_in (iI (j : Int)) len := iI_vp hj hN
  have hcell : H[a]? = some (vp_cell ((gE g).2 0) (len, .inl (fun j => iI (f j)))) := (hR.2.2 a _ hM).2.2
  refine W.iast G.exec G.bytes hcell ((G.kw.1.2 0 _ rfl).1 len (fun j => .int (iI (f j)))) (fun q => by cases q) (by show ¬ (_ ∨ (arrV _ _ _).slots.size ≤ _); rw [arrV_size]; exact hin) rfl rfl hd fun H1 e zz oq => ?_
  refine kk (hset M a (cA len (upI f j v))) hset_s (fun q hq => hset_n hq) H1 _ ls (hR.set hM ?_ zz oq) (hS.put zz oq (hR.2.2 a _ hM).1) hl
  show H1[a]? = some (vp_cell _ _)
  rw [e, vp_cell_i, vp_cell_i, arrV_store, iI_cl (by omega)]
  congr 2
  funext q
  by_cases hq : q = j
  · subst hq; simp [updV, upI]
  · simp [updV, upI, hq]
theorem J.aald (G : Cx g ow cc nL d mc ms) {a len K : Nat} {f : Nat → Option Nat} {zi : Int} {b : Nat} (hd : decode cc pc = .ok (.aaload, 1)) (hM : M a = some (cR K len f)) (hK : K = 3 ∨ K = 4) (j : Nat) (hz : zi = (j : Int)) (hj : j < len) (hN : len < 2147483648) (hf : f j = some b) (kk : J g k z n M L (pc + 1) (.ref b :: st)) : J g k z n M L pc (.int (iI zi) :: .ref a :: st) := by
  intro H locs ls hR hS hl
  subst hz
  have hin : vp_in (iI (j : Int)) len := iI_vp hj hN
  have hcell : H[a]? = some (vp_cell ((gE g).2 K) (len, .inr (.inr (.inr (.inr f))))) := (hR.2.2 a _ hM).2.2
  have hty : ∃ ty : FieldType, ty.isReference = true ∧ ArrOfT (gs g) ((gE g).2 K) ty := by
    rcases hK with rfl | rfl
    · exact ⟨_, rfl, (G.kw.1.2 3 _ rfl).1⟩
    · exact ⟨_, rfl, (G.kw.1.2 4 _ rfl).1⟩
  obtain ⟨ty, hty, hA⟩ := hty
  refine W.aald (v := va_rf (f j)) (ty := ty) G.exec G.bytes hcell (hA len (fun j => va_rf (f j))) hty (fun q => by cases q) (by show ¬ (_ ∨ (arrV _ _ _).slots.size ≤ _); rw [arrV_size]; exact hin) (by show (arrV _ _ _).slots[_]? = _; rw [iI_cl (by omega), arrV_read _ _ hj]) rfl rfl hd ?_
  rw [hf]
  exact kk H locs ls hR hS hl
end HEAP1
