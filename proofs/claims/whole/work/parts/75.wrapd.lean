section WRAPD
theorem J.dast {g : GT} {ow : String} {cc : ByteArray} {nL d mc ms k z n pc : Nat} {M : AH} {L : List (Option Value)} {st : List Value} (G : Cx g ow cc nL d mc ms) {a len : Nat} {f : Nat → UInt64} {zi : Int} {v : UInt64} (hd : decode cc pc = .ok (.dastore, 1)) (hM : M a = some (cD len f)) (j : Nat) (hz : zi = (j : Int)) (hj : j < len) (hN : len < 2147483648) (kk : ∀ M' : AH, M' a = some (cD len (vf_upd f j v)) → (∀ q, q ≠ a → M' q = M q) → J g k z n M' L (pc + 1) st) : J g k z n M L pc (.double v :: .int (iI zi) :: .ref a :: st) := by
  intro H locs ls hR hS hl
  subst hz
  have hin : vp_in (iI (j : Int)) len := iI_vp hj hN
  have hcell : H[a]? = some (vp_cell ((gE g).2 2) (len, .inr (.inr (.inr (.inl f))))) := (hR.2.2 a _ hM).2.2
  refine W.dast G.exec G.bytes hcell ((G.kw.1.2 2 _ rfl).1 len (fun j => .double (f j))) (fun q => by cases q) (by show ¬ (_ ∨ (arrV _ _ _).slots.size ≤ _); rw [arrV_size]; exact hin) rfl rfl hd fun H1 e zz oq => ?_
  refine kk (hset M a (cD len (vf_upd f j v))) hset_s (fun q hq => hset_n hq) H1 _ ls (hR.set hM ?_ zz oq) (hS.put zz oq (hR.2.2 a _ hM).1) hl
  show H1[a]? = some (vp_cell _ _)
  rw [e, vp_cell_d, vp_cell_d, arrV_store, iI_cl (by omega)]
  congr 2
  funext q
  by_cases hq : q = j
  · subst hq; simp [updV, vf_upd]
  · simp [updV, vf_upd, hq]
set_option maxRecDepth 100000 in
set_option maxHeartbeats 4000000 in
theorem W_fitness (n : Nat) (M0 : AH) {a o d mc ms : Nat} {fs : List Value} {f0 : Nat → UInt64} {Q : UInt64 → Nat → AH → Prop} {X1 : Nat → AH → Prop} (hX : M0 a = some (cO 3 fs)) (hF : Fx yX3_fitness cX3_fitness 3 (some .double) d [.ref a] n M0 mc ms (fun r n' M' => ∃ x, r = some (.double x) ∧ Q x n' M') (fun E n' M' => E = ISE ∧ X1 n' M')) (ho : ∀ x n' M', Q x n' M' → M' o = some (cD 1 f0)) : Fw yL_fitness cL_fitness 3 (some .int) [(0, 7, 10, 15)] (d + 1) [.ref a, .ref o] n M0 mc ms (fun r n' M' => (∃ x M1 f, r = some (.int (iI ((0 : Nat) : Int))) ∧ Q x n' M1 ∧ M' o = some (cD 1 f) ∧ f 0 = x ∧ ∀ q, q ≠ o → M' q = M1 q) ∨ (r = some (.int (iI ((1 : Nat) : Int))) ∧ X1 n' M')) := by
  refine Fw.of (by decide) [some _, some _, none] rfl rfl (Nat.le_of_ble_eq_true rfl) ?_
  intro g G hO htab
  refine J.aload_n (pc := 0) G dL_fitness_0 rfl ?_
  refine J.iconstN (pc := 1) G dL_fitness_1 0 rfl ?_
  refine J.aload_n (pc := 2) G dL_fitness_2 rfl ?_
  refine J.callXV (pc := 3) (na := 0) G hF q670 q671 q672 q673 q1 (by decide +kernel) dL_fitness_3 hX rfl rfl (Nat.le_of_ble_eq_true rfl) rfl ⟨by omega, by decide, by omega, by omega⟩ (fun E n9 M9 h9 => ?_) ?_
  · obtain ⟨rfl, h2⟩ := h9
    refine JX.take G [] _ _ (htab.trans rfl) (fun y hy => absurd hy List.not_mem_nil) (by decide) (by decide) q334 (by decide) (fun q => ?_)
    refine J.astore_n (L' := [_, _, _]) (pc := 10) G dL_fitness_10 rfl (Nat.le_of_ble_eq_true rfl) rfl ?_
    refine J.iconstN (pc := 11) G dL_fitness_11 1 rfl ?_
    exact J.iret (pc := 12) G hO dL_fitness_12 (by omega) (by omega) (Or.inr ⟨rfl, h2⟩)
  · rintro r9 n9 M7 ⟨x, hr9, hq⟩
    subst hr9
    dsimp only [Option.toList, List.cons_append, List.nil_append]
    refine J.dast (pc := 6) G dL_fitness_6 (ho _ _ _ hq) 0 rfl (by decide) (by decide) (fun M hput hag => ?_)
    refine J.goto (pc := 7) (tgt := 13) G dL_fitness_7 (by decide) ?_
    refine J.iconstN (pc := 13) G dL_fitness_13 0 rfl ?_
    exact J.iret (pc := 14) G hO dL_fitness_14 (by omega) (by omega) (Or.inl ⟨x, M7, _, rfl, hq, hput, rfl, hag⟩)
end WRAPD
