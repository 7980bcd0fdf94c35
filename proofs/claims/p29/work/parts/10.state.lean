section STATE1
theorem inX0 : ∀ w ∈ u_ws RX0 TX0 13, w ∈ wG := List.forall_mem_cons.mpr ⟨q108, List.forall_mem_cons.mpr ⟨q110, List.forall_mem_cons.mpr ⟨q112, List.forall_mem_cons.mpr ⟨q114, List.forall_mem_cons.mpr ⟨q116, List.forall_mem_cons.mpr ⟨q118, List.forall_mem_cons.mpr ⟨q120, List.forall_mem_cons.mpr ⟨q122, List.forall_mem_cons.mpr ⟨q124, List.forall_mem_cons.mpr ⟨q126, List.forall_mem_cons.mpr ⟨q128, List.forall_mem_cons.mpr ⟨q130, List.forall_mem_cons.mpr ⟨q132, fun _ h => absurd h List.not_mem_nil⟩⟩⟩⟩⟩⟩⟩⟩⟩⟩⟩⟩⟩
theorem inX1 : ∀ w ∈ u_ws RX1 TX1 4, w ∈ wG := List.forall_mem_cons.mpr ⟨q73, List.forall_mem_cons.mpr ⟨q75, List.forall_mem_cons.mpr ⟨q77, List.forall_mem_cons.mpr ⟨q79, fun _ h => absurd h List.not_mem_nil⟩⟩⟩⟩
theorem inX2 : ∀ w ∈ u_ws RX2 TX2 7, w ∈ wG := List.forall_mem_cons.mpr ⟨q47, List.forall_mem_cons.mpr ⟨q49, List.forall_mem_cons.mpr ⟨q51, List.forall_mem_cons.mpr ⟨q53, List.forall_mem_cons.mpr ⟨q55, List.forall_mem_cons.mpr ⟨q57, List.forall_mem_cons.mpr ⟨q59, fun _ h => absurd h List.not_mem_nil⟩⟩⟩⟩⟩⟩⟩
theorem inX3 : ∀ w ∈ u_ws RX3 TX3 10, w ∈ wG := List.forall_mem_cons.mpr ⟨q145, List.forall_mem_cons.mpr ⟨q147, List.forall_mem_cons.mpr ⟨q149, List.forall_mem_cons.mpr ⟨q151, List.forall_mem_cons.mpr ⟨q153, List.forall_mem_cons.mpr ⟨q155, List.forall_mem_cons.mpr ⟨q157, List.forall_mem_cons.mpr ⟨q161, List.forall_mem_cons.mpr ⟨q159, List.forall_mem_cons.mpr ⟨q163, fun _ h => absurd h List.not_mem_nil⟩⟩⟩⟩⟩⟩⟩⟩⟩⟩
theorem qp0 : Cond.selects "ProcessMiner" ({ cls := "ProcessMiner", name := "readLog", desc := "()LProcessMiner$Log;" } : Jvm.MethodName) ({ cls := "ProcessMiner", name := "readLog", desc := "()LProcessMiner$Log;" } : Jvm.MethodName) ∈ wG := wGs 0 (by decide +kernel) (by decide +kernel)
theorem qp1 : Cond.selects "ProcessMiner$Log" ({ cls := "ProcessMiner$Log", name := "measureTrace", desc := "(II)V" } : Jvm.MethodName) ({ cls := "ProcessMiner$Log", name := "measureTrace", desc := "(II)V" } : Jvm.MethodName) ∈ wG := wGs 1 (by decide +kernel) (by decide +kernel)
theorem qp4 : Cond.selects "ProcessMiner$Log" ({ cls := "ProcessMiner$Log", name := "addPart", desc := "(I)V" } : Jvm.MethodName) ({ cls := "ProcessMiner$Log", name := "addPart", desc := "(I)V" } : Jvm.MethodName) ∈ wG := wGs 2 (by decide +kernel) (by decide +kernel)
theorem qp5 : Cond.selects "ProcessMiner$Log" ({ cls := "ProcessMiner$Log", name := "hasNext", desc := "()Z" } : Jvm.MethodName) ({ cls := "ProcessMiner$Log", name := "hasNext", desc := "()Z" } : Jvm.MethodName) ∈ wG := wGs 3 (by decide +kernel) (by decide +kernel)
theorem qp6 : Cond.selects "ProcessMiner$Log" ({ cls := "ProcessMiner$Log", name := "isCutByChoice", desc := "()Z" } : Jvm.MethodName) ({ cls := "ProcessMiner$Log", name := "isCutByChoice", desc := "()Z" } : Jvm.MethodName) ∈ wG := wGs 4 (by decide +kernel) (by decide +kernel)
theorem qp7 : Cond.selects "ProcessMiner$Log" ({ cls := "ProcessMiner$Log", name := "linkNeighbours", desc := "()V" } : Jvm.MethodName) ({ cls := "ProcessMiner$Log", name := "linkNeighbours", desc := "()V" } : Jvm.MethodName) ∈ wG := wGs 5 (by decide +kernel) (by decide +kernel)
theorem qp8 : Cond.selects "ProcessMiner$Log" ({ cls := "ProcessMiner$Log", name := "addGroups", desc := "(I)V" } : Jvm.MethodName) ({ cls := "ProcessMiner$Log", name := "addGroups", desc := "(I)V" } : Jvm.MethodName) ∈ wG := wGs 6 (by decide +kernel) (by decide +kernel)
theorem qp9 : Cond.selects "ProcessMiner$Log" ({ cls := "ProcessMiner$Log", name := "groupOf", desc := "(II)I" } : Jvm.MethodName) ({ cls := "ProcessMiner$Log", name := "groupOf", desc := "(II)I" } : Jvm.MethodName) ∈ wG := wGs 7 (by decide +kernel) (by decide +kernel)
theorem qp10 : Cond.selects "ProcessMiner$Log" ({ cls := "ProcessMiner$Log", name := "isCutByOrder", desc := "()Z" } : Jvm.MethodName) ({ cls := "ProcessMiner$Log", name := "isCutByOrder", desc := "()Z" } : Jvm.MethodName) ∈ wG := wGs 8 (by decide +kernel) (by decide +kernel)
theorem qp11 : Cond.selects "ProcessMiner$Log" ({ cls := "ProcessMiner$Log", name := "sortByReach", desc := "()V" } : Jvm.MethodName) ({ cls := "ProcessMiner$Log", name := "sortByReach", desc := "()V" } : Jvm.MethodName) ∈ wG := wGs 9 (by decide +kernel) (by decide +kernel)
theorem qp12 : Cond.selects "ProcessMiner$Log" ({ cls := "ProcessMiner$Log", name := "leadsInto", desc := "(II)Z" } : Jvm.MethodName) ({ cls := "ProcessMiner$Log", name := "leadsInto", desc := "(II)Z" } : Jvm.MethodName) ∈ wG := wGs 10 (by decide +kernel) (by decide +kernel)
theorem qp13 : Cond.selects "ProcessMiner$Log" ({ cls := "ProcessMiner$Log", name := "isCutByBoth", desc := "()Z" } : Jvm.MethodName) ({ cls := "ProcessMiner$Log", name := "isCutByBoth", desc := "()Z" } : Jvm.MethodName) ∈ wG := wGs 11 (by decide +kernel) (by decide +kernel)
theorem qp14 : Cond.selects "ProcessMiner$Log" ({ cls := "ProcessMiner$Log", name := "joinLacking", desc := "()V" } : Jvm.MethodName) ({ cls := "ProcessMiner$Log", name := "joinLacking", desc := "()V" } : Jvm.MethodName) ∈ wG := wGs 12 (by decide +kernel) (by decide +kernel)
theorem qp15 : Cond.selects "ProcessMiner$Log" ({ cls := "ProcessMiner$Log", name := "firstLacking", desc := "()I" } : Jvm.MethodName) ({ cls := "ProcessMiner$Log", name := "firstLacking", desc := "()I" } : Jvm.MethodName) ∈ wG := wGs 13 (by decide +kernel) (by decide +kernel)
theorem qp16 : Cond.selects "ProcessMiner$Log" ({ cls := "ProcessMiner$Log", name := "joinToFirst", desc := "(I)V" } : Jvm.MethodName) ({ cls := "ProcessMiner$Log", name := "joinToFirst", desc := "(I)V" } : Jvm.MethodName) ∈ wG := wGs 14 (by decide +kernel) (by decide +kernel)
theorem qp17 : Cond.selects "ProcessMiner$Log" ({ cls := "ProcessMiner$Log", name := "isCutByAgain", desc := "()Z" } : Jvm.MethodName) ({ cls := "ProcessMiner$Log", name := "isCutByAgain", desc := "()Z" } : Jvm.MethodName) ∈ wG := wGs 15 (by decide +kernel) (by decide +kernel)
theorem qp18 : Cond.selects "ProcessMiner$Log" ({ cls := "ProcessMiner$Log", name := "belongsToFirst", desc := "(I)Z" } : Jvm.MethodName) ({ cls := "ProcessMiner$Log", name := "belongsToFirst", desc := "(I)Z" } : Jvm.MethodName) ∈ wG := wGs 16 (by decide +kernel) (by decide +kernel)
theorem qp19 : Cond.selects "ProcessMiner$Log" ({ cls := "ProcessMiner$Log", name := "takeTrace", desc := "(LProcessMiner$Log;IIIZ)V" } : Jvm.MethodName) ({ cls := "ProcessMiner$Log", name := "takeTrace", desc := "(LProcessMiner$Log;IIIZ)V" } : Jvm.MethodName) ∈ wG := wGs 17 (by decide +kernel) (by decide +kernel)
theorem qp20 : Cond.selects "ProcessMiner$Log" ({ cls := "ProcessMiner$Log", name := "openStart", desc := "()I" } : Jvm.MethodName) ({ cls := "ProcessMiner$Log", name := "openStart", desc := "()I" } : Jvm.MethodName) ∈ wG := wGs 18 (by decide +kernel) (by decide +kernel)
theorem qp22 : Cond.selects "ProcessMiner" ({ cls := "ProcessMiner", name := "checkTrace", desc := "(I)V" } : Jvm.MethodName) ({ cls := "ProcessMiner", name := "checkTrace", desc := "(I)V" } : Jvm.MethodName) ∈ wG := wGs 25 (by decide +kernel) (by decide +kernel)
theorem qp24 : Cond.selects "ProcessMiner" ({ cls := "ProcessMiner", name := "checkNode", desc := "(I)V" } : Jvm.MethodName) ({ cls := "ProcessMiner", name := "checkNode", desc := "(I)V" } : Jvm.MethodName) ∈ wG := wGs 19 (by decide +kernel) (by decide +kernel)
theorem qp25 : Cond.selects "ProcessMiner" ({ cls := "ProcessMiner", name := "checkMined", desc := "()V" } : Jvm.MethodName) ({ cls := "ProcessMiner", name := "checkMined", desc := "()V" } : Jvm.MethodName) ∈ wG := wGs 20 (by decide +kernel) (by decide +kernel)
theorem qp26 : Cond.selects "ProcessMiner$Tree" ({ cls := "ProcessMiner$Tree", name := "leastByChildren", desc := "(I)I" } : Jvm.MethodName) ({ cls := "ProcessMiner$Tree", name := "leastByChildren", desc := "(I)I" } : Jvm.MethodName) ∈ wG := wGs 22 (by decide +kernel) (by decide +kernel)
theorem qp27 : Cond.selects "ProcessMiner$Tree" ({ cls := "ProcessMiner$Tree", name := "leastOfChildren", desc := "(I)I" } : Jvm.MethodName) ({ cls := "ProcessMiner$Tree", name := "leastOfChildren", desc := "(I)I" } : Jvm.MethodName) ∈ wG := wGs 23 (by decide +kernel) (by decide +kernel)
theorem qp28 : Cond.selects "ProcessMiner$Tree" ({ cls := "ProcessMiner$Tree", name := "sumOfChildren", desc := "(I)I" } : Jvm.MethodName) ({ cls := "ProcessMiner$Tree", name := "sumOfChildren", desc := "(I)I" } : Jvm.MethodName) ∈ wG := wGs 24 (by decide +kernel) (by decide +kernel)
theorem qp29 : Cond.selects "ProcessMiner$Matcher" ({ cls := "ProcessMiner$Matcher", name := "readFrom", desc := "(I)V" } : Jvm.MethodName) ({ cls := "ProcessMiner$Matcher", name := "readFrom", desc := "(I)V" } : Jvm.MethodName) ∈ wG := wGs 26 (by decide +kernel) (by decide +kernel)
theorem qp30 : Cond.selects "ProcessMiner$Matcher" ({ cls := "ProcessMiner$Matcher", name := "endsOf", desc := "(II)I" } : Jvm.MethodName) ({ cls := "ProcessMiner$Matcher", name := "endsOf", desc := "(II)I" } : Jvm.MethodName) ∈ wG := wGs 27 (by decide +kernel) (by decide +kernel)
theorem qp31 : Cond.selects "ProcessMiner$Matcher" ({ cls := "ProcessMiner$Matcher", name := "endsOfLabel", desc := "(II)I" } : Jvm.MethodName) ({ cls := "ProcessMiner$Matcher", name := "endsOfLabel", desc := "(II)I" } : Jvm.MethodName) ∈ wG := wGs 28 (by decide +kernel) (by decide +kernel)
theorem qp32 : Cond.selects "ProcessMiner$Matcher" ({ cls := "ProcessMiner$Matcher", name := "endsOfAlternatives", desc := "(III)I" } : Jvm.MethodName) ({ cls := "ProcessMiner$Matcher", name := "endsOfAlternatives", desc := "(III)I" } : Jvm.MethodName) ∈ wG := wGs 29 (by decide +kernel) (by decide +kernel)
theorem qp33 : Cond.selects "ProcessMiner$Matcher" ({ cls := "ProcessMiner$Matcher", name := "endsOfChild", desc := "(III)I" } : Jvm.MethodName) ({ cls := "ProcessMiner$Matcher", name := "endsOfChild", desc := "(III)I" } : Jvm.MethodName) ∈ wG := wGs 30 (by decide +kernel) (by decide +kernel)
theorem qp34 : Cond.selects "ProcessMiner$Matcher" ({ cls := "ProcessMiner$Matcher", name := "endsOfOrder", desc := "(II)I" } : Jvm.MethodName) ({ cls := "ProcessMiner$Matcher", name := "endsOfOrder", desc := "(II)I" } : Jvm.MethodName) ∈ wG := wGs 31 (by decide +kernel) (by decide +kernel)
theorem qp35 : Cond.selects "ProcessMiner$Matcher" ({ cls := "ProcessMiner$Matcher", name := "endsOfBoth", desc := "(II)I" } : Jvm.MethodName) ({ cls := "ProcessMiner$Matcher", name := "endsOfBoth", desc := "(II)I" } : Jvm.MethodName) ∈ wG := wGs 32 (by decide +kernel) (by decide +kernel)
theorem qp36 : Cond.selects "ProcessMiner$Matcher" ({ cls := "ProcessMiner$Matcher", name := "allEnds", desc := "(I)I" } : Jvm.MethodName) ({ cls := "ProcessMiner$Matcher", name := "allEnds", desc := "(I)I" } : Jvm.MethodName) ∈ wG := wGs 33 (by decide +kernel) (by decide +kernel)
theorem qp37 : Cond.selects "ProcessMiner$Matcher" ({ cls := "ProcessMiner$Matcher", name := "endsOfAgain", desc := "(II)I" } : Jvm.MethodName) ({ cls := "ProcessMiner$Matcher", name := "endsOfAgain", desc := "(II)I" } : Jvm.MethodName) ∈ wG := wGs 34 (by decide +kernel) (by decide +kernel)
theorem qp38 : Cond.selects "ProcessMiner$Matcher" ({ cls := "ProcessMiner$Matcher", name := "isWhole", desc := "()Z" } : Jvm.MethodName) ({ cls := "ProcessMiner$Matcher", name := "isWhole", desc := "()Z" } : Jvm.MethodName) ∈ wG := wGs 35 (by decide +kernel) (by decide +kernel)
theorem mem_nw {w : Cond} (i : Nat) (h : nwG[i]? = some w := by rfl) : w ∈ nwG := List.mem_of_getElem? h
/-- cells at neighbouring addresses -/
def Cl (M : AH) (a : Nat) (cs : List Ce) : Prop := ∀ (i : Nat) (x : Ce), cs[i]? = some x → M (a + i) = some x
theorem Cl.put {M M' : AH} {a : Nat} {cs cs' : List Ce} {x : Ce} (h : Cl M a cs) (i : Nat) (hx : M' (a + i) = some x) (hag : ∀ q, q ≠ a + i → M' q = M q) (hcs : cs.set i x = cs') : Cl M' a cs' := by
  subst hcs
  intro j y hj
  by_cases e : j = i
  · subst e
    have hlt := (List.getElem?_eq_some_iff.mp hj).1
    rw [List.length_set] at hlt
    rw [List.getElem?_set_self hlt] at hj
    cases hj
    exact hx
  · rw [List.getElem?_set_ne (fun q => e q.symm)] at hj
    rw [hag _ (by omega)]
    exact h j y hj
theorem Cl.keep {M M' : AH} {a : Nat} {cs : List Ce} (h : Cl M a cs) (hag : ∀ q, a ≤ q → q < a + cs.length → M' q = M q) : Cl M' a cs := fun i x hi => by
  have hlt := (List.getElem?_eq_some_iff.mp hi).1
  rw [hag _ (by omega) (by omega)]
  exact h i x hi
/-- outside of [lo, hi) nothing changes -/
def Fr (lo hi : Nat) (M0 M : AH) : Prop := ∀ q, (q < lo ∨ hi ≤ q) → M q = M0 q
theorem Fr.rf {lo hi : Nat} {M : AH} : Fr lo hi M M := fun _ _ => rfl
theorem Fr.put {lo hi b : Nat} {M0 M M' : AH} (h : Fr lo hi M0 M) (hag : ∀ q, q ≠ b → M' q = M q) (h1 : lo ≤ b) (h2 : b < hi) : Fr lo hi M0 M' := fun q hq => by
  rw [hag q (by omega)]
  exact h q hq
theorem Fr.trans {lo hi : Nat} {M0 M1 M2 : AH} (h : Fr lo hi M0 M1) (h2 : Fr lo hi M1 M2) : Fr lo hi M0 M2 := fun q hq => (h2 q hq).trans (h q hq)
theorem Fr.wide {lo hi lo' hi' : Nat} {M0 M1 : AH} (h : Fr lo hi M0 M1) (h1 : lo' ≤ lo) (h2 : hi ≤ hi') : Fr lo' hi' M0 M1 := fun q hq => h q (by omega)
theorem Cl.fr {lo hi : Nat} {M M' : AH} {a : Nat} {cs : List Ce} (h : Cl M a cs) (hf : Fr lo hi M M') (hd : a + cs.length ≤ lo ∨ hi ≤ a) : Cl M' a cs := h.keep (fun q h1 h2 => hf q (by omega))
/-! bits -/
theorem b_sm : ∀ n, n < 32 → ((nI n &&& 31).toBitVec.smod 32).toNat = n := by decide +kernel
theorem iI_shr {m l : Nat} (hm : m < 2147483648) (hl : l < 32) : iI (m : Int) >>> (iI (l : Int) &&& 31) = iI ((m >>> l : Nat) : Int) := by
  rw [iI_nat, iI_nat, iI_nat, pk_shrN (by omega) _ l (b_sm l hl), Nat.shiftRight_eq_div_pow]
theorem iI_shl {l : Nat} (hl : l < 31) : iI 1 <<< (iI (l : Int) &&& 31) = iI ((2 ^ l : Nat) : Int) := by
  have h1 : iI (1 : Int) = nI 1 := iI_nat 1
  have hp : 2 ^ l < 2 ^ 31 := Nat.pow_lt_pow_right (by omega) hl
  rw [h1, iI_nat, iI_nat, pk_shlN _ l (b_sm l (by omega)) (by omega), Nat.one_mul]
theorem iI_1 : iI 1 = 1 := by decide +kernel
theorem and1 (m : Nat) : m &&& 1 = if m.testBit 0 then 1 else 0 := by
  rw [Nat.and_one_is_mod, Nat.testBit_zero]
  rcases Nat.mod_two_eq_zero_or_one m with h | h <;> simp [h]
theorem has_bit (m l : Nat) : (m >>> l) &&& 1 = if m.testBit l then 1 else 0 := by
  rw [and1, Nat.testBit_shiftRight, Nat.add_zero]
end STATE1
