section BASE0
/-- an int of the machine by its number -/
def iI (z : Int) : Int32 := Int32.ofInt z
theorem iI_add (a b : Int) : iI a + iI b = iI (a + b) := (Int32.ofInt_add a b).symm
theorem iI_sub (a b : Int) : iI a - iI b = iI (a - b) := (Int32.ofInt_sub a b).symm
theorem iI_mul (a b : Int) : iI a * iI b = iI (a * b) := (Int32.ofInt_mul a b).symm
theorem iI_neg (a : Int) : - iI a = iI (-a) := (Int32.ofInt_neg a).symm
theorem iI_toInt {z : Int} (h1 : -2147483648 ≤ z) (h2 : z < 2147483648) : (iI z).toInt = z := by
  unfold iI
  rw [Int32.toInt_ofInt]
  exact Int.bmod_eq_of_le (by show -(((4294967296 : Nat) : Int) / 2) ≤ z; omega) (by show z < (((4294967296 : Nat) : Int) + 1) / 2; omega)
theorem iI_lt {a b : Int} (ha1 : -2147483648 ≤ a) (ha2 : a < 2147483648) (hb1 : -2147483648 ≤ b) (hb2 : b < 2147483648) : iI a < iI b ↔ a < b := by
  rw [Int32.lt_iff_toInt_lt, iI_toInt ha1 ha2, iI_toInt hb1 hb2]
theorem iI_le {a b : Int} (ha1 : -2147483648 ≤ a) (ha2 : a < 2147483648) (hb1 : -2147483648 ≤ b) (hb2 : b < 2147483648) : iI a ≤ iI b ↔ a ≤ b := by
  rw [Int32.le_iff_toInt_le, iI_toInt ha1 ha2, iI_toInt hb1 hb2]
theorem iI_eq {a b : Int} (ha1 : -2147483648 ≤ a) (ha2 : a < 2147483648) (hb1 : -2147483648 ≤ b) (hb2 : b < 2147483648) : iI a = iI b ↔ a = b := by
  refine ⟨fun h => ?_, fun h => by rw [h]⟩
  rw [← iI_toInt ha1 ha2, ← iI_toInt hb1 hb2, h]
theorem iI_nat (n : Nat) : iI (n : Int) = nI n := by
  unfold iI nI
  exact Int32.ofInt_eq_ofNat
theorem iI_0 : iI 0 = 0 := by decide +kernel
theorem iI_self (x : Int32) : iI x.toInt = x := by unfold iI; exact Int32.ofInt_toInt x
theorem iI_or (a b : Nat) : iI (a : Int) ||| iI (b : Int) = iI ((a ||| b : Nat) : Int) := by
  rw [iI_nat, iI_nat, iI_nat]
  apply Int32.toBitVec_inj.mp
  show BitVec.ofNat 32 a ||| BitVec.ofNat 32 b = BitVec.ofNat 32 (a ||| b)
  exact BitVec.ofNat_or.symm
theorem iI_and (a b : Nat) : iI (a : Int) &&& iI (b : Int) = iI ((a &&& b : Nat) : Int) := by
  rw [iI_nat, iI_nat, iI_nat]
  apply Int32.toBitVec_inj.mp
  show BitVec.ofNat 32 a &&& BitVec.ofNat 32 b = BitVec.ofNat 32 (a &&& b)
  exact BitVec.ofNat_and.symm
theorem iI_cl {n : Nat} (h : n < 2 ^ 31) : (iI (n : Int)).toNatClampNeg = n := by rw [iI_nat]; exact nI_clamp h
theorem iI_vp {n N : Nat} (h : n < N) (hN : N < 2 ^ 31) : vp_in (iI (n : Int)) N := by rw [iI_nat]; exact vp_in_nI h hN
/-- a new value at one place of a row -/
def upI (g : Nat → Int) (j : Nat) (z : Int) : Nat → Int := fun k => if k = j then z else g k
theorem upI_s {g : Nat → Int} {j : Nat} {z : Int} : upI g j z j = z := by simp [upI]
theorem upI_n {g : Nat → Int} {j k : Nat} {z : Int} (h : k ≠ j) : upI g j z k = g k := by simp [upI, h]
end BASE0
section BASE1
abbrev En : Type := va_G × (Nat → ClassId)
abbrev Ce : Type := (Nat × List Value) ⊕ (Nat × vp_A)
abbrev AH : Type := Nat → Option Ce
/-- an object: its class's place in vwCl, its fields -/
abbrev cO (ci : Nat) (fs : List Value) : Ce := .inl (ci, fs)
/-- a row of ints, of longs, of doubles, of references (kind 3: int[], kind 4: Log) -/
abbrev cA (n : Nat) (g : Nat → Int) : Ce := .inr (0, n, .inl (fun j => iI (g j)))
abbrev cR (k n : Nat) (f : Nat → Option Nat) : Ce := .inr (k, n, .inr (.inr (.inr (.inr f))))
def toE (E : En) (x : Ce) : va_E := match x with
  | .inl o => .inr o
  | .inr q => .inl (E.2 q.1, q.2)
abbrev tyE (E : En) : List (ClassId × FieldType) := [(E.2 0, .int), (E.2 1, .int), (E.2 2, .int), (E.2 3, .array .int), (E.2 4, .object "ProcessMiner$Log")]
def Rp (E : En) (lo n : Nat) (M : AH) (H : Heap) : Prop := H.size = n ∧ lo ≤ n ∧ ∀ (a : Nat) (x : Ce), M a = some x → lo ≤ a ∧ a < n ∧ va_at E.1 vwCl (a, toE E x) H
/-- the words that aren't good ones: links of nest mates, arrays over a class, casts -/
def nwG : List Cond := [.methodLinkNest "ProcessMiner" 37 ⟨"ProcessMiner$Matcher", "<init>", "()V"⟩ "ProcessMiner", .methodLinkNest "ProcessMiner" 51 ⟨"ProcessMiner$Log", "<init>", "()V"⟩ "ProcessMiner", .methodLinkNest "ProcessMiner$Matcher" 11 ⟨"ProcessMiner$Tree", "<init>", "()V"⟩ "ProcessMiner", .methodLinkNest "ProcessMiner$Log" 70 ⟨"ProcessMiner", "contains", "(II)Z"⟩ "ProcessMiner", .methodLinkNest "ProcessMiner$Matcher" 44 ⟨"ProcessMiner", "contains", "(II)Z"⟩ "ProcessMiner"]
def ncG : List (String × String) := [("java/lang/IndexOutOfBoundsException", "java/lang/IndexOutOfBoundsException"), ("java/lang/IllegalStateException", "java/lang/IllegalStateException"), ("java/lang/IllegalArgumentException", "java/lang/IllegalArgumentException")]
def ndG : List MethodName := [⟨"java/lang/RuntimeException", "<init>", "()V"⟩, ⟨"java/lang/RuntimeException", "<init>", "(Ljava/lang/String;)V"⟩, ⟨"java/lang/Exception", "<init>", "()V"⟩, ⟨"java/lang/Exception", "<init>", "(Ljava/lang/String;)V"⟩, ⟨"java/lang/Throwable", "<init>", "()V"⟩, ⟨"java/lang/Throwable", "<init>", "(Ljava/lang/String;)V"⟩]
def nsG : List (Nat × String) := [(175, "no such label"), (58, "the buffer is full"), (177, "the times are not 0 to 99"), (66, "the log is full"), (179, "no such trace"), (181, "nothing was mined since the last change"), (183, "no such node"), (159, "the length is not 0 to 3")]
/-- exceptions that a row of a table doesn't take -/
def nnG : List (String × String) := []
/-- what is known of the machine's tables, beside wG -/
def KW (E : En) (lo : Nat) (U : State) : Prop := va_K E.1 vwCl (tyE E) U ∧ (∀ (a : String) (i : Nat) (x : MethodName) (h : String), Cond.methodLinkNest a i x h ∈ nwG → va_Nw (.methodLinkNest a i x h) U) ∧ (∀ q ∈ ncG, va_Nw (.castable q.1 q.2) U) ∧ (∀ q ∈ ndG, va_Nw (.declares q) U) ∧ (∀ q ∈ nsG, ∃ sa, vk_R "ProcessMiner" q.1 q.2 sa U) ∧ (∀ q ∈ nnG, va_Nc q.1 q.2 U) ∧ va_AO "ProcessMiner$Log" U ∧ (Cond.arrayOver (.array .int)).before #[] U = true ∧ vx_Zq Bundle.tN "UNASSIGNED_STACK" Bundle.steD (fun q => lo ≤ q) U U.heap ∧ vx_Zq Bundle.tN "SUPPRESSED_SENTINEL" Bundle.listD (fun q => lo ≤ q) U U.heap
end BASE1
section BASE2
theorem KW.to {E : En} {lo : Nat} {s U : State} {locs : List Loc} (hK : KW E lo s) (hW : s.WarmedH U.vm) (hS : va_S (fun q => lo ≤ q) s.heap U.heap locs) : KW E lo U := by
  obtain ⟨h1, h2, h3, h4, h5, h6, h7, h8, h9, h10⟩ := hK
  have hal := hW.alike
  refine ⟨va_K.moved hal h1, fun a i x h hm => va_Nw.warmM hW (h2 a i x h hm), fun q hq => va_Nw.warmC hW (h3 q hq), fun q hq => va_Nw.warmD hW (h4 q hq), fun q hq => ?_, fun q hq => va_Nc.moved hal (h6 q hq), va_AO.moved hal h7, ?_, ?_, ?_⟩
  · obtain ⟨sa, h⟩ := h5 q hq
    exact ⟨sa, vk_R.warm hW h⟩
  · have h := Cond.arrayOver_setVmC (args := #[]) hal (.array .int)
    rw [h8] at h
    first | exact h | simpa [Cond.before, Cond.holds, Cond.value] using h
  · exact vx_Zq.moved hal (vx_Zq.kept h9 hS.2.1)
  · exact vx_Zq.moved hal (vx_Zq.kept h10 hS.2.1)
theorem KW.blind {E : En} {lo : Nat} {U : State} {g : JFrame} {mk : MethodId} {a : Array Value} (h : KW E lo U) : KW E lo (U.calling g mk a) := by
  obtain ⟨h1, h2, h3, h4, h5, h6, h7, h8, h9, h10⟩ := h
  have hal : U.vm.Alike (U.calling g mk a).vm := Vm.Alike.refl U.vm
  refine ⟨va_K.moved (u := U) (U := U.calling g mk a) hal h1, fun a i x h hm => va_Nw.same rfl rfl (h2 a i x h hm), fun q hq => va_Nw.same rfl rfl (h3 q hq), fun q hq => va_Nw.same rfl rfl (h4 q hq), fun q hq => ?_, fun q hq => va_Nc.moved hal (h6 q hq), va_AO.moved hal h7, ?_, ?_, ?_⟩
  · obtain ⟨sa, h⟩ := h5 q hq
    exact ⟨sa, vk_R.same rfl h⟩
  · first | exact h8 | simpa [Cond.before, Cond.holds, Cond.value] using h8
  · exact vx_Zq.moved (u := U) (U := U.calling g mk a) hal h9
  · exact vx_Zq.moved (u := U) (U := U.calling g mk a) hal h10
/-- locals by their places; none: nothing is known of the place -/
def asl : Nat → List (Option Value) → List (Nat × Value)
  | _, [] => []
  | i, none :: t => asl (i + 1) t
  | i, some v :: t => (i, v) :: asl (i + 1) t
theorem asl_in : ∀ (L : List (Option Value)) (b i : Nat) (v : Value), L[i]? = some (some v) → (b + i, v) ∈ asl b L
  | [], _, _, _, h => by simp at h
  | x :: t, b, 0, v, h => by
    simp only [List.getElem?_cons_zero, Option.some.injEq] at h
    subst h
    simp [asl]
  | x :: t, b, i + 1, v, h => by
    rw [List.getElem?_cons_succ] at h
    have := asl_in t (b + 1) i v h
    have e : b + 1 + i = b + (i + 1) := by omega
    rw [e] at this
    cases x with
    | none => simpa [asl] using this
    | some w => simp [asl, this]
theorem asl_of : ∀ (L : List (Option Value)) (b : Nat) (q : Nat × Value), q ∈ asl b L → ∃ i, q.1 = b + i ∧ L[i]? = some (some q.2)
  | [], _, _, h => by simp [asl] at h
  | none :: t, b, q, h => by
    obtain ⟨i, h1, h2⟩ := asl_of t (b + 1) q (by simpa [asl] using h)
    exact ⟨i + 1, by omega, by simpa using h2⟩
  | some v :: t, b, q, h => by
    simp only [asl, List.mem_cons] at h
    rcases h with h | h
    · subst h
      exact ⟨0, by omega, by simp⟩
    · obtain ⟨i, h1, h2⟩ := asl_of t (b + 1) q h
      exact ⟨i + 1, by omega, by simpa using h2⟩
def LH (ls : Array Slot) (L : List (Option Value)) : Prop := lv_has ls L.length (asl 0 L)
theorem LH.at {ls : Array Slot} {L : List (Option Value)} (h : LH ls L) {i : Nat} {v : Value} (hi : L[i]? = some (some v)) : ls[i]? = some (.val v) := by
  have := h.2.2 _ (asl_in L 0 i v hi)
  simpa using this
def ok1 (L : List (Option Value)) (i : Nat) : Bool := match i with
  | 0 => true
  | j + 1 => match L[j]? with
    | some (some v) => v.category != 2
    | _ => true
theorem ok1_ne {L : List (Option Value)} {i j : Nat} {v : Value} (h : ok1 L i = true) (hj : j + 1 = i) (hv : L[j]? = some (some v)) : v.category ≠ 2 := by
  subst hj
  simp only [ok1, hv] at h
  simpa using h
theorem LH.st1 {ls' : Array Slot} {L : List (Option Value)} {i : Nat} {v : Value} (hok : ok1 L i = true) (h : lv_has ls' L.length ((i, v) :: (asl 0 L).filter (fun q => !(q.1 == i) && !(q.1 + 1 == i && q.2.category == 2)))) : LH ls' (L.set i (some v)) := by
  refine ⟨by rw [List.length_set]; exact h.1, h.2.1, fun q hq => ?_⟩
  obtain ⟨j, h1, h2⟩ := asl_of _ 0 q hq
  rw [Nat.zero_add] at h1
  by_cases hj : j = i
  · subst hj
    have hlt : j < L.length := by
      have := (List.getElem?_eq_some_iff.mp h2).1
      simpa using this
    rw [List.getElem?_set_self (by exact hlt)] at h2
    have : q = (j, v) := by
      obtain ⟨q1, q2⟩ := q
      simp only [Option.some.injEq] at h2
      simp only at h1
      subst h1; subst h2; rfl
    rw [this]
    exact h.2.2 _ List.mem_cons_self
  · rw [List.getElem?_set_ne (fun e => hj e.symm)] at h2
    refine h.2.2 q (List.mem_cons_of_mem _ (List.mem_filter.mpr ⟨?_, ?_⟩))
    · have := asl_in L 0 j q.2 h2
      rw [Nat.zero_add, ← h1] at this
      exact this
    · have h3 : ¬ (q.1 + 1 = i ∧ q.2.category = 2) := fun ⟨e1, e2⟩ => ok1_ne hok (by omega) h2 e2
      simp only [Bool.and_eq_true, Bool.not_eq_true', beq_eq_false_iff_ne, ne_eq, Bool.and_eq_false_iff]
      refine ⟨by omega, ?_⟩
      by_cases e : q.1 + 1 = i
      · exact Or.inr (by simpa using fun e2 => h3 ⟨e, e2⟩)
      · exact Or.inl (by simpa using e)
theorem LH.st2 {ls' : Array Slot} {L : List (Option Value)} {i : Nat} {v : Value} (hok : ok1 L i = true) (h : lv_has ls' L.length ((i, v) :: (asl 0 L).filter (fun q => !(q.1 == i) && (!(q.1 == i + 1) && !(q.1 + 1 == i && q.2.category == 2))))) : LH ls' ((L.set i (some v)).set (i + 1) none) := by
  refine ⟨by rw [List.length_set, List.length_set]; exact h.1, h.2.1, fun q hq => ?_⟩
  obtain ⟨j, h1, h2⟩ := asl_of _ 0 q hq
  rw [Nat.zero_add] at h1
  have hlen : j < L.length := by
    have := (List.getElem?_eq_some_iff.mp h2).1
    simpa using this
  by_cases hj2 : j = i + 1
  · subst hj2
    rw [List.getElem?_set_self (by simpa using hlen)] at h2
    cases h2
  · rw [List.getElem?_set_ne (fun e => hj2 e.symm)] at h2
    by_cases hj : j = i
    · subst hj
      rw [List.getElem?_set_self hlen] at h2
      have : q = (j, v) := by
        obtain ⟨q1, q2⟩ := q
        simp only [Option.some.injEq] at h2
        simp only at h1
        subst h1; subst h2; rfl
      rw [this]
      exact h.2.2 _ List.mem_cons_self
    · rw [List.getElem?_set_ne (fun e => hj e.symm)] at h2
      refine h.2.2 q (List.mem_cons_of_mem _ (List.mem_filter.mpr ⟨?_, ?_⟩))
      · have := asl_in L 0 j q.2 h2
        rw [Nat.zero_add, ← h1] at this
        exact this
      · have h3 : ¬ (q.1 + 1 = i ∧ q.2.category = 2) := fun ⟨e1, e2⟩ => ok1_ne hok (by omega) h2 e2
        simp only [Bool.and_eq_true, Bool.not_eq_true', beq_eq_false_iff_ne, ne_eq, Bool.and_eq_false_iff]
        refine ⟨by omega, by omega, ?_⟩
        by_cases e : q.1 + 1 = i
        · exact Or.inr (by simpa using fun e2 => h3 ⟨e, e2⟩)
        · exact Or.inl (by simpa using e)
end BASE2
