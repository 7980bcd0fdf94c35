section MOD16
/-- who follows whom in the first k traces of a log -/
def foL (tr : List (List Nat)) (k : Nat) : Nat → Nat := it (fun t r => nxT r (tr.getD t []) ((tr.getD t []).length - 1)) (fun _ => 0) k
theorem foL_lt {tr : List (List Nat)} (hl8 : LabL tr) {k : Nat} (hk : k ≤ tr.length) : ∀ j, j < 8 → foL tr k j < 256 :=
  it_inv (fun _ (r : Nat → Nat) => ∀ j, j < 8 → r j < 256) k (fun j _ => by decide) (fun t r ht hr => by
    by_cases q : (tr.getD t []).length = 0
    · show ∀ j, j < 8 → nxT r (tr.getD t []) ((tr.getD t []).length - 1) j < 256
      rw [q]; exact hr
    · exact nxT_lt (hl8 t (by omega)) hr (by omega))
end MOD16
