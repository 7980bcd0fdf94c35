section MINE5
theorem mp5_ne {tr : List (List Nat)} (h : (mp5 tr).length = 0) : False := by
  unfold mp5 at h
  rw [List.length_cons] at h
  exact absurd h (Nat.succ_ne_zero _)
theorem popc_pos1 {m : Nat} (h : m < 256) (h0 : 0 < m) : 1 ≤ popc m := popc_pos (by omega) (by omega)
end MINE5
