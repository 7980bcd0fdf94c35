section MOD16
/-- who follows whom in the first k traces of a log -/
def foL (tr : List (List Nat)) (k : Nat) : Nat → Nat := it (fun t r => nxT r (tr.getD t []) ((tr.getD t []).length - 1)) (fun _ => 0) k
theorem foL_lt {tr : List (List Nat)} (hl8 : LabL tr) {k : Nat} (hk : k ≤ tr.length) : ∀ j, j < 8 → foL tr k j < 256 :=
  it_inv (fun _ (r : Nat → Nat) => ∀ j, j < 8 → r j < 256) k (fun j _ => by decide) (fun t r ht hr => by
    by_cases q : (tr.getD t []).length = 0
    · show ∀ j, j < 8 → nxT r (tr.getD t []) ((tr.getD t []).length - 1) j < 256
      rw [q]; exact hr
    · exact nxT_lt (hl8 t (by omega)) hr (by omega))
set_option maxRecDepth 100000 in
set_option maxHeartbeats 4000000 in
theorem m_followers (n : Nat) (M0 : AH) {b : Nat} {tr : List (List Nat)} (hg : LgR M0 b tr) (hbn : ∀ q x, M0 q = some x → q < n) (hl8 : LabL tr) (h1 : tr.length < 1000) (h2 : ∀ t, t < tr.length → (tr.getD t []).length < 1000) : Fn yX4_followers cX4_followers 7 (some (.array .int)) 0 [.ref b] n M0 1 8 (fun r n' M' => r = some (.ref n) ∧ n' = n + 1 ∧ M' n = some (cN 8 (foL tr tr.length)) ∧ ∀ q, q < n → M' q = M0 q) := by
  refine Fn.of (by decide) [some _, none, none, none, none, none, none] rfl rfl (Nat.le_of_ble_eq_true rfl) ?_
  intro g G hin hO
  obtain ⟨f, hb, hr⟩ := hg
  have hb9 := hbn _ _ hb
  refine J.bipushN (pc := 0) G dX4_followers_0 8 (by decide +kernel) ?_
  refine J.newI (pc := 2) G q62 dX4_followers_2 (by decide) (by decide) (by decide) (fun M hput hag => ?_)
  refine J.astore_n (L' := [_, _, _, _, _, _, _]) (pc := 4) G dX4_followers_4 rfl (Nat.le_of_ble_eq_true rfl) rfl ?_
  refine J.aload_n (pc := 5) G dX4_followers_5 rfl ?_
  refine J.astore_n (L' := [_, _, _, _, _, _, _]) (pc := 6) G dX4_followers_6 rfl (Nat.le_of_ble_eq_true rfl) rfl ?_
  refine J.aload_n (pc := 7) G dX4_followers_7 rfl ?_
  refine J.alenR (pc := 8) G dX4_followers_8 ((hag b (by omega)).trans hb) (by decide) ?_
  refine J.istore_n (L' := [_, _, _, _, _, _, _]) (pc := 9) G dX4_followers_9 rfl (Nat.le_of_ble_eq_true rfl) rfl ?_
  refine J.iconstN (pc := 10) G dX4_followers_10 0 rfl ?_
  refine J.istore (L' := [_, _, _, _, _, _, _]) (pc := 11) G dX4_followers_11 rfl (Nat.le_of_ble_eq_true rfl) rfl ?_
  have K1 : ∀ q : Nat × AH, (q.1 ≤ tr.length ∧ q.2 n = some (cN 8 (foL tr q.1)) ∧ ∀ x, x < n → q.2 x = M0 x) → ∀ l5 l6, J g (0 + 1) (0 + 8) (n + 1) q.2 [some (.ref b), some (.ref n), some (.ref b), some (.int (iI (tr.length : Int))), some (.int (iI (q.1 : Int))), l5, l6] 13 [] := by
    refine loopJ (fun q => tr.length - q.1) _ _ ?_
    clear hput hag
    rintro ⟨t, M⟩ ⟨ht, hn, hFr⟩ ih l5 l6
    dsimp only at ht hn hFr ih ⊢
    have hstep : foL tr (t + 1) = nxT (foL tr t) (tr.getD t []) ((tr.getD t []).length - 1) := rfl
    refine J.iload (pc := 13) G dX4_followers_13 rfl ?_
    refine J.iload_n (pc := 15) G dX4_followers_15 rfl ?_
    refine J.icmp_geN (pc := 16) (tgt := 67) G dX4_followers_16 (by decide) (by omega) (by omega) (fun h => ?_) (fun h => ?_)
    · refine J.aload_n (pc := 67) G dX4_followers_67 rfl ?_
      exact J.aret (pc := 68) G (Or.inr ⟨_, rfl⟩) hO dX4_followers_68 (by decide) (by decide) ⟨rfl, rfl, by rw [show tr.length = t by omega]; exact hn, hFr⟩
    · obtain ⟨r, c, hf, hM, he⟩ := hr t h
      have hrn := hbn _ _ hM
      have hlt := h2 t h
      have hl9 := hl8 t h
      generalize tr.getD t [] = w at hstep hM he hlt hl9
      generalize foL tr t = s at hstep hn
      refine J.aload_n (pc := 19) G dX4_followers_19 rfl ?_
      refine J.iload (pc := 20) G dX4_followers_20 rfl ?_
      refine J.aald (pc := 22) G dX4_followers_22 ((hFr b hb9).trans hb) (Or.inl rfl) t rfl h (by omega) hf ?_
      refine J.astore (L' := [_, _, _, _, _, _, _]) (pc := 23) G dX4_followers_23 rfl (Nat.le_of_ble_eq_true rfl) rfl ?_
      refine J.iconstN (pc := 25) G dX4_followers_25 1 rfl ?_
      refine J.istore (L' := [_, _, _, _, _, _, _]) (pc := 26) G dX4_followers_26 rfl (Nat.le_of_ble_eq_true rfl) rfl ?_
      have K2 : ∀ q : Nat × AH, (q.1 ≤ w.length - 1 ∧ q.2 n = some (cN 8 (nxT s w q.1)) ∧ ∀ x, x < n → q.2 x = M0 x) → J g (0 + 1) (0 + 8) (n + 1) q.2 [some (.ref b), some (.ref n), some (.ref b), some (.int (iI (tr.length : Int))), some (.int (iI (t : Int))), some (.ref r), some (.int (iI ((1 + q.1 : Nat) : Int)))] 28 [] := by
        refine loopJ (fun q => w.length - q.1) _ _ ?_
        clear hn hFr
        rintro ⟨j, M⟩ ⟨hj, hn, hFr⟩ ih2
        dsimp only at hj hn hFr ih2 ⊢
        have hs2 : nxT s w (j + 1) = upN (nxT s w j) (gd w j) (nxT s w j (gd w j) ||| 2 ^ gd w (j + 1)) := rfl
        have hM8 := (hFr r hrn).trans hM
        refine J.iload (pc := 28) G dX4_followers_28 rfl ?_
        refine J.aload (pc := 30) G dX4_followers_30 rfl ?_
        refine J.alenI (pc := 32) G dX4_followers_32 hM8 ?_
        refine J.icmp_geN (pc := 33) (tgt := 61) G dX4_followers_33 (by decide) (by omega) (by omega) (fun h3 => ?_) (fun h3 => ?_)
        · refine J.iincN (L' := [_, _, _, _, _, _, _]) (pc := 61) G dX4_followers_61 1 rfl rfl rfl rfl ?_
          refine J.goto (pc := 64) (tgt := 13) G dX4_followers_64 (by decide) ?_
          exact ih (t + 1, M) ⟨by dsimp only; omega, by dsimp only; rw [hstep, show w.length - 1 = j by omega]; exact hn, hFr⟩ (by dsimp only; omega) _ _
        · have g1 := hl9 j (by omega)
          have g2 := hl9 (1 + j) h3
          have e1 := he j (by omega)
          have e2 := he (1 + j) h3
          rw [Nat.add_comm 1 j] at g2 e2
          generalize nxT s w j = q9 at hn hs2
          refine J.aload_n (pc := 36) G dX4_followers_36 rfl ?_
          refine J.aload (pc := 37) G dX4_followers_37 rfl ?_
          refine J.iload (pc := 39) G dX4_followers_39 rfl ?_
          refine J.iconstN (pc := 41) G dX4_followers_41 1 rfl ?_
          refine J.isubN (pc := 42) G dX4_followers_42 (by omega) ?_
          refine J.ialdN (pc := 43) G dX4_followers_43 hM8 (by omega) (by omega) ?_
          rw [show 1 + j - 1 = j by omega, e1]
          refine J.dup2 (pc := 44) G dX4_followers_44 rfl rfl ?_
          refine J.ialdN (pc := 45) G dX4_followers_45 hn g1 (by decide) ?_
          refine J.iconstN (pc := 46) G dX4_followers_46 1 rfl ?_
          refine J.aload (pc := 47) G dX4_followers_47 rfl ?_
          refine J.iload (pc := 49) G dX4_followers_49 rfl ?_
          refine J.ialdN (pc := 51) G dX4_followers_51 hM8 h3 (by omega) ?_
          rw [Nat.add_comm 1 j, e2]
          refine J.ishl1 (pc := 52) G dX4_followers_52 (by omega) ?_
          refine J.iorN (pc := 53) G dX4_followers_53 ?_
          refine J.iastN (pc := 54) G dX4_followers_54 hn g1 (by decide) (fun M2 hput hag => ?_)
          rw [Nat.add_comm j 1]
          refine J.iincN (L' := [_, _, _, _, _, _, _]) (pc := 55) G dX4_followers_55 1 rfl rfl rfl rfl ?_
          refine J.goto (pc := 58) (tgt := 28) G dX4_followers_58 (by decide) ?_
          exact ih2 (j + 1, M2) ⟨by dsimp only; omega, by dsimp only; rw [hs2]; exact hput, fun x hx => (hag x (by omega)).trans (hFr x hx)⟩ (by dsimp only; omega)
      exact K2 (0, M) ⟨Nat.zero_le _, hn, hFr⟩
  exact K1 (0, M) ⟨Nat.zero_le _, hput, fun x hx => hag x (by omega)⟩ _ _
end MOD16
