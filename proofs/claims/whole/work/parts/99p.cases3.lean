section CASES3
set_option maxRecDepth 100000 in
set_option maxHeartbeats 4000000 in
theorem k_kind {g : GT} {d mc ms k z n ax b N i : Nat} {M : AH} {xs : Nat → Int32} {A : Nat → Nat → Nat} {S : Nat → Nat} (G : Cx g "ProcessMinerLaw" cL_law 9 d mc ms) (hd : 1900 ≤ d) (hXs : va_X b N xs (gs g) (gs g).heap) (hb : b < glo g) (hN : N ≤ 1536) (hi : i + 3 ≤ N) (hn : ax + 139 ≤ n) (hI : ClsI M ax A S) (hM : MdlI M (ax + 128) A S) (ho : OutI M (ax + 137)) (hk : k + 3 ≤ mc) (hz : z + 18 ≤ ms) (kend : LawEnd g ax b i (k + 3) (z + 18)) : J g k z n M (lawL b ax i none none none) 816 [] := by
  have hok := hI.2.1
  obtain ⟨v, ev, hv⟩ := int_self (xs (i + 1))
  refine J.aload_n (pc := 816) G dL_law_816 rfl ?_
  refine J.aload_n (pc := 817) G dL_law_817 rfl ?_
  refine J.iload (pc := 818) G dL_law_818 rfl ?_
  refine J.iconstN (pc := 820) G dL_law_820 1 rfl ?_
  refine J.iaddN (pc := 821) G dL_law_821 ?_
  refine J.sld (pc := 822) G hXs hb dL_law_822 (i + 1) rfl (by omega) (by omega) ?_
  rw [ev]
  refine J.aload_n (pc := 823) G dL_law_823 rfl ?_
  refine J.callW (pc := 824) (na := 3) G (L_kind n M hn hI ho.1 hv) q516 q517 q518 q0 (by decide +kernel) dL_law_824 rfl (Nat.le_of_ble_eq_true rfl) rfl ⟨by omega, by decide, by omega, by omega⟩ ?_
  rintro r9 n1 M1 ⟨hr9, hn1, hI1, ⟨f1, ho1, hy1⟩, hfr1⟩
  subst hr9
  dsimp only [Option.toList, List.cons_append, List.nil_append]
  obtain ⟨R, P, Z, hM0, hw, h8, hT, hw8⟩ := hM.keep (fun q a1 a2 => hfr1 q (by omega) (by omega) (by omega))
  refine J.istore (L' := [_, _, _, _, _, _, _, _, _]) (pc := 827) G dL_law_827 rfl (Nat.le_of_ble_eq_true rfl) rfl ?_
  refine J.aload_n (pc := 829) G dL_law_829 rfl ?_
  refine J.aload_n (pc := 830) G dL_law_830 rfl ?_
  refine J.iload (pc := 831) G dL_law_831 rfl ?_
  refine J.iconstN (pc := 833) G dL_law_833 1 rfl ?_
  refine J.iaddN (pc := 834) G dL_law_834 ?_
  refine J.sld (pc := 835) G hXs hb dL_law_835 (i + 1) rfl (by omega) (by omega) ?_
  rw [ev]
  refine J.callV (pc := 836) (na := 1) G (D_kind n1 M1 hM0 hw h8 hT hw8 hok hv) q885 q886 q887 q888 q5 (by decide +kernel) dL_law_836 (hM0.at 0 rfl) rfl rfl (Nat.le_of_ble_eq_true rfl) rfl ⟨by omega, by decide, by omega, by omega⟩ ?_
  rintro r9 n9 M2 ⟨x, R2, P2, Z2, hr9, hn9, hM2, hc2, hx2, hin2, hfr2⟩
  dsimp only [Option.toList, List.cons_append, List.nil_append]
  subst hr9
  subst hn9
  dsimp only [Option.toList, List.cons_append, List.nil_append]
  have hI2 : ClsI M2 ax (A) (S) := hI1.keep (fun q a1 a2 => hfr2 q (by omega))
  have ho2 : M2 (ax + 137) = some (cJ 1 f1) := (hfr2 _ (by omega)).trans ho1
  have hoI : OutI M2 (ax + 137) := ⟨⟨f1, ho2⟩, by
    obtain ⟨f9, h9⟩ := ho.2
    exact ⟨f9, (hfr2 _ (by omega)).trans ((hfr1 _ (by omega) (by omega) (by omega)).trans h9)⟩⟩
  have hMd : MdlI M2 (ax + 128) (A) (S) := ⟨R2, P2, Z2, hM2, hin2⟩
  refine J.istore (L' := [_, _, _, _, _, _, _, _, _]) (pc := 839) G dL_law_839 rfl (Nat.le_of_ble_eq_true rfl) rfl ?_
  refine J.aload_n (pc := 841) G dL_law_841 rfl ?_
  refine J.callV (pc := 842) (na := 0) G (m_thrown n9 M2 hM2) q735 q736 q737 q738 q5 (by decide +kernel) dL_law_842 (hM2.at 0 rfl) rfl rfl (Nat.le_of_ble_eq_true rfl) rfl ⟨by omega, by decide, by omega, by omega⟩ ?_
  rintro r9 n9 M9 ⟨hr9, hn9, hM9⟩
  subst hr9
  rw [hn9, hM9]
  clear hn9 hM9 n9 M9
  dsimp only [Option.toList, List.cons_append, List.nil_append]
  rw [hc2]
  generalize hkc : kcK A S v = KC at *
  have hkc2 : KC ≤ 2 := by
    rw [← hkc]
    unfold kcK
    (try split) <;> (try split) <;> omega
  refine J.iload (pc := 845) G dL_law_845 rfl ?_
  refine J.icmp_eqN (pc := 847) (tgt := 852) G dL_law_847 (by decide) (by omega) (by omega) (fun _ => ?_) (fun h => absurd rfl h)
  refine J.iload (pc := 852) G dL_law_852 rfl ?_
  refine J.if_neN (pc := 854) (tgt := 869) G dL_law_854 (by decide) (by omega) (fun h => ?_) (fun h => ?_)
  · refine J.goto (pc := 869) (tgt := 1457) G dL_law_869 (by decide) ?_
    exact kend.to (by omega) (by omega) (by omega) hI2 hMd hoI
  · refine J.aload_n (pc := 857) G dL_law_857 rfl ?_
    refine J.iconstN (pc := 858) G dL_law_858 0 rfl ?_
    refine J.lald (pc := 859) G dL_law_859 ho2 0 rfl (by decide) (by decide) ?_
    refine J.iload (pc := 860) G dL_law_860 rfl ?_
    refine J.i2l (pc := 862) G dL_law_862 ?_
    rw [hy1 (by omega), hx2 (by omega)]
    refine J.lcmp (pc := 863) G dL_law_863 ?_
    rw [cmp_same]
    refine J.if_eq (pc := 864) (tgt := 869) G dL_law_864 (by decide) (by decide) (by decide) (fun _ => ?_) (fun h => absurd rfl h)
    refine J.goto (pc := 869) (tgt := 1457) G dL_law_869 (by decide) ?_
    exact kend.to (by omega) (by omega) (by omega) hI2 hMd hoI
set_option maxRecDepth 100000 in
set_option maxHeartbeats 4000000 in
theorem k_labelsOf {g : GT} {d mc ms k z n ax b N i : Nat} {M : AH} {xs : Nat → Int32} {A : Nat → Nat → Nat} {S : Nat → Nat} (G : Cx g "ProcessMinerLaw" cL_law 9 d mc ms) (hd : 1900 ≤ d) (hXs : va_X b N xs (gs g) (gs g).heap) (hb : b < glo g) (hN : N ≤ 1536) (hi : i + 3 ≤ N) (hn : ax + 139 ≤ n) (hI : ClsI M ax A S) (hM : MdlI M (ax + 128) A S) (ho : OutI M (ax + 137)) (hk : k + 3 ≤ mc) (hz : z + 18 ≤ ms) (kend : LawEnd g ax b i (k + 3) (z + 18)) : J g k z n M (lawL b ax i none none none) 872 [] := by
  have hok := hI.2.1
  obtain ⟨v, ev, hv⟩ := int_self (xs (i + 1))
  refine J.aload_n (pc := 872) G dL_law_872 rfl ?_
  refine J.aload_n (pc := 873) G dL_law_873 rfl ?_
  refine J.iload (pc := 874) G dL_law_874 rfl ?_
  refine J.iconstN (pc := 876) G dL_law_876 1 rfl ?_
  refine J.iaddN (pc := 877) G dL_law_877 ?_
  refine J.sld (pc := 878) G hXs hb dL_law_878 (i + 1) rfl (by omega) (by omega) ?_
  rw [ev]
  refine J.aload_n (pc := 879) G dL_law_879 rfl ?_
  refine J.callW (pc := 880) (na := 3) G (L_labelsOf n M hn hI ho.1 hv) q533 q534 q535 q0 (by decide +kernel) dL_law_880 rfl (Nat.le_of_ble_eq_true rfl) rfl ⟨by omega, by decide, by omega, by omega⟩ ?_
  rintro r9 n1 M1 ⟨hr9, hn1, hI1, ⟨f1, ho1, hy1⟩, hfr1⟩
  subst hr9
  dsimp only [Option.toList, List.cons_append, List.nil_append]
  obtain ⟨R, P, Z, hM0, hw, h8, hT, hw8⟩ := hM.keep (fun q a1 a2 => hfr1 q (by omega) (by omega) (by omega))
  refine J.istore (L' := [_, _, _, _, _, _, _, _, _]) (pc := 883) G dL_law_883 rfl (Nat.le_of_ble_eq_true rfl) rfl ?_
  refine J.aload_n (pc := 885) G dL_law_885 rfl ?_
  refine J.aload_n (pc := 886) G dL_law_886 rfl ?_
  refine J.iload (pc := 887) G dL_law_887 rfl ?_
  refine J.iconstN (pc := 889) G dL_law_889 1 rfl ?_
  refine J.iaddN (pc := 890) G dL_law_890 ?_
  refine J.sld (pc := 891) G hXs hb dL_law_891 (i + 1) rfl (by omega) (by omega) ?_
  rw [ev]
  refine J.callV (pc := 892) (na := 1) G (D_labelsOf n1 M1 hM0 hw h8 hT hw8 hok hv) q893 q894 q895 q896 q5 (by decide +kernel) dL_law_892 (hM0.at 0 rfl) rfl rfl (Nat.le_of_ble_eq_true rfl) rfl ⟨by omega, by decide, by omega, by omega⟩ ?_
  rintro r9 n9 M2 ⟨x, R2, P2, Z2, hr9, hn9, hM2, hc2, hx2, hin2, hfr2⟩
  dsimp only [Option.toList, List.cons_append, List.nil_append]
  subst hr9
  subst hn9
  dsimp only [Option.toList, List.cons_append, List.nil_append]
  have hI2 : ClsI M2 ax (A) (S) := hI1.keep (fun q a1 a2 => hfr2 q (by omega))
  have ho2 : M2 (ax + 137) = some (cJ 1 f1) := (hfr2 _ (by omega)).trans ho1
  have hoI : OutI M2 (ax + 137) := ⟨⟨f1, ho2⟩, by
    obtain ⟨f9, h9⟩ := ho.2
    exact ⟨f9, (hfr2 _ (by omega)).trans ((hfr1 _ (by omega) (by omega) (by omega)).trans h9)⟩⟩
  have hMd : MdlI M2 (ax + 128) (A) (S) := ⟨R2, P2, Z2, hM2, hin2⟩
  refine J.istore (L' := [_, _, _, _, _, _, _, _, _]) (pc := 895) G dL_law_895 rfl (Nat.le_of_ble_eq_true rfl) rfl ?_
  refine J.aload_n (pc := 897) G dL_law_897 rfl ?_
  refine J.callV (pc := 898) (na := 0) G (m_thrown n9 M2 hM2) q735 q736 q737 q738 q5 (by decide +kernel) dL_law_898 (hM2.at 0 rfl) rfl rfl (Nat.le_of_ble_eq_true rfl) rfl ⟨by omega, by decide, by omega, by omega⟩ ?_
  rintro r9 n9 M9 ⟨hr9, hn9, hM9⟩
  subst hr9
  rw [hn9, hM9]
  clear hn9 hM9 n9 M9
  dsimp only [Option.toList, List.cons_append, List.nil_append]
  rw [hc2]
  generalize hkc : kcK A S v = KC at *
  have hkc2 : KC ≤ 2 := by
    rw [← hkc]
    unfold kcK
    (try split) <;> (try split) <;> omega
  refine J.iload (pc := 901) G dL_law_901 rfl ?_
  refine J.icmp_eqN (pc := 903) (tgt := 908) G dL_law_903 (by decide) (by omega) (by omega) (fun _ => ?_) (fun h => absurd rfl h)
  refine J.iload (pc := 908) G dL_law_908 rfl ?_
  refine J.if_neN (pc := 910) (tgt := 925) G dL_law_910 (by decide) (by omega) (fun h => ?_) (fun h => ?_)
  · refine J.goto (pc := 925) (tgt := 1457) G dL_law_925 (by decide) ?_
    exact kend.to (by omega) (by omega) (by omega) hI2 hMd hoI
  · refine J.aload_n (pc := 913) G dL_law_913 rfl ?_
    refine J.iconstN (pc := 914) G dL_law_914 0 rfl ?_
    refine J.lald (pc := 915) G dL_law_915 ho2 0 rfl (by decide) (by decide) ?_
    refine J.iload (pc := 916) G dL_law_916 rfl ?_
    refine J.i2l (pc := 918) G dL_law_918 ?_
    rw [hy1 (by omega), hx2 (by omega)]
    refine J.lcmp (pc := 919) G dL_law_919 ?_
    rw [cmp_same]
    refine J.if_eq (pc := 920) (tgt := 925) G dL_law_920 (by decide) (by decide) (by decide) (fun _ => ?_) (fun h => absurd rfl h)
    refine J.goto (pc := 925) (tgt := 1457) G dL_law_925 (by decide) ?_
    exact kend.to (by omega) (by omega) (by omega) hI2 hMd hoI
set_option maxRecDepth 100000 in
set_option maxHeartbeats 4000000 in
theorem k_parent {g : GT} {d mc ms k z n ax b N i : Nat} {M : AH} {xs : Nat → Int32} {A : Nat → Nat → Nat} {S : Nat → Nat} (G : Cx g "ProcessMinerLaw" cL_law 9 d mc ms) (hd : 1900 ≤ d) (hXs : va_X b N xs (gs g) (gs g).heap) (hb : b < glo g) (hN : N ≤ 1536) (hi : i + 3 ≤ N) (hn : ax + 139 ≤ n) (hI : ClsI M ax A S) (hM : MdlI M (ax + 128) A S) (ho : OutI M (ax + 137)) (hk : k + 3 ≤ mc) (hz : z + 18 ≤ ms) (kend : LawEnd g ax b i (k + 3) (z + 18)) : J g k z n M (lawL b ax i none none none) 928 [] := by
  have hok := hI.2.1
  obtain ⟨v, ev, hv⟩ := int_self (xs (i + 1))
  refine J.aload_n (pc := 928) G dL_law_928 rfl ?_
  refine J.aload_n (pc := 929) G dL_law_929 rfl ?_
  refine J.iload (pc := 930) G dL_law_930 rfl ?_
  refine J.iconstN (pc := 932) G dL_law_932 1 rfl ?_
  refine J.iaddN (pc := 933) G dL_law_933 ?_
  refine J.sld (pc := 934) G hXs hb dL_law_934 (i + 1) rfl (by omega) (by omega) ?_
  rw [ev]
  refine J.aload_n (pc := 935) G dL_law_935 rfl ?_
  refine J.callW (pc := 936) (na := 3) G (L_parent n M hn hI ho.1 hv) q540 q541 q542 q0 (by decide +kernel) dL_law_936 rfl (Nat.le_of_ble_eq_true rfl) rfl ⟨by omega, by decide, by omega, by omega⟩ ?_
  rintro r9 n1 M1 ⟨hr9, hn1, hI1, ⟨f1, ho1, hy1⟩, hfr1⟩
  subst hr9
  dsimp only [Option.toList, List.cons_append, List.nil_append]
  obtain ⟨R, P, Z, hM0, hw, h8, hT, hw8⟩ := hM.keep (fun q a1 a2 => hfr1 q (by omega) (by omega) (by omega))
  refine J.istore (L' := [_, _, _, _, _, _, _, _, _]) (pc := 939) G dL_law_939 rfl (Nat.le_of_ble_eq_true rfl) rfl ?_
  refine J.aload_n (pc := 941) G dL_law_941 rfl ?_
  refine J.aload_n (pc := 942) G dL_law_942 rfl ?_
  refine J.iload (pc := 943) G dL_law_943 rfl ?_
  refine J.iconstN (pc := 945) G dL_law_945 1 rfl ?_
  refine J.iaddN (pc := 946) G dL_law_946 ?_
  refine J.sld (pc := 947) G hXs hb dL_law_947 (i + 1) rfl (by omega) (by omega) ?_
  rw [ev]
  refine J.callV (pc := 948) (na := 1) G (D_parent n1 M1 hM0 hw h8 hT hw8 hok hv) q897 q898 q899 q900 q5 (by decide +kernel) dL_law_948 (hM0.at 0 rfl) rfl rfl (Nat.le_of_ble_eq_true rfl) rfl ⟨by omega, by decide, by omega, by omega⟩ ?_
  rintro r9 n9 M2 ⟨x, R2, P2, Z2, hr9, hn9, hM2, hc2, hx2, hin2, hfr2⟩
  dsimp only [Option.toList, List.cons_append, List.nil_append]
  subst hr9
  subst hn9
  dsimp only [Option.toList, List.cons_append, List.nil_append]
  have hI2 : ClsI M2 ax (A) (S) := hI1.keep (fun q a1 a2 => hfr2 q (by omega))
  have ho2 : M2 (ax + 137) = some (cJ 1 f1) := (hfr2 _ (by omega)).trans ho1
  have hoI : OutI M2 (ax + 137) := ⟨⟨f1, ho2⟩, by
    obtain ⟨f9, h9⟩ := ho.2
    exact ⟨f9, (hfr2 _ (by omega)).trans ((hfr1 _ (by omega) (by omega) (by omega)).trans h9)⟩⟩
  have hMd : MdlI M2 (ax + 128) (A) (S) := ⟨R2, P2, Z2, hM2, hin2⟩
  refine J.istore (L' := [_, _, _, _, _, _, _, _, _]) (pc := 951) G dL_law_951 rfl (Nat.le_of_ble_eq_true rfl) rfl ?_
  refine J.aload_n (pc := 953) G dL_law_953 rfl ?_
  refine J.callV (pc := 954) (na := 0) G (m_thrown n9 M2 hM2) q735 q736 q737 q738 q5 (by decide +kernel) dL_law_954 (hM2.at 0 rfl) rfl rfl (Nat.le_of_ble_eq_true rfl) rfl ⟨by omega, by decide, by omega, by omega⟩ ?_
  rintro r9 n9 M9 ⟨hr9, hn9, hM9⟩
  subst hr9
  rw [hn9, hM9]
  clear hn9 hM9 n9 M9
  dsimp only [Option.toList, List.cons_append, List.nil_append]
  rw [hc2]
  generalize hkc : kcK A S v = KC at *
  have hkc2 : KC ≤ 2 := by
    rw [← hkc]
    unfold kcK
    (try split) <;> (try split) <;> omega
  refine J.iload (pc := 957) G dL_law_957 rfl ?_
  refine J.icmp_eqN (pc := 959) (tgt := 964) G dL_law_959 (by decide) (by omega) (by omega) (fun _ => ?_) (fun h => absurd rfl h)
  refine J.iload (pc := 964) G dL_law_964 rfl ?_
  refine J.if_neN (pc := 966) (tgt := 981) G dL_law_966 (by decide) (by omega) (fun h => ?_) (fun h => ?_)
  · refine J.goto (pc := 981) (tgt := 1457) G dL_law_981 (by decide) ?_
    exact kend.to (by omega) (by omega) (by omega) hI2 hMd hoI
  · refine J.aload_n (pc := 969) G dL_law_969 rfl ?_
    refine J.iconstN (pc := 970) G dL_law_970 0 rfl ?_
    refine J.lald (pc := 971) G dL_law_971 ho2 0 rfl (by decide) (by decide) ?_
    refine J.iload (pc := 972) G dL_law_972 rfl ?_
    refine J.i2l (pc := 974) G dL_law_974 ?_
    rw [hy1 (by omega), hx2 (by omega)]
    refine J.lcmp (pc := 975) G dL_law_975 ?_
    rw [cmp_same]
    refine J.if_eq (pc := 976) (tgt := 981) G dL_law_976 (by decide) (by decide) (by decide) (fun _ => ?_) (fun h => absurd rfl h)
    refine J.goto (pc := 981) (tgt := 1457) G dL_law_981 (by decide) ?_
    exact kend.to (by omega) (by omega) (by omega) hI2 hMd hoI
set_option maxRecDepth 100000 in
set_option maxHeartbeats 4000000 in
theorem k_children {g : GT} {d mc ms k z n ax b N i : Nat} {M : AH} {xs : Nat → Int32} {A : Nat → Nat → Nat} {S : Nat → Nat} (G : Cx g "ProcessMinerLaw" cL_law 9 d mc ms) (hd : 1900 ≤ d) (hXs : va_X b N xs (gs g) (gs g).heap) (hb : b < glo g) (hN : N ≤ 1536) (hi : i + 3 ≤ N) (hn : ax + 139 ≤ n) (hI : ClsI M ax A S) (hM : MdlI M (ax + 128) A S) (ho : OutI M (ax + 137)) (hk : k + 3 ≤ mc) (hz : z + 18 ≤ ms) (kend : LawEnd g ax b i (k + 3) (z + 18)) : J g k z n M (lawL b ax i none none none) 984 [] := by
  have hok := hI.2.1
  obtain ⟨v, ev, hv⟩ := int_self (xs (i + 1))
  refine J.aload_n (pc := 984) G dL_law_984 rfl ?_
  refine J.aload_n (pc := 985) G dL_law_985 rfl ?_
  refine J.iload (pc := 986) G dL_law_986 rfl ?_
  refine J.iconstN (pc := 988) G dL_law_988 1 rfl ?_
  refine J.iaddN (pc := 989) G dL_law_989 ?_
  refine J.sld (pc := 990) G hXs hb dL_law_990 (i + 1) rfl (by omega) (by omega) ?_
  rw [ev]
  refine J.aload_n (pc := 991) G dL_law_991 rfl ?_
  refine J.callW (pc := 992) (na := 3) G (L_children n M hn hI ho.1 hv) q547 q548 q549 q0 (by decide +kernel) dL_law_992 rfl (Nat.le_of_ble_eq_true rfl) rfl ⟨by omega, by decide, by omega, by omega⟩ ?_
  rintro r9 n1 M1 ⟨hr9, hn1, hI1, ⟨f1, ho1, hy1⟩, hfr1⟩
  subst hr9
  dsimp only [Option.toList, List.cons_append, List.nil_append]
  obtain ⟨R, P, Z, hM0, hw, h8, hT, hw8⟩ := hM.keep (fun q a1 a2 => hfr1 q (by omega) (by omega) (by omega))
  refine J.istore (L' := [_, _, _, _, _, _, _, _, _]) (pc := 995) G dL_law_995 rfl (Nat.le_of_ble_eq_true rfl) rfl ?_
  refine J.aload_n (pc := 997) G dL_law_997 rfl ?_
  refine J.aload_n (pc := 998) G dL_law_998 rfl ?_
  refine J.iload (pc := 999) G dL_law_999 rfl ?_
  refine J.iconstN (pc := 1001) G dL_law_1001 1 rfl ?_
  refine J.iaddN (pc := 1002) G dL_law_1002 ?_
  refine J.sld (pc := 1003) G hXs hb dL_law_1003 (i + 1) rfl (by omega) (by omega) ?_
  rw [ev]
  refine J.callV (pc := 1004) (na := 1) G (D_children n1 M1 hM0 hw h8 hT hw8 hok hv) q901 q902 q903 q904 q5 (by decide +kernel) dL_law_1004 (hM0.at 0 rfl) rfl rfl (Nat.le_of_ble_eq_true rfl) rfl ⟨by omega, by decide, by omega, by omega⟩ ?_
  rintro r9 n9 M2 ⟨x, R2, P2, Z2, hr9, hn9, hM2, hc2, hx2, hin2, hfr2⟩
  dsimp only [Option.toList, List.cons_append, List.nil_append]
  subst hr9
  subst hn9
  dsimp only [Option.toList, List.cons_append, List.nil_append]
  have hI2 : ClsI M2 ax (A) (S) := hI1.keep (fun q a1 a2 => hfr2 q (by omega))
  have ho2 : M2 (ax + 137) = some (cJ 1 f1) := (hfr2 _ (by omega)).trans ho1
  have hoI : OutI M2 (ax + 137) := ⟨⟨f1, ho2⟩, by
    obtain ⟨f9, h9⟩ := ho.2
    exact ⟨f9, (hfr2 _ (by omega)).trans ((hfr1 _ (by omega) (by omega) (by omega)).trans h9)⟩⟩
  have hMd : MdlI M2 (ax + 128) (A) (S) := ⟨R2, P2, Z2, hM2, hin2⟩
  refine J.istore (L' := [_, _, _, _, _, _, _, _, _]) (pc := 1007) G dL_law_1007 rfl (Nat.le_of_ble_eq_true rfl) rfl ?_
  refine J.aload_n (pc := 1009) G dL_law_1009 rfl ?_
  refine J.callV (pc := 1010) (na := 0) G (m_thrown n9 M2 hM2) q735 q736 q737 q738 q5 (by decide +kernel) dL_law_1010 (hM2.at 0 rfl) rfl rfl (Nat.le_of_ble_eq_true rfl) rfl ⟨by omega, by decide, by omega, by omega⟩ ?_
  rintro r9 n9 M9 ⟨hr9, hn9, hM9⟩
  subst hr9
  rw [hn9, hM9]
  clear hn9 hM9 n9 M9
  dsimp only [Option.toList, List.cons_append, List.nil_append]
  rw [hc2]
  generalize hkc : kcK A S v = KC at *
  have hkc2 : KC ≤ 2 := by
    rw [← hkc]
    unfold kcK
    (try split) <;> (try split) <;> omega
  refine J.iload (pc := 1013) G dL_law_1013 rfl ?_
  refine J.icmp_eqN (pc := 1015) (tgt := 1020) G dL_law_1015 (by decide) (by omega) (by omega) (fun _ => ?_) (fun h => absurd rfl h)
  refine J.iload (pc := 1020) G dL_law_1020 rfl ?_
  refine J.if_neN (pc := 1022) (tgt := 1037) G dL_law_1022 (by decide) (by omega) (fun h => ?_) (fun h => ?_)
  · refine J.goto (pc := 1037) (tgt := 1457) G dL_law_1037 (by decide) ?_
    exact kend.to (by omega) (by omega) (by omega) hI2 hMd hoI
  · refine J.aload_n (pc := 1025) G dL_law_1025 rfl ?_
    refine J.iconstN (pc := 1026) G dL_law_1026 0 rfl ?_
    refine J.lald (pc := 1027) G dL_law_1027 ho2 0 rfl (by decide) (by decide) ?_
    refine J.iload (pc := 1028) G dL_law_1028 rfl ?_
    refine J.i2l (pc := 1030) G dL_law_1030 ?_
    rw [hy1 (by omega), hx2 (by omega)]
    refine J.lcmp (pc := 1031) G dL_law_1031 ?_
    rw [cmp_same]
    refine J.if_eq (pc := 1032) (tgt := 1037) G dL_law_1032 (by decide) (by decide) (by decide) (fun _ => ?_) (fun h => absurd rfl h)
    refine J.goto (pc := 1037) (tgt := 1457) G dL_law_1037 (by decide) ?_
    exact kend.to (by omega) (by omega) (by omega) hI2 hMd hoI
set_option maxRecDepth 100000 in
set_option maxHeartbeats 4000000 in
theorem k_child {g : GT} {d mc ms k z n ax b N i : Nat} {M : AH} {xs : Nat → Int32} {A : Nat → Nat → Nat} {S : Nat → Nat} (G : Cx g "ProcessMinerLaw" cL_law 9 d mc ms) (hd : 1900 ≤ d) (hXs : va_X b N xs (gs g) (gs g).heap) (hb : b < glo g) (hN : N ≤ 1536) (hi : i + 3 ≤ N) (hn : ax + 139 ≤ n) (hI : ClsI M ax A S) (hM : MdlI M (ax + 128) A S) (ho : OutI M (ax + 137)) (hk : k + 3 ≤ mc) (hz : z + 18 ≤ ms) (kend : LawEnd g ax b i (k + 3) (z + 18)) : J g k z n M (lawL b ax i none none none) 1040 [] := by
  have hok := hI.2.1
  obtain ⟨u, eu, hu⟩ := int_self (xs (i + 1))
  obtain ⟨v, ev, hv⟩ := int_self (xs (i + 2))
  refine J.aload_n (pc := 1040) G dL_law_1040 rfl ?_
  refine J.aload_n (pc := 1041) G dL_law_1041 rfl ?_
  refine J.iload (pc := 1042) G dL_law_1042 rfl ?_
  refine J.iconstN (pc := 1044) G dL_law_1044 1 rfl ?_
  refine J.iaddN (pc := 1045) G dL_law_1045 ?_
  refine J.sld (pc := 1046) G hXs hb dL_law_1046 (i + 1) rfl (by omega) (by omega) ?_
  rw [eu]
  refine J.aload_n (pc := 1047) G dL_law_1047 rfl ?_
  refine J.iload (pc := 1048) G dL_law_1048 rfl ?_
  refine J.iconstN (pc := 1050) G dL_law_1050 2 rfl ?_
  refine J.iaddN (pc := 1051) G dL_law_1051 ?_
  refine J.sld (pc := 1052) G hXs hb dL_law_1052 (i + 2) rfl (by omega) (by omega) ?_
  rw [ev]
  refine J.aload_n (pc := 1053) G dL_law_1053 rfl ?_
  refine J.callW (pc := 1054) (na := 4) G (L_child n M hn hI ho.1 hu hv) q554 q555 q556 q0 (by decide +kernel) dL_law_1054 rfl (Nat.le_of_ble_eq_true rfl) rfl ⟨by omega, by decide, by omega, by omega⟩ ?_
  rintro r9 n1 M1 ⟨hr9, hn1, hI1, ⟨f1, ho1, hy1⟩, hfr1⟩
  subst hr9
  dsimp only [Option.toList, List.cons_append, List.nil_append]
  obtain ⟨R, P, Z, hM0, hw, h8, hT, hw8⟩ := hM.keep (fun q a1 a2 => hfr1 q (by omega) (by omega) (by omega))
  refine J.istore (L' := [_, _, _, _, _, _, _, _, _]) (pc := 1057) G dL_law_1057 rfl (Nat.le_of_ble_eq_true rfl) rfl ?_
  refine J.aload_n (pc := 1059) G dL_law_1059 rfl ?_
  refine J.aload_n (pc := 1060) G dL_law_1060 rfl ?_
  refine J.iload (pc := 1061) G dL_law_1061 rfl ?_
  refine J.iconstN (pc := 1063) G dL_law_1063 1 rfl ?_
  refine J.iaddN (pc := 1064) G dL_law_1064 ?_
  refine J.sld (pc := 1065) G hXs hb dL_law_1065 (i + 1) rfl (by omega) (by omega) ?_
  rw [eu]
  refine J.aload_n (pc := 1066) G dL_law_1066 rfl ?_
  refine J.iload (pc := 1067) G dL_law_1067 rfl ?_
  refine J.iconstN (pc := 1069) G dL_law_1069 2 rfl ?_
  refine J.iaddN (pc := 1070) G dL_law_1070 ?_
  refine J.sld (pc := 1071) G hXs hb dL_law_1071 (i + 2) rfl (by omega) (by omega) ?_
  rw [ev]
  refine J.callV (pc := 1072) (na := 2) G (D_child n1 M1 hM0 hw h8 hT hw8 hok hu hv) q909 q910 q911 q912 q5 (by decide +kernel) dL_law_1072 (hM0.at 0 rfl) rfl rfl (Nat.le_of_ble_eq_true rfl) rfl ⟨by omega, by decide, by omega, by omega⟩ ?_
  rintro r9 n9 M2 ⟨x, R2, P2, Z2, hr9, hn9, hM2, hc2, hx2, hin2, hfr2⟩
  dsimp only [Option.toList, List.cons_append, List.nil_append]
  subst hr9
  subst hn9
  dsimp only [Option.toList, List.cons_append, List.nil_append]
  have hI2 : ClsI M2 ax (A) (S) := hI1.keep (fun q a1 a2 => hfr2 q (by omega))
  have ho2 : M2 (ax + 137) = some (cJ 1 f1) := (hfr2 _ (by omega)).trans ho1
  have hoI : OutI M2 (ax + 137) := ⟨⟨f1, ho2⟩, by
    obtain ⟨f9, h9⟩ := ho.2
    exact ⟨f9, (hfr2 _ (by omega)).trans ((hfr1 _ (by omega) (by omega) (by omega)).trans h9)⟩⟩
  have hMd : MdlI M2 (ax + 128) (A) (S) := ⟨R2, P2, Z2, hM2, hin2⟩
  refine J.istore (L' := [_, _, _, _, _, _, _, _, _]) (pc := 1075) G dL_law_1075 rfl (Nat.le_of_ble_eq_true rfl) rfl ?_
  refine J.aload_n (pc := 1077) G dL_law_1077 rfl ?_
  refine J.callV (pc := 1078) (na := 0) G (m_thrown n9 M2 hM2) q735 q736 q737 q738 q5 (by decide +kernel) dL_law_1078 (hM2.at 0 rfl) rfl rfl (Nat.le_of_ble_eq_true rfl) rfl ⟨by omega, by decide, by omega, by omega⟩ ?_
  rintro r9 n9 M9 ⟨hr9, hn9, hM9⟩
  subst hr9
  rw [hn9, hM9]
  clear hn9 hM9 n9 M9
  dsimp only [Option.toList, List.cons_append, List.nil_append]
  rw [hc2]
  generalize hkc : kcC A S u v = KC at *
  have hkc2 : KC ≤ 2 := by
    rw [← hkc]
    unfold kcC
    (try split) <;> (try split) <;> omega
  refine J.iload (pc := 1081) G dL_law_1081 rfl ?_
  refine J.icmp_eqN (pc := 1083) (tgt := 1088) G dL_law_1083 (by decide) (by omega) (by omega) (fun _ => ?_) (fun h => absurd rfl h)
  refine J.iload (pc := 1088) G dL_law_1088 rfl ?_
  refine J.if_neN (pc := 1090) (tgt := 1105) G dL_law_1090 (by decide) (by omega) (fun h => ?_) (fun h => ?_)
  · refine J.goto (pc := 1105) (tgt := 1457) G dL_law_1105 (by decide) ?_
    exact kend.to (by omega) (by omega) (by omega) hI2 hMd hoI
  · refine J.aload_n (pc := 1093) G dL_law_1093 rfl ?_
    refine J.iconstN (pc := 1094) G dL_law_1094 0 rfl ?_
    refine J.lald (pc := 1095) G dL_law_1095 ho2 0 rfl (by decide) (by decide) ?_
    refine J.iload (pc := 1096) G dL_law_1096 rfl ?_
    refine J.i2l (pc := 1098) G dL_law_1098 ?_
    rw [hy1 (by omega), hx2 (by omega)]
    refine J.lcmp (pc := 1099) G dL_law_1099 ?_
    rw [cmp_same]
    refine J.if_eq (pc := 1100) (tgt := 1105) G dL_law_1100 (by decide) (by decide) (by decide) (fun _ => ?_) (fun h => absurd rfl h)
    refine J.goto (pc := 1105) (tgt := 1457) G dL_law_1105 (by decide) ?_
    exact kend.to (by omega) (by omega) (by omega) hI2 hMd hoI
set_option maxRecDepth 100000 in
set_option maxHeartbeats 4000000 in
theorem k_shortest {g : GT} {d mc ms k z n ax b N i : Nat} {M : AH} {xs : Nat → Int32} {A : Nat → Nat → Nat} {S : Nat → Nat} (G : Cx g "ProcessMinerLaw" cL_law 9 d mc ms) (hd : 1900 ≤ d) (hXs : va_X b N xs (gs g) (gs g).heap) (hb : b < glo g) (hN : N ≤ 1536) (hi : i + 3 ≤ N) (hn : ax + 139 ≤ n) (hI : ClsI M ax A S) (hM : MdlI M (ax + 128) A S) (ho : OutI M (ax + 137)) (hk : k + 3 ≤ mc) (hz : z + 18 ≤ ms) (kend : LawEnd g ax b i (k + 3) (z + 18)) : J g k z n M (lawL b ax i none none none) 1108 [] := by
  have hok := hI.2.1
  obtain ⟨v, ev, hv⟩ := int_self (xs (i + 1))
  refine J.aload_n (pc := 1108) G dL_law_1108 rfl ?_
  refine J.aload_n (pc := 1109) G dL_law_1109 rfl ?_
  refine J.iload (pc := 1110) G dL_law_1110 rfl ?_
  refine J.iconstN (pc := 1112) G dL_law_1112 1 rfl ?_
  refine J.iaddN (pc := 1113) G dL_law_1113 ?_
  refine J.sld (pc := 1114) G hXs hb dL_law_1114 (i + 1) rfl (by omega) (by omega) ?_
  rw [ev]
  refine J.aload_n (pc := 1115) G dL_law_1115 rfl ?_
  refine J.callW (pc := 1116) (na := 3) G (L_shortest n M hn hI ho.1 hv) q566 q567 q568 q0 (by decide +kernel) dL_law_1116 rfl (Nat.le_of_ble_eq_true rfl) rfl ⟨by omega, by decide, by omega, by omega⟩ ?_
  rintro r9 n1 M1 ⟨hr9, hn1, hI1, ⟨f1, ho1, hy1⟩, hfr1⟩
  subst hr9
  dsimp only [Option.toList, List.cons_append, List.nil_append]
  obtain ⟨R, P, Z, hM0, hw, h8, hT, hw8⟩ := hM.keep (fun q a1 a2 => hfr1 q (by omega) (by omega) (by omega))
  refine J.istore (L' := [_, _, _, _, _, _, _, _, _]) (pc := 1119) G dL_law_1119 rfl (Nat.le_of_ble_eq_true rfl) rfl ?_
  refine J.aload_n (pc := 1121) G dL_law_1121 rfl ?_
  refine J.aload_n (pc := 1122) G dL_law_1122 rfl ?_
  refine J.iload (pc := 1123) G dL_law_1123 rfl ?_
  refine J.iconstN (pc := 1125) G dL_law_1125 1 rfl ?_
  refine J.iaddN (pc := 1126) G dL_law_1126 ?_
  refine J.sld (pc := 1127) G hXs hb dL_law_1127 (i + 1) rfl (by omega) (by omega) ?_
  rw [ev]
  refine J.callV (pc := 1128) (na := 1) G (D_shortest n1 M1 hM0 hw h8 hT hw8 hok hv) q917 q918 q919 q920 q5 (by decide +kernel) dL_law_1128 (hM0.at 0 rfl) rfl rfl (Nat.le_of_ble_eq_true rfl) rfl ⟨by omega, by decide, by omega, by omega⟩ ?_
  rintro r9 n9 M2 ⟨x, R2, P2, Z2, hr9, hn9, hM2, hc2, hx2, hin2, hfr2⟩
  dsimp only [Option.toList, List.cons_append, List.nil_append]
  subst hr9
  subst hn9
  dsimp only [Option.toList, List.cons_append, List.nil_append]
  have hI2 : ClsI M2 ax (A) (S) := hI1.keep (fun q a1 a2 => hfr2 q (by omega))
  have ho2 : M2 (ax + 137) = some (cJ 1 f1) := (hfr2 _ (by omega)).trans ho1
  have hoI : OutI M2 (ax + 137) := ⟨⟨f1, ho2⟩, by
    obtain ⟨f9, h9⟩ := ho.2
    exact ⟨f9, (hfr2 _ (by omega)).trans ((hfr1 _ (by omega) (by omega) (by omega)).trans h9)⟩⟩
  have hMd : MdlI M2 (ax + 128) (A) (S) := ⟨R2, P2, Z2, hM2, hin2⟩
  refine J.istore (L' := [_, _, _, _, _, _, _, _, _]) (pc := 1131) G dL_law_1131 rfl (Nat.le_of_ble_eq_true rfl) rfl ?_
  refine J.aload_n (pc := 1133) G dL_law_1133 rfl ?_
  refine J.callV (pc := 1134) (na := 0) G (m_thrown n9 M2 hM2) q735 q736 q737 q738 q5 (by decide +kernel) dL_law_1134 (hM2.at 0 rfl) rfl rfl (Nat.le_of_ble_eq_true rfl) rfl ⟨by omega, by decide, by omega, by omega⟩ ?_
  rintro r9 n9 M9 ⟨hr9, hn9, hM9⟩
  subst hr9
  rw [hn9, hM9]
  clear hn9 hM9 n9 M9
  dsimp only [Option.toList, List.cons_append, List.nil_append]
  rw [hc2]
  generalize hkc : kcK A S v = KC at *
  have hkc2 : KC ≤ 2 := by
    rw [← hkc]
    unfold kcK
    (try split) <;> (try split) <;> omega
  refine J.iload (pc := 1137) G dL_law_1137 rfl ?_
  refine J.icmp_eqN (pc := 1139) (tgt := 1144) G dL_law_1139 (by decide) (by omega) (by omega) (fun _ => ?_) (fun h => absurd rfl h)
  refine J.iload (pc := 1144) G dL_law_1144 rfl ?_
  refine J.if_neN (pc := 1146) (tgt := 1161) G dL_law_1146 (by decide) (by omega) (fun h => ?_) (fun h => ?_)
  · refine J.goto (pc := 1161) (tgt := 1457) G dL_law_1161 (by decide) ?_
    exact kend.to (by omega) (by omega) (by omega) hI2 hMd hoI
  · refine J.aload_n (pc := 1149) G dL_law_1149 rfl ?_
    refine J.iconstN (pc := 1150) G dL_law_1150 0 rfl ?_
    refine J.lald (pc := 1151) G dL_law_1151 ho2 0 rfl (by decide) (by decide) ?_
    refine J.iload (pc := 1152) G dL_law_1152 rfl ?_
    refine J.i2l (pc := 1154) G dL_law_1154 ?_
    rw [hy1 (by omega), hx2 (by omega)]
    refine J.lcmp (pc := 1155) G dL_law_1155 ?_
    rw [cmp_same]
    refine J.if_eq (pc := 1156) (tgt := 1161) G dL_law_1156 (by decide) (by decide) (by decide) (fun _ => ?_) (fun h => absurd rfl h)
    refine J.goto (pc := 1161) (tgt := 1457) G dL_law_1161 (by decide) ?_
    exact kend.to (by omega) (by omega) (by omega) hI2 hMd hoI
set_option maxRecDepth 100000 in
set_option maxHeartbeats 4000000 in
theorem k_height {g : GT} {d mc ms k z n ax b N i : Nat} {M : AH} {xs : Nat → Int32} {A : Nat → Nat → Nat} {S : Nat → Nat} (G : Cx g "ProcessMinerLaw" cL_law 9 d mc ms) (hd : 1900 ≤ d) (hXs : va_X b N xs (gs g) (gs g).heap) (hb : b < glo g) (hN : N ≤ 1536) (hi : i + 3 ≤ N) (hn : ax + 139 ≤ n) (hI : ClsI M ax A S) (hM : MdlI M (ax + 128) A S) (ho : OutI M (ax + 137)) (hk : k + 3 ≤ mc) (hz : z + 18 ≤ ms) (kend : LawEnd g ax b i (k + 3) (z + 18)) : J g k z n M (lawL b ax i none none none) 1164 [] := by
  have hok := hI.2.1
  refine J.aload_n (pc := 1164) G dL_law_1164 rfl ?_
  refine J.aload_n (pc := 1165) G dL_law_1165 rfl ?_
  refine J.callW (pc := 1166) (na := 2) G (L_height n M hn hI ho.1) q593 q594 q595 q0 (by decide +kernel) dL_law_1166 rfl (Nat.le_of_ble_eq_true rfl) rfl ⟨by omega, by decide, by omega, by omega⟩ ?_
  rintro r9 n1 M1 ⟨hr9, hn1, hI1, ⟨f1, ho1, hy1⟩, hfr1⟩
  subst hr9
  dsimp only [Option.toList, List.cons_append, List.nil_append]
  obtain ⟨R, P, Z, hM0, hw, h8, hT, hw8⟩ := hM.keep (fun q a1 a2 => hfr1 q (by omega) (by omega) (by omega))
  refine J.istore (L' := [_, _, _, _, _, _, _, _, _]) (pc := 1169) G dL_law_1169 rfl (Nat.le_of_ble_eq_true rfl) rfl ?_
  refine J.aload_n (pc := 1171) G dL_law_1171 rfl ?_
  refine J.callV (pc := 1172) (na := 0) G (D_height n1 M1 hM0 hw h8 hT hw8 hok) q925 q926 q927 q928 q5 (by decide +kernel) dL_law_1172 (hM0.at 0 rfl) rfl rfl (Nat.le_of_ble_eq_true rfl) rfl ⟨by omega, by decide, by omega, by omega⟩ ?_
  rintro r9 n9 M2 ⟨x, R2, P2, Z2, hr9, hn9, hM2, hc2, hx2, hin2, hfr2⟩
  dsimp only [Option.toList, List.cons_append, List.nil_append]
  subst hr9
  subst hn9
  dsimp only [Option.toList, List.cons_append, List.nil_append]
  have hI2 : ClsI M2 ax (A) (S) := hI1.keep (fun q a1 a2 => hfr2 q (by omega))
  have ho2 : M2 (ax + 137) = some (cJ 1 f1) := (hfr2 _ (by omega)).trans ho1
  have hoI : OutI M2 (ax + 137) := ⟨⟨f1, ho2⟩, by
    obtain ⟨f9, h9⟩ := ho.2
    exact ⟨f9, (hfr2 _ (by omega)).trans ((hfr1 _ (by omega) (by omega) (by omega)).trans h9)⟩⟩
  have hMd : MdlI M2 (ax + 128) (A) (S) := ⟨R2, P2, Z2, hM2, hin2⟩
  refine J.istore (L' := [_, _, _, _, _, _, _, _, _]) (pc := 1175) G dL_law_1175 rfl (Nat.le_of_ble_eq_true rfl) rfl ?_
  refine J.aload_n (pc := 1177) G dL_law_1177 rfl ?_
  refine J.callV (pc := 1178) (na := 0) G (m_thrown n9 M2 hM2) q735 q736 q737 q738 q5 (by decide +kernel) dL_law_1178 (hM2.at 0 rfl) rfl rfl (Nat.le_of_ble_eq_true rfl) rfl ⟨by omega, by decide, by omega, by omega⟩ ?_
  rintro r9 n9 M9 ⟨hr9, hn9, hM9⟩
  subst hr9
  rw [hn9, hM9]
  clear hn9 hM9 n9 M9
  dsimp only [Option.toList, List.cons_append, List.nil_append]
  rw [hc2]
  generalize hkc : kcH S = KC at *
  have hkc2 : KC ≤ 2 := by
    rw [← hkc]
    unfold kcH
    (try split) <;> (try split) <;> omega
  refine J.iload (pc := 1181) G dL_law_1181 rfl ?_
  refine J.icmp_eqN (pc := 1183) (tgt := 1188) G dL_law_1183 (by decide) (by omega) (by omega) (fun _ => ?_) (fun h => absurd rfl h)
  refine J.iload (pc := 1188) G dL_law_1188 rfl ?_
  refine J.if_neN (pc := 1190) (tgt := 1205) G dL_law_1190 (by decide) (by omega) (fun h => ?_) (fun h => ?_)
  · refine J.goto (pc := 1205) (tgt := 1457) G dL_law_1205 (by decide) ?_
    exact kend.to (by omega) (by omega) (by omega) hI2 hMd hoI
  · refine J.aload_n (pc := 1193) G dL_law_1193 rfl ?_
    refine J.iconstN (pc := 1194) G dL_law_1194 0 rfl ?_
    refine J.lald (pc := 1195) G dL_law_1195 ho2 0 rfl (by decide) (by decide) ?_
    refine J.iload (pc := 1196) G dL_law_1196 rfl ?_
    refine J.i2l (pc := 1198) G dL_law_1198 ?_
    rw [hy1 (by omega), hx2 (by omega)]
    refine J.lcmp (pc := 1199) G dL_law_1199 ?_
    rw [cmp_same]
    refine J.if_eq (pc := 1200) (tgt := 1205) G dL_law_1200 (by decide) (by decide) (by decide) (fun _ => ?_) (fun h => absurd rfl h)
    refine J.goto (pc := 1205) (tgt := 1457) G dL_law_1205 (by decide) ?_
    exact kend.to (by omega) (by omega) (by omega) hI2 hMd hoI
end CASES3
