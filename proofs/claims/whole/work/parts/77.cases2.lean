/-! ===== the law's calls: what is asked ===== -/
set_option maxHeartbeats 4000000 in
set_option maxRecDepth 100000 in
theorem law_areIndependent {E : Ev} {tb : List ExceptionTableEntry} {X : Xv} {b L : Nat} {xs : Nat → Int32} {B j i : Int} {k n : Nat} {G M : Mm} {A : An} {D : Fn} {I : Int → Int} (C : Cx E code 9 RL tb room_1) (hX : E.1 = X) (hS : SC E b L xs) {bb : Int} (hbb : bb = (b : Int)) (hL : L ≤ 3072) (hJ : LJ X B k n j G M A D I) (hj : 0 ≤ j ∧ j < 512) (hi : 0 ≤ i ∧ i + 6 ≤ (L : Int)) (hB : 0 ≤ B) (kk : ∀ (G' M' : Mm) (k' n' : Nat) (A' : An) (D' : Fn) (I' : Int → Int), LJ X B k' n' (j + 1) G' M' A' D' I' → PW E G' M' k' n' 1989 [(0, 1, vR bb), (1, 1, vR B), (2, 1, vR (B + 202)), (3, 1, vR (B + 207)), (4, 1, vI i)] []) : PW E G M k n 955 [(0, 1, vR bb), (1, 1, vR B), (2, 1, vR (B + 202)), (3, 1, vR (B + 207)), (4, 1, vI i)] [] := by
  obtain ⟨hR, hM, hI, hE, ho, hKB, hn1⟩ := hJ
  have hnA := hI.1.1.n
  have hnS := hI.1.1.so.c
  have hk9 := hKB.room hnA.2.1.2 hj.2
  have hwt := WT_bd (A 0 0 1)
  have hq9 := hM.q
  refine pw_aload_n C dL_law_955 rfl ?_
  refine pw_aload_n C dL_law_956 rfl ?_
  refine pw_iload C dL_law_957 rfl ?_
  refine pw_iconst C dL_law_959 ?_
  refine pw_iadd C dL_law_960 ?_
  refine pw_sld C hS hbb dL_law_961 (by omega) hL ?_
  refine pw_aload_n C dL_law_962 rfl ?_
  refine pw_iload C dL_law_963 rfl ?_
  refine pw_iconst C dL_law_965 ?_
  refine pw_iadd C dL_law_966 ?_
  refine pw_sld C hS hbb dL_law_967 (by omega) hL ?_
  refine pw_aload_n C dL_law_968 rfl ?_
  refine pw_cSWI C hX dL_law_969 (List.mem_of_getElem? (i := 812) (by decide +kernel)) mc_L_areIndependent (w_areIndependent hR hI.1.1 ho (by omega) (s := (sc xs (i + 1))) (u := (sc xs (i + 2))) (sc_r _) (sc_r _)) rfl rfl ⟨Nat.le_of_ble_eq_true rfl, Nat.le_of_ble_eq_true rfl⟩ (Nat.le_of_ble_eq_true rfl) (by show k + 1 ≤ 790825 ∧ n + 6 ≤ 6723630; omega) (fun r1 G1 M1 hq_ => ?_)
  obtain ⟨hr1, hG1, hR1, hO1, hv1⟩ := hq_
  rw [← hr1] at hR1 hv1
  have b1 : 0 ≤ r1 ∧ r1 ≤ 3 := by rw [hr1]; exact cd1_bd
  obtain ⟨hM1, hE1, ho1⟩ := aftW hM hE ho hG1 hO1
  clear hG1 hO1
  refine pw_istore C dL_law_972 (Nat.le_of_ble_eq_true rfl) rfl ?_
  refine pw_aload_n C dL_law_974 rfl ?_
  refine pw_aload_n C dL_law_975 rfl ?_
  refine pw_iload C dL_law_976 rfl ?_
  refine pw_iconst C dL_law_978 ?_
  refine pw_iadd C dL_law_979 ?_
  refine pw_sld C hS hbb dL_law_980 (by omega) hL ?_
  refine pw_aload_n C dL_law_981 rfl ?_
  refine pw_iload C dL_law_982 rfl ?_
  refine pw_iconst C dL_law_984 ?_
  refine pw_iadd C dL_law_985 ?_
  refine pw_sld C hS hbb dL_law_986 (by omega) hL ?_
  refine pw_cVI C hX dL_law_987 ml_L_145 mc_X10_areIndependent (m_areIndependent hM1 hI.1.1 hI.1.2.1  (s := (sc xs (i + 1))) (u := (sc xs (i + 2))) (sc_r _) (sc_r _)) kc_13 hM1.k rfl rfl ⟨Nat.le_of_ble_eq_true rfl, Nat.le_of_ble_eq_true rfl⟩ (Nat.le_of_ble_eq_true rfl) (by show k + 1 + 0 ≤ 790825 ∧ n + 6 + 0 ≤ 6723630; omega) (fun r2 G2 M2 hq_ => ?_)
  obtain ⟨hk2, hv2⟩ := hq_
  rw [← hr1] at hk2 hv2
  rw [ite_self] at hR1
  have hF2 := hk2.fq (Q := B + 202) (by have := hM1.q; omega)
  have hM2 := hM1.th.kp hk2
  have hT2 : (A 0 0 1 = A 0 0 1 ∧ (1 : Int) ≤ WT (A 0 0 1)) ∨ (A 0 0 1 = A 0 0 1 + 1 ∧ (1 : Int) ≤ 21) := Or.inl ⟨rfl, by omega⟩
  obtain ⟨hR2, hE2, ho2, hout, hth⟩ := aftM hR1 hM1 hE1 ho1 hB hF2
  have hov : r1 = 0 → M2 1 (B + 207) 0 = wr r2 := fun h => by rw [hout, hv1 h, hv2 h]
  have hLn : LJ X B (k + 1 + 0) (n + 6 + 0) (j + 1) G2 M2 A D I := ⟨hR2, hM2, hI, hE2, ho2, hKB.go (c := 1) (by omega) hT2, by omega⟩
  have br2 : r1 = 0 → (r2 = 0 ∨ r2 = 1) := fun h => by rw [hv2 h]; exact (bI_01 _)
  refine pw_istore C dL_law_990 (Nat.le_of_ble_eq_true rfl) rfl ?_
  refine pw_aload_n C dL_law_992 rfl ?_
  refine pw_cVE C hX dL_law_993 ml_L_105 mc_X10_thrown (m_thrown hM2 hI.1.1 hth) kc_13 hM2.k rfl rfl ⟨Nat.le_of_ble_eq_true rfl, Nat.le_of_ble_eq_true rfl⟩ (Nat.le_of_ble_eq_true rfl) (by show k + 1 + 0 + 0 ≤ 790825 ∧ n + 6 + 0 + 0 ≤ 6723630; omega) ?_
  refine pw_iload C dL_law_996 rfl ?_
  refine pw_icmp_eq (tgt := 1003) C dL_law_998 (by decide) (by omega) (fun c_998 => ?_) (fun c_998 => ?_)
  rotate_left
  · exact absurd c_998 (by omega)
  refine pw_iload C dL_law_1003 rfl ?_
  refine pw_if_ne (tgt := 1027) C dL_law_1005 (by decide) (by omega) (fun c_1005 => ?_) (fun c_1005 => ?_)
  · skip
    refine pw_goto (tgt := 1989) C dL_law_1027 (by decide) ?_
    exact pw_locs (by exact ⟨rfl, cat_vR _, rfl, cat_vR _, rfl, cat_vR _, rfl, cat_vR _, rfl, rfl, trivial⟩) (kk _ _ _ _ _ _ _ hLn)
  · skip
    refine pw_aload_n C dL_law_1008 rfl ?_
    refine pw_iconst C dL_law_1009 ?_
    refine pw_lald C dL_law_1010 ho2.1 (by rw [ho2.2]; omega) ?_
    rw [hov (by omega)]
    have br3 := br2 (by omega)
    refine pw_iload C dL_law_1011 rfl ?_
    refine pw_if_eq (tgt := 1020) C dL_law_1013 (by decide) (by omega) (fun c_1013 => ?_) (fun c_1013 => ?_)
    · skip
      refine pw_lconst (v := 0) C dL_law_1020 rfl ?_
      refine pw_lcmpE C dL_law_1021 (by rw [show r2 = 0 by omega]; exact wr_0) ?_
      refine pw_ifL_eq (tgt := 1027) C dL_law_1022 (by decide) rfl ?_
      refine pw_goto (tgt := 1989) C dL_law_1027 (by decide) ?_
      exact pw_locs (by exact ⟨rfl, cat_vR _, rfl, cat_vR _, rfl, cat_vR _, rfl, cat_vR _, rfl, rfl, trivial⟩) (kk _ _ _ _ _ _ _ hLn)
    · skip
      refine pw_lconst (v := 1) C dL_law_1016 rfl ?_
      refine pw_goto (tgt := 1021) C dL_law_1017 (by decide) ?_
      refine pw_lcmpE C dL_law_1021 (by rw [show r2 = 1 by omega]; exact wr_1) ?_
      refine pw_ifL_eq (tgt := 1027) C dL_law_1022 (by decide) rfl ?_
      refine pw_goto (tgt := 1989) C dL_law_1027 (by decide) ?_
      exact pw_locs (by exact ⟨rfl, cat_vR _, rfl, cat_vR _, rfl, cat_vR _, rfl, cat_vR _, rfl, rfl, trivial⟩) (kk _ _ _ _ _ _ _ hLn)

set_option maxHeartbeats 4000000 in
set_option maxRecDepth 100000 in
theorem law_ofFact {E : Ev} {tb : List ExceptionTableEntry} {X : Xv} {b L : Nat} {xs : Nat → Int32} {B j i : Int} {k n : Nat} {G M : Mm} {A : An} {D : Fn} {I : Int → Int} (C : Cx E code 9 RL tb room_1) (hX : E.1 = X) (hS : SC E b L xs) {bb : Int} (hbb : bb = (b : Int)) (hL : L ≤ 3072) (hJ : LJ X B k n j G M A D I) (hj : 0 ≤ j ∧ j < 512) (hi : 0 ≤ i ∧ i + 6 ≤ (L : Int)) (hB : 0 ≤ B) (kk : ∀ (G' M' : Mm) (k' n' : Nat) (A' : An) (D' : Fn) (I' : Int → Int), LJ X B k' n' (j + 1) G' M' A' D' I' → PW E G' M' k' n' 1989 [(0, 1, vR bb), (1, 1, vR B), (2, 1, vR (B + 202)), (3, 1, vR (B + 207)), (4, 1, vI i)] []) : PW E G M k n 1030 [(0, 1, vR bb), (1, 1, vR B), (2, 1, vR (B + 202)), (3, 1, vR (B + 207)), (4, 1, vI i)] [] := by
  obtain ⟨hR, hM, hI, hE, ho, hKB, hn1⟩ := hJ
  have hnA := hI.1.1.n
  have hnS := hI.1.1.so.c
  have hk9 := hKB.room hnA.2.1.2 hj.2
  have hwt := WT_bd (A 0 0 1)
  have hq9 := hM.q
  refine pw_aload_n C dL_law_1030 rfl ?_
  refine pw_aload_n C dL_law_1031 rfl ?_
  refine pw_iload C dL_law_1032 rfl ?_
  refine pw_iconst C dL_law_1034 ?_
  refine pw_iadd C dL_law_1035 ?_
  refine pw_sld C hS hbb dL_law_1036 (by omega) hL ?_
  refine pw_aload_n C dL_law_1037 rfl ?_
  refine pw_iload C dL_law_1038 rfl ?_
  refine pw_iconst C dL_law_1040 ?_
  refine pw_iadd C dL_law_1041 ?_
  refine pw_sld C hS hbb dL_law_1042 (by omega) hL ?_
  refine pw_aload_n C dL_law_1043 rfl ?_
  refine pw_iload C dL_law_1044 rfl ?_
  refine pw_iconst C dL_law_1046 ?_
  refine pw_iadd C dL_law_1047 ?_
  refine pw_sld C hS hbb dL_law_1048 (by omega) hL ?_
  refine pw_aload_n C dL_law_1049 rfl ?_
  refine pw_cSWI C hX dL_law_1050 (List.mem_of_getElem? (i := 819) (by decide +kernel)) mc_L_ofFact (w_ofFact hR hI.1.1 ho (by omega) (s := (sc xs (i + 1))) (f := (sc xs (i + 2))) (w := (sc xs (i + 3))) (sc_r _) (sc_r _) (sc_r _)) rfl rfl ⟨Nat.le_of_ble_eq_true rfl, Nat.le_of_ble_eq_true rfl⟩ (Nat.le_of_ble_eq_true rfl) (by show k + 1 ≤ 790825 ∧ n + 6 ≤ 6723630; omega) (fun r1 G1 M1 hq_ => ?_)
  obtain ⟨hr1, hG1, hR1, hO1, hv1⟩ := hq_
  rw [← hr1] at hR1 hv1
  have b1 : 0 ≤ r1 ∧ r1 ≤ 3 := by rw [hr1]; exact cd2_bd
  obtain ⟨hM1, hE1, ho1⟩ := aftW hM hE ho hG1 hO1
  clear hG1 hO1
  refine pw_istore C dL_law_1053 (Nat.le_of_ble_eq_true rfl) rfl ?_
  refine pw_aload_n C dL_law_1055 rfl ?_
  refine pw_aload_n C dL_law_1056 rfl ?_
  refine pw_iload C dL_law_1057 rfl ?_
  refine pw_iconst C dL_law_1059 ?_
  refine pw_iadd C dL_law_1060 ?_
  refine pw_sld C hS hbb dL_law_1061 (by omega) hL ?_
  refine pw_aload_n C dL_law_1062 rfl ?_
  refine pw_iload C dL_law_1063 rfl ?_
  refine pw_iconst C dL_law_1065 ?_
  refine pw_iadd C dL_law_1066 ?_
  refine pw_sld C hS hbb dL_law_1067 (by omega) hL ?_
  refine pw_aload_n C dL_law_1068 rfl ?_
  refine pw_iload C dL_law_1069 rfl ?_
  refine pw_iconst C dL_law_1071 ?_
  refine pw_iadd C dL_law_1072 ?_
  refine pw_sld C hS hbb dL_law_1073 (by omega) hL ?_
  have bkw := kWf_bd (s := (sc xs (i + 1))) (f := (sc xs (i + 2))) (w := (sc xs (i + 3))) hI.1.1
  refine pw_cVI C hX dL_law_1074 ml_L_148 mc_X10_ofFact (m_ofFact hM1 hI.1.1 hI.1.2.1  (s := (sc xs (i + 1))) (f := (sc xs (i + 2))) (w := (sc xs (i + 3))) (sc_r _) (sc_r _) (sc_r _)) kc_13 hM1.k rfl rfl ⟨Nat.le_of_ble_eq_true rfl, Nat.le_of_ble_eq_true rfl⟩ (Nat.le_of_ble_eq_true rfl) (by show k + 1 + (kWf A (sc xs (i + 1)) (sc xs (i + 2)) (sc xs (i + 3))).toNat ≤ 790825 ∧ n + 6 + 4 * (kWf A (sc xs (i + 1)) (sc xs (i + 2)) (sc xs (i + 3))).toNat ≤ 6723630; omega) (fun r2 G2 M2 hq_ => ?_)
  obtain ⟨hk2, hv2⟩ := hq_
  rw [← hr1] at hk2 hv2
  rw [ite_self] at hR1
  have hF2 := hk2.fq (Q := B + 202) (by have := hM1.q; omega)
  have hM2 := hM1.th.kp hk2
  have hT2 : (A 0 0 1 = A 0 0 1 ∧ (1 + kWf A (sc xs (i + 1)) (sc xs (i + 2)) (sc xs (i + 3)) : Int) ≤ WT (A 0 0 1)) ∨ (A 0 0 1 = A 0 0 1 + 1 ∧ (1 + kWf A (sc xs (i + 1)) (sc xs (i + 2)) (sc xs (i + 3)) : Int) ≤ 21) := Or.inl ⟨rfl, by omega⟩
  obtain ⟨hR2, hE2, ho2, hout, hth⟩ := aftM hR1 hM1 hE1 ho1 hB hF2
  have hov : r1 = 0 → M2 1 (B + 207) 0 = wr r2 := fun h => by have hc := cd2_0 (hr1.symm.trans h); rw [hout, hv1 h, hv2 h, moF_eq hI.1.1 hI.1.2.1 hc.1.1 hc.1.2]
  have hLn : LJ X B (k + 1 + (kWf A (sc xs (i + 1)) (sc xs (i + 2)) (sc xs (i + 3))).toNat) (n + 6 + 4 * (kWf A (sc xs (i + 1)) (sc xs (i + 2)) (sc xs (i + 3))).toNat) (j + 1) G2 M2 A D I := ⟨hR2, hM2, hI, hE2, ho2, hKB.go (c := 1 + kWf A (sc xs (i + 1)) (sc xs (i + 2)) (sc xs (i + 3))) (by omega) hT2, by omega⟩
  refine pw_istore C dL_law_1077 (Nat.le_of_ble_eq_true rfl) rfl ?_
  refine pw_aload_n C dL_law_1079 rfl ?_
  refine pw_cVE C hX dL_law_1080 ml_L_105 mc_X10_thrown (m_thrown hM2 hI.1.1 hth) kc_13 hM2.k rfl rfl ⟨Nat.le_of_ble_eq_true rfl, Nat.le_of_ble_eq_true rfl⟩ (Nat.le_of_ble_eq_true rfl) (by show k + 1 + (kWf A (sc xs (i + 1)) (sc xs (i + 2)) (sc xs (i + 3))).toNat + 0 ≤ 790825 ∧ n + 6 + 4 * (kWf A (sc xs (i + 1)) (sc xs (i + 2)) (sc xs (i + 3))).toNat + 0 ≤ 6723630; omega) ?_
  refine pw_iload C dL_law_1083 rfl ?_
  refine pw_icmp_eq (tgt := 1090) C dL_law_1085 (by decide) (by omega) (fun c_1085 => ?_) (fun c_1085 => ?_)
  rotate_left
  · exact absurd c_1085 (by omega)
  refine pw_iload C dL_law_1090 rfl ?_
  refine pw_if_ne (tgt := 1107) C dL_law_1092 (by decide) (by omega) (fun c_1092 => ?_) (fun c_1092 => ?_)
  · skip
    refine pw_goto (tgt := 1989) C dL_law_1107 (by decide) ?_
    exact pw_locs (by exact ⟨rfl, cat_vR _, rfl, cat_vR _, rfl, cat_vR _, rfl, cat_vR _, rfl, rfl, trivial⟩) (kk _ _ _ _ _ _ _ hLn)
  · skip
    refine pw_aload_n C dL_law_1095 rfl ?_
    refine pw_iconst C dL_law_1096 ?_
    refine pw_lald C dL_law_1097 ho2.1 (by rw [ho2.2]; omega) ?_
    rw [hov (by omega)]
    refine pw_iload C dL_law_1098 rfl ?_
    refine pw_i2lW C dL_law_1100 ?_
    refine pw_lcmpE C dL_law_1101 rfl ?_
    refine pw_ifL_eq (tgt := 1107) C dL_law_1102 (by decide) rfl ?_
    refine pw_goto (tgt := 1989) C dL_law_1107 (by decide) ?_
    exact pw_locs (by exact ⟨rfl, cat_vR _, rfl, cat_vR _, rfl, cat_vR _, rfl, cat_vR _, rfl, rfl, trivial⟩) (kk _ _ _ _ _ _ _ hLn)

set_option maxHeartbeats 4000000 in
set_option maxRecDepth 100000 in
theorem law_proof {E : Ev} {tb : List ExceptionTableEntry} {X : Xv} {b L : Nat} {xs : Nat → Int32} {B j i : Int} {k n : Nat} {G M : Mm} {A : An} {D : Fn} {I : Int → Int} (C : Cx E code 9 RL tb room_1) (hX : E.1 = X) (hS : SC E b L xs) {bb : Int} (hbb : bb = (b : Int)) (hL : L ≤ 3072) (hJ : LJ X B k n j G M A D I) (hj : 0 ≤ j ∧ j < 512) (hi : 0 ≤ i ∧ i + 6 ≤ (L : Int)) (hB : 0 ≤ B) (kk : ∀ (G' M' : Mm) (k' n' : Nat) (A' : An) (D' : Fn) (I' : Int → Int), LJ X B k' n' (j + 1) G' M' A' D' I' → PW E G' M' k' n' 1989 [(0, 1, vR bb), (1, 1, vR B), (2, 1, vR (B + 202)), (3, 1, vR (B + 207)), (4, 1, vI i)] []) : PW E G M k n 1110 [(0, 1, vR bb), (1, 1, vR B), (2, 1, vR (B + 202)), (3, 1, vR (B + 207)), (4, 1, vI i)] [] := by
  obtain ⟨hR, hM, hI, hE, ho, hKB, hn1⟩ := hJ
  have hnA := hI.1.1.n
  have hnS := hI.1.1.so.c
  have hk9 := hKB.room hnA.2.1.2 hj.2
  have hwt := WT_bd (A 0 0 1)
  have hq9 := hM.q
  refine pw_aload_n C dL_law_1110 rfl ?_
  refine pw_aload_n C dL_law_1111 rfl ?_
  refine pw_iload C dL_law_1112 rfl ?_
  refine pw_iconst C dL_law_1114 ?_
  refine pw_iadd C dL_law_1115 ?_
  refine pw_sld C hS hbb dL_law_1116 (by omega) hL ?_
  refine pw_aload_n C dL_law_1117 rfl ?_
  refine pw_iload C dL_law_1118 rfl ?_
  refine pw_iconst C dL_law_1120 ?_
  refine pw_iadd C dL_law_1121 ?_
  refine pw_sld C hS hbb dL_law_1122 (by omega) hL ?_
  refine pw_aload_n C dL_law_1123 rfl ?_
  refine pw_iload C dL_law_1124 rfl ?_
  refine pw_iconst C dL_law_1126 ?_
  refine pw_iadd C dL_law_1127 ?_
  refine pw_sld C hS hbb dL_law_1128 (by omega) hL ?_
  refine pw_aload_n C dL_law_1129 rfl ?_
  refine pw_iload C dL_law_1130 rfl ?_
  refine pw_iconst C dL_law_1132 ?_
  refine pw_iadd C dL_law_1133 ?_
  refine pw_sld C hS hbb dL_law_1134 (by omega) hL ?_
  refine pw_if_eq (tgt := 1142) C dL_law_1135 (by decide) (sc_r _) (fun c_1135 => ?_) (fun c_1135 => ?_)
  · skip
    refine pw_iconst C dL_law_1142 ?_
    refine pw_aload_n C dL_law_1143 rfl ?_
    refine pw_cSWI C hX dL_law_1144 (List.mem_of_getElem? (i := 823) (by decide +kernel)) mc_L_proof (w_proof hR hI.1.1 ho (by omega) (s := (sc xs (i + 1))) (f := (sc xs (i + 2))) (v := (sc xs (i + 3))) (z := 0) (sc_r _) (sc_r _) (sc_r _) (by omega)) rfl rfl ⟨Nat.le_of_ble_eq_true rfl, Nat.le_of_ble_eq_true rfl⟩ (Nat.le_of_ble_eq_true rfl) (by show k + 1 ≤ 790825 ∧ n + 6 ≤ 6723630; omega) (fun r1 G1 M1 hq_ => ?_)
    obtain ⟨hr1, hG1, hR1, hO1, hv1⟩ := hq_
    rw [← hr1] at hR1 hv1
    have b1 : 0 ≤ r1 ∧ r1 ≤ 3 := by rw [hr1]; exact cd2_bd
    obtain ⟨hM1, hE1, ho1⟩ := aftW hM hE ho hG1 hO1
    clear hG1 hO1
    refine pw_istore C dL_law_1147 (Nat.le_of_ble_eq_true rfl) rfl ?_
    refine pw_aload_n C dL_law_1149 rfl ?_
    refine pw_aload_n C dL_law_1150 rfl ?_
    refine pw_iload C dL_law_1151 rfl ?_
    refine pw_iconst C dL_law_1153 ?_
    refine pw_iadd C dL_law_1154 ?_
    refine pw_sld C hS hbb dL_law_1155 (by omega) hL ?_
    refine pw_aload_n C dL_law_1156 rfl ?_
    refine pw_iload C dL_law_1157 rfl ?_
    refine pw_iconst C dL_law_1159 ?_
    refine pw_iadd C dL_law_1160 ?_
    refine pw_sld C hS hbb dL_law_1161 (by omega) hL ?_
    refine pw_aload_n C dL_law_1162 rfl ?_
    refine pw_iload C dL_law_1163 rfl ?_
    refine pw_iconst C dL_law_1165 ?_
    refine pw_iadd C dL_law_1166 ?_
    refine pw_sld C hS hbb dL_law_1167 (by omega) hL ?_
    refine pw_aload_n C dL_law_1168 rfl ?_
    refine pw_iload C dL_law_1169 rfl ?_
    refine pw_iconst C dL_law_1171 ?_
    refine pw_iadd C dL_law_1172 ?_
    refine pw_sld C hS hbb dL_law_1173 (by omega) hL ?_
    refine pw_if_eq (tgt := 1181) C dL_law_1174 (by decide) (sc_r _) (fun c_1174 => ?_) (fun c_1174 => ?_)
    rotate_left
    · exact absurd c_1174 (by omega)
    refine pw_iconst C dL_law_1181 ?_
    refine pw_cVI C hX dL_law_1182 ml_L_152 mc_X10_proof_ (m_proof_ hM1 hI.1.1 hI.1.2.1  (s := (sc xs (i + 1))) (f := (sc xs (i + 2))) (v := (sc xs (i + 3))) (z := 0) (sc_r _) (sc_r _) (sc_r _) (by omega)) kc_13 hM1.k rfl rfl ⟨Nat.le_of_ble_eq_true rfl, Nat.le_of_ble_eq_true rfl⟩ (Nat.le_of_ble_eq_true rfl) (by show k + 1 + 0 ≤ 790825 ∧ n + 6 + 0 ≤ 6723630; omega) (fun r2 G2 M2 hq_ => ?_)
    obtain ⟨hk2, hv2⟩ := hq_
    rw [← hr1] at hk2 hv2
    rw [ite_self] at hR1
    have hF2 := hk2.fq (Q := B + 202) (by have := hM1.q; omega)
    have hM2 := hM1.th.kp hk2
    have hT2 : (A 0 0 1 = A 0 0 1 ∧ (1 : Int) ≤ WT (A 0 0 1)) ∨ (A 0 0 1 = A 0 0 1 + 1 ∧ (1 : Int) ≤ 21) := Or.inl ⟨rfl, by omega⟩
    obtain ⟨hR2, hE2, ho2, hout, hth⟩ := aftM hR1 hM1 hE1 ho1 hB hF2
    have hov : r1 = 0 → M2 1 (B + 207) 0 = wr r2 := fun h => by have hc := cd2_0 (hr1.symm.trans h); rw [hout, hv1 h, hv2 h, mpr_eq hI.1.1.so, mfo_eq hI.1.1.so]
    have hLn : LJ X B (k + 1 + 0) (n + 6 + 0) (j + 1) G2 M2 A D I := ⟨hR2, hM2, hI, hE2, ho2, hKB.go (c := 1) (by omega) hT2, by omega⟩
    refine pw_istore C dL_law_1185 (Nat.le_of_ble_eq_true rfl) rfl ?_
    refine pw_aload_n C dL_law_1187 rfl ?_
    refine pw_cVE C hX dL_law_1188 ml_L_105 mc_X10_thrown (m_thrown hM2 hI.1.1 hth) kc_13 hM2.k rfl rfl ⟨Nat.le_of_ble_eq_true rfl, Nat.le_of_ble_eq_true rfl⟩ (Nat.le_of_ble_eq_true rfl) (by show k + 1 + 0 + 0 ≤ 790825 ∧ n + 6 + 0 + 0 ≤ 6723630; omega) ?_
    refine pw_iload C dL_law_1191 rfl ?_
    refine pw_icmp_eq (tgt := 1198) C dL_law_1193 (by decide) (by omega) (fun c_1193 => ?_) (fun c_1193 => ?_)
    rotate_left
    · exact absurd c_1193 (by omega)
    refine pw_iload C dL_law_1198 rfl ?_
    refine pw_if_ne (tgt := 1215) C dL_law_1200 (by decide) (by omega) (fun c_1200 => ?_) (fun c_1200 => ?_)
    · skip
      refine pw_goto (tgt := 1989) C dL_law_1215 (by decide) ?_
      exact pw_locs (by exact ⟨rfl, cat_vR _, rfl, cat_vR _, rfl, cat_vR _, rfl, cat_vR _, rfl, rfl, trivial⟩) (kk _ _ _ _ _ _ _ hLn)
    · skip
      refine pw_aload_n C dL_law_1203 rfl ?_
      refine pw_iconst C dL_law_1204 ?_
      refine pw_lald C dL_law_1205 ho2.1 (by rw [ho2.2]; omega) ?_
      rw [hov (by omega)]
      refine pw_iload C dL_law_1206 rfl ?_
      refine pw_i2lW C dL_law_1208 ?_
      refine pw_lcmpE C dL_law_1209 rfl ?_
      refine pw_ifL_eq (tgt := 1215) C dL_law_1210 (by decide) rfl ?_
      refine pw_goto (tgt := 1989) C dL_law_1215 (by decide) ?_
      exact pw_locs (by exact ⟨rfl, cat_vR _, rfl, cat_vR _, rfl, cat_vR _, rfl, cat_vR _, rfl, rfl, trivial⟩) (kk _ _ _ _ _ _ _ hLn)
  · skip
    refine pw_iconst C dL_law_1138 ?_
    refine pw_goto (tgt := 1143) C dL_law_1139 (by decide) ?_
    refine pw_aload_n C dL_law_1143 rfl ?_
    refine pw_cSWI C hX dL_law_1144 (List.mem_of_getElem? (i := 823) (by decide +kernel)) mc_L_proof (w_proof hR hI.1.1 ho (by omega) (s := (sc xs (i + 1))) (f := (sc xs (i + 2))) (v := (sc xs (i + 3))) (z := 1) (sc_r _) (sc_r _) (sc_r _) (by omega)) rfl rfl ⟨Nat.le_of_ble_eq_true rfl, Nat.le_of_ble_eq_true rfl⟩ (Nat.le_of_ble_eq_true rfl) (by show k + 1 ≤ 790825 ∧ n + 6 ≤ 6723630; omega) (fun r1 G1 M1 hq_ => ?_)
    obtain ⟨hr1, hG1, hR1, hO1, hv1⟩ := hq_
    rw [← hr1] at hR1 hv1
    have b1 : 0 ≤ r1 ∧ r1 ≤ 3 := by rw [hr1]; exact cd2_bd
    obtain ⟨hM1, hE1, ho1⟩ := aftW hM hE ho hG1 hO1
    clear hG1 hO1
    refine pw_istore C dL_law_1147 (Nat.le_of_ble_eq_true rfl) rfl ?_
    refine pw_aload_n C dL_law_1149 rfl ?_
    refine pw_aload_n C dL_law_1150 rfl ?_
    refine pw_iload C dL_law_1151 rfl ?_
    refine pw_iconst C dL_law_1153 ?_
    refine pw_iadd C dL_law_1154 ?_
    refine pw_sld C hS hbb dL_law_1155 (by omega) hL ?_
    refine pw_aload_n C dL_law_1156 rfl ?_
    refine pw_iload C dL_law_1157 rfl ?_
    refine pw_iconst C dL_law_1159 ?_
    refine pw_iadd C dL_law_1160 ?_
    refine pw_sld C hS hbb dL_law_1161 (by omega) hL ?_
    refine pw_aload_n C dL_law_1162 rfl ?_
    refine pw_iload C dL_law_1163 rfl ?_
    refine pw_iconst C dL_law_1165 ?_
    refine pw_iadd C dL_law_1166 ?_
    refine pw_sld C hS hbb dL_law_1167 (by omega) hL ?_
    refine pw_aload_n C dL_law_1168 rfl ?_
    refine pw_iload C dL_law_1169 rfl ?_
    refine pw_iconst C dL_law_1171 ?_
    refine pw_iadd C dL_law_1172 ?_
    refine pw_sld C hS hbb dL_law_1173 (by omega) hL ?_
    refine pw_if_eq (tgt := 1181) C dL_law_1174 (by decide) (sc_r _) (fun c_1174 => ?_) (fun c_1174 => ?_)
    · exact absurd c_1174 (by omega)
    refine pw_iconst C dL_law_1177 ?_
    refine pw_goto (tgt := 1182) C dL_law_1178 (by decide) ?_
    refine pw_cVI C hX dL_law_1182 ml_L_152 mc_X10_proof_ (m_proof_ hM1 hI.1.1 hI.1.2.1  (s := (sc xs (i + 1))) (f := (sc xs (i + 2))) (v := (sc xs (i + 3))) (z := 1) (sc_r _) (sc_r _) (sc_r _) (by omega)) kc_13 hM1.k rfl rfl ⟨Nat.le_of_ble_eq_true rfl, Nat.le_of_ble_eq_true rfl⟩ (Nat.le_of_ble_eq_true rfl) (by show k + 1 + 0 ≤ 790825 ∧ n + 6 + 0 ≤ 6723630; omega) (fun r2 G2 M2 hq_ => ?_)
    obtain ⟨hk2, hv2⟩ := hq_
    rw [← hr1] at hk2 hv2
    rw [ite_self] at hR1
    have hF2 := hk2.fq (Q := B + 202) (by have := hM1.q; omega)
    have hM2 := hM1.th.kp hk2
    have hT2 : (A 0 0 1 = A 0 0 1 ∧ (1 : Int) ≤ WT (A 0 0 1)) ∨ (A 0 0 1 = A 0 0 1 + 1 ∧ (1 : Int) ≤ 21) := Or.inl ⟨rfl, by omega⟩
    obtain ⟨hR2, hE2, ho2, hout, hth⟩ := aftM hR1 hM1 hE1 ho1 hB hF2
    have hov : r1 = 0 → M2 1 (B + 207) 0 = wr r2 := fun h => by have hc := cd2_0 (hr1.symm.trans h); rw [hout, hv1 h, hv2 h, mpr_eq hI.1.1.so, mfo_eq hI.1.1.so]
    have hLn : LJ X B (k + 1 + 0) (n + 6 + 0) (j + 1) G2 M2 A D I := ⟨hR2, hM2, hI, hE2, ho2, hKB.go (c := 1) (by omega) hT2, by omega⟩
    refine pw_istore C dL_law_1185 (Nat.le_of_ble_eq_true rfl) rfl ?_
    refine pw_aload_n C dL_law_1187 rfl ?_
    refine pw_cVE C hX dL_law_1188 ml_L_105 mc_X10_thrown (m_thrown hM2 hI.1.1 hth) kc_13 hM2.k rfl rfl ⟨Nat.le_of_ble_eq_true rfl, Nat.le_of_ble_eq_true rfl⟩ (Nat.le_of_ble_eq_true rfl) (by show k + 1 + 0 + 0 ≤ 790825 ∧ n + 6 + 0 + 0 ≤ 6723630; omega) ?_
    refine pw_iload C dL_law_1191 rfl ?_
    refine pw_icmp_eq (tgt := 1198) C dL_law_1193 (by decide) (by omega) (fun c_1193 => ?_) (fun c_1193 => ?_)
    rotate_left
    · exact absurd c_1193 (by omega)
    refine pw_iload C dL_law_1198 rfl ?_
    refine pw_if_ne (tgt := 1215) C dL_law_1200 (by decide) (by omega) (fun c_1200 => ?_) (fun c_1200 => ?_)
    · skip
      refine pw_goto (tgt := 1989) C dL_law_1215 (by decide) ?_
      exact pw_locs (by exact ⟨rfl, cat_vR _, rfl, cat_vR _, rfl, cat_vR _, rfl, cat_vR _, rfl, rfl, trivial⟩) (kk _ _ _ _ _ _ _ hLn)
    · skip
      refine pw_aload_n C dL_law_1203 rfl ?_
      refine pw_iconst C dL_law_1204 ?_
      refine pw_lald C dL_law_1205 ho2.1 (by rw [ho2.2]; omega) ?_
      rw [hov (by omega)]
      refine pw_iload C dL_law_1206 rfl ?_
      refine pw_i2lW C dL_law_1208 ?_
      refine pw_lcmpE C dL_law_1209 rfl ?_
      refine pw_ifL_eq (tgt := 1215) C dL_law_1210 (by decide) rfl ?_
      refine pw_goto (tgt := 1989) C dL_law_1215 (by decide) ?_
      exact pw_locs (by exact ⟨rfl, cat_vR _, rfl, cat_vR _, rfl, cat_vR _, rfl, cat_vR _, rfl, rfl, trivial⟩) (kk _ _ _ _ _ _ _ hLn)

set_option maxHeartbeats 4000000 in
set_option maxRecDepth 100000 in
theorem law_ofTake {E : Ev} {tb : List ExceptionTableEntry} {X : Xv} {b L : Nat} {xs : Nat → Int32} {B j i : Int} {k n : Nat} {G M : Mm} {A : An} {D : Fn} {I : Int → Int} (C : Cx E code 9 RL tb room_1) (hX : E.1 = X) (hS : SC E b L xs) {bb : Int} (hbb : bb = (b : Int)) (hL : L ≤ 3072) (hJ : LJ X B k n j G M A D I) (hj : 0 ≤ j ∧ j < 512) (hi : 0 ≤ i ∧ i + 6 ≤ (L : Int)) (hB : 0 ≤ B) (kk : ∀ (G' M' : Mm) (k' n' : Nat) (A' : An) (D' : Fn) (I' : Int → Int), LJ X B k' n' (j + 1) G' M' A' D' I' → PW E G' M' k' n' 1989 [(0, 1, vR bb), (1, 1, vR B), (2, 1, vR (B + 202)), (3, 1, vR (B + 207)), (4, 1, vI i)] []) : PW E G M k n 1218 [(0, 1, vR bb), (1, 1, vR B), (2, 1, vR (B + 202)), (3, 1, vR (B + 207)), (4, 1, vI i)] [] := by
  obtain ⟨hR, hM, hI, hE, ho, hKB, hn1⟩ := hJ
  have hnA := hI.1.1.n
  have hnS := hI.1.1.so.c
  have hk9 := hKB.room hnA.2.1.2 hj.2
  have hwt := WT_bd (A 0 0 1)
  have hq9 := hM.q
  refine pw_aload_n C dL_law_1218 rfl ?_
  refine pw_aload_n C dL_law_1219 rfl ?_
  refine pw_iload C dL_law_1220 rfl ?_
  refine pw_iconst C dL_law_1222 ?_
  refine pw_iadd C dL_law_1223 ?_
  refine pw_sld C hS hbb dL_law_1224 (by omega) hL ?_
  refine pw_aload_n C dL_law_1225 rfl ?_
  refine pw_iload C dL_law_1226 rfl ?_
  refine pw_iconst C dL_law_1228 ?_
  refine pw_iadd C dL_law_1229 ?_
  refine pw_sld C hS hbb dL_law_1230 (by omega) hL ?_
  refine pw_aload_n C dL_law_1231 rfl ?_
  refine pw_cSWI C hX dL_law_1232 (List.mem_of_getElem? (i := 830) (by decide +kernel)) mc_L_ofTake (w_ofTake hR hI.1.1 ho (by omega) (t := (sc xs (i + 1))) (w := (sc xs (i + 2))) (sc_r _) (sc_r _)) rfl rfl ⟨Nat.le_of_ble_eq_true rfl, Nat.le_of_ble_eq_true rfl⟩ (Nat.le_of_ble_eq_true rfl) (by show k + 1 ≤ 790825 ∧ n + 6 ≤ 6723630; omega) (fun r1 G1 M1 hq_ => ?_)
  obtain ⟨hr1, hG1, hR1, hO1, hv1⟩ := hq_
  rw [← hr1] at hR1 hv1
  have b1 : 0 ≤ r1 ∧ r1 ≤ 3 := by rw [hr1]; exact cd2_bd
  obtain ⟨hM1, hE1, ho1⟩ := aftW hM hE ho hG1 hO1
  clear hG1 hO1
  refine pw_istore C dL_law_1235 (Nat.le_of_ble_eq_true rfl) rfl ?_
  refine pw_aload_n C dL_law_1237 rfl ?_
  refine pw_aload_n C dL_law_1238 rfl ?_
  refine pw_iload C dL_law_1239 rfl ?_
  refine pw_iconst C dL_law_1241 ?_
  refine pw_iadd C dL_law_1242 ?_
  refine pw_sld C hS hbb dL_law_1243 (by omega) hL ?_
  refine pw_aload_n C dL_law_1244 rfl ?_
  refine pw_iload C dL_law_1245 rfl ?_
  refine pw_iconst C dL_law_1247 ?_
  refine pw_iadd C dL_law_1248 ?_
  refine pw_sld C hS hbb dL_law_1249 (by omega) hL ?_
  refine pw_cVI C hX dL_law_1250 ml_L_155 mc_X10_ofTake (m_ofTake hM1 hI.1.1 hI.1.2.1  (t := (sc xs (i + 1))) (w := (sc xs (i + 2))) (sc_r _) (sc_r _)) kc_13 hM1.k rfl rfl ⟨Nat.le_of_ble_eq_true rfl, Nat.le_of_ble_eq_true rfl⟩ (Nat.le_of_ble_eq_true rfl) (by show k + 1 + 1 ≤ 790825 ∧ n + 6 + 9 ≤ 6723630; omega) (fun r2 G2 M2 hq_ => ?_)
  obtain ⟨hk2, hv2⟩ := hq_
  rw [← hr1] at hk2 hv2
  rw [ite_self] at hR1
  have hF2 := hk2.fq (Q := B + 202) (by have := hM1.q; omega)
  have hM2 := hM1.th.kp hk2
  have hT2 : (A 0 0 1 = A 0 0 1 ∧ (2 : Int) ≤ WT (A 0 0 1)) ∨ (A 0 0 1 = A 0 0 1 + 1 ∧ (2 : Int) ≤ 21) := Or.inl ⟨rfl, by omega⟩
  obtain ⟨hR2, hE2, ho2, hout, hth⟩ := aftM hR1 hM1 hE1 ho1 hB hF2
  have hov : r1 = 0 → M2 1 (B + 207) 0 = wr r2 := fun h => by rw [hout, hv1 h, hv2 h]
  have hLn : LJ X B (k + 1 + 1) (n + 6 + 9) (j + 1) G2 M2 A D I := ⟨hR2, hM2, hI, hE2, ho2, hKB.go (c := 2) (by omega) hT2, by omega⟩
  refine pw_istore C dL_law_1253 (Nat.le_of_ble_eq_true rfl) rfl ?_
  refine pw_aload_n C dL_law_1255 rfl ?_
  refine pw_cVE C hX dL_law_1256 ml_L_105 mc_X10_thrown (m_thrown hM2 hI.1.1 hth) kc_13 hM2.k rfl rfl ⟨Nat.le_of_ble_eq_true rfl, Nat.le_of_ble_eq_true rfl⟩ (Nat.le_of_ble_eq_true rfl) (by show k + 1 + 1 + 0 ≤ 790825 ∧ n + 6 + 9 + 0 ≤ 6723630; omega) ?_
  refine pw_iload C dL_law_1259 rfl ?_
  refine pw_icmp_eq (tgt := 1266) C dL_law_1261 (by decide) (by omega) (fun c_1261 => ?_) (fun c_1261 => ?_)
  rotate_left
  · exact absurd c_1261 (by omega)
  refine pw_iload C dL_law_1266 rfl ?_
  refine pw_if_ne (tgt := 1283) C dL_law_1268 (by decide) (by omega) (fun c_1268 => ?_) (fun c_1268 => ?_)
  · skip
    refine pw_goto (tgt := 1989) C dL_law_1283 (by decide) ?_
    exact pw_locs (by exact ⟨rfl, cat_vR _, rfl, cat_vR _, rfl, cat_vR _, rfl, cat_vR _, rfl, rfl, trivial⟩) (kk _ _ _ _ _ _ _ hLn)
  · skip
    refine pw_aload_n C dL_law_1271 rfl ?_
    refine pw_iconst C dL_law_1272 ?_
    refine pw_lald C dL_law_1273 ho2.1 (by rw [ho2.2]; omega) ?_
    rw [hov (by omega)]
    refine pw_iload C dL_law_1274 rfl ?_
    refine pw_i2lW C dL_law_1276 ?_
    refine pw_lcmpE C dL_law_1277 rfl ?_
    refine pw_ifL_eq (tgt := 1283) C dL_law_1278 (by decide) rfl ?_
    refine pw_goto (tgt := 1989) C dL_law_1283 (by decide) ?_
    exact pw_locs (by exact ⟨rfl, cat_vR _, rfl, cat_vR _, rfl, cat_vR _, rfl, cat_vR _, rfl, rfl, trivial⟩) (kk _ _ _ _ _ _ _ hLn)

set_option maxHeartbeats 4000000 in
set_option maxRecDepth 100000 in
theorem law_says {E : Ev} {tb : List ExceptionTableEntry} {X : Xv} {b L : Nat} {xs : Nat → Int32} {B j i : Int} {k n : Nat} {G M : Mm} {A : An} {D : Fn} {I : Int → Int} (C : Cx E code 9 RL tb room_1) (hX : E.1 = X) (hS : SC E b L xs) {bb : Int} (hbb : bb = (b : Int)) (hL : L ≤ 3072) (hJ : LJ X B k n j G M A D I) (hj : 0 ≤ j ∧ j < 512) (hi : 0 ≤ i ∧ i + 6 ≤ (L : Int)) (hB : 0 ≤ B) (kk : ∀ (G' M' : Mm) (k' n' : Nat) (A' : An) (D' : Fn) (I' : Int → Int), LJ X B k' n' (j + 1) G' M' A' D' I' → PW E G' M' k' n' 1989 [(0, 1, vR bb), (1, 1, vR B), (2, 1, vR (B + 202)), (3, 1, vR (B + 207)), (4, 1, vI i)] []) : PW E G M k n 1286 [(0, 1, vR bb), (1, 1, vR B), (2, 1, vR (B + 202)), (3, 1, vR (B + 207)), (4, 1, vI i)] [] := by
  obtain ⟨hR, hM, hI, hE, ho, hKB, hn1⟩ := hJ
  have hnA := hI.1.1.n
  have hnS := hI.1.1.so.c
  have hk9 := hKB.room hnA.2.1.2 hj.2
  have hwt := WT_bd (A 0 0 1)
  have hq9 := hM.q
  refine pw_aload_n C dL_law_1286 rfl ?_
  refine pw_aload_n C dL_law_1287 rfl ?_
  refine pw_iload C dL_law_1288 rfl ?_
  refine pw_iconst C dL_law_1290 ?_
  refine pw_iadd C dL_law_1291 ?_
  refine pw_sld C hS hbb dL_law_1292 (by omega) hL ?_
  refine pw_aload_n C dL_law_1293 rfl ?_
  refine pw_iload C dL_law_1294 rfl ?_
  refine pw_iconst C dL_law_1296 ?_
  refine pw_iadd C dL_law_1297 ?_
  refine pw_sld C hS hbb dL_law_1298 (by omega) hL ?_
  refine pw_aload_n C dL_law_1299 rfl ?_
  refine pw_cSWI C hX dL_law_1300 (List.mem_of_getElem? (i := 834) (by decide +kernel)) mc_L_says (w_says hR hI.1.1 ho (by omega) (t := (sc xs (i + 1))) (f := (sc xs (i + 2))) (sc_r _) (sc_r _)) rfl rfl ⟨Nat.le_of_ble_eq_true rfl, Nat.le_of_ble_eq_true rfl⟩ (Nat.le_of_ble_eq_true rfl) (by show k + 1 ≤ 790825 ∧ n + 6 ≤ 6723630; omega) (fun r1 G1 M1 hq_ => ?_)
  obtain ⟨hr1, hG1, hR1, hO1, hv1⟩ := hq_
  rw [← hr1] at hR1 hv1
  have b1 : 0 ≤ r1 ∧ r1 ≤ 3 := by rw [hr1]; exact cd1_bd
  obtain ⟨hM1, hE1, ho1⟩ := aftW hM hE ho hG1 hO1
  clear hG1 hO1
  refine pw_istore C dL_law_1303 (Nat.le_of_ble_eq_true rfl) rfl ?_
  refine pw_aload_n C dL_law_1305 rfl ?_
  refine pw_aload_n C dL_law_1306 rfl ?_
  refine pw_iload C dL_law_1307 rfl ?_
  refine pw_iconst C dL_law_1309 ?_
  refine pw_iadd C dL_law_1310 ?_
  refine pw_sld C hS hbb dL_law_1311 (by omega) hL ?_
  refine pw_aload_n C dL_law_1312 rfl ?_
  refine pw_iload C dL_law_1313 rfl ?_
  refine pw_iconst C dL_law_1315 ?_
  refine pw_iadd C dL_law_1316 ?_
  refine pw_sld C hS hbb dL_law_1317 (by omega) hL ?_
  refine pw_cVI C hX dL_law_1318 ml_L_158 mc_X10_says (m_says hM1 hI.1.1 hI.1.2.1  (t := (sc xs (i + 1))) (f := (sc xs (i + 2))) (sc_r _) (sc_r _)) kc_13 hM1.k rfl rfl ⟨Nat.le_of_ble_eq_true rfl, Nat.le_of_ble_eq_true rfl⟩ (Nat.le_of_ble_eq_true rfl) (by show k + 1 + 0 ≤ 790825 ∧ n + 6 + 0 ≤ 6723630; omega) (fun r2 G2 M2 hq_ => ?_)
  obtain ⟨hk2, hv2⟩ := hq_
  rw [← hr1] at hk2 hv2
  rw [ite_self] at hR1
  have hF2 := hk2.fq (Q := B + 202) (by have := hM1.q; omega)
  have hM2 := hM1.th.kp hk2
  have hT2 : (A 0 0 1 = A 0 0 1 ∧ (1 : Int) ≤ WT (A 0 0 1)) ∨ (A 0 0 1 = A 0 0 1 + 1 ∧ (1 : Int) ≤ 21) := Or.inl ⟨rfl, by omega⟩
  obtain ⟨hR2, hE2, ho2, hout, hth⟩ := aftM hR1 hM1 hE1 ho1 hB hF2
  have hov : r1 = 0 → M2 1 (B + 207) 0 = wr r2 := fun h => by rw [hout, hv1 h, hv2 h]
  have hLn : LJ X B (k + 1 + 0) (n + 6 + 0) (j + 1) G2 M2 A D I := ⟨hR2, hM2, hI, hE2, ho2, hKB.go (c := 1) (by omega) hT2, by omega⟩
  refine pw_istore C dL_law_1321 (Nat.le_of_ble_eq_true rfl) rfl ?_
  refine pw_aload_n C dL_law_1323 rfl ?_
  refine pw_cVE C hX dL_law_1324 ml_L_105 mc_X10_thrown (m_thrown hM2 hI.1.1 hth) kc_13 hM2.k rfl rfl ⟨Nat.le_of_ble_eq_true rfl, Nat.le_of_ble_eq_true rfl⟩ (Nat.le_of_ble_eq_true rfl) (by show k + 1 + 0 + 0 ≤ 790825 ∧ n + 6 + 0 + 0 ≤ 6723630; omega) ?_
  refine pw_iload C dL_law_1327 rfl ?_
  refine pw_icmp_eq (tgt := 1334) C dL_law_1329 (by decide) (by omega) (fun c_1329 => ?_) (fun c_1329 => ?_)
  rotate_left
  · exact absurd c_1329 (by omega)
  refine pw_iload C dL_law_1334 rfl ?_
  refine pw_if_ne (tgt := 1351) C dL_law_1336 (by decide) (by omega) (fun c_1336 => ?_) (fun c_1336 => ?_)
  · skip
    refine pw_goto (tgt := 1989) C dL_law_1351 (by decide) ?_
    exact pw_locs (by exact ⟨rfl, cat_vR _, rfl, cat_vR _, rfl, cat_vR _, rfl, cat_vR _, rfl, rfl, trivial⟩) (kk _ _ _ _ _ _ _ hLn)
  · skip
    refine pw_aload_n C dL_law_1339 rfl ?_
    refine pw_iconst C dL_law_1340 ?_
    refine pw_lald C dL_law_1341 ho2.1 (by rw [ho2.2]; omega) ?_
    rw [hov (by omega)]
    refine pw_iload C dL_law_1342 rfl ?_
    refine pw_i2lW C dL_law_1344 ?_
    refine pw_lcmpE C dL_law_1345 rfl ?_
    refine pw_ifL_eq (tgt := 1351) C dL_law_1346 (by decide) rfl ?_
    refine pw_goto (tgt := 1989) C dL_law_1351 (by decide) ?_
    exact pw_locs (by exact ⟨rfl, cat_vR _, rfl, cat_vR _, rfl, cat_vR _, rfl, cat_vR _, rfl, rfl, trivial⟩) (kk _ _ _ _ _ _ _ hLn)

set_option maxHeartbeats 4000000 in
set_option maxRecDepth 100000 in
theorem law_state {E : Ev} {tb : List ExceptionTableEntry} {X : Xv} {b L : Nat} {xs : Nat → Int32} {B j i : Int} {k n : Nat} {G M : Mm} {A : An} {D : Fn} {I : Int → Int} (C : Cx E code 9 RL tb room_1) (hX : E.1 = X) (hS : SC E b L xs) {bb : Int} (hbb : bb = (b : Int)) (hL : L ≤ 3072) (hJ : LJ X B k n j G M A D I) (hj : 0 ≤ j ∧ j < 512) (hi : 0 ≤ i ∧ i + 6 ≤ (L : Int)) (hB : 0 ≤ B) (kk : ∀ (G' M' : Mm) (k' n' : Nat) (A' : An) (D' : Fn) (I' : Int → Int), LJ X B k' n' (j + 1) G' M' A' D' I' → PW E G' M' k' n' 1989 [(0, 1, vR bb), (1, 1, vR B), (2, 1, vR (B + 202)), (3, 1, vR (B + 207)), (4, 1, vI i)] []) : PW E G M k n 1354 [(0, 1, vR bb), (1, 1, vR B), (2, 1, vR (B + 202)), (3, 1, vR (B + 207)), (4, 1, vI i)] [] := by
  obtain ⟨hR, hM, hI, hE, ho, hKB, hn1⟩ := hJ
  have hnA := hI.1.1.n
  have hnS := hI.1.1.so.c
  have hk9 := hKB.room hnA.2.1.2 hj.2
  have hwt := WT_bd (A 0 0 1)
  have hq9 := hM.q
  refine pw_aload_n C dL_law_1354 rfl ?_
  refine pw_aload_n C dL_law_1355 rfl ?_
  refine pw_iload C dL_law_1356 rfl ?_
  refine pw_iconst C dL_law_1358 ?_
  refine pw_iadd C dL_law_1359 ?_
  refine pw_sld C hS hbb dL_law_1360 (by omega) hL ?_
  refine pw_aload_n C dL_law_1361 rfl ?_
  refine pw_iload C dL_law_1362 rfl ?_
  refine pw_iconst C dL_law_1364 ?_
  refine pw_iadd C dL_law_1365 ?_
  refine pw_sld C hS hbb dL_law_1366 (by omega) hL ?_
  refine pw_aload_n C dL_law_1367 rfl ?_
  refine pw_cSWI C hX dL_law_1368 (List.mem_of_getElem? (i := 838) (by decide +kernel)) mc_L_state (w_state hR hI.1.1 ho (by omega) (l := (sc xs (i + 1))) (t := (sc xs (i + 2))) (sc_r _) (sc_r _)) rfl rfl ⟨Nat.le_of_ble_eq_true rfl, Nat.le_of_ble_eq_true rfl⟩ (Nat.le_of_ble_eq_true rfl) (by show k + 1 ≤ 790825 ∧ n + 6 ≤ 6723630; omega) (fun r1 G1 M1 hq_ => ?_)
  obtain ⟨hr1, hG1, hR1, hO1, hv1⟩ := hq_
  rw [← hr1] at hR1 hv1
  have b1 : 0 ≤ r1 ∧ r1 ≤ 3 := by rw [hr1]; exact cd1_bd
  obtain ⟨hM1, hE1, ho1⟩ := aftW hM hE ho hG1 hO1
  clear hG1 hO1
  refine pw_istore C dL_law_1371 (Nat.le_of_ble_eq_true rfl) rfl ?_
  refine pw_aload_n C dL_law_1373 rfl ?_
  refine pw_aload_n C dL_law_1374 rfl ?_
  refine pw_iload C dL_law_1375 rfl ?_
  refine pw_iconst C dL_law_1377 ?_
  refine pw_iadd C dL_law_1378 ?_
  refine pw_sld C hS hbb dL_law_1379 (by omega) hL ?_
  refine pw_aload_n C dL_law_1380 rfl ?_
  refine pw_iload C dL_law_1381 rfl ?_
  refine pw_iconst C dL_law_1383 ?_
  refine pw_iadd C dL_law_1384 ?_
  refine pw_sld C hS hbb dL_law_1385 (by omega) hL ?_
  refine pw_cVI C hX dL_law_1386 ml_L_161 mc_X10_state (m_state hM1 hI.1.1 hI.1.2.1  (l := (sc xs (i + 1))) (t := (sc xs (i + 2))) (sc_r _) (sc_r _)) kc_13 hM1.k rfl rfl ⟨Nat.le_of_ble_eq_true rfl, Nat.le_of_ble_eq_true rfl⟩ (Nat.le_of_ble_eq_true rfl) (by show k + 1 + 0 ≤ 790825 ∧ n + 6 + 0 ≤ 6723630; omega) (fun r2 G2 M2 hq_ => ?_)
  obtain ⟨hk2, hv2⟩ := hq_
  rw [← hr1] at hk2 hv2
  rw [ite_self] at hR1
  have hF2 := hk2.fq (Q := B + 202) (by have := hM1.q; omega)
  have hM2 := hM1.th.kp hk2
  have hT2 : (A 0 0 1 = A 0 0 1 ∧ (1 : Int) ≤ WT (A 0 0 1)) ∨ (A 0 0 1 = A 0 0 1 + 1 ∧ (1 : Int) ≤ 21) := Or.inl ⟨rfl, by omega⟩
  obtain ⟨hR2, hE2, ho2, hout, hth⟩ := aftM hR1 hM1 hE1 ho1 hB hF2
  have hov : r1 = 0 → M2 1 (B + 207) 0 = wr r2 := fun h => by rw [hout, hv1 h, hv2 h]
  have hLn : LJ X B (k + 1 + 0) (n + 6 + 0) (j + 1) G2 M2 A D I := ⟨hR2, hM2, hI, hE2, ho2, hKB.go (c := 1) (by omega) hT2, by omega⟩
  refine pw_istore C dL_law_1389 (Nat.le_of_ble_eq_true rfl) rfl ?_
  refine pw_aload_n C dL_law_1391 rfl ?_
  refine pw_cVE C hX dL_law_1392 ml_L_105 mc_X10_thrown (m_thrown hM2 hI.1.1 hth) kc_13 hM2.k rfl rfl ⟨Nat.le_of_ble_eq_true rfl, Nat.le_of_ble_eq_true rfl⟩ (Nat.le_of_ble_eq_true rfl) (by show k + 1 + 0 + 0 ≤ 790825 ∧ n + 6 + 0 + 0 ≤ 6723630; omega) ?_
  refine pw_iload C dL_law_1395 rfl ?_
  refine pw_icmp_eq (tgt := 1402) C dL_law_1397 (by decide) (by omega) (fun c_1397 => ?_) (fun c_1397 => ?_)
  rotate_left
  · exact absurd c_1397 (by omega)
  refine pw_iload C dL_law_1402 rfl ?_
  refine pw_if_ne (tgt := 1419) C dL_law_1404 (by decide) (by omega) (fun c_1404 => ?_) (fun c_1404 => ?_)
  · skip
    refine pw_goto (tgt := 1989) C dL_law_1419 (by decide) ?_
    exact pw_locs (by exact ⟨rfl, cat_vR _, rfl, cat_vR _, rfl, cat_vR _, rfl, cat_vR _, rfl, rfl, trivial⟩) (kk _ _ _ _ _ _ _ hLn)
  · skip
    refine pw_aload_n C dL_law_1407 rfl ?_
    refine pw_iconst C dL_law_1408 ?_
    refine pw_lald C dL_law_1409 ho2.1 (by rw [ho2.2]; omega) ?_
    rw [hov (by omega)]
    refine pw_iload C dL_law_1410 rfl ?_
    refine pw_i2lW C dL_law_1412 ?_
    refine pw_lcmpE C dL_law_1413 rfl ?_
    refine pw_ifL_eq (tgt := 1419) C dL_law_1414 (by decide) rfl ?_
    refine pw_goto (tgt := 1989) C dL_law_1419 (by decide) ?_
    exact pw_locs (by exact ⟨rfl, cat_vR _, rfl, cat_vR _, rfl, cat_vR _, rfl, cat_vR _, rfl, rfl, trivial⟩) (kk _ _ _ _ _ _ _ hLn)

set_option maxHeartbeats 4000000 in
set_option maxRecDepth 100000 in
theorem law_tells {E : Ev} {tb : List ExceptionTableEntry} {X : Xv} {b L : Nat} {xs : Nat → Int32} {B j i : Int} {k n : Nat} {G M : Mm} {A : An} {D : Fn} {I : Int → Int} (C : Cx E code 9 RL tb room_1) (hX : E.1 = X) (hS : SC E b L xs) {bb : Int} (hbb : bb = (b : Int)) (hL : L ≤ 3072) (hJ : LJ X B k n j G M A D I) (hj : 0 ≤ j ∧ j < 512) (hi : 0 ≤ i ∧ i + 6 ≤ (L : Int)) (hB : 0 ≤ B) (kk : ∀ (G' M' : Mm) (k' n' : Nat) (A' : An) (D' : Fn) (I' : Int → Int), LJ X B k' n' (j + 1) G' M' A' D' I' → PW E G' M' k' n' 1989 [(0, 1, vR bb), (1, 1, vR B), (2, 1, vR (B + 202)), (3, 1, vR (B + 207)), (4, 1, vI i)] []) : PW E G M k n 1422 [(0, 1, vR bb), (1, 1, vR B), (2, 1, vR (B + 202)), (3, 1, vR (B + 207)), (4, 1, vI i)] [] := by
  obtain ⟨hR, hM, hI, hE, ho, hKB, hn1⟩ := hJ
  have hnA := hI.1.1.n
  have hnS := hI.1.1.so.c
  have hk9 := hKB.room hnA.2.1.2 hj.2
  have hwt := WT_bd (A 0 0 1)
  have hq9 := hM.q
  refine pw_aload_n C dL_law_1422 rfl ?_
  refine pw_aload_n C dL_law_1423 rfl ?_
  refine pw_iload C dL_law_1424 rfl ?_
  refine pw_iconst C dL_law_1426 ?_
  refine pw_iadd C dL_law_1427 ?_
  refine pw_sld C hS hbb dL_law_1428 (by omega) hL ?_
  refine pw_aload_n C dL_law_1429 rfl ?_
  refine pw_iload C dL_law_1430 rfl ?_
  refine pw_iconst C dL_law_1432 ?_
  refine pw_iadd C dL_law_1433 ?_
  refine pw_sld C hS hbb dL_law_1434 (by omega) hL ?_
  refine pw_aload_n C dL_law_1435 rfl ?_
  refine pw_iload C dL_law_1436 rfl ?_
  refine pw_iconst C dL_law_1438 ?_
  refine pw_iadd C dL_law_1439 ?_
  refine pw_sld C hS hbb dL_law_1440 (by omega) hL ?_
  refine pw_aload_n C dL_law_1441 rfl ?_
  refine pw_cSWI C hX dL_law_1442 (List.mem_of_getElem? (i := 842) (by decide +kernel)) mc_L_tells (w_tells hR hI.1.1 ho (by omega) (l := (sc xs (i + 1))) (s := (sc xs (i + 2))) (f := (sc xs (i + 3))) (sc_r _) (sc_r _) (sc_r _)) rfl rfl ⟨Nat.le_of_ble_eq_true rfl, Nat.le_of_ble_eq_true rfl⟩ (Nat.le_of_ble_eq_true rfl) (by show k + 1 ≤ 790825 ∧ n + 6 ≤ 6723630; omega) (fun r1 G1 M1 hq_ => ?_)
  obtain ⟨hr1, hG1, hR1, hO1, hv1⟩ := hq_
  rw [← hr1] at hR1 hv1
  have b1 : 0 ≤ r1 ∧ r1 ≤ 3 := by rw [hr1]; exact cd1_bd
  obtain ⟨hM1, hE1, ho1⟩ := aftW hM hE ho hG1 hO1
  clear hG1 hO1
  refine pw_istore C dL_law_1445 (Nat.le_of_ble_eq_true rfl) rfl ?_
  refine pw_aload_n C dL_law_1447 rfl ?_
  refine pw_aload_n C dL_law_1448 rfl ?_
  refine pw_iload C dL_law_1449 rfl ?_
  refine pw_iconst C dL_law_1451 ?_
  refine pw_iadd C dL_law_1452 ?_
  refine pw_sld C hS hbb dL_law_1453 (by omega) hL ?_
  refine pw_aload_n C dL_law_1454 rfl ?_
  refine pw_iload C dL_law_1455 rfl ?_
  refine pw_iconst C dL_law_1457 ?_
  refine pw_iadd C dL_law_1458 ?_
  refine pw_sld C hS hbb dL_law_1459 (by omega) hL ?_
  refine pw_aload_n C dL_law_1460 rfl ?_
  refine pw_iload C dL_law_1461 rfl ?_
  refine pw_iconst C dL_law_1463 ?_
  refine pw_iadd C dL_law_1464 ?_
  refine pw_sld C hS hbb dL_law_1465 (by omega) hL ?_
  refine pw_cVI C hX dL_law_1466 ml_L_164 mc_X10_tells (m_tells hM1 hI.1.1 hI.1.2.1  (l := (sc xs (i + 1))) (s := (sc xs (i + 2))) (f := (sc xs (i + 3))) (sc_r _) (sc_r _) (sc_r _)) kc_13 hM1.k rfl rfl ⟨Nat.le_of_ble_eq_true rfl, Nat.le_of_ble_eq_true rfl⟩ (Nat.le_of_ble_eq_true rfl) (by show k + 1 + 0 ≤ 790825 ∧ n + 6 + 0 ≤ 6723630; omega) (fun r2 G2 M2 hq_ => ?_)
  obtain ⟨hk2, hv2⟩ := hq_
  rw [← hr1] at hk2 hv2
  rw [ite_self] at hR1
  have hF2 := hk2.fq (Q := B + 202) (by have := hM1.q; omega)
  have hM2 := hM1.th.kp hk2
  have hT2 : (A 0 0 1 = A 0 0 1 ∧ (1 : Int) ≤ WT (A 0 0 1)) ∨ (A 0 0 1 = A 0 0 1 + 1 ∧ (1 : Int) ≤ 21) := Or.inl ⟨rfl, by omega⟩
  obtain ⟨hR2, hE2, ho2, hout, hth⟩ := aftM hR1 hM1 hE1 ho1 hB hF2
  have hov : r1 = 0 → M2 1 (B + 207) 0 = wr r2 := fun h => by rw [hout, hv1 h, hv2 h]
  have hLn : LJ X B (k + 1 + 0) (n + 6 + 0) (j + 1) G2 M2 A D I := ⟨hR2, hM2, hI, hE2, ho2, hKB.go (c := 1) (by omega) hT2, by omega⟩
  refine pw_istore C dL_law_1469 (Nat.le_of_ble_eq_true rfl) rfl ?_
  refine pw_aload_n C dL_law_1471 rfl ?_
  refine pw_cVE C hX dL_law_1472 ml_L_105 mc_X10_thrown (m_thrown hM2 hI.1.1 hth) kc_13 hM2.k rfl rfl ⟨Nat.le_of_ble_eq_true rfl, Nat.le_of_ble_eq_true rfl⟩ (Nat.le_of_ble_eq_true rfl) (by show k + 1 + 0 + 0 ≤ 790825 ∧ n + 6 + 0 + 0 ≤ 6723630; omega) ?_
  refine pw_iload C dL_law_1475 rfl ?_
  refine pw_icmp_eq (tgt := 1482) C dL_law_1477 (by decide) (by omega) (fun c_1477 => ?_) (fun c_1477 => ?_)
  rotate_left
  · exact absurd c_1477 (by omega)
  refine pw_iload C dL_law_1482 rfl ?_
  refine pw_if_ne (tgt := 1499) C dL_law_1484 (by decide) (by omega) (fun c_1484 => ?_) (fun c_1484 => ?_)
  · skip
    refine pw_goto (tgt := 1989) C dL_law_1499 (by decide) ?_
    exact pw_locs (by exact ⟨rfl, cat_vR _, rfl, cat_vR _, rfl, cat_vR _, rfl, cat_vR _, rfl, rfl, trivial⟩) (kk _ _ _ _ _ _ _ hLn)
  · skip
    refine pw_aload_n C dL_law_1487 rfl ?_
    refine pw_iconst C dL_law_1488 ?_
    refine pw_lald C dL_law_1489 ho2.1 (by rw [ho2.2]; omega) ?_
    rw [hov (by omega)]
    refine pw_iload C dL_law_1490 rfl ?_
    refine pw_i2lW C dL_law_1492 ?_
    refine pw_lcmpE C dL_law_1493 rfl ?_
    refine pw_ifL_eq (tgt := 1499) C dL_law_1494 (by decide) rfl ?_
    refine pw_goto (tgt := 1989) C dL_law_1499 (by decide) ?_
    exact pw_locs (by exact ⟨rfl, cat_vR _, rfl, cat_vR _, rfl, cat_vR _, rfl, cat_vR _, rfl, rfl, trivial⟩) (kk _ _ _ _ _ _ _ hLn)

set_option maxHeartbeats 4000000 in
set_option maxRecDepth 100000 in
theorem law_ofLine {E : Ev} {tb : List ExceptionTableEntry} {X : Xv} {b L : Nat} {xs : Nat → Int32} {B j i : Int} {k n : Nat} {G M : Mm} {A : An} {D : Fn} {I : Int → Int} (C : Cx E code 9 RL tb room_1) (hX : E.1 = X) (hS : SC E b L xs) {bb : Int} (hbb : bb = (b : Int)) (hL : L ≤ 3072) (hJ : LJ X B k n j G M A D I) (hj : 0 ≤ j ∧ j < 512) (hi : 0 ≤ i ∧ i + 6 ≤ (L : Int)) (hB : 0 ≤ B) (kk : ∀ (G' M' : Mm) (k' n' : Nat) (A' : An) (D' : Fn) (I' : Int → Int), LJ X B k' n' (j + 1) G' M' A' D' I' → PW E G' M' k' n' 1989 [(0, 1, vR bb), (1, 1, vR B), (2, 1, vR (B + 202)), (3, 1, vR (B + 207)), (4, 1, vI i)] []) : PW E G M k n 1502 [(0, 1, vR bb), (1, 1, vR B), (2, 1, vR (B + 202)), (3, 1, vR (B + 207)), (4, 1, vI i)] [] := by
  obtain ⟨hR, hM, hI, hE, ho, hKB, hn1⟩ := hJ
  have hnA := hI.1.1.n
  have hnS := hI.1.1.so.c
  have hk9 := hKB.room hnA.2.1.2 hj.2
  have hwt := WT_bd (A 0 0 1)
  have hq9 := hM.q
  refine pw_aload_n C dL_law_1502 rfl ?_
  refine pw_aload_n C dL_law_1503 rfl ?_
  refine pw_iload C dL_law_1504 rfl ?_
  refine pw_iconst C dL_law_1506 ?_
  refine pw_iadd C dL_law_1507 ?_
  refine pw_sld C hS hbb dL_law_1508 (by omega) hL ?_
  refine pw_aload_n C dL_law_1509 rfl ?_
  refine pw_iload C dL_law_1510 rfl ?_
  refine pw_iconst C dL_law_1512 ?_
  refine pw_iadd C dL_law_1513 ?_
  refine pw_sld C hS hbb dL_law_1514 (by omega) hL ?_
  refine pw_aload_n C dL_law_1515 rfl ?_
  refine pw_cSWI C hX dL_law_1516 (List.mem_of_getElem? (i := 846) (by decide +kernel)) mc_L_ofLine (w_ofLine hR hI.1.1 ho (by omega) (l := (sc xs (i + 1))) (w := (sc xs (i + 2))) (sc_r _) (sc_r _)) rfl rfl ⟨Nat.le_of_ble_eq_true rfl, Nat.le_of_ble_eq_true rfl⟩ (Nat.le_of_ble_eq_true rfl) (by show k + 1 ≤ 790825 ∧ n + 6 ≤ 6723630; omega) (fun r1 G1 M1 hq_ => ?_)
  obtain ⟨hr1, hG1, hR1, hO1, hv1⟩ := hq_
  rw [← hr1] at hR1 hv1
  have b1 : 0 ≤ r1 ∧ r1 ≤ 3 := by rw [hr1]; exact cd2_bd
  obtain ⟨hM1, hE1, ho1⟩ := aftW hM hE ho hG1 hO1
  clear hG1 hO1
  refine pw_istore C dL_law_1519 (Nat.le_of_ble_eq_true rfl) rfl ?_
  refine pw_aload_n C dL_law_1521 rfl ?_
  refine pw_aload_n C dL_law_1522 rfl ?_
  refine pw_iload C dL_law_1523 rfl ?_
  refine pw_iconst C dL_law_1525 ?_
  refine pw_iadd C dL_law_1526 ?_
  refine pw_sld C hS hbb dL_law_1527 (by omega) hL ?_
  refine pw_aload_n C dL_law_1528 rfl ?_
  refine pw_iload C dL_law_1529 rfl ?_
  refine pw_iconst C dL_law_1531 ?_
  refine pw_iadd C dL_law_1532 ?_
  refine pw_sld C hS hbb dL_law_1533 (by omega) hL ?_
  refine pw_cVI C hX dL_law_1534 ml_L_167 mc_X10_ofLine (m_ofLine hM1 hI.1.1 hI.1.2.1  (l := (sc xs (i + 1))) (w := (sc xs (i + 2))) (sc_r _) (sc_r _)) kc_13 hM1.k rfl rfl ⟨Nat.le_of_ble_eq_true rfl, Nat.le_of_ble_eq_true rfl⟩ (Nat.le_of_ble_eq_true rfl) (by show k + 1 + 0 ≤ 790825 ∧ n + 6 + 0 ≤ 6723630; omega) (fun r2 G2 M2 hq_ => ?_)
  obtain ⟨hk2, hv2⟩ := hq_
  rw [← hr1] at hk2 hv2
  rw [ite_self] at hR1
  have hF2 := hk2.fq (Q := B + 202) (by have := hM1.q; omega)
  have hM2 := hM1.th.kp hk2
  have hT2 : (A 0 0 1 = A 0 0 1 ∧ (1 : Int) ≤ WT (A 0 0 1)) ∨ (A 0 0 1 = A 0 0 1 + 1 ∧ (1 : Int) ≤ 21) := Or.inl ⟨rfl, by omega⟩
  obtain ⟨hR2, hE2, ho2, hout, hth⟩ := aftM hR1 hM1 hE1 ho1 hB hF2
  have hov : r1 = 0 → M2 1 (B + 207) 0 = wr r2 := fun h => by rw [hout, hv1 h, hv2 h]
  have hLn : LJ X B (k + 1 + 0) (n + 6 + 0) (j + 1) G2 M2 A D I := ⟨hR2, hM2, hI, hE2, ho2, hKB.go (c := 1) (by omega) hT2, by omega⟩
  refine pw_istore C dL_law_1537 (Nat.le_of_ble_eq_true rfl) rfl ?_
  refine pw_aload_n C dL_law_1539 rfl ?_
  refine pw_cVE C hX dL_law_1540 ml_L_105 mc_X10_thrown (m_thrown hM2 hI.1.1 hth) kc_13 hM2.k rfl rfl ⟨Nat.le_of_ble_eq_true rfl, Nat.le_of_ble_eq_true rfl⟩ (Nat.le_of_ble_eq_true rfl) (by show k + 1 + 0 + 0 ≤ 790825 ∧ n + 6 + 0 + 0 ≤ 6723630; omega) ?_
  refine pw_iload C dL_law_1543 rfl ?_
  refine pw_icmp_eq (tgt := 1550) C dL_law_1545 (by decide) (by omega) (fun c_1545 => ?_) (fun c_1545 => ?_)
  rotate_left
  · exact absurd c_1545 (by omega)
  refine pw_iload C dL_law_1550 rfl ?_
  refine pw_if_ne (tgt := 1567) C dL_law_1552 (by decide) (by omega) (fun c_1552 => ?_) (fun c_1552 => ?_)
  · skip
    refine pw_goto (tgt := 1989) C dL_law_1567 (by decide) ?_
    exact pw_locs (by exact ⟨rfl, cat_vR _, rfl, cat_vR _, rfl, cat_vR _, rfl, cat_vR _, rfl, rfl, trivial⟩) (kk _ _ _ _ _ _ _ hLn)
  · skip
    refine pw_aload_n C dL_law_1555 rfl ?_
    refine pw_iconst C dL_law_1556 ?_
    refine pw_lald C dL_law_1557 ho2.1 (by rw [ho2.2]; omega) ?_
    rw [hov (by omega)]
    refine pw_iload C dL_law_1558 rfl ?_
    refine pw_i2lW C dL_law_1560 ?_
    refine pw_lcmpE C dL_law_1561 rfl ?_
    refine pw_ifL_eq (tgt := 1567) C dL_law_1562 (by decide) rfl ?_
    refine pw_goto (tgt := 1989) C dL_law_1567 (by decide) ?_
    exact pw_locs (by exact ⟨rfl, cat_vR _, rfl, cat_vR _, rfl, cat_vR _, rfl, cat_vR _, rfl, rfl, trivial⟩) (kk _ _ _ _ _ _ _ hLn)

set_option maxHeartbeats 4000000 in
set_option maxRecDepth 100000 in
theorem law_many {E : Ev} {tb : List ExceptionTableEntry} {X : Xv} {b L : Nat} {xs : Nat → Int32} {B j i : Int} {k n : Nat} {G M : Mm} {A : An} {D : Fn} {I : Int → Int} (C : Cx E code 9 RL tb room_1) (hX : E.1 = X) (hS : SC E b L xs) {bb : Int} (hbb : bb = (b : Int)) (hL : L ≤ 3072) (hJ : LJ X B k n j G M A D I) (hj : 0 ≤ j ∧ j < 512) (hi : 0 ≤ i ∧ i + 6 ≤ (L : Int)) (hB : 0 ≤ B) (kk : ∀ (G' M' : Mm) (k' n' : Nat) (A' : An) (D' : Fn) (I' : Int → Int), LJ X B k' n' (j + 1) G' M' A' D' I' → PW E G' M' k' n' 1989 [(0, 1, vR bb), (1, 1, vR B), (2, 1, vR (B + 202)), (3, 1, vR (B + 207)), (4, 1, vI i)] []) : PW E G M k n 1570 [(0, 1, vR bb), (1, 1, vR B), (2, 1, vR (B + 202)), (3, 1, vR (B + 207)), (4, 1, vI i)] [] := by
  obtain ⟨hR, hM, hI, hE, ho, hKB, hn1⟩ := hJ
  have hnA := hI.1.1.n
  have hnS := hI.1.1.so.c
  have hk9 := hKB.room hnA.2.1.2 hj.2
  have hwt := WT_bd (A 0 0 1)
  have hq9 := hM.q
  refine pw_aload_n C dL_law_1570 rfl ?_
  refine pw_aload_n C dL_law_1571 rfl ?_
  refine pw_iload C dL_law_1572 rfl ?_
  refine pw_iconst C dL_law_1574 ?_
  refine pw_iadd C dL_law_1575 ?_
  refine pw_sld C hS hbb dL_law_1576 (by omega) hL ?_
  refine pw_aload_n C dL_law_1577 rfl ?_
  refine pw_cSWI C hX dL_law_1578 (List.mem_of_getElem? (i := 850) (by decide +kernel)) mc_L_many (w_many hR hI.1.1 ho (by omega) (w := (sc xs (i + 1))) (sc_r _)) rfl rfl ⟨Nat.le_of_ble_eq_true rfl, Nat.le_of_ble_eq_true rfl⟩ (Nat.le_of_ble_eq_true rfl) (by show k + 1 ≤ 790825 ∧ n + 6 ≤ 6723630; omega) (fun r1 G1 M1 hq_ => ?_)
  obtain ⟨hr1, hG1, hR1, hO1, hv1⟩ := hq_
  rw [← hr1] at hR1 hv1
  have b1 : 0 ≤ r1 ∧ r1 ≤ 3 := by rw [hr1]; exact cd1_bd
  obtain ⟨hM1, hE1, ho1⟩ := aftW hM hE ho hG1 hO1
  clear hG1 hO1
  refine pw_istore C dL_law_1581 (Nat.le_of_ble_eq_true rfl) rfl ?_
  refine pw_aload_n C dL_law_1583 rfl ?_
  refine pw_aload_n C dL_law_1584 rfl ?_
  refine pw_iload C dL_law_1585 rfl ?_
  refine pw_iconst C dL_law_1587 ?_
  refine pw_iadd C dL_law_1588 ?_
  refine pw_sld C hS hbb dL_law_1589 (by omega) hL ?_
  have bkw := kMn_bd (w := (sc xs (i + 1))) hI.1.1
  refine pw_cVI C hX dL_law_1590 ml_L_170 mc_X10_many (m_many hM1 hI.1.1 hI.1.2.1  (w := (sc xs (i + 1))) (sc_r _)) kc_13 hM1.k rfl rfl ⟨Nat.le_of_ble_eq_true rfl, Nat.le_of_ble_eq_true rfl⟩ (Nat.le_of_ble_eq_true rfl) (by show k + 1 + (kMn A (sc xs (i + 1))).toNat ≤ 790825 ∧ n + 6 + 4 * (kMn A (sc xs (i + 1))).toNat ≤ 6723630; omega) (fun r2 G2 M2 hq_ => ?_)
  obtain ⟨hk2, hv2⟩ := hq_
  rw [← hr1] at hk2 hv2
  rw [ite_self] at hR1
  have hF2 := hk2.fq (Q := B + 202) (by have := hM1.q; omega)
  have hM2 := hM1.th.kp hk2
  have hT2 : (A 0 0 1 = A 0 0 1 ∧ (1 + kMn A (sc xs (i + 1)) : Int) ≤ WT (A 0 0 1)) ∨ (A 0 0 1 = A 0 0 1 + 1 ∧ (1 + kMn A (sc xs (i + 1)) : Int) ≤ 21) := Or.inl ⟨rfl, by omega⟩
  obtain ⟨hR2, hE2, ho2, hout, hth⟩ := aftM hR1 hM1 hE1 ho1 hB hF2
  have hov : r1 = 0 → M2 1 (B + 207) 0 = wr r2 := fun h => by have hc := cd1_0 (hr1.symm.trans h); rw [hout, hv1 h, hv2 h, mnM_eq hI.1.1 hI.1.2.1]
  have hLn : LJ X B (k + 1 + (kMn A (sc xs (i + 1))).toNat) (n + 6 + 4 * (kMn A (sc xs (i + 1))).toNat) (j + 1) G2 M2 A D I := ⟨hR2, hM2, hI, hE2, ho2, hKB.go (c := 1 + kMn A (sc xs (i + 1))) (by omega) hT2, by omega⟩
  refine pw_istore C dL_law_1593 (Nat.le_of_ble_eq_true rfl) rfl ?_
  refine pw_aload_n C dL_law_1595 rfl ?_
  refine pw_cVE C hX dL_law_1596 ml_L_105 mc_X10_thrown (m_thrown hM2 hI.1.1 hth) kc_13 hM2.k rfl rfl ⟨Nat.le_of_ble_eq_true rfl, Nat.le_of_ble_eq_true rfl⟩ (Nat.le_of_ble_eq_true rfl) (by show k + 1 + (kMn A (sc xs (i + 1))).toNat + 0 ≤ 790825 ∧ n + 6 + 4 * (kMn A (sc xs (i + 1))).toNat + 0 ≤ 6723630; omega) ?_
  refine pw_iload C dL_law_1599 rfl ?_
  refine pw_icmp_eq (tgt := 1606) C dL_law_1601 (by decide) (by omega) (fun c_1601 => ?_) (fun c_1601 => ?_)
  rotate_left
  · exact absurd c_1601 (by omega)
  refine pw_iload C dL_law_1606 rfl ?_
  refine pw_if_ne (tgt := 1623) C dL_law_1608 (by decide) (by omega) (fun c_1608 => ?_) (fun c_1608 => ?_)
  · skip
    refine pw_goto (tgt := 1989) C dL_law_1623 (by decide) ?_
    exact pw_locs (by exact ⟨rfl, cat_vR _, rfl, cat_vR _, rfl, cat_vR _, rfl, cat_vR _, rfl, rfl, trivial⟩) (kk _ _ _ _ _ _ _ hLn)
  · skip
    refine pw_aload_n C dL_law_1611 rfl ?_
    refine pw_iconst C dL_law_1612 ?_
    refine pw_lald C dL_law_1613 ho2.1 (by rw [ho2.2]; omega) ?_
    rw [hov (by omega)]
    refine pw_iload C dL_law_1614 rfl ?_
    refine pw_i2lW C dL_law_1616 ?_
    refine pw_lcmpE C dL_law_1617 rfl ?_
    refine pw_ifL_eq (tgt := 1623) C dL_law_1618 (by decide) rfl ?_
    refine pw_goto (tgt := 1989) C dL_law_1623 (by decide) ?_
    exact pw_locs (by exact ⟨rfl, cat_vR _, rfl, cat_vR _, rfl, cat_vR _, rfl, cat_vR _, rfl, rfl, trivial⟩) (kk _ _ _ _ _ _ _ hLn)

set_option maxHeartbeats 4000000 in
set_option maxRecDepth 100000 in
theorem law_arrives {E : Ev} {tb : List ExceptionTableEntry} {X : Xv} {b L : Nat} {xs : Nat → Int32} {B j i : Int} {k n : Nat} {G M : Mm} {A : An} {D : Fn} {I : Int → Int} (C : Cx E code 9 RL tb room_1) (hX : E.1 = X) (hS : SC E b L xs) {bb : Int} (hbb : bb = (b : Int)) (hL : L ≤ 3072) (hJ : LJ X B k n j G M A D I) (hj : 0 ≤ j ∧ j < 512) (hi : 0 ≤ i ∧ i + 6 ≤ (L : Int)) (hB : 0 ≤ B) (kk : ∀ (G' M' : Mm) (k' n' : Nat) (A' : An) (D' : Fn) (I' : Int → Int), LJ X B k' n' (j + 1) G' M' A' D' I' → PW E G' M' k' n' 1989 [(0, 1, vR bb), (1, 1, vR B), (2, 1, vR (B + 202)), (3, 1, vR (B + 207)), (4, 1, vI i)] []) : PW E G M k n 1667 [(0, 1, vR bb), (1, 1, vR B), (2, 1, vR (B + 202)), (3, 1, vR (B + 207)), (4, 1, vI i)] [] := by
  obtain ⟨hR, hM, hI, hE, ho, hKB, hn1⟩ := hJ
  have hnA := hI.1.1.n
  have hnS := hI.1.1.so.c
  have hk9 := hKB.room hnA.2.1.2 hj.2
  have hwt := WT_bd (A 0 0 1)
  have hq9 := hM.q
  refine pw_aload_n C dL_law_1667 rfl ?_
  refine pw_aload_n C dL_law_1668 rfl ?_
  refine pw_iload C dL_law_1669 rfl ?_
  refine pw_iconst C dL_law_1671 ?_
  refine pw_iadd C dL_law_1672 ?_
  refine pw_sld C hS hbb dL_law_1673 (by omega) hL ?_
  refine pw_aload_n C dL_law_1674 rfl ?_
  refine pw_iload C dL_law_1675 rfl ?_
  refine pw_iconst C dL_law_1677 ?_
  refine pw_iadd C dL_law_1678 ?_
  refine pw_sld C hS hbb dL_law_1679 (by omega) hL ?_
  refine pw_aload_n C dL_law_1680 rfl ?_
  refine pw_cSWI C hX dL_law_1681 (List.mem_of_getElem? (i := 854) (by decide +kernel)) mc_L_arrives (w_arrives hR hI.1.1 ho (by omega) (l := (sc xs (i + 1))) (t := (sc xs (i + 2))) (sc_r _) (sc_r _)) rfl rfl ⟨Nat.le_of_ble_eq_true rfl, Nat.le_of_ble_eq_true rfl⟩ (Nat.le_of_ble_eq_true rfl) (by show k + 1 ≤ 790825 ∧ n + 6 ≤ 6723630; omega) (fun r1 G1 M1 hq_ => ?_)
  obtain ⟨hr1, hG1, hR1, hO1, hv1⟩ := hq_
  rw [← hr1] at hR1 hv1
  have b1 : 0 ≤ r1 ∧ r1 ≤ 3 := by rw [hr1]; exact cd1_bd
  obtain ⟨hM1, hE1, ho1⟩ := aftW hM hE ho hG1 hO1
  clear hG1 hO1
  refine pw_istore C dL_law_1684 (Nat.le_of_ble_eq_true rfl) rfl ?_
  refine pw_aload_n C dL_law_1686 rfl ?_
  refine pw_aload_n C dL_law_1687 rfl ?_
  refine pw_iload C dL_law_1688 rfl ?_
  refine pw_iconst C dL_law_1690 ?_
  refine pw_iadd C dL_law_1691 ?_
  refine pw_sld C hS hbb dL_law_1692 (by omega) hL ?_
  refine pw_aload_n C dL_law_1693 rfl ?_
  refine pw_iload C dL_law_1694 rfl ?_
  refine pw_iconst C dL_law_1696 ?_
  refine pw_iadd C dL_law_1697 ?_
  refine pw_sld C hS hbb dL_law_1698 (by omega) hL ?_
  refine pw_cVI C hX dL_law_1699 ml_L_178 mc_X10_arrives (m_arrives hM1 hI.1.1 hI.1.2.1  (l := (sc xs (i + 1))) (t := (sc xs (i + 2))) (sc_r _) (sc_r _)) kc_13 hM1.k rfl rfl ⟨Nat.le_of_ble_eq_true rfl, Nat.le_of_ble_eq_true rfl⟩ (Nat.le_of_ble_eq_true rfl) (by show k + 1 + 4 ≤ 790825 ∧ n + 6 + 190 ≤ 6723630; omega) (fun r2 G2 M2 hq_ => ?_)
  obtain ⟨hk2, hv2⟩ := hq_
  rw [← hr1] at hk2 hv2
  rw [ite_self] at hR1
  have hF2 := hk2.fq (Q := B + 202) (by have := hM1.q; omega)
  have hM2 := hM1.th.kp hk2
  have hT2 : (A 0 0 1 = A 0 0 1 ∧ (5 : Int) ≤ WT (A 0 0 1)) ∨ (A 0 0 1 = A 0 0 1 + 1 ∧ (5 : Int) ≤ 21) := Or.inl ⟨rfl, by omega⟩
  obtain ⟨hR2, hE2, ho2, hout, hth⟩ := aftM hR1 hM1 hE1 ho1 hB hF2
  have hov : r1 = 0 → M2 1 (B + 207) 0 = wr r2 := fun h => by have hc := cd1_0 (hr1.symm.trans h); rw [hout, hv1 h, hv2 h, mAr_eq hI.1.1 hI.1.2.1 hI.2 hc.1 hc.2]
  have hLn : LJ X B (k + 1 + 4) (n + 6 + 190) (j + 1) G2 M2 A D I := ⟨hR2, hM2, hI, hE2, ho2, hKB.go (c := 5) (by omega) hT2, by omega⟩
  refine pw_istore C dL_law_1702 (Nat.le_of_ble_eq_true rfl) rfl ?_
  refine pw_aload_n C dL_law_1704 rfl ?_
  refine pw_cVE C hX dL_law_1705 ml_L_105 mc_X10_thrown (m_thrown hM2 hI.1.1 hth) kc_13 hM2.k rfl rfl ⟨Nat.le_of_ble_eq_true rfl, Nat.le_of_ble_eq_true rfl⟩ (Nat.le_of_ble_eq_true rfl) (by show k + 1 + 4 + 0 ≤ 790825 ∧ n + 6 + 190 + 0 ≤ 6723630; omega) ?_
  refine pw_iload C dL_law_1708 rfl ?_
  refine pw_icmp_eq (tgt := 1715) C dL_law_1710 (by decide) (by omega) (fun c_1710 => ?_) (fun c_1710 => ?_)
  rotate_left
  · exact absurd c_1710 (by omega)
  refine pw_iload C dL_law_1715 rfl ?_
  refine pw_if_ne (tgt := 1732) C dL_law_1717 (by decide) (by omega) (fun c_1717 => ?_) (fun c_1717 => ?_)
  · skip
    refine pw_goto (tgt := 1989) C dL_law_1732 (by decide) ?_
    exact pw_locs (by exact ⟨rfl, cat_vR _, rfl, cat_vR _, rfl, cat_vR _, rfl, cat_vR _, rfl, rfl, trivial⟩) (kk _ _ _ _ _ _ _ hLn)
  · skip
    refine pw_aload_n C dL_law_1720 rfl ?_
    refine pw_iconst C dL_law_1721 ?_
    refine pw_lald C dL_law_1722 ho2.1 (by rw [ho2.2]; omega) ?_
    rw [hov (by omega)]
    refine pw_iload C dL_law_1723 rfl ?_
    refine pw_i2lW C dL_law_1725 ?_
    refine pw_lcmpE C dL_law_1726 rfl ?_
    refine pw_ifL_eq (tgt := 1732) C dL_law_1727 (by decide) rfl ?_
    refine pw_goto (tgt := 1989) C dL_law_1732 (by decide) ?_
    exact pw_locs (by exact ⟨rfl, cat_vR _, rfl, cat_vR _, rfl, cat_vR _, rfl, cat_vR _, rfl, rfl, trivial⟩) (kk _ _ _ _ _ _ _ hLn)

set_option maxHeartbeats 4000000 in
set_option maxRecDepth 100000 in
theorem law_wouldArrive {E : Ev} {tb : List ExceptionTableEntry} {X : Xv} {b L : Nat} {xs : Nat → Int32} {B j i : Int} {k n : Nat} {G M : Mm} {A : An} {D : Fn} {I : Int → Int} (C : Cx E code 9 RL tb room_1) (hX : E.1 = X) (hS : SC E b L xs) {bb : Int} (hbb : bb = (b : Int)) (hL : L ≤ 3072) (hJ : LJ X B k n j G M A D I) (hj : 0 ≤ j ∧ j < 512) (hi : 0 ≤ i ∧ i + 6 ≤ (L : Int)) (hB : 0 ≤ B) (kk : ∀ (G' M' : Mm) (k' n' : Nat) (A' : An) (D' : Fn) (I' : Int → Int), LJ X B k' n' (j + 1) G' M' A' D' I' → PW E G' M' k' n' 1989 [(0, 1, vR bb), (1, 1, vR B), (2, 1, vR (B + 202)), (3, 1, vR (B + 207)), (4, 1, vI i)] []) : PW E G M k n 1735 [(0, 1, vR bb), (1, 1, vR B), (2, 1, vR (B + 202)), (3, 1, vR (B + 207)), (4, 1, vI i)] [] := by
  obtain ⟨hR, hM, hI, hE, ho, hKB, hn1⟩ := hJ
  have hnA := hI.1.1.n
  have hnS := hI.1.1.so.c
  have hk9 := hKB.room hnA.2.1.2 hj.2
  have hwt := WT_bd (A 0 0 1)
  have hq9 := hM.q
  refine pw_aload_n C dL_law_1735 rfl ?_
  refine pw_aload_n C dL_law_1736 rfl ?_
  refine pw_iload C dL_law_1737 rfl ?_
  refine pw_iconst C dL_law_1739 ?_
  refine pw_iadd C dL_law_1740 ?_
  refine pw_sld C hS hbb dL_law_1741 (by omega) hL ?_
  refine pw_aload_n C dL_law_1742 rfl ?_
  refine pw_iload C dL_law_1743 rfl ?_
  refine pw_iconst C dL_law_1745 ?_
  refine pw_iadd C dL_law_1746 ?_
  refine pw_sld C hS hbb dL_law_1747 (by omega) hL ?_
  refine pw_aload_n C dL_law_1748 rfl ?_
  refine pw_iload C dL_law_1749 rfl ?_
  refine pw_iconst C dL_law_1751 ?_
  refine pw_iadd C dL_law_1752 ?_
  refine pw_sld C hS hbb dL_law_1753 (by omega) hL ?_
  refine pw_aload_n C dL_law_1754 rfl ?_
  refine pw_cSWI C hX dL_law_1755 (List.mem_of_getElem? (i := 861) (by decide +kernel)) mc_L_wouldArrive (w_wouldArrive hR hI.1.1 ho (by omega) (l := (sc xs (i + 1))) (k := (sc xs (i + 2))) (w := (sc xs (i + 3))) (sc_r _) (sc_r _) (sc_r _)) rfl rfl ⟨Nat.le_of_ble_eq_true rfl, Nat.le_of_ble_eq_true rfl⟩ (Nat.le_of_ble_eq_true rfl) (by show k + 1 ≤ 790825 ∧ n + 6 ≤ 6723630; omega) (fun r1 G1 M1 hq_ => ?_)
  obtain ⟨hr1, hG1, hR1, hO1, hv1⟩ := hq_
  rw [← hr1] at hR1 hv1
  have b1 : 0 ≤ r1 ∧ r1 ≤ 3 := by rw [hr1]; exact cd2_bd
  obtain ⟨hM1, hE1, ho1⟩ := aftW hM hE ho hG1 hO1
  clear hG1 hO1
  refine pw_istore C dL_law_1758 (Nat.le_of_ble_eq_true rfl) rfl ?_
  refine pw_aload_n C dL_law_1760 rfl ?_
  refine pw_aload_n C dL_law_1761 rfl ?_
  refine pw_iload C dL_law_1762 rfl ?_
  refine pw_iconst C dL_law_1764 ?_
  refine pw_iadd C dL_law_1765 ?_
  refine pw_sld C hS hbb dL_law_1766 (by omega) hL ?_
  refine pw_aload_n C dL_law_1767 rfl ?_
  refine pw_iload C dL_law_1768 rfl ?_
  refine pw_iconst C dL_law_1770 ?_
  refine pw_iadd C dL_law_1771 ?_
  refine pw_sld C hS hbb dL_law_1772 (by omega) hL ?_
  refine pw_aload_n C dL_law_1773 rfl ?_
  refine pw_iload C dL_law_1774 rfl ?_
  refine pw_iconst C dL_law_1776 ?_
  refine pw_iadd C dL_law_1777 ?_
  refine pw_sld C hS hbb dL_law_1778 (by omega) hL ?_
  refine pw_cVI C hX dL_law_1779 ml_L_181 mc_X10_wouldArrive (m_wouldArrive hM1 hI.1.1 hI.1.2.1 hE1 (l := (sc xs (i + 1))) (k := (sc xs (i + 2))) (w := (sc xs (i + 3))) (sc_r _) (sc_r _) (sc_r _)) kc_13 hM1.k rfl rfl ⟨Nat.le_of_ble_eq_true rfl, Nat.le_of_ble_eq_true rfl⟩ (Nat.le_of_ble_eq_true rfl) (by show k + 1 + 9 ≤ 790825 ∧ n + 6 + 367 ≤ 6723630; omega) (fun r2 G2 M2 hq_ => ?_)
  obtain ⟨hk2, hv2⟩ := hq_
  rw [← hr1] at hk2 hv2
  rw [ite_self] at hR1
  have hF2 := hk2.fq (Q := B + 202) (by have := hM1.q; omega)
  have hM2 := hM1.th.kp hk2
  have hT2 : (A 0 0 1 = A 0 0 1 ∧ (10 : Int) ≤ WT (A 0 0 1)) ∨ (A 0 0 1 = A 0 0 1 + 1 ∧ (10 : Int) ≤ 21) := Or.inl ⟨rfl, by omega⟩
  obtain ⟨hR2, hE2, ho2, hout, hth⟩ := aftM hR1 hM1 hE1 ho1 hB hF2
  have hov : r1 = 0 → M2 1 (B + 207) 0 = wr r2 := fun h => by have hc := cd2_0 (hr1.symm.trans h); rw [hout, hv1 h, hv2 h, mWo_eq hI.1.1 hI.1.2.1 hc.1 hc.2.1 hc.2.2]
  have hLn : LJ X B (k + 1 + 9) (n + 6 + 367) (j + 1) G2 M2 A D I := ⟨hR2, hM2, hI, hE2, ho2, hKB.go (c := 10) (by omega) hT2, by omega⟩
  refine pw_istore C dL_law_1782 (Nat.le_of_ble_eq_true rfl) rfl ?_
  refine pw_aload_n C dL_law_1784 rfl ?_
  refine pw_cVE C hX dL_law_1785 ml_L_105 mc_X10_thrown (m_thrown hM2 hI.1.1 hth) kc_13 hM2.k rfl rfl ⟨Nat.le_of_ble_eq_true rfl, Nat.le_of_ble_eq_true rfl⟩ (Nat.le_of_ble_eq_true rfl) (by show k + 1 + 9 + 0 ≤ 790825 ∧ n + 6 + 367 + 0 ≤ 6723630; omega) ?_
  refine pw_iload C dL_law_1788 rfl ?_
  refine pw_icmp_eq (tgt := 1795) C dL_law_1790 (by decide) (by omega) (fun c_1790 => ?_) (fun c_1790 => ?_)
  rotate_left
  · exact absurd c_1790 (by omega)
  refine pw_iload C dL_law_1795 rfl ?_
  refine pw_if_ne (tgt := 1812) C dL_law_1797 (by decide) (by omega) (fun c_1797 => ?_) (fun c_1797 => ?_)
  · skip
    refine pw_goto (tgt := 1989) C dL_law_1812 (by decide) ?_
    exact pw_locs (by exact ⟨rfl, cat_vR _, rfl, cat_vR _, rfl, cat_vR _, rfl, cat_vR _, rfl, rfl, trivial⟩) (kk _ _ _ _ _ _ _ hLn)
  · skip
    refine pw_aload_n C dL_law_1800 rfl ?_
    refine pw_iconst C dL_law_1801 ?_
    refine pw_lald C dL_law_1802 ho2.1 (by rw [ho2.2]; omega) ?_
    rw [hov (by omega)]
    refine pw_iload C dL_law_1803 rfl ?_
    refine pw_i2lW C dL_law_1805 ?_
    refine pw_lcmpE C dL_law_1806 rfl ?_
    refine pw_ifL_eq (tgt := 1812) C dL_law_1807 (by decide) rfl ?_
    refine pw_goto (tgt := 1989) C dL_law_1812 (by decide) ?_
    exact pw_locs (by exact ⟨rfl, cat_vR _, rfl, cat_vR _, rfl, cat_vR _, rfl, cat_vR _, rfl, rfl, trivial⟩) (kk _ _ _ _ _ _ _ hLn)

set_option maxHeartbeats 4000000 in
set_option maxRecDepth 100000 in
theorem law_needs {E : Ev} {tb : List ExceptionTableEntry} {X : Xv} {b L : Nat} {xs : Nat → Int32} {B j i : Int} {k n : Nat} {G M : Mm} {A : An} {D : Fn} {I : Int → Int} (C : Cx E code 9 RL tb room_1) (hX : E.1 = X) (hS : SC E b L xs) {bb : Int} (hbb : bb = (b : Int)) (hL : L ≤ 3072) (hJ : LJ X B k n j G M A D I) (hj : 0 ≤ j ∧ j < 512) (hi : 0 ≤ i ∧ i + 6 ≤ (L : Int)) (hB : 0 ≤ B) (kk : ∀ (G' M' : Mm) (k' n' : Nat) (A' : An) (D' : Fn) (I' : Int → Int), LJ X B k' n' (j + 1) G' M' A' D' I' → PW E G' M' k' n' 1989 [(0, 1, vR bb), (1, 1, vR B), (2, 1, vR (B + 202)), (3, 1, vR (B + 207)), (4, 1, vI i)] []) : PW E G M k n 1815 [(0, 1, vR bb), (1, 1, vR B), (2, 1, vR (B + 202)), (3, 1, vR (B + 207)), (4, 1, vI i)] [] := by
  obtain ⟨hR, hM, hI, hE, ho, hKB, hn1⟩ := hJ
  have hnA := hI.1.1.n
  have hnS := hI.1.1.so.c
  have hk9 := hKB.room hnA.2.1.2 hj.2
  have hwt := WT_bd (A 0 0 1)
  have hq9 := hM.q
  refine pw_aload_n C dL_law_1815 rfl ?_
  refine pw_aload_n C dL_law_1816 rfl ?_
  refine pw_iload C dL_law_1817 rfl ?_
  refine pw_iconst C dL_law_1819 ?_
  refine pw_iadd C dL_law_1820 ?_
  refine pw_sld C hS hbb dL_law_1821 (by omega) hL ?_
  refine pw_aload_n C dL_law_1822 rfl ?_
  refine pw_iload C dL_law_1823 rfl ?_
  refine pw_iconst C dL_law_1825 ?_
  refine pw_iadd C dL_law_1826 ?_
  refine pw_sld C hS hbb dL_law_1827 (by omega) hL ?_
  refine pw_aload_n C dL_law_1828 rfl ?_
  refine pw_iload C dL_law_1829 rfl ?_
  refine pw_iconst C dL_law_1831 ?_
  refine pw_iadd C dL_law_1832 ?_
  refine pw_sld C hS hbb dL_law_1833 (by omega) hL ?_
  refine pw_aload_n C dL_law_1834 rfl ?_
  refine pw_iload C dL_law_1835 rfl ?_
  refine pw_iconst C dL_law_1837 ?_
  refine pw_iadd C dL_law_1838 ?_
  refine pw_sld C hS hbb dL_law_1839 (by omega) hL ?_
  refine pw_aload_n C dL_law_1840 rfl ?_
  refine pw_cSWI C hX dL_law_1841 (List.mem_of_getElem? (i := 865) (by decide +kernel)) mc_L_needs (w_needs hR hI.1.1 ho (by omega) (s := (sc xs (i + 1))) (f := (sc xs (i + 2))) (v := (sc xs (i + 3))) (w := (sc xs (i + 4))) (sc_r _) (sc_r _) (sc_r _) (sc_r _)) rfl rfl ⟨Nat.le_of_ble_eq_true rfl, Nat.le_of_ble_eq_true rfl⟩ (Nat.le_of_ble_eq_true rfl) (by show k + 1 ≤ 790825 ∧ n + 6 ≤ 6723630; omega) (fun r1 G1 M1 hq_ => ?_)
  obtain ⟨hr1, hG1, hR1, hO1, hv1⟩ := hq_
  rw [← hr1] at hR1 hv1
  have b1 : 0 ≤ r1 ∧ r1 ≤ 3 := by rw [hr1]; exact cd2_bd
  obtain ⟨hM1, hE1, ho1⟩ := aftW hM hE ho hG1 hO1
  clear hG1 hO1
  refine pw_istore C dL_law_1844 (Nat.le_of_ble_eq_true rfl) rfl ?_
  refine pw_aload_n C dL_law_1846 rfl ?_
  refine pw_aload_n C dL_law_1847 rfl ?_
  refine pw_iload C dL_law_1848 rfl ?_
  refine pw_iconst C dL_law_1850 ?_
  refine pw_iadd C dL_law_1851 ?_
  refine pw_sld C hS hbb dL_law_1852 (by omega) hL ?_
  refine pw_aload_n C dL_law_1853 rfl ?_
  refine pw_iload C dL_law_1854 rfl ?_
  refine pw_iconst C dL_law_1856 ?_
  refine pw_iadd C dL_law_1857 ?_
  refine pw_sld C hS hbb dL_law_1858 (by omega) hL ?_
  refine pw_aload_n C dL_law_1859 rfl ?_
  refine pw_iload C dL_law_1860 rfl ?_
  refine pw_iconst C dL_law_1862 ?_
  refine pw_iadd C dL_law_1863 ?_
  refine pw_sld C hS hbb dL_law_1864 (by omega) hL ?_
  refine pw_aload_n C dL_law_1865 rfl ?_
  refine pw_iload C dL_law_1866 rfl ?_
  refine pw_iconst C dL_law_1868 ?_
  refine pw_iadd C dL_law_1869 ?_
  refine pw_sld C hS hbb dL_law_1870 (by omega) hL ?_
  refine pw_cVI C hX dL_law_1871 ml_L_184 mc_X10_needs (m_needs hM1 hI.1.1 hI.1.2.1  (s := (sc xs (i + 1))) (f := (sc xs (i + 2))) (v := (sc xs (i + 3))) (w := (sc xs (i + 4))) (sc_r _) (sc_r _) (sc_r _) (sc_r _)) kc_13 hM1.k rfl rfl ⟨Nat.le_of_ble_eq_true rfl, Nat.le_of_ble_eq_true rfl⟩ (Nat.le_of_ble_eq_true rfl) (by show k + 1 + 0 ≤ 790825 ∧ n + 6 + 0 ≤ 6723630; omega) (fun r2 G2 M2 hq_ => ?_)
  obtain ⟨hk2, hv2⟩ := hq_
  rw [← hr1] at hk2 hv2
  rw [ite_self] at hR1
  have hF2 := hk2.fq (Q := B + 202) (by have := hM1.q; omega)
  have hM2 := hM1.th.kp hk2
  have hT2 : (A 0 0 1 = A 0 0 1 ∧ (1 : Int) ≤ WT (A 0 0 1)) ∨ (A 0 0 1 = A 0 0 1 + 1 ∧ (1 : Int) ≤ 21) := Or.inl ⟨rfl, by omega⟩
  obtain ⟨hR2, hE2, ho2, hout, hth⟩ := aftM hR1 hM1 hE1 ho1 hB hF2
  have hov : r1 = 0 → M2 1 (B + 207) 0 = wr r2 := fun h => by have hc := cd2_0 (hr1.symm.trans h); rw [hout, hv1 h, hv2 h, mNe_eq hI.1.1.so (hI.1.1.fa ((sc xs (i + 1)) * 4 + (sc xs (i + 2))) (by have := hI.1.1.n; omega)).f0 (hI.1.2.1.none (by omega)) hc.2.1 hc.2.2]
  have hLn : LJ X B (k + 1 + 0) (n + 6 + 0) (j + 1) G2 M2 A D I := ⟨hR2, hM2, hI, hE2, ho2, hKB.go (c := 1) (by omega) hT2, by omega⟩
  refine pw_istore C dL_law_1874 (Nat.le_of_ble_eq_true rfl) rfl ?_
  refine pw_aload_n C dL_law_1876 rfl ?_
  refine pw_cVE C hX dL_law_1877 ml_L_105 mc_X10_thrown (m_thrown hM2 hI.1.1 hth) kc_13 hM2.k rfl rfl ⟨Nat.le_of_ble_eq_true rfl, Nat.le_of_ble_eq_true rfl⟩ (Nat.le_of_ble_eq_true rfl) (by show k + 1 + 0 + 0 ≤ 790825 ∧ n + 6 + 0 + 0 ≤ 6723630; omega) ?_
  refine pw_iload C dL_law_1880 rfl ?_
  refine pw_icmp_eq (tgt := 1887) C dL_law_1882 (by decide) (by omega) (fun c_1882 => ?_) (fun c_1882 => ?_)
  rotate_left
  · exact absurd c_1882 (by omega)
  refine pw_iload C dL_law_1887 rfl ?_
  refine pw_if_ne (tgt := 1904) C dL_law_1889 (by decide) (by omega) (fun c_1889 => ?_) (fun c_1889 => ?_)
  · skip
    refine pw_goto (tgt := 1989) C dL_law_1904 (by decide) ?_
    exact pw_locs (by exact ⟨rfl, cat_vR _, rfl, cat_vR _, rfl, cat_vR _, rfl, cat_vR _, rfl, rfl, trivial⟩) (kk _ _ _ _ _ _ _ hLn)
  · skip
    refine pw_aload_n C dL_law_1892 rfl ?_
    refine pw_iconst C dL_law_1893 ?_
    refine pw_lald C dL_law_1894 ho2.1 (by rw [ho2.2]; omega) ?_
    rw [hov (by omega)]
    refine pw_iload C dL_law_1895 rfl ?_
    refine pw_i2lW C dL_law_1897 ?_
    refine pw_lcmpE C dL_law_1898 rfl ?_
    refine pw_ifL_eq (tgt := 1904) C dL_law_1899 (by decide) rfl ?_
    refine pw_goto (tgt := 1989) C dL_law_1904 (by decide) ?_
    exact pw_locs (by exact ⟨rfl, cat_vR _, rfl, cat_vR _, rfl, cat_vR _, rfl, cat_vR _, rfl, rfl, trivial⟩) (kk _ _ _ _ _ _ _ hLn)

set_option maxHeartbeats 4000000 in
set_option maxRecDepth 100000 in
theorem law_lead {E : Ev} {tb : List ExceptionTableEntry} {X : Xv} {b L : Nat} {xs : Nat → Int32} {B j i : Int} {k n : Nat} {G M : Mm} {A : An} {D : Fn} {I : Int → Int} (C : Cx E code 9 RL tb room_1) (hX : E.1 = X) (hS : SC E b L xs) {bb : Int} (hbb : bb = (b : Int)) (hL : L ≤ 3072) (hJ : LJ X B k n j G M A D I) (hj : 0 ≤ j ∧ j < 512) (hi : 0 ≤ i ∧ i + 6 ≤ (L : Int)) (hB : 0 ≤ B) (kk : ∀ (G' M' : Mm) (k' n' : Nat) (A' : An) (D' : Fn) (I' : Int → Int), LJ X B k' n' (j + 1) G' M' A' D' I' → PW E G' M' k' n' 1989 [(0, 1, vR bb), (1, 1, vR B), (2, 1, vR (B + 202)), (3, 1, vR (B + 207)), (4, 1, vI i)] []) : PW E G M k n 1907 [(0, 1, vR bb), (1, 1, vR B), (2, 1, vR (B + 202)), (3, 1, vR (B + 207)), (4, 1, vI i)] [] := by
  obtain ⟨hR, hM, hI, hE, ho, hKB, hn1⟩ := hJ
  have hnA := hI.1.1.n
  have hnS := hI.1.1.so.c
  have hk9 := hKB.room hnA.2.1.2 hj.2
  have hwt := WT_bd (A 0 0 1)
  have hq9 := hM.q
  refine pw_aload_n C dL_law_1907 rfl ?_
  refine pw_aload_n C dL_law_1908 rfl ?_
  refine pw_iload C dL_law_1909 rfl ?_
  refine pw_iconst C dL_law_1911 ?_
  refine pw_iadd C dL_law_1912 ?_
  refine pw_sld C hS hbb dL_law_1913 (by omega) hL ?_
  refine pw_aload_n C dL_law_1914 rfl ?_
  refine pw_iload C dL_law_1915 rfl ?_
  refine pw_iconst C dL_law_1917 ?_
  refine pw_iadd C dL_law_1918 ?_
  refine pw_sld C hS hbb dL_law_1919 (by omega) hL ?_
  refine pw_aload_n C dL_law_1920 rfl ?_
  refine pw_cSWI C hX dL_law_1921 (List.mem_of_getElem? (i := 869) (by decide +kernel)) mc_L_lead (w_lead hR hI.1.1 ho (by omega) (s := (sc xs (i + 1))) (wd := (sc xs (i + 2))) (sc_r _) (sc_r _)) rfl rfl ⟨Nat.le_of_ble_eq_true rfl, Nat.le_of_ble_eq_true rfl⟩ (Nat.le_of_ble_eq_true rfl) (by show k + 1 ≤ 790825 ∧ n + 6 ≤ 6723630; omega) (fun r1 G1 M1 hq_ => ?_)
  obtain ⟨hr1, hG1, hR1, hO1, hv1⟩ := hq_
  rw [← hr1] at hR1 hv1
  have b1 : 0 ≤ r1 ∧ r1 ≤ 3 := by rw [hr1]; exact cd2_bd
  obtain ⟨hM1, hE1, ho1⟩ := aftW hM hE ho hG1 hO1
  clear hG1 hO1
  refine pw_istore C dL_law_1924 (Nat.le_of_ble_eq_true rfl) rfl ?_
  refine pw_aload_n C dL_law_1926 rfl ?_
  refine pw_aload_n C dL_law_1927 rfl ?_
  refine pw_iload C dL_law_1928 rfl ?_
  refine pw_iconst C dL_law_1930 ?_
  refine pw_iadd C dL_law_1931 ?_
  refine pw_sld C hS hbb dL_law_1932 (by omega) hL ?_
  refine pw_aload_n C dL_law_1933 rfl ?_
  refine pw_iload C dL_law_1934 rfl ?_
  refine pw_iconst C dL_law_1936 ?_
  refine pw_iadd C dL_law_1937 ?_
  refine pw_sld C hS hbb dL_law_1938 (by omega) hL ?_
  refine pw_cVI C hX dL_law_1939 ml_L_187 mc_X10_lead (m_lead hM1 hI.1.1 hI.1.2.1  (s := (sc xs (i + 1))) (wd := (sc xs (i + 2))) (sc_r _) (sc_r _)) kc_13 hM1.k rfl rfl ⟨Nat.le_of_ble_eq_true rfl, Nat.le_of_ble_eq_true rfl⟩ (Nat.le_of_ble_eq_true rfl) (by show k + 1 + 1 ≤ 790825 ∧ n + 6 + 4 ≤ 6723630; omega) (fun r2 G2 M2 hq_ => ?_)
  obtain ⟨hk2, hv2⟩ := hq_
  rw [← hr1] at hk2 hv2
  rw [ite_self] at hR1
  have hF2 := hk2.fq (Q := B + 202) (by have := hM1.q; omega)
  have hM2 := hM1.th.kp hk2
  have hT2 : (A 0 0 1 = A 0 0 1 ∧ (2 : Int) ≤ WT (A 0 0 1)) ∨ (A 0 0 1 = A 0 0 1 + 1 ∧ (2 : Int) ≤ 21) := Or.inl ⟨rfl, by omega⟩
  obtain ⟨hR2, hE2, ho2, hout, hth⟩ := aftM hR1 hM1 hE1 ho1 hB hF2
  have hov : r1 = 0 → M2 1 (B + 207) 0 = wr r2 := fun h => by have hc := cd2_0 (hr1.symm.trans h); rw [hout, hv1 h, hv2 h, mLe_eq hI.1.1 hI.1.2.1 hc.1]
  have hLn : LJ X B (k + 1 + 1) (n + 6 + 4) (j + 1) G2 M2 A D I := ⟨hR2, hM2, hI, hE2, ho2, hKB.go (c := 2) (by omega) hT2, by omega⟩
  refine pw_istore C dL_law_1942 (Nat.le_of_ble_eq_true rfl) rfl ?_
  refine pw_aload_n C dL_law_1944 rfl ?_
  refine pw_cVE C hX dL_law_1945 ml_L_105 mc_X10_thrown (m_thrown hM2 hI.1.1 hth) kc_13 hM2.k rfl rfl ⟨Nat.le_of_ble_eq_true rfl, Nat.le_of_ble_eq_true rfl⟩ (Nat.le_of_ble_eq_true rfl) (by show k + 1 + 1 + 0 ≤ 790825 ∧ n + 6 + 4 + 0 ≤ 6723630; omega) ?_
  refine pw_iload C dL_law_1948 rfl ?_
  refine pw_icmp_eq (tgt := 1955) C dL_law_1950 (by decide) (by omega) (fun c_1950 => ?_) (fun c_1950 => ?_)
  rotate_left
  · exact absurd c_1950 (by omega)
  refine pw_iload C dL_law_1955 rfl ?_
  refine pw_if_ne (tgt := 1972) C dL_law_1957 (by decide) (by omega) (fun c_1957 => ?_) (fun c_1957 => ?_)
  · skip
    refine pw_goto (tgt := 1989) C dL_law_1972 (by decide) ?_
    exact pw_locs (by exact ⟨rfl, cat_vR _, rfl, cat_vR _, rfl, cat_vR _, rfl, cat_vR _, rfl, rfl, trivial⟩) (kk _ _ _ _ _ _ _ hLn)
  · skip
    refine pw_aload_n C dL_law_1960 rfl ?_
    refine pw_iconst C dL_law_1961 ?_
    refine pw_lald C dL_law_1962 ho2.1 (by rw [ho2.2]; omega) ?_
    rw [hov (by omega)]
    refine pw_iload C dL_law_1963 rfl ?_
    refine pw_i2lW C dL_law_1965 ?_
    refine pw_lcmpE C dL_law_1966 rfl ?_
    refine pw_ifL_eq (tgt := 1972) C dL_law_1967 (by decide) rfl ?_
    refine pw_goto (tgt := 1989) C dL_law_1972 (by decide) ?_
    exact pw_locs (by exact ⟨rfl, cat_vR _, rfl, cat_vR _, rfl, cat_vR _, rfl, cat_vR _, rfl, rfl, trivial⟩) (kk _ _ _ _ _ _ _ hLn)

