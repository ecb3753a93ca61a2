set_option maxHeartbeats 4000000 in
set_option maxRecDepth 100000 in
theorem c_checkSource {X : Xv} {G M : Mm} {B : Int} {A : An} (hR0 : RC G M B A) (hA : AB A) {s : Int} (r_s : -2147483648 ≤ s ∧ s ≤ 2147483647) (hok : (0 ≤ s ∧ s < A 10 2 0)) : CT X yX5_checkSource prog_1_method_32_code 2 (none) 0 0 0 0 [vR B, vI s] G M (PV G M) := by
  refine CT.by (by decide +kernel) [1, 1] ⟨cat_vR _, cat_vI _, trivial⟩ (Nat.le_of_ble_eq_true rfl) (fun E hX C hR hIni => ?_)
  have hn := hA.n
  have hnS := hA.so.c
  refine pw_iload_n C dX5_checkSource_0 rfl ?_
  refine pw_if_lt (tgt := 15) C dX5_checkSource_1 (by decide) (by omega) (fun c_1 => ?_) (fun c_1 => ?_)
  · skip
    exfalso; omega
  · skip
    refine pw_iload_n C dX5_checkSource_4 rfl ?_
    refine pw_aload_n C dX5_checkSource_5 rfl ?_
    refine pw_getR C dX5_checkSource_6 fl_X5_10 hR0.k rfl hR0.r0 ?_
    refine pw_getE C dX5_checkSource_9 fl_X5_55 rfl hR0.so.k (hR0.so.s 0 (by omega)) ?_
    refine pw_icmp_lt (tgt := 26) C dX5_checkSource_12 (by decide) (by omega) (fun c_12 => ?_) (fun c_12 => ?_)
    · skip
      exact pw_vretE C hR dX5_checkSource_26 rfl rfl (Nat.zero_le _) (Nat.zero_le _)
    · skip
      exfalso; omega

set_option maxHeartbeats 4000000 in
set_option maxRecDepth 100000 in
theorem c_checkStory {X : Xv} {G M : Mm} {B : Int} {A : An} (hR0 : RC G M B A) (hA : AB A) {s : Int} (r_s : -2147483648 ≤ s ∧ s ≤ 2147483647) (hok : (0 ≤ s ∧ s < A 0 0 0)) : CT X yX5_checkStory prog_1_method_33_code 2 (none) 0 0 0 0 [vR B, vI s] G M (PV G M) := by
  refine CT.by (by decide +kernel) [1, 1] ⟨cat_vR _, cat_vI _, trivial⟩ (Nat.le_of_ble_eq_true rfl) (fun E hX C hR hIni => ?_)
  have hn := hA.n
  have hnS := hA.so.c
  refine pw_iload_n C dX5_checkStory_0 rfl ?_
  refine pw_if_lt (tgt := 12) C dX5_checkStory_1 (by decide) (by omega) (fun c_1 => ?_) (fun c_1 => ?_)
  · skip
    exfalso; omega
  · skip
    refine pw_iload_n C dX5_checkStory_4 rfl ?_
    refine pw_aload_n C dX5_checkStory_5 rfl ?_
    refine pw_getE C dX5_checkStory_6 fl_X5_70 rfl hR0.k (hR0.n 0 (by omega)) ?_
    refine pw_icmp_lt (tgt := 23) C dX5_checkStory_9 (by decide) (by omega) (fun c_9 => ?_) (fun c_9 => ?_)
    · skip
      exact pw_vretE C hR dX5_checkStory_23 rfl rfl (Nat.zero_le _) (Nat.zero_le _)
    · skip
      exfalso; omega

set_option maxHeartbeats 4000000 in
set_option maxRecDepth 100000 in
theorem c_checkFact {X : Xv} {G M : Mm} {B : Int} {A : An} (hR0 : RC G M B A) (hA : AB A) {s f : Int} (r_s : -2147483648 ≤ s ∧ s ≤ 2147483647) (r_f : -2147483648 ≤ f ∧ f ≤ 2147483647) (hok : ((0 ≤ s ∧ s < A 0 0 0) ∧ 0 ≤ f ∧ f < 4)) : CT X yX5_checkFact prog_1_method_34_code 3 (none) 1 21 0 0 [vR B, vI s, vI f] G M (PV G M) := by
  refine CT.by (by decide +kernel) [1, 1, 1] ⟨cat_vR _, cat_vI _, cat_vI _, trivial⟩ (Nat.le_of_ble_eq_true rfl) (fun E hX C hR hIni => ?_)
  have hn := hA.n
  have hnS := hA.so.c
  refine pw_aload_n C dX5_checkFact_0 rfl ?_
  refine pw_iload_n C dX5_checkFact_1 rfl ?_
  refine pw_cVV C hX dX5_checkFact_2 ml_X5_134 mc_X5_checkStory (c_checkStory hR0 hA (s := s) (by omega) (by omega)) kc_8 hR0.k rfl rfl ⟨Nat.le_of_ble_eq_true rfl, Nat.le_of_ble_eq_true rfl⟩ (Nat.le_of_ble_eq_true rfl) ⟨Nat.le_of_ble_eq_true rfl, Nat.le_of_ble_eq_true rfl⟩ ?_
  refine pw_iload_n C dX5_checkFact_5 rfl ?_
  refine pw_if_lt (tgt := 14) C dX5_checkFact_6 (by decide) (by omega) (fun c_6 => ?_) (fun c_6 => ?_)
  · skip
    exfalso; omega
  · skip
    refine pw_iload_n C dX5_checkFact_9 rfl ?_
    refine pw_iconst C dX5_checkFact_10 ?_
    refine pw_icmp_lt (tgt := 24) C dX5_checkFact_11 (by decide) (by omega) (fun c_11 => ?_) (fun c_11 => ?_)
    · skip
      exact pw_vretE C hR dX5_checkFact_24 rfl rfl (Nat.zero_le _) (Nat.zero_le _)
    · skip
      exfalso; omega

set_option maxHeartbeats 4000000 in
set_option maxRecDepth 100000 in
theorem c_checkTake {X : Xv} {G M : Mm} {B : Int} {A : An} (hR0 : RC G M B A) (hA : AB A) {t : Int} (r_t : -2147483648 ≤ t ∧ t ≤ 2147483647) (hok : (0 ≤ t ∧ t < A 0 0 1)) : CT X yX5_checkTake prog_1_method_35_code 2 (none) 0 0 0 0 [vR B, vI t] G M (PV G M) := by
  refine CT.by (by decide +kernel) [1, 1] ⟨cat_vR _, cat_vI _, trivial⟩ (Nat.le_of_ble_eq_true rfl) (fun E hX C hR hIni => ?_)
  have hn := hA.n
  have hnS := hA.so.c
  refine pw_iload_n C dX5_checkTake_0 rfl ?_
  refine pw_if_lt (tgt := 12) C dX5_checkTake_1 (by decide) (by omega) (fun c_1 => ?_) (fun c_1 => ?_)
  · skip
    exfalso; omega
  · skip
    refine pw_iload_n C dX5_checkTake_4 rfl ?_
    refine pw_aload_n C dX5_checkTake_5 rfl ?_
    refine pw_getE C dX5_checkTake_6 fl_X5_284 rfl hR0.k (hR0.n 1 (by omega)) ?_
    refine pw_icmp_lt (tgt := 23) C dX5_checkTake_9 (by decide) (by omega) (fun c_9 => ?_) (fun c_9 => ?_)
    · skip
      exact pw_vretE C hR dX5_checkTake_23 rfl rfl (Nat.zero_le _) (Nat.zero_le _)
    · skip
      exfalso; omega

set_option maxHeartbeats 4000000 in
set_option maxRecDepth 100000 in
theorem c_checkLine {X : Xv} {G M : Mm} {B : Int} {A : An} (hR0 : RC G M B A) (hA : AB A) {l : Int} (r_l : -2147483648 ≤ l ∧ l ≤ 2147483647) (hok : (0 ≤ l ∧ l < A 0 0 2)) : CT X yX5_checkLine prog_1_method_36_code 2 (none) 0 0 0 0 [vR B, vI l] G M (PV G M) := by
  refine CT.by (by decide +kernel) [1, 1] ⟨cat_vR _, cat_vI _, trivial⟩ (Nat.le_of_ble_eq_true rfl) (fun E hX C hR hIni => ?_)
  have hn := hA.n
  have hnS := hA.so.c
  refine pw_iload_n C dX5_checkLine_0 rfl ?_
  refine pw_if_lt (tgt := 12) C dX5_checkLine_1 (by decide) (by omega) (fun c_1 => ?_) (fun c_1 => ?_)
  · skip
    exfalso; omega
  · skip
    refine pw_iload_n C dX5_checkLine_4 rfl ?_
    refine pw_aload_n C dX5_checkLine_5 rfl ?_
    refine pw_getE C dX5_checkLine_6 fl_X5_80 rfl hR0.k (hR0.n 2 (by omega)) ?_
    refine pw_icmp_lt (tgt := 23) C dX5_checkLine_9 (by decide) (by omega) (fun c_9 => ?_) (fun c_9 => ?_)
    · skip
      exact pw_vretE C hR dX5_checkLine_23 rfl rfl (Nat.zero_le _) (Nat.zero_le _)
    · skip
      exfalso; omega

set_option maxHeartbeats 4000000 in
set_option maxRecDepth 100000 in
theorem c_checkValue {X : Xv} {G M : Mm} {v : Int} (r_v : -2147483648 ≤ v ∧ v ≤ 2147483647) (hok : (0 ≤ v ∧ v ≤ 99)) : CT X yX5_checkValue prog_1_method_37_code 1 (none) 0 0 0 0 [vI v] G M (PV G M) := by
  refine CT.by (by decide +kernel) [1] ⟨cat_vI _, trivial⟩ (Nat.le_of_ble_eq_true rfl) (fun E hX C hR hIni => ?_)
  refine pw_iload_n C dX5_checkValue_0 rfl ?_
  refine pw_if_lt (tgt := 10) C dX5_checkValue_1 (by decide) (by omega) (fun c_1 => ?_) (fun c_1 => ?_)
  · skip
    exfalso; omega
  · skip
    refine pw_iload_n C dX5_checkValue_4 rfl ?_
    refine pw_bipush C dX5_checkValue_5 rfl ?_
    refine pw_icmp_le (tgt := 21) C dX5_checkValue_7 (by decide) (by omega) (fun c_7 => ?_) (fun c_7 => ?_)
    · skip
      exact pw_vretE C hR dX5_checkValue_21 rfl rfl (Nat.zero_le _) (Nat.zero_le _)
    · skip
      exfalso; omega

set_option maxHeartbeats 4000000 in
set_option maxRecDepth 100000 in
theorem c_checkWeight {X : Xv} {G M : Mm} {w : Int} (r_w : -2147483648 ≤ w ∧ w ≤ 2147483647) (hok : (1 ≤ w ∧ w ≤ 3)) : CT X yX5_checkWeight prog_1_method_38_code 1 (none) 0 0 0 0 [vI w] G M (PV G M) := by
  refine CT.by (by decide +kernel) [1] ⟨cat_vI _, trivial⟩ (Nat.le_of_ble_eq_true rfl) (fun E hX C hR hIni => ?_)
  refine pw_iload_n C dX5_checkWeight_0 rfl ?_
  refine pw_iconst C dX5_checkWeight_1 ?_
  refine pw_icmp_lt (tgt := 10) C dX5_checkWeight_2 (by decide) (by omega) (fun c_2 => ?_) (fun c_2 => ?_)
  · skip
    exfalso; omega
  · skip
    refine pw_iload_n C dX5_checkWeight_5 rfl ?_
    refine pw_iconst C dX5_checkWeight_6 ?_
    refine pw_icmp_le (tgt := 21) C dX5_checkWeight_7 (by decide) (by omega) (fun c_7 => ?_) (fun c_7 => ?_)
    · skip
      exact pw_vretE C hR dX5_checkWeight_21 rfl rfl (Nat.zero_le _) (Nat.zero_le _)
    · skip
      exfalso; omega

set_option maxHeartbeats 4000000 in
set_option maxRecDepth 100000 in
theorem c_checkRoomForTake {X : Xv} {G M : Mm} {B : Int} {A : An} (hR0 : RC G M B A) (hA : AB A)  (hok : (A 0 0 1 < 60)) : CT X yX5_checkRoomForTake prog_1_method_39_code 1 (none) 0 0 0 0 [vR B] G M (PV G M) := by
  refine CT.by (by decide +kernel) [1] ⟨cat_vR _, trivial⟩ (Nat.le_of_ble_eq_true rfl) (fun E hX C hR hIni => ?_)
  have hn := hA.n
  have hnS := hA.so.c
  refine pw_aload_n C dX5_checkRoomForTake_0 rfl ?_
  refine pw_getE C dX5_checkRoomForTake_1 fl_X5_284 rfl hR0.k (hR0.n 1 (by omega)) ?_
  refine pw_bipush C dX5_checkRoomForTake_4 rfl ?_
  refine pw_icmp_lt (tgt := 20) C dX5_checkRoomForTake_6 (by decide) (by omega) (fun c_6 => ?_) (fun c_6 => ?_)
  · skip
    exact pw_vretE C hR dX5_checkRoomForTake_20 rfl rfl (Nat.zero_le _) (Nat.zero_le _)
  · skip
    exfalso; omega

set_option maxHeartbeats 4000000 in
set_option maxRecDepth 100000 in
theorem c_ofFact {X : Xv} {G M : Mm} {B : Int} {A : An} (hR0 : RC G M B A) (hA : AB A) {s f w : Int} (r_s : -2147483648 ≤ s ∧ s ≤ 2147483647) (r_f : -2147483648 ≤ f ∧ f ≤ 2147483647) (r_w : -2147483648 ≤ w ∧ w ≤ 2147483647) (hok : (((0 ≤ s ∧ s < A 0 0 0) ∧ 0 ≤ f ∧ f < 4)) ∧ (0 ≤ w ∧ w ≤ 6)) : CT X yX5_ofFact prog_1_method_14_code 5 (some .int) 4 95 0 0 [vR B, vI s, vI f, vI w] G M (PE G M (oFa A s f w)) := by
  refine CT.by (by decide +kernel) [1, 1, 1, 1] ⟨cat_vR _, cat_vI _, cat_vI _, cat_vI _, trivial⟩ (Nat.le_of_ble_eq_true rfl) (fun E hX C hR hIni => ?_)
  have hn := hA.n
  have hnS := hA.so.c
  refine pw_aload_n C dX5_ofFact_0 rfl ?_
  refine pw_iload_n C dX5_ofFact_1 rfl ?_
  refine pw_iload_n C dX5_ofFact_2 rfl ?_
  refine pw_cVV C hX dX5_ofFact_3 ml_X5_91 mc_X5_checkFact (c_checkFact hR0 hA (s := s) (f := f) (by omega) (by omega) (by omega)) kc_8 hR0.k rfl rfl ⟨Nat.le_of_ble_eq_true rfl, Nat.le_of_ble_eq_true rfl⟩ (Nat.le_of_ble_eq_true rfl) ⟨Nat.le_of_ble_eq_true rfl, Nat.le_of_ble_eq_true rfl⟩ ?_
  refine pw_aload_n C dX5_ofFact_6 rfl ?_
  refine pw_iload_n C dX5_ofFact_7 rfl ?_
  refine pw_iload_n C dX5_ofFact_8 rfl ?_
  refine pw_cVR C hX dX5_ofFact_9 ml_X5_98 mc_X5_factAt (c_factAt hR0 (s := s) (f := f) (by omega) (by omega)) kc_8 hR0.k rfl rfl ⟨Nat.le_of_ble_eq_true rfl, Nat.le_of_ble_eq_true rfl⟩ (Nat.le_of_ble_eq_true rfl) ⟨Nat.le_of_ble_eq_true rfl, Nat.le_of_ble_eq_true rfl⟩ ?_
  refine pw_astore C dX5_ofFact_12 (Nat.le_of_ble_eq_true rfl) rfl ?_
  refine pw_iload_n C dX5_ofFact_14 rfl ?_
  by_cases c_15 : 0 ≤ w ∧ w ≤ 6
  · rcases (show w = 0 ∨ w = 1 ∨ w = 2 ∨ w = 3 ∨ w = 4 ∨ w = 5 ∨ w = 6 from by omega) with c_15 | c_15 | c_15 | c_15 | c_15 | c_15 | c_15
    · refine pw_swin (tgt := 56) (off := 41) C dX5_ofFact_15 (by omega) (by omega) (by omega) (by rw [c_15]; rfl) (by decide) ?_
      refine pw_aload C dX5_ofFact_56 rfl ?_
      refine pw_getE C dX5_ofFact_58 fl_X5_175 rfl (hR0.fa (s * 4 + f) (by omega)).k ((hR0.fa (s * 4 + f) (by omega)).s 0 (by omega)) ?_
      have b_58 := (hA.fa (s * 4 + f) (by omega)).s0
      exact pw_iretE C hR dX5_ofFact_61 rfl rfl (by subst c_15; rfl) (Nat.zero_le _) (Nat.zero_le _)
    · refine pw_swin (tgt := 62) (off := 47) C dX5_ofFact_15 (by omega) (by omega) (by omega) (by rw [c_15]; rfl) (by decide) ?_
      refine pw_aload C dX5_ofFact_62 rfl ?_
      refine pw_getE C dX5_ofFact_64 fl_X5_204 rfl (hR0.fa (s * 4 + f) (by omega)).k ((hR0.fa (s * 4 + f) (by omega)).s 2 (by omega)) ?_
      have b_64 := (hA.fa (s * 4 + f) (by omega)).s2
      exact pw_iretE C hR dX5_ofFact_67 rfl rfl (by subst c_15; rfl) (Nat.zero_le _) (Nat.zero_le _)
    · refine pw_swin (tgt := 68) (off := 53) C dX5_ofFact_15 (by omega) (by omega) (by omega) (by rw [c_15]; rfl) (by decide) ?_
      refine pw_aload C dX5_ofFact_68 rfl ?_
      refine pw_cVE C hX dX5_ofFact_70 ml_X5_207 mc_X0_countSayers (c_X0_countSayers (hR0.fa (s * 4 + f) (by omega)) (hA.fa (s * 4 + f) (by omega)).f0) kc_3 (hR0.fa (s * 4 + f) (by omega)).k rfl rfl ⟨Nat.le_of_ble_eq_true rfl, Nat.le_of_ble_eq_true rfl⟩ (Nat.le_of_ble_eq_true rfl) ⟨Nat.le_of_ble_eq_true rfl, Nat.le_of_ble_eq_true rfl⟩ ?_
      exact pw_iretE C hR dX5_ofFact_73 rfl rfl (by subst c_15; rfl) (Nat.zero_le _) (Nat.zero_le _)
    · refine pw_swin (tgt := 74) (off := 59) C dX5_ofFact_15 (by omega) (by omega) (by omega) (by rw [c_15]; rfl) (by decide) ?_
      refine pw_aload C dX5_ofFact_74 rfl ?_
      refine pw_cVE C hX dX5_ofFact_76 ml_X5_210 mc_X0_countValues (c_X0_countValues (hR0.fa (s * 4 + f) (by omega)) (hA.fa (s * 4 + f) (by omega)).f0) kc_3 (hR0.fa (s * 4 + f) (by omega)).k rfl rfl ⟨Nat.le_of_ble_eq_true rfl, Nat.le_of_ble_eq_true rfl⟩ (Nat.le_of_ble_eq_true rfl) ⟨Nat.le_of_ble_eq_true rfl, Nat.le_of_ble_eq_true rfl⟩ ?_
      exact pw_iretE C hR dX5_ofFact_79 rfl rfl (by subst c_15; rfl) (Nat.zero_le _) (Nat.zero_le _)
    · refine pw_swin (tgt := 80) (off := 65) C dX5_ofFact_15 (by omega) (by omega) (by omega) (by rw [c_15]; rfl) (by decide) ?_
      refine pw_aload C dX5_ofFact_80 rfl ?_
      refine pw_getE C dX5_ofFact_82 fl_X5_120 rfl (hR0.fa (s * 4 + f) (by omega)).k ((hR0.fa (s * 4 + f) (by omega)).s 3 (by omega)) ?_
      have b_82 := (hA.fa (s * 4 + f) (by omega)).s3
      exact pw_iretE C hR dX5_ofFact_85 rfl rfl (by subst c_15; rfl) (Nat.zero_le _) (Nat.zero_le _)
    · refine pw_swin (tgt := 86) (off := 71) C dX5_ofFact_15 (by omega) (by omega) (by omega) (by rw [c_15]; rfl) (by decide) ?_
      refine pw_aload_n C dX5_ofFact_86 rfl ?_
      refine pw_iload_n C dX5_ofFact_87 rfl ?_
      refine pw_iload_n C dX5_ofFact_88 rfl ?_
      refine pw_cVE C hX dX5_ofFact_89 ml_X5_213 mc_X5_firstHad (c_firstHad hR0 hA (s := s) (f := f) (by omega) (by omega)) kc_8 hR0.k rfl rfl ⟨Nat.le_of_ble_eq_true rfl, Nat.le_of_ble_eq_true rfl⟩ (Nat.le_of_ble_eq_true rfl) ⟨Nat.le_of_ble_eq_true rfl, Nat.le_of_ble_eq_true rfl⟩ ?_
      have b_fh := fh_bd (s := s) (f := f) hA
      exact pw_iretE C hR dX5_ofFact_92 rfl rfl (by subst c_15; rfl) (Nat.zero_le _) (Nat.zero_le _)
    · refine pw_swin (tgt := 93) (off := 78) C dX5_ofFact_15 (by omega) (by omega) (by omega) (by rw [c_15]; rfl) (by decide) ?_
      refine pw_aload_n C dX5_ofFact_93 rfl ?_
      refine pw_iload_n C dX5_ofFact_94 rfl ?_
      refine pw_iload_n C dX5_ofFact_95 rfl ?_
      refine pw_cVE C hX dX5_ofFact_96 ml_X5_216 mc_X5_isFirst (c_isFirst hR0 hA (s := s) (f := f) (by omega) (by omega)) kc_8 hR0.k rfl rfl ⟨Nat.le_of_ble_eq_true rfl, Nat.le_of_ble_eq_true rfl⟩ (Nat.le_of_ble_eq_true rfl) ⟨Nat.le_of_ble_eq_true rfl, Nat.le_of_ble_eq_true rfl⟩ ?_
      refine pw_ifB_eq (tgt := 106) C dX5_ofFact_99 (by decide) (fun c_99 => ?_) (fun c_99 => ?_)
      · skip
        refine pw_iconst C dX5_ofFact_106 ?_
        exact pw_iretE C hR dX5_ofFact_107 rfl rfl (by subst c_15; first | exact (bI_t (by assumption)).symm | exact (bI_f (by assumption)).symm) (Nat.zero_le _) (Nat.zero_le _)
      · skip
        refine pw_iconst C dX5_ofFact_102 ?_
        refine pw_goto (tgt := 107) C dX5_ofFact_103 (by decide) ?_
        exact pw_iretE C hR dX5_ofFact_107 rfl rfl (by subst c_15; first | exact (bI_t (by assumption)).symm | exact (bI_f (by assumption)).symm) (Nat.zero_le _) (Nat.zero_le _)
  · refine pw_swout (tgt := 108) C dX5_ofFact_15 (by omega) (by omega) (by decide) ?_
    exfalso; omega

set_option maxHeartbeats 4000000 in
set_option maxRecDepth 100000 in
theorem c_ofTake {X : Xv} {G M : Mm} {B : Int} {A : An} (hR0 : RC G M B A) (hA : AB A) {t w : Int} (r_t : -2147483648 ≤ t ∧ t ≤ 2147483647) (r_w : -2147483648 ≤ w ∧ w ≤ 2147483647) (hok : (0 ≤ t ∧ t < A 0 0 1) ∧ (0 ≤ w ∧ w ≤ 8)) : CT X yX5_ofTake prog_1_method_16_code 4 (some .int) 1 21 0 0 [vR B, vI t, vI w] G M (PE G M (oTa A t w)) := by
  refine CT.by (by decide +kernel) [1, 1, 1] ⟨cat_vR _, cat_vI _, cat_vI _, trivial⟩ (Nat.le_of_ble_eq_true rfl) (fun E hX C hR hIni => ?_)
  have hn := hA.n
  have hnS := hA.so.c
  refine pw_aload_n C dX5_ofTake_0 rfl ?_
  refine pw_iload_n C dX5_ofTake_1 rfl ?_
  refine pw_cVV C hX dX5_ofTake_2 ml_X5_159 mc_X5_checkTake (c_checkTake hR0 hA (t := t) (by omega) (by omega)) kc_8 hR0.k rfl rfl ⟨Nat.le_of_ble_eq_true rfl, Nat.le_of_ble_eq_true rfl⟩ (Nat.le_of_ble_eq_true rfl) ⟨Nat.le_of_ble_eq_true rfl, Nat.le_of_ble_eq_true rfl⟩ ?_
  refine pw_aload_n C dX5_ofTake_5 rfl ?_
  refine pw_getR C dX5_ofTake_6 fl_X5_32 hR0.k rfl hR0.r3 ?_
  refine pw_iload_n C dX5_ofTake_9 rfl ?_
  refine pw_aaldE C dX5_ofTake_10 hR0.a3 (by omega) (by omega) (hR0.e3 t (by omega)) ?_
  refine pw_astore_n C dX5_ofTake_11 (Nat.le_of_ble_eq_true rfl) rfl ?_
  refine pw_iload_n C dX5_ofTake_12 rfl ?_
  by_cases c_13 : 0 ≤ w ∧ w ≤ 8
  · rcases (show w = 0 ∨ w = 1 ∨ w = 2 ∨ w = 3 ∨ w = 4 ∨ w = 5 ∨ w = 6 ∨ w = 7 ∨ w = 8 from by omega) with c_13 | c_13 | c_13 | c_13 | c_13 | c_13 | c_13 | c_13 | c_13
    · refine pw_swin (tgt := 64) (off := 51) C dX5_ofTake_13 (by omega) (by omega) (by omega) (by rw [c_13]; rfl) (by decide) ?_
      refine pw_aload_n C dX5_ofTake_64 rfl ?_
      refine pw_getE C dX5_ofTake_65 fl_X5_172 rfl (hR0.ta t (by omega)).k ((hR0.ta t (by omega)).s 0 (by omega)) ?_
      have b_65 := (hA.ta t (by omega)).s0
      exact pw_iretE C hR dX5_ofTake_68 rfl rfl (by subst c_13; rfl) (Nat.zero_le _) (Nat.zero_le _)
    · refine pw_swin (tgt := 69) (off := 56) C dX5_ofTake_13 (by omega) (by omega) (by omega) (by rw [c_13]; rfl) (by decide) ?_
      refine pw_aload_n C dX5_ofTake_69 rfl ?_
      refine pw_getE C dX5_ofTake_70 fl_X5_178 rfl (hR0.ta t (by omega)).k ((hR0.ta t (by omega)).s 1 (by omega)) ?_
      have b_70 := (hA.ta t (by omega)).s1
      exact pw_iretE C hR dX5_ofTake_73 rfl rfl (by subst c_13; rfl) (Nat.zero_le _) (Nat.zero_le _)
    · refine pw_swin (tgt := 74) (off := 61) C dX5_ofTake_13 (by omega) (by omega) (by omega) (by rw [c_13]; rfl) (by decide) ?_
      refine pw_aload_n C dX5_ofTake_74 rfl ?_
      refine pw_getE C dX5_ofTake_75 fl_X5_225 rfl (hR0.ta t (by omega)).k ((hR0.ta t (by omega)).s 2 (by omega)) ?_
      have b_75 := (hA.ta t (by omega)).s2
      exact pw_iretE C hR dX5_ofTake_78 rfl rfl (by subst c_13; rfl) (Nat.zero_le _) (Nat.zero_le _)
    · refine pw_swin (tgt := 79) (off := 66) C dX5_ofTake_13 (by omega) (by omega) (by omega) (by rw [c_13]; rfl) (by decide) ?_
      refine pw_aload_n C dX5_ofTake_79 rfl ?_
      refine pw_getE C dX5_ofTake_80 fl_X5_228 rfl (hR0.ta t (by omega)).k ((hR0.ta t (by omega)).s 3 (by omega)) ?_
      have b_80 := (hA.ta t (by omega)).s3
      exact pw_iretE C hR dX5_ofTake_83 rfl rfl (by subst c_13; rfl) (Nat.zero_le _) (Nat.zero_le _)
    · refine pw_swin (tgt := 84) (off := 71) C dX5_ofTake_13 (by omega) (by omega) (by omega) (by rw [c_13]; rfl) (by decide) ?_
      refine pw_aload_n C dX5_ofTake_84 rfl ?_
      refine pw_getE C dX5_ofTake_85 fl_X5_231 rfl (hR0.ta t (by omega)).k ((hR0.ta t (by omega)).s 4 (by omega)) ?_
      have b_85 := (hA.ta t (by omega)).s4
      exact pw_iretE C hR dX5_ofTake_88 rfl rfl (by subst c_13; rfl) (Nat.zero_le _) (Nat.zero_le _)
    · refine pw_swin (tgt := 89) (off := 76) C dX5_ofTake_13 (by omega) (by omega) (by omega) (by rw [c_13]; rfl) (by decide) ?_
      refine pw_aload_n C dX5_ofTake_89 rfl ?_
      refine pw_getE C dX5_ofTake_90 fl_X5_234 rfl (hR0.ta t (by omega)).k ((hR0.ta t (by omega)).s 5 (by omega)) ?_
      have b_90 := (hA.ta t (by omega)).s5
      refine pw_if_eq (tgt := 100) C dX5_ofTake_93 (by decide) (by omega) (fun c_93 => ?_) (fun c_93 => ?_)
      · skip
        refine pw_iconst C dX5_ofTake_100 ?_
        exact pw_iretE C hR dX5_ofTake_101 rfl rfl (by subst c_13; exact (if_pos c_93).symm) (Nat.zero_le _) (Nat.zero_le _)
      · skip
        refine pw_iconst C dX5_ofTake_96 ?_
        refine pw_goto (tgt := 101) C dX5_ofTake_97 (by decide) ?_
        exact pw_iretE C hR dX5_ofTake_101 rfl rfl (by subst c_13; exact (if_neg c_93).symm) (Nat.zero_le _) (Nat.zero_le _)
    · refine pw_swin (tgt := 102) (off := 89) C dX5_ofTake_13 (by omega) (by omega) (by omega) (by rw [c_13]; rfl) (by decide) ?_
      refine pw_aload_n C dX5_ofTake_102 rfl ?_
      refine pw_getE C dX5_ofTake_103 fl_X5_167 rfl (hR0.ta t (by omega)).k ((hR0.ta t (by omega)).s 7 (by omega)) ?_
      have b_103 := (hA.ta t (by omega)).s7
      refine pw_iconst C dX5_ofTake_106 ?_
      refine pw_icmp_eq (tgt := 114) C dX5_ofTake_107 (by decide) (by omega) (fun c_107 => ?_) (fun c_107 => ?_)
      · skip
        refine pw_iconst C dX5_ofTake_114 ?_
        exact pw_iretE C hR dX5_ofTake_115 rfl rfl (by subst c_13; exact (if_pos c_107).symm) (Nat.zero_le _) (Nat.zero_le _)
      · skip
        refine pw_iconst C dX5_ofTake_110 ?_
        refine pw_goto (tgt := 115) C dX5_ofTake_111 (by decide) ?_
        exact pw_iretE C hR dX5_ofTake_115 rfl rfl (by subst c_13; exact (if_neg c_107).symm) (Nat.zero_le _) (Nat.zero_le _)
    · refine pw_swin (tgt := 116) (off := 103) C dX5_ofTake_13 (by omega) (by omega) (by omega) (by rw [c_13]; rfl) (by decide) ?_
      refine pw_aload_n C dX5_ofTake_116 rfl ?_
      refine pw_getE C dX5_ofTake_117 fl_X5_238 rfl (hR0.ta t (by omega)).k ((hR0.ta t (by omega)).s 6 (by omega)) ?_
      have b_117 := (hA.ta t (by omega)).s6
      exact pw_iretE C hR dX5_ofTake_120 rfl rfl (by subst c_13; rfl) (Nat.zero_le _) (Nat.zero_le _)
    · refine pw_swin (tgt := 121) (off := 108) C dX5_ofTake_13 (by omega) (by omega) (by omega) (by rw [c_13]; rfl) (by decide) ?_
      refine pw_aload_n C dX5_ofTake_121 rfl ?_
      refine pw_getE C dX5_ofTake_122 fl_X5_241 rfl (hR0.ta t (by omega)).k ((hR0.ta t (by omega)).s 8 (by omega)) ?_
      have b_122 := (hA.ta t (by omega)).s8
      exact pw_iretE C hR dX5_ofTake_125 rfl rfl (by subst c_13; rfl) (Nat.zero_le _) (Nat.zero_le _)
  · refine pw_swout (tgt := 126) C dX5_ofTake_13 (by omega) (by omega) (by decide) ?_
    exfalso; omega

set_option maxHeartbeats 4000000 in
set_option maxRecDepth 100000 in
theorem c_says {X : Xv} {G M : Mm} {B : Int} {A : An} (hR0 : RC G M B A) (hA : AB A) {t f : Int} (r_t : -2147483648 ≤ t ∧ t ≤ 2147483647) (r_f : -2147483648 ≤ f ∧ f ≤ 2147483647) (hok : ((0 ≤ t ∧ t < A 0 0 1) ∧ 0 ≤ f ∧ f < 4)) : CT X yX5_says prog_1_method_17_code 3 (some .int) 1 21 0 0 [vR B, vI t, vI f] G M (PE G M (A (200 + t) 0 f)) := by
  refine CT.by (by decide +kernel) [1, 1, 1] ⟨cat_vR _, cat_vI _, cat_vI _, trivial⟩ (Nat.le_of_ble_eq_true rfl) (fun E hX C hR hIni => ?_)
  have hn := hA.n
  have hnS := hA.so.c
  refine pw_aload_n C dX5_says_0 rfl ?_
  refine pw_iload_n C dX5_says_1 rfl ?_
  refine pw_cVV C hX dX5_says_2 ml_X5_159 mc_X5_checkTake (c_checkTake hR0 hA (t := t) (by omega) (by omega)) kc_8 hR0.k rfl rfl ⟨Nat.le_of_ble_eq_true rfl, Nat.le_of_ble_eq_true rfl⟩ (Nat.le_of_ble_eq_true rfl) ⟨Nat.le_of_ble_eq_true rfl, Nat.le_of_ble_eq_true rfl⟩ ?_
  refine pw_iload_n C dX5_says_5 rfl ?_
  refine pw_if_lt (tgt := 14) C dX5_says_6 (by decide) (by omega) (fun c_6 => ?_) (fun c_6 => ?_)
  · skip
    exfalso; omega
  · skip
    refine pw_iload_n C dX5_says_9 rfl ?_
    refine pw_iconst C dX5_says_10 ?_
    refine pw_icmp_lt (tgt := 24) C dX5_says_11 (by decide) (by omega) (fun c_11 => ?_) (fun c_11 => ?_)
    · skip
      refine pw_aload_n C dX5_says_24 rfl ?_
      refine pw_getR C dX5_says_25 fl_X5_32 hR0.k rfl hR0.r3 ?_
      refine pw_iload_n C dX5_says_28 rfl ?_
      refine pw_aaldE C dX5_says_29 hR0.a3 (by omega) (by omega) (hR0.e3 t (by omega)) ?_
      refine pw_getR C dX5_says_30 fl_X5_162 (hR0.ta t (by omega)).k rfl ((hR0.ta t (by omega)).r (b := ((B + 56 + 2 * t) + 1)) 0 (by omega)) ?_
      refine pw_iload_n C dX5_says_33 rfl ?_
      refine pw_ialdE C dX5_says_34 ((hR0.ta t (by omega)).ai 0 (by omega)) (by omega) ((hR0.ta t (by omega)).v 0 (by omega)) ?_
      have b_34 := (hA.ta t (by omega)).v0 f (by omega) (by omega)
      exact pw_iretE C hR dX5_says_35 rfl rfl (rfl) (Nat.zero_le _) (Nat.zero_le _)
    · skip
      exfalso; omega

set_option maxHeartbeats 4000000 in
set_option maxRecDepth 100000 in
theorem c_state {X : Xv} {G M : Mm} {B : Int} {A : An} (hR0 : RC G M B A) (hA : AB A) {l t : Int} (r_l : -2147483648 ≤ l ∧ l ≤ 2147483647) (r_t : -2147483648 ≤ t ∧ t ≤ 2147483647) (hok : ((0 ≤ l ∧ l < A 0 0 2) ∧ 0 ≤ t ∧ t < A 0 0 1)) : CT X yX5_state prog_1_method_18_code 4 (some .int) 2 45 0 0 [vR B, vI l, vI t] G M (PE G M (stt A l t)) := by
  refine CT.by (by decide +kernel) [1, 1, 1] ⟨cat_vR _, cat_vI _, cat_vI _, trivial⟩ (Nat.le_of_ble_eq_true rfl) (fun E hX C hR hIni => ?_)
  have hn := hA.n
  have hnS := hA.so.c
  refine pw_aload_n C dX5_state_0 rfl ?_
  refine pw_iload_n C dX5_state_1 rfl ?_
  refine pw_cVV C hX dX5_state_2 ml_X5_126 mc_X5_checkLine (c_checkLine hR0 hA (l := l) (by omega) (by omega)) kc_8 hR0.k rfl rfl ⟨Nat.le_of_ble_eq_true rfl, Nat.le_of_ble_eq_true rfl⟩ (Nat.le_of_ble_eq_true rfl) ⟨Nat.le_of_ble_eq_true rfl, Nat.le_of_ble_eq_true rfl⟩ ?_
  refine pw_aload_n C dX5_state_5 rfl ?_
  refine pw_iload_n C dX5_state_6 rfl ?_
  refine pw_cVV C hX dX5_state_7 ml_X5_159 mc_X5_checkTake (c_checkTake hR0 hA (t := t) (by omega) (by omega)) kc_8 hR0.k rfl rfl ⟨Nat.le_of_ble_eq_true rfl, Nat.le_of_ble_eq_true rfl⟩ (Nat.le_of_ble_eq_true rfl) ⟨Nat.le_of_ble_eq_true rfl, Nat.le_of_ble_eq_true rfl⟩ ?_
  refine pw_aload_n C dX5_state_10 rfl ?_
  refine pw_getR C dX5_state_11 fl_X5_39 hR0.k rfl hR0.r4 ?_
  refine pw_iload_n C dX5_state_14 rfl ?_
  refine pw_aaldE C dX5_state_15 hR0.a4 (by omega) (by omega) (hR0.e4 l (by omega)) ?_
  refine pw_astore_n C dX5_state_16 (Nat.le_of_ble_eq_true rfl) rfl ?_
  refine pw_aload_n C dX5_state_17 rfl ?_
  refine pw_iload_n C dX5_state_18 rfl ?_
  refine pw_cVE C hX dX5_state_19 ml_X5_251 mc_X1_isRunning (c_X1_isRunning (hR0.li l (by omega)) (hA.li l (by omega)) (t := t) (by omega)) kc_4 (hR0.li l (by omega)).k rfl rfl ⟨Nat.le_of_ble_eq_true rfl, Nat.le_of_ble_eq_true rfl⟩ (Nat.le_of_ble_eq_true rfl) ⟨Nat.le_of_ble_eq_true rfl, Nat.le_of_ble_eq_true rfl⟩ ?_
  refine pw_ifB_ne (tgt := 27) C dX5_state_22 (by decide) (fun c_22 => ?_) (fun c_22 => ?_)
  · skip
    refine pw_aload_n C dX5_state_27 rfl ?_
    refine pw_iload_n C dX5_state_28 rfl ?_
    refine pw_cVE C hX dX5_state_29 ml_X5_183 mc_X1_isSent (c_X1_isSent (hR0.li l (by omega)) (hA.li l (by omega)) (t := t) (by omega)) kc_4 (hR0.li l (by omega)).k rfl rfl ⟨Nat.le_of_ble_eq_true rfl, Nat.le_of_ble_eq_true rfl⟩ (Nat.le_of_ble_eq_true rfl) ⟨Nat.le_of_ble_eq_true rfl, Nat.le_of_ble_eq_true rfl⟩ ?_
    refine pw_ifB_ne (tgt := 59) C dX5_state_32 (by decide) (fun c_32 => ?_) (fun c_32 => ?_)
    · skip
      refine pw_aload_n C dX5_state_59 rfl ?_
      refine pw_iload_n C dX5_state_60 rfl ?_
      refine pw_aload_n C dX5_state_61 rfl ?_
      refine pw_getE C dX5_state_62 fl_X5_123 rfl hR0.k (hR0.n 3 (by omega)) ?_
      refine pw_cVE C hX dX5_state_65 ml_X5_257 mc_X1_hasAtDesk (c_X1_hasAtDesk (hR0.li l (by omega)) (hA.li l (by omega)) (t := t) (m := (A 0 0 3)) (by omega) (by omega)) kc_4 (hR0.li l (by omega)).k rfl rfl ⟨Nat.le_of_ble_eq_true rfl, Nat.le_of_ble_eq_true rfl⟩ (Nat.le_of_ble_eq_true rfl) ⟨Nat.le_of_ble_eq_true rfl, Nat.le_of_ble_eq_true rfl⟩ ?_
      refine pw_ifB_ne (tgt := 73) C dX5_state_68 (by decide) (fun c_68 => ?_) (fun c_68 => ?_)
      · skip
        refine pw_aload_n C dX5_state_73 rfl ?_
        refine pw_iload_n C dX5_state_74 rfl ?_
        refine pw_iload_n C dX5_state_75 rfl ?_
        refine pw_cVE C hX dX5_state_76 ml_X5_260 mc_X5_isDropped (c_isDropped hR0 hA (l := l) (t := t) (by omega) (by omega)) kc_8 hR0.k rfl rfl ⟨Nat.le_of_ble_eq_true rfl, Nat.le_of_ble_eq_true rfl⟩ (Nat.le_of_ble_eq_true rfl) ⟨Nat.le_of_ble_eq_true rfl, Nat.le_of_ble_eq_true rfl⟩ ?_
        refine pw_ifB_eq (tgt := 86) C dX5_state_79 (by decide) (fun c_79 => ?_) (fun c_79 => ?_)
        · skip
          refine pw_iconst C dX5_state_86 ?_
          exact pw_iretE C hR dX5_state_87 rfl rfl (by unfold stt; rw [if_neg c_22]; rw [if_neg (fun q => q c_32)]; rw [if_neg (fun q => q c_68)]; rw [if_neg c_79]) (Nat.zero_le _) (Nat.zero_le _)
        · skip
          refine pw_iconst C dX5_state_82 ?_
          refine pw_goto (tgt := 87) C dX5_state_83 (by decide) ?_
          exact pw_iretE C hR dX5_state_87 rfl rfl (by unfold stt; rw [if_neg c_22]; rw [if_neg (fun q => q c_32)]; rw [if_neg (fun q => q c_68)]; rw [if_pos c_79]) (Nat.zero_le _) (Nat.zero_le _)
      · skip
        refine pw_iconst C dX5_state_71 ?_
        exact pw_iretE C hR dX5_state_72 rfl rfl (by unfold stt; rw [if_neg c_22]; rw [if_neg (fun q => q c_32)]; rw [if_pos c_68]) (Nat.zero_le _) (Nat.zero_le _)
    · skip
      refine pw_aload_n C dX5_state_35 rfl ?_
      refine pw_getR C dX5_state_36 fl_X5_254 (hR0.li l (by omega)).k rfl ((hR0.li l (by omega)).r (b := ((B + 177 + 5 * l) + 1)) 0 (by omega)) ?_
      refine pw_iload_n C dX5_state_39 rfl ?_
      refine pw_ialdE C dX5_state_40 ((hR0.li l (by omega)).ai 0 (by omega)) (by omega) ((hR0.li l (by omega)).v 0 (by omega)) ?_
      have b_40 := (hA.li l (by omega)).v0 t (by omega) (by omega)
      refine pw_aload_n C dX5_state_41 rfl ?_
      refine pw_getR C dX5_state_42 fl_X5_32 hR0.k rfl hR0.r3 ?_
      refine pw_iload_n C dX5_state_45 rfl ?_
      refine pw_aaldE C dX5_state_46 hR0.a3 (by omega) (by omega) (hR0.e3 t (by omega)) ?_
      refine pw_getE C dX5_state_47 fl_X5_228 rfl (hR0.ta t (by omega)).k ((hR0.ta t (by omega)).s 3 (by omega)) ?_
      have b_47 := (hA.ta t (by omega)).s3
      refine pw_icmp_ne (tgt := 57) C dX5_state_50 (by decide) (by omega) (fun c_50 => ?_) (fun c_50 => ?_)
      · skip
        refine pw_iconst C dX5_state_57 ?_
        exact pw_iretE C hR dX5_state_58 rfl rfl (by unfold stt; rw [if_neg c_22]; rw [if_pos c_32]; rw [if_neg c_50]) (Nat.zero_le _) (Nat.zero_le _)
      · skip
        refine pw_iconst C dX5_state_53 ?_
        refine pw_goto (tgt := 58) C dX5_state_54 (by decide) ?_
        exact pw_iretE C hR dX5_state_58 rfl rfl (by unfold stt; rw [if_neg c_22]; rw [if_pos c_32]; rw [if_pos c_50]) (Nat.zero_le _) (Nat.zero_le _)
  · skip
    refine pw_iconst C dX5_state_25 ?_
    exact pw_iretE C hR dX5_state_26 rfl rfl (by unfold stt; rw [if_pos (Decidable.not_not.mp c_22)]) (Nat.zero_le _) (Nat.zero_le _)

set_option maxHeartbeats 4000000 in
set_option maxRecDepth 100000 in
theorem c_tells {X : Xv} {G M : Mm} {B : Int} {A : An} (hR0 : RC G M B A) (hA : AB A) {l s f : Int} (r_l : -2147483648 ≤ l ∧ l ≤ 2147483647) (r_s : -2147483648 ≤ s ∧ s ≤ 2147483647) (r_f : -2147483648 ≤ f ∧ f ≤ 2147483647) (hok : ((0 ≤ l ∧ l < A 0 0 2) ∧ ((0 ≤ s ∧ s < A 0 0 0) ∧ 0 ≤ f ∧ f < 4))) : CT X yX5_tells prog_1_method_19_code 4 (some .int) 3 70 0 0 [vR B, vI l, vI s, vI f] G M (PE G M (tld A l s f)) := by
  refine CT.by (by decide +kernel) [1, 1, 1, 1] ⟨cat_vR _, cat_vI _, cat_vI _, cat_vI _, trivial⟩ (Nat.le_of_ble_eq_true rfl) (fun E hX C hR hIni => ?_)
  have hn := hA.n
  have hnS := hA.so.c
  refine pw_aload_n C dX5_tells_0 rfl ?_
  refine pw_iload_n C dX5_tells_1 rfl ?_
  refine pw_cVV C hX dX5_tells_2 ml_X5_126 mc_X5_checkLine (c_checkLine hR0 hA (l := l) (by omega) (by omega)) kc_8 hR0.k rfl rfl ⟨Nat.le_of_ble_eq_true rfl, Nat.le_of_ble_eq_true rfl⟩ (Nat.le_of_ble_eq_true rfl) ⟨Nat.le_of_ble_eq_true rfl, Nat.le_of_ble_eq_true rfl⟩ ?_
  refine pw_aload_n C dX5_tells_5 rfl ?_
  refine pw_iload_n C dX5_tells_6 rfl ?_
  refine pw_iload_n C dX5_tells_7 rfl ?_
  refine pw_cVV C hX dX5_tells_8 ml_X5_91 mc_X5_checkFact (c_checkFact hR0 hA (s := s) (f := f) (by omega) (by omega) (by omega)) kc_8 hR0.k rfl rfl ⟨Nat.le_of_ble_eq_true rfl, Nat.le_of_ble_eq_true rfl⟩ (Nat.le_of_ble_eq_true rfl) ⟨Nat.le_of_ble_eq_true rfl, Nat.le_of_ble_eq_true rfl⟩ ?_
  refine pw_aload_n C dX5_tells_11 rfl ?_
  refine pw_iload_n C dX5_tells_12 rfl ?_
  refine pw_iload_n C dX5_tells_13 rfl ?_
  refine pw_iload_n C dX5_tells_14 rfl ?_
  refine pw_cVE C hX dX5_tells_15 ml_X5_263 mc_X5_toldAtDesk (c_toldAtDesk hR0 hA (l := l) (s := s) (f := f) (by omega) (by omega) (by omega)) kc_8 hR0.k rfl rfl ⟨Nat.le_of_ble_eq_true rfl, Nat.le_of_ble_eq_true rfl⟩ (Nat.le_of_ble_eq_true rfl) ⟨Nat.le_of_ble_eq_true rfl, Nat.le_of_ble_eq_true rfl⟩ ?_
  have b_tld := tld_bd (l := l) (s := s) (f := f) hA (by omega)
  exact pw_iretE C hR dX5_tells_18 rfl rfl (rfl) (Nat.zero_le _) (Nat.zero_le _)

set_option maxHeartbeats 4000000 in
set_option maxRecDepth 100000 in
theorem c_ofLine {X : Xv} {G M : Mm} {B : Int} {A : An} (hR0 : RC G M B A) (hA : AB A) {l w : Int} (r_l : -2147483648 ≤ l ∧ l ≤ 2147483647) (r_w : -2147483648 ≤ w ∧ w ≤ 2147483647) (hok : (0 ≤ l ∧ l < A 0 0 2) ∧ (0 ≤ w ∧ w ≤ 7)) : CT X yX5_ofLine prog_1_method_20_code 4 (some .int) 4 96 0 0 [vR B, vI l, vI w] G M (PE G M (oLi A l w)) := by
  refine CT.by (by decide +kernel) [1, 1, 1] ⟨cat_vR _, cat_vI _, cat_vI _, trivial⟩ (Nat.le_of_ble_eq_true rfl) (fun E hX C hR hIni => ?_)
  have hn := hA.n
  have hnS := hA.so.c
  refine pw_aload_n C dX5_ofLine_0 rfl ?_
  refine pw_iload_n C dX5_ofLine_1 rfl ?_
  refine pw_cVV C hX dX5_ofLine_2 ml_X5_126 mc_X5_checkLine (c_checkLine hR0 hA (l := l) (by omega) (by omega)) kc_8 hR0.k rfl rfl ⟨Nat.le_of_ble_eq_true rfl, Nat.le_of_ble_eq_true rfl⟩ (Nat.le_of_ble_eq_true rfl) ⟨Nat.le_of_ble_eq_true rfl, Nat.le_of_ble_eq_true rfl⟩ ?_
  refine pw_aload_n C dX5_ofLine_5 rfl ?_
  refine pw_getR C dX5_ofLine_6 fl_X5_39 hR0.k rfl hR0.r4 ?_
  refine pw_iload_n C dX5_ofLine_9 rfl ?_
  refine pw_aaldE C dX5_ofLine_10 hR0.a4 (by omega) (by omega) (hR0.e4 l (by omega)) ?_
  refine pw_astore_n C dX5_ofLine_11 (Nat.le_of_ble_eq_true rfl) rfl ?_
  refine pw_iload_n C dX5_ofLine_12 rfl ?_
  by_cases c_13 : 0 ≤ w ∧ w ≤ 7
  · rcases (show w = 0 ∨ w = 1 ∨ w = 2 ∨ w = 3 ∨ w = 4 ∨ w = 5 ∨ w = 6 ∨ w = 7 from by omega) with c_13 | c_13 | c_13 | c_13 | c_13 | c_13 | c_13 | c_13
    · refine pw_swin (tgt := 60) (off := 47) C dX5_ofLine_13 (by omega) (by omega) (by omega) (by rw [c_13]; rfl) (by decide) ?_
      refine pw_aload_n C dX5_ofLine_60 rfl ?_
      refine pw_getE C dX5_ofLine_61 fl_X5_85 rfl (hR0.li l (by omega)).k ((hR0.li l (by omega)).s 0 (by omega)) ?_
      have b_61 := (hA.li l (by omega)).s0
      exact pw_iretE C hR dX5_ofLine_64 rfl rfl (by subst c_13; rfl) (Nat.zero_le _) (Nat.zero_le _)
    · refine pw_swin (tgt := 65) (off := 52) C dX5_ofLine_13 (by omega) (by omega) (by omega) (by rw [c_13]; rfl) (by decide) ?_
      refine pw_aload_n C dX5_ofLine_65 rfl ?_
      refine pw_getE C dX5_ofLine_66 fl_X5_88 rfl (hR0.li l (by omega)).k ((hR0.li l (by omega)).s 1 (by omega)) ?_
      have b_66 := (hA.li l (by omega)).s1
      exact pw_iretE C hR dX5_ofLine_69 rfl rfl (by subst c_13; rfl) (Nat.zero_le _) (Nat.zero_le _)
    · refine pw_swin (tgt := 70) (off := 57) C dX5_ofLine_13 (by omega) (by omega) (by omega) (by rw [c_13]; rfl) (by decide) ?_
      refine pw_aload_n C dX5_ofLine_70 rfl ?_
      refine pw_getE C dX5_ofLine_71 fl_X5_131 rfl (hR0.li l (by omega)).k ((hR0.li l (by omega)).s 2 (by omega)) ?_
      have b_71 := (hA.li l (by omega)).s2
      exact pw_iretE C hR dX5_ofLine_74 rfl rfl (by subst c_13; rfl) (Nat.zero_le _) (Nat.zero_le _)
    · refine pw_swin (tgt := 75) (off := 62) C dX5_ofLine_13 (by omega) (by omega) (by omega) (by rw [c_13]; rfl) (by decide) ?_
      refine pw_aload_n C dX5_ofLine_75 rfl ?_
      refine pw_cVE C hX dX5_ofLine_76 ml_X5_267 mc_X1_countWaiting (c_X1_countWaiting (hR0.li l (by omega)) (hA.li l (by omega))) kc_4 (hR0.li l (by omega)).k rfl rfl ⟨Nat.le_of_ble_eq_true rfl, Nat.le_of_ble_eq_true rfl⟩ (Nat.le_of_ble_eq_true rfl) ⟨Nat.le_of_ble_eq_true rfl, Nat.le_of_ble_eq_true rfl⟩ ?_
      exact pw_iretE C hR dX5_ofLine_79 rfl rfl (by subst c_13; rfl) (Nat.zero_le _) (Nat.zero_le _)
    · refine pw_swin (tgt := 80) (off := 67) C dX5_ofLine_13 (by omega) (by omega) (by omega) (by rw [c_13]; rfl) (by decide) ?_
      refine pw_aload_n C dX5_ofLine_80 rfl ?_
      refine pw_cVE C hX dX5_ofLine_81 ml_X5_270 mc_X1_countWordsLeft (c_X1_countWordsLeft (hR0.li l (by omega)) (hA.li l (by omega))) kc_4 (hR0.li l (by omega)).k rfl rfl ⟨Nat.le_of_ble_eq_true rfl, Nat.le_of_ble_eq_true rfl⟩ (Nat.le_of_ble_eq_true rfl) ⟨Nat.le_of_ble_eq_true rfl, Nat.le_of_ble_eq_true rfl⟩ ?_
      exact pw_iretE C hR dX5_ofLine_84 rfl rfl (by subst c_13; rfl) (Nat.zero_le _) (Nat.zero_le _)
    · refine pw_swin (tgt := 85) (off := 72) C dX5_ofLine_13 (by omega) (by omega) (by omega) (by rw [c_13]; rfl) (by decide) ?_
      refine pw_aload_n C dX5_ofLine_85 rfl ?_
      refine pw_getE C dX5_ofLine_86 fl_X5_273 rfl (hR0.li l (by omega)).k ((hR0.li l (by omega)).s 3 (by omega)) ?_
      exact pw_iretE C hR dX5_ofLine_89 rfl rfl (by subst c_13; rfl) (Nat.zero_le _) (Nat.zero_le _)
    · refine pw_swin (tgt := 90) (off := 77) C dX5_ofLine_13 (by omega) (by omega) (by omega) (by rw [c_13]; rfl) (by decide) ?_
      refine pw_aload_n C dX5_ofLine_90 rfl ?_
      refine pw_iload_n C dX5_ofLine_91 rfl ?_
      refine pw_cVE C hX dX5_ofLine_92 ml_X5_276 mc_X5_countTold (c_countTold hR0 hA (l := l) (by omega)) kc_8 hR0.k rfl rfl ⟨Nat.le_of_ble_eq_true rfl, Nat.le_of_ble_eq_true rfl⟩ (Nat.le_of_ble_eq_true rfl) ⟨Nat.le_of_ble_eq_true rfl, Nat.le_of_ble_eq_true rfl⟩ ?_
      exact pw_iretE C hR dX5_ofLine_95 rfl rfl (by subst c_13; rfl) (Nat.zero_le _) (Nat.zero_le _)
    · refine pw_swin (tgt := 96) (off := 83) C dX5_ofLine_13 (by omega) (by omega) (by omega) (by rw [c_13]; rfl) (by decide) ?_
      refine pw_aload_n C dX5_ofLine_96 rfl ?_
      refine pw_iload_n C dX5_ofLine_97 rfl ?_
      refine pw_cVE C hX dX5_ofLine_98 ml_X5_279 mc_X5_countWrong (c_countWrong hR0 hA (l := l) (by omega)) kc_8 hR0.k rfl rfl ⟨Nat.le_of_ble_eq_true rfl, Nat.le_of_ble_eq_true rfl⟩ (Nat.le_of_ble_eq_true rfl) ⟨Nat.le_of_ble_eq_true rfl, Nat.le_of_ble_eq_true rfl⟩ ?_
      exact pw_iretE C hR dX5_ofLine_101 rfl rfl (by subst c_13; rfl) (Nat.zero_le _) (Nat.zero_le _)
  · refine pw_swout (tgt := 102) C dX5_ofLine_13 (by omega) (by omega) (by decide) ?_
    exfalso; omega

set_option maxHeartbeats 4000000 in
set_option maxRecDepth 100000 in
theorem c_many {X : Xv} {G M : Mm} {B : Int} {A : An} (hR0 : RC G M B A) (hA : AB A) {w : Int} (r_w : -2147483648 ≤ w ∧ w ≤ 2147483647) (hok : (0 ≤ w ∧ w ≤ 10)) : CT X yX5_many prog_1_method_21_code 2 (some .int) 5 118 0 0 [vR B, vI w] G M (PE G M (mny A w)) := by
  refine CT.by (by decide +kernel) [1, 1] ⟨cat_vR _, cat_vI _, trivial⟩ (Nat.le_of_ble_eq_true rfl) (fun E hX C hR hIni => ?_)
  have hn := hA.n
  have hnS := hA.so.c
  refine pw_iload_n C dX5_many_0 rfl ?_
  by_cases c_1 : 0 ≤ w ∧ w ≤ 10
  · rcases (show w = 0 ∨ w = 1 ∨ w = 2 ∨ w = 3 ∨ w = 4 ∨ w = 5 ∨ w = 6 ∨ w = 7 ∨ w = 8 ∨ w = 9 ∨ w = 10 from by omega) with c_1 | c_1 | c_1 | c_1 | c_1 | c_1 | c_1 | c_1 | c_1 | c_1 | c_1
    · refine pw_swin (tgt := 60) (off := 59) C dX5_many_1 (by omega) (by omega) (by omega) (by rw [c_1]; rfl) (by decide) ?_
      refine pw_aload_n C dX5_many_60 rfl ?_
      refine pw_getE C dX5_many_61 fl_X5_123 rfl hR0.k (hR0.n 3 (by omega)) ?_
      exact pw_iretE C hR dX5_many_64 rfl rfl (by subst c_1; rfl) (Nat.zero_le _) (Nat.zero_le _)
    · refine pw_swin (tgt := 65) (off := 64) C dX5_many_1 (by omega) (by omega) (by omega) (by rw [c_1]; rfl) (by decide) ?_
      refine pw_aload_n C dX5_many_65 rfl ?_
      refine pw_getR C dX5_many_66 fl_X5_10 hR0.k rfl hR0.r0 ?_
      refine pw_getE C dX5_many_69 fl_X5_55 rfl hR0.so.k (hR0.so.s 0 (by omega)) ?_
      exact pw_iretE C hR dX5_many_72 rfl rfl (by subst c_1; rfl) (Nat.zero_le _) (Nat.zero_le _)
    · refine pw_swin (tgt := 73) (off := 72) C dX5_many_1 (by omega) (by omega) (by omega) (by rw [c_1]; rfl) (by decide) ?_
      refine pw_aload_n C dX5_many_73 rfl ?_
      refine pw_getE C dX5_many_74 fl_X5_70 rfl hR0.k (hR0.n 0 (by omega)) ?_
      exact pw_iretE C hR dX5_many_77 rfl rfl (by subst c_1; rfl) (Nat.zero_le _) (Nat.zero_le _)
    · refine pw_swin (tgt := 78) (off := 77) C dX5_many_1 (by omega) (by omega) (by omega) (by rw [c_1]; rfl) (by decide) ?_
      refine pw_aload_n C dX5_many_78 rfl ?_
      refine pw_getE C dX5_many_79 fl_X5_80 rfl hR0.k (hR0.n 2 (by omega)) ?_
      exact pw_iretE C hR dX5_many_82 rfl rfl (by subst c_1; rfl) (Nat.zero_le _) (Nat.zero_le _)
    · refine pw_swin (tgt := 83) (off := 82) C dX5_many_1 (by omega) (by omega) (by omega) (by rw [c_1]; rfl) (by decide) ?_
      refine pw_aload_n C dX5_many_83 rfl ?_
      refine pw_getE C dX5_many_84 fl_X5_284 rfl hR0.k (hR0.n 1 (by omega)) ?_
      exact pw_iretE C hR dX5_many_87 rfl rfl (by subst c_1; rfl) (Nat.zero_le _) (Nat.zero_le _)
    · refine pw_swin (tgt := 88) (off := 87) C dX5_many_1 (by omega) (by omega) (by omega) (by rw [c_1]; rfl) (by decide) ?_
      refine pw_aload_n C dX5_many_88 rfl ?_
      refine pw_cVE C hX dX5_many_89 ml_X5_287 mc_X5_countKilled (c_countKilled hR0 hA) kc_8 hR0.k rfl rfl ⟨Nat.le_of_ble_eq_true rfl, Nat.le_of_ble_eq_true rfl⟩ (Nat.le_of_ble_eq_true rfl) ⟨Nat.le_of_ble_eq_true rfl, Nat.le_of_ble_eq_true rfl⟩ ?_
      exact pw_iretE C hR dX5_many_92 rfl rfl (by subst c_1; rfl) (Nat.zero_le _) (Nat.zero_le _)
    · refine pw_swin (tgt := 93) (off := 92) C dX5_many_1 (by omega) (by omega) (by omega) (by rw [c_1]; rfl) (by decide) ?_
      refine pw_aload_n C dX5_many_93 rfl ?_
      refine pw_cVE C hX dX5_many_94 ml_X5_290 mc_X5_countCorrections (c_countCorrections hR0 hA) kc_8 hR0.k rfl rfl ⟨Nat.le_of_ble_eq_true rfl, Nat.le_of_ble_eq_true rfl⟩ (Nat.le_of_ble_eq_true rfl) ⟨Nat.le_of_ble_eq_true rfl, Nat.le_of_ble_eq_true rfl⟩ ?_
      exact pw_iretE C hR dX5_many_97 rfl rfl (by subst c_1; rfl) (Nat.zero_le _) (Nat.zero_le _)
    · refine pw_swin (tgt := 98) (off := 97) C dX5_many_1 (by omega) (by omega) (by omega) (by rw [c_1]; rfl) (by decide) ?_
      refine pw_aload_n C dX5_many_98 rfl ?_
      refine pw_cVE C hX dX5_many_99 ml_X5_293 mc_X5_countTruths (c_countTruths hR0 hA) kc_8 hR0.k rfl rfl ⟨Nat.le_of_ble_eq_true rfl, Nat.le_of_ble_eq_true rfl⟩ (Nat.le_of_ble_eq_true rfl) ⟨Nat.le_of_ble_eq_true rfl, Nat.le_of_ble_eq_true rfl⟩ ?_
      exact pw_iretE C hR dX5_many_102 rfl rfl (by subst c_1; rfl) (Nat.zero_le _) (Nat.zero_le _)
    · refine pw_swin (tgt := 103) (off := 102) C dX5_many_1 (by omega) (by omega) (by omega) (by rw [c_1]; rfl) (by decide) ?_
      refine pw_aload_n C dX5_many_103 rfl ?_
      refine pw_cVE C hX dX5_many_104 ml_X5_296 mc_X5_countUnproven (c_countUnproven hR0 hA) kc_8 hR0.k rfl rfl ⟨Nat.le_of_ble_eq_true rfl, Nat.le_of_ble_eq_true rfl⟩ (Nat.le_of_ble_eq_true rfl) ⟨Nat.le_of_ble_eq_true rfl, Nat.le_of_ble_eq_true rfl⟩ ?_
      exact pw_iretE C hR dX5_many_107 rfl rfl (by subst c_1; rfl) (Nat.zero_le _) (Nat.zero_le _)
    · refine pw_swin (tgt := 108) (off := 107) C dX5_many_1 (by omega) (by omega) (by omega) (by rw [c_1]; rfl) (by decide) ?_
      refine pw_aload_n C dX5_many_108 rfl ?_
      refine pw_cVE C hX dX5_many_109 ml_X5_299 mc_X5_countFirsts (c_countFirsts hR0 hA) kc_8 hR0.k rfl rfl ⟨Nat.le_of_ble_eq_true rfl, Nat.le_of_ble_eq_true rfl⟩ (Nat.le_of_ble_eq_true rfl) ⟨Nat.le_of_ble_eq_true rfl, Nat.le_of_ble_eq_true rfl⟩ ?_
      exact pw_iretE C hR dX5_many_112 rfl rfl (by subst c_1; rfl) (Nat.zero_le _) (Nat.zero_le _)
    · refine pw_swin (tgt := 113) (off := 112) C dX5_many_1 (by omega) (by omega) (by omega) (by rw [c_1]; rfl) (by decide) ?_
      refine pw_aload_n C dX5_many_113 rfl ?_
      refine pw_cVE C hX dX5_many_114 ml_X5_302 mc_X5_countWrongAnywhere (c_countWrongAnywhere hR0 hA) kc_8 hR0.k rfl rfl ⟨Nat.le_of_ble_eq_true rfl, Nat.le_of_ble_eq_true rfl⟩ (Nat.le_of_ble_eq_true rfl) ⟨Nat.le_of_ble_eq_true rfl, Nat.le_of_ble_eq_true rfl⟩ ?_
      exact pw_iretE C hR dX5_many_117 rfl rfl (by subst c_1; rfl) (Nat.zero_le _) (Nat.zero_le _)
  · refine pw_swout (tgt := 118) C dX5_many_1 (by omega) (by omega) (by decide) ?_
    exfalso; omega

