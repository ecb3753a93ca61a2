/-! ===== lists made; iterators ===== -/
theorem mf_Jx35411_hasNext_aae02 : MF "java/util/ArrayList$Itr" nHas yJx35411_hasNext_aae02 prog_29_method_2_code 1 (some .boolean) 0 := ⟨by decide, List.mem_of_getElem? (i := 1255) (by decide +kernel), List.mem_of_getElem? (i := 1257) (by decide +kernel), List.mem_of_getElem? (i := 1259) (by decide +kernel), List.mem_of_getElem? (i := 119) (by decide +kernel), ⟨by decide, by decide⟩, by decide +kernel⟩
theorem mf_Jx35411_next_0502b : MF "java/util/ArrayList$Itr" nNext yJx35411_next_0502b prog_29_method_3_code 3 (some (.object "java/lang/Object")) 0 := ⟨by decide, List.mem_of_getElem? (i := 1264) (by decide +kernel), List.mem_of_getElem? (i := 1266) (by decide +kernel), List.mem_of_getElem? (i := 1268) (by decide +kernel), List.mem_of_getElem? (i := 119) (by decide +kernel), ⟨by decide, by decide⟩, by decide +kernel⟩
theorem mf_Jx4a65c_toArray_d5877 : MF "java/util/ArrayList" nToA yJx4a65c_toArray_d5877 prog_28_method_16_code 1 (some (.array (.object "java/lang/Object"))) 0 := ⟨by decide, List.mem_of_getElem? (i := 1455) (by decide +kernel), List.mem_of_getElem? (i := 1457) (by decide +kernel), List.mem_of_getElem? (i := 1459) (by decide +kernel), List.mem_of_getElem? (i := 102) (by decide +kernel), ⟨by decide, by decide⟩, by decide +kernel⟩
theorem AL.new0 {G M : Mm} {q c : Int} (hq : 0 ≤ q ∧ q < G 4 0 0) (hk : G 0 q 0 = 2) (hz : M 0 22 q = 0) (hc : 0 ≤ c ∧ c < G 4 0 0) (hcc : G 0 c 0 = 98 ∨ G 0 c 0 = 99) : AL (mup G 2 21 q c) (mup M 0 20 q 0) q 0 c := by
  refine ⟨?_, ?_, ?_, ?_, ?_, ?_, by omega, Or.inr ⟨rfl, ?_⟩⟩
  · rw [mup_n (by omega)]; exact hq
  · rw [mup_n (by omega)]; exact hc
  · rw [mup_n (by omega)]; exact hk
  · rw [mup_s]
  · rw [mup_n (by omega)]; exact hz
  · rw [mup_s]; omega
  · rw [mup_n (by omega)]; exact hcc
theorem CPd.al {G M G1 M1 : Mm} {e n q r : Int} (h : CPd G M e n r G1 M1) (hn : 0 ≤ n ∧ n ≤ 100) (h4 : 0 ≤ G 4 0 0) (hq : 0 ≤ q ∧ q < G 4 0 0) (hk : G 0 q 0 = 2) (hm : M 0 20 q = 0) : AL (mup G1 2 21 q r) (mup M1 0 22 q n) q n r ∧ mup G1 2 21 q r 4 0 0 = G 4 0 0 + 1 ∧ (∀ b, b < G 4 0 0 → b ≠ q → agr G M (mup G1 2 21 q r) (mup M1 0 22 q n) b) := by
  obtain ⟨rfl, h2, h3, h4', h5, h6⟩ := h
  have hqa := h6.1 q hq.2
  refine ⟨⟨?_, ?_, ?_, ?_, ?_, ?_, by omega, Or.inl ⟨?_, ?_, ?_⟩⟩, ?_, fun b q1 q2 => ?_⟩
  · rw [mup_n (by omega)]; omega
  · rw [mup_n (by omega)]; omega
  · rw [mup_n (by omega)]; exact hqa.1.trans hk
  · rw [mup_s]
  · rw [mup_s]
  · rw [mup_n (by omega), hqa.2.2.2.2.1, hm]; omega
  · rw [mup_n (by omega)]; exact h3
  · rw [mup_n (by omega)]; omega
  · rw [mup_n (by omega)]; omega
  · rw [mup_n (by omega)]; exact h2
  · exact ((h6.1 b q1).tr (agr_G2 b q2)).tr (agr_M0 b q2)
theorem IT.mk0 {G M : Mm} {it q : Int} (hi : 0 ≤ it ∧ it < G 4 0 0) (hk : G 0 it 0 = 1) (hz : M 0 0 it = 0) (hq : q ≠ it) : IT (mup G 2 3 it q) (mup (mup M 0 1 it (-1)) 0 2 it (M 0 20 q)) it q 0 := by
  refine ⟨?_, ?_, ?_, ?_, ?_⟩
  · rw [mup_n (by omega)]; exact hi
  · rw [mup_n (by omega)]; exact hk
  · rw [mup_s]
  · rw [mup_n (by omega), mup_n (by omega)]; exact hz
  · rw [mup_s, mup_n (by omega), mup_n (by omega)]
set_option maxHeartbeats 4000000 in
set_option maxRecDepth 100000 in
theorem c_acInit {X : Xv} {G M : Mm} {q : Int} (hq : 0 ≤ q) : CT X yJxa1e45_init_da8c8 prog_26_method_1_code 1 (none) 1 12 0 0 [vR q] G M (PV G M) := by
  refine CT.by (by decide +kernel) [1] ⟨cat_vR _, trivial⟩ (Nat.le_of_ble_eq_true rfl) (fun E hX C hR hIni => ?_)
  refine pw_aload_n C dJxa1e45_init_da8c8_0 rfl ?_
  refine pw_objInit C dJxa1e45_init_da8c8_1 (List.mem_of_getElem? (i := 890) (by decide +kernel)) (List.mem_of_getElem? (i := 126) (by decide +kernel)) (List.mem_of_getElem? (i := 127) (by decide +kernel)) hq ⟨Nat.le_of_ble_eq_true rfl, Nat.le_of_ble_eq_true rfl⟩ ?_
  exact pw_vretE C hR dJxa1e45_init_da8c8_4 rfl rfl (Nat.zero_le _) (Nat.zero_le _)

set_option maxHeartbeats 4000000 in
set_option maxRecDepth 100000 in
theorem c_alInit {X : Xv} {G M : Mm} {q : Int} (hq : 0 ≤ q) (hk : G 0 q 0 = 2) : CT X yJxc12de_init_da8c8 prog_27_method_1_code 1 (none) 2 32 0 0 [vR q] G M (PU (fun G1 M1 => G1 = G ∧ M1 = mup M 0 20 q 0)) := by
  refine CT.by (by decide +kernel) [1] ⟨cat_vR _, trivial⟩ (Nat.le_of_ble_eq_true rfl) (fun E hX C hR hIni => ?_)
  refine pw_aload_n C dJxc12de_init_da8c8_0 rfl ?_
  refine pw_cIV C hX dJxc12de_init_da8c8_1 ml_Jxc12de_1 mc_Jxa1e45_init_da8c8 (c_acInit hq) (by omega) rfl rfl ⟨Nat.le_of_ble_eq_true rfl, Nat.le_of_ble_eq_true rfl⟩ (Nat.le_of_ble_eq_true rfl) ⟨Nat.le_of_ble_eq_true rfl, Nat.le_of_ble_eq_true rfl⟩ ?_
  refine pw_aload_n C dJxc12de_init_da8c8_4 rfl ?_
  refine pw_iconst C dJxc12de_init_da8c8_5 ?_
  refine pw_putI C dJxc12de_init_da8c8_6 fl_Jxc12de_7 (fun h => by cases h) hk rfl ?_
  exact pw_vret C hR dJxc12de_init_da8c8_9 (⟨rfl, rfl, rfl⟩) (by omega) (by omega)

set_option maxHeartbeats 4000000 in
set_option maxRecDepth 100000 in
theorem c_list0 {X : Xv} {G M : Mm} {q c0 : Int} (hE : EM X G) (hc0 : emX X 0 = c0) (hq : 0 ≤ q ∧ q < G 4 0 0) (hk : G 0 q 0 = 2) (hz : M 0 22 q = 0) : CT X yJx4a65c_init_da8c8 prog_28_method_2_code 1 (none) 3 52 0 0 [vR q] G M (PU (fun G1 M1 => AL G1 M1 q 0 c0 ∧ G1 4 0 0 = G 4 0 0 ∧ ∀ b, b ≠ q → agr G M G1 M1 b)) := by
  refine CT.by (by decide +kernel) [1] ⟨cat_vR _, trivial⟩ (Nat.le_of_ble_eq_true rfl) (fun E hX C hR hIni => ?_)
  have hcn : 0 ≤ c0 := by rw [← hc0]; exact emX_nn
  have hE1 := hE.1
  rw [hc0] at hE1
  refine pw_aload_n C dJx4a65c_init_da8c8_0 rfl ?_
  refine pw_cIU C hX dJx4a65c_init_da8c8_1 ml_Jx4a65c_1 mc_Jxc12de_init_da8c8 (c_alInit (by omega) hk) (by omega) rfl rfl ⟨Nat.le_of_ble_eq_true rfl, Nat.le_of_ble_eq_true rfl⟩ (Nat.le_of_ble_eq_true rfl) ⟨Nat.le_of_ble_eq_true rfl, Nat.le_of_ble_eq_true rfl⟩ (fun G M1 hq_ => ?_)
  obtain ⟨rfl, rfl⟩ := hq_
  refine pw_aload_n C dJx4a65c_init_da8c8_4 rfl ?_
  refine pw_gets C hX dJx4a65c_init_da8c8_5 (List.mem_of_getElem? (i := 891) (by decide +kernel)) (Or.inl ⟨rfl, rfl⟩) hc0 ?_
  refine pw_putR C dJx4a65c_init_da8c8_8 fl_Jx4a65c_9 (fun h => by cases h) (Or.inr ⟨_, rfl⟩) hk rfl ?_
  exact pw_vret C hR dJx4a65c_init_da8c8_11 (⟨rfl, AL.new0 hq hk hz ⟨hcn, hE1.2⟩ (Or.inl hE1.1), mup_n (by omega), fun b hb => (agr_M0 b hb).tr (agr_G2 b hb)⟩) (by omega) (by omega)

set_option maxHeartbeats 4000000 in
set_option maxRecDepth 100000 in
theorem c_listC {X : Xv} {G M : Mm} {q n e q2 c1 : Int} {ks : Nat} (hE : EM X G) (hc1 : emX X 1 = c1) (hL : AL G M q n e) (hks : n = (ks : Int)) (hq : 0 ≤ q2 ∧ q2 < G 4 0 0) (hqq : q2 ≠ q) (hqe : q2 ≠ e) (hk : G 0 q2 0 = 2) (hfit : ∀ j, 0 ≤ j → j < n → OkO G (G 3 e j)) : CT X yJx4a65c_init_4bcb3 prog_28_method_3_code 3 (none) 4 109 1 ks [vR q2, vR q] G M (PU (fun G1 M1 => ∃ e1, AL G1 M1 q2 n e1 ∧ (∀ j, 0 ≤ j → j < n → G1 3 e1 j = G 3 e j) ∧ (e1 = G 4 0 0 ∨ n = 0 ∧ e1 = c1) ∧ G1 4 0 0 = G 4 0 0 + 1 ∧ ∀ b, b < G 4 0 0 → b ≠ q2 → agr G M G1 M1 b)) := by
  refine CT.by (by decide +kernel) [1, 1] ⟨cat_vR _, cat_vR _, trivial⟩ (Nat.le_of_ble_eq_true rfl) (fun E hX C hR hIni => ?_)
  have hb := hL.b
  have hq8 := hL.1
  have hq9 := hL.2.1
  have hcn : 0 ≤ c1 := by rw [← hc1]; exact emX_nn
  have hE1 := hE.2
  rw [hc1] at hE1
  obtain ⟨c3, hc3⟩ : ∃ c, emX X 3 = c := ⟨_, rfl⟩
  have hL0 : AL G (mup M 0 20 q2 0) q n e := hL.o (agr_M0 q (by omega)) (agr_M0 e (by omega)) (Int.le_refl _)
  refine pw_aload_n C dJx4a65c_init_4bcb3_0 rfl ?_
  refine pw_cIU C hX dJx4a65c_init_4bcb3_1 ml_Jx4a65c_1 mc_Jxc12de_init_da8c8 (c_alInit (by omega) hk) (by omega) rfl rfl ⟨Nat.le_of_ble_eq_true rfl, Nat.le_of_ble_eq_true rfl⟩ (Nat.le_of_ble_eq_true rfl) ⟨Nat.le_of_ble_eq_true rfl, Nat.le_of_ble_eq_true rfl⟩ (fun G M1 hq_ => ?_)
  obtain ⟨rfl, rfl⟩ := hq_
  refine pw_aload_n C dJx4a65c_init_4bcb3_4 rfl ?_
  refine pw_callF C hX dJx4a65c_init_4bcb3_5 (List.mem_of_getElem? (i := 1451) (by decide +kernel)) mf_Jx4a65c_toArray_d5877 (c_toArray hL0 hks hfit) kc_2 hL0.k rfl rfl ⟨Nat.le_of_ble_eq_true rfl, Nat.le_of_ble_eq_true rfl⟩ (Nat.le_of_ble_eq_true rfl) (by show 0 + 1 ≤ 1 ∧ 0 + ks ≤ ks; omega) (fun r G1 M1 hq_ => ?_)
  obtain ⟨r_, rfl, hq_⟩ := hq_
  have hRr := hq_
  obtain ⟨hr1, hr2, hr3, hr4, hr5, hr6⟩ := hq_
  have hka : G1 0 q2 0 = 2 := (hr6.1 q2 (by omega)).1.trans hk
  have hkb : G1 0 q 0 = 2 := (hr6.1 q (by omega)).1.trans hL.k
  refine pw_top (v' := vR r_) rfl ?_
  refine pw_astore_n C dJx4a65c_init_4bcb3_10 (Nat.le_of_ble_eq_true rfl) rfl ?_
  refine pw_aload_n C dJx4a65c_init_4bcb3_11 rfl ?_
  refine pw_aload_n C dJx4a65c_init_4bcb3_12 rfl ?_
  refine pw_alenR (t := 7) C dJx4a65c_init_4bcb3_13 ⟨hr3, hr4⟩ (by omega) ?_
  refine pw_dup_x1 C dJx4a65c_init_4bcb3_14 rfl (cat_vR _) ?_
  refine pw_putI C dJx4a65c_init_4bcb3_15 fl_Jx4a65c_48 (fun h => by cases h) hka rfl ?_
  refine pw_if_eq (tgt := 57) C dJx4a65c_init_4bcb3_18 (by decide) (by omega) (fun c_18 => ?_) (fun c_18 => ?_)
  · skip
    refine pw_aload_n C dJx4a65c_init_4bcb3_57 rfl ?_
    refine pw_gets C hX dJx4a65c_init_4bcb3_58 (List.mem_of_getElem? (i := 1469) (by decide +kernel)) (Or.inr ⟨rfl, rfl⟩) hc1 ?_
    refine pw_putR C dJx4a65c_init_4bcb3_61 fl_Jx4a65c_9 (fun h => by cases h) (Or.inr ⟨_, rfl⟩) hka rfl ?_
    exact pw_vret C hR dJx4a65c_init_4bcb3_64 ((by obtain ⟨z1, z2, z3⟩ := hRr.al (q := q2) (by omega) (by omega) hq hk (mup_s _ _ _ _ _); have hc9 := hr6.1 c1 hE1.2; refine ⟨rfl, c1, ?_, fun j q1 q2 => by omega, Or.inr ⟨c_18, rfl⟩, (mup_n (by omega)).trans hr2, fun b q1 q2 => ?_⟩; refine ⟨by rw [mup_n (by omega)]; omega, by rw [mup_n (by omega)]; omega, (mup_n (by omega)).trans hka, mup_s _ _ _ _ _, mup_s _ _ _ _ _, z1.m, z1.b, Or.inr ⟨c_18, Or.inr ((mup_n (by omega)).trans (hc9.1.trans hE1.1))⟩⟩; exact (((agr_M0 b q2).tr (hr6.1 b q1)).tr (agr_G2 b q2)).tr (agr_M0 b q2))) (Nat.le_refl _) (Nat.le_of_eq (Nat.zero_add ks))
  · skip
    refine pw_aload_n C dJx4a65c_init_4bcb3_21 rfl ?_
    refine pw_getCI C hX dJx4a65c_init_4bcb3_22 (List.mem_of_getElem? (i := 1461) (by decide +kernel)) hkb ⟨Nat.le_of_ble_eq_true rfl, Nat.le_of_ble_eq_true rfl⟩ hc3 ?_
    refine pw_ldcM C hX dJx4a65c_init_4bcb3_27 (List.mem_of_getElem? (i := 1466) (by decide +kernel)) (Or.inr ⟨rfl, rfl⟩) hc3 ?_
    refine pw_acmp_ne (tgt := 40) C dJx4a65c_init_4bcb3_29 (by decide) (by have := emX_nn (X := X) (j := 2); have := emX_nn (X := X) (j := 3); omega) (fun h => absurd rfl h) (fun _ => ?_)
    refine pw_aload_n C dJx4a65c_init_4bcb3_32 rfl ?_
    refine pw_aload_n C dJx4a65c_init_4bcb3_33 rfl ?_
    refine pw_putR C dJx4a65c_init_4bcb3_34 fl_Jx4a65c_9 (fun h => by cases h) (Or.inr ⟨_, rfl⟩) hka rfl ?_
    refine pw_goto (tgt := 64) C dJx4a65c_init_4bcb3_37 (by decide) ?_
    exact pw_vret C hR dJx4a65c_init_4bcb3_64 ((by obtain ⟨z1, z2, z3⟩ := hRr.al (q := q2) (by omega) (by omega) hq hk (mup_s _ _ _ _ _); refine ⟨rfl, r_, z1, fun j q1 q2 => ?_, Or.inl hr1, z2, fun b q1 q2 => (agr_M0 b q2).tr (z3 b q1 q2)⟩; rw [mup_n (by omega)]; exact hr5 j q1 (by have := hL.cap; omega))) (Nat.le_refl _) (Nat.le_of_eq (Nat.zero_add ks))

set_option maxHeartbeats 4000000 in
set_option maxRecDepth 100000 in
theorem c_hasNext {X : Xv} {G M : Mm} {q n e mb : Int} (hL : ALm mb G M q n e) {it c : Int} (hI : IT G M it q c) (hc : 0 ≤ c ∧ c ≤ n) : CT X yJx35411_hasNext_aae02 prog_29_method_2_code 1 (some .boolean) 0 0 0 0 [vR it] G M (PE G M (bI (¬ c = n))) := by
  refine CT.by (by decide +kernel) [1] ⟨cat_vR _, trivial⟩ (Nat.le_of_ble_eq_true rfl) (fun E hX C hR hIni => ?_)
  have hb := hL.b
  refine pw_aload_n C dJx35411_hasNext_aae02_0 rfl ?_
  refine pw_getE C dJx35411_hasNext_aae02_1 fl_Jx35411_25 rfl hI.k hI.2.2.2.1 ?_
  refine pw_aload_n C dJx35411_hasNext_aae02_4 rfl ?_
  refine pw_getR C dJx35411_hasNext_aae02_5 fl_Jx35411_1 hI.k rfl hI.2.2.1 ?_
  refine pw_getE C dJx35411_hasNext_aae02_8 fl_Jx35411_28 rfl hL.k hL.sz ?_
  refine pw_icmp_eq (tgt := 18) C dJx35411_hasNext_aae02_11 (by decide) (by omega) (fun c_11 => ?_) (fun c_11 => ?_)
  · skip
    refine pw_iconst C dJx35411_hasNext_aae02_18 ?_
    exact pw_zretE C hR dJx35411_hasNext_aae02_19 (by omega) rfl rfl ((bI_f (fun q => q c_11)).symm) (Nat.zero_le _) (Nat.zero_le _)
  · skip
    refine pw_iconst C dJx35411_hasNext_aae02_14 ?_
    refine pw_goto (tgt := 19) C dJx35411_hasNext_aae02_15 (by decide) ?_
    exact pw_zretE C hR dJx35411_hasNext_aae02_19 (by omega) rfl rfl ((bI_t c_11).symm) (Nat.zero_le _) (Nat.zero_le _)

set_option maxHeartbeats 4000000 in
set_option maxRecDepth 100000 in
theorem c_como {X : Xv} {G M : Mm} {q n e mb : Int} (hL : ALm mb G M q n e) {it c : Int} (hI : IT G M it q c) : CT X yJx35411_checkForComodification_da8c8 prog_29_method_6_code 1 (none) 0 0 0 0 [vR it] G M (PV G M) := by
  refine CT.by (by decide +kernel) [1] ⟨cat_vR _, trivial⟩ (Nat.le_of_ble_eq_true rfl) (fun E hX C hR hIni => ?_)
  have hb := hL.b
  have hm9 := hL.m
  refine pw_aload_n C dJx35411_checkForComodification_da8c8_0 rfl ?_
  refine pw_getR C dJx35411_checkForComodification_da8c8_1 fl_Jx35411_1 hI.k rfl hI.2.2.1 ?_
  refine pw_getE C dJx35411_checkForComodification_da8c8_4 fl_Jx35411_17 rfl hL.k rfl ?_
  have b_m4 := hL.m
  refine pw_aload_n C dJx35411_checkForComodification_da8c8_7 rfl ?_
  refine pw_getE C dJx35411_checkForComodification_da8c8_8 fl_Jx35411_22 rfl hI.k hI.2.2.2.2 ?_
  refine pw_icmp_eq (tgt := 22) C dJx35411_checkForComodification_da8c8_11 (by decide) (by omega) (fun c_11 => ?_) (fun c_11 => ?_)
  rotate_left
  · exact absurd c_11 (by omega)
  exact pw_vretE C hR dJx35411_checkForComodification_da8c8_22 rfl rfl (Nat.zero_le _) (Nat.zero_le _)

set_option maxHeartbeats 4000000 in
set_option maxRecDepth 100000 in
theorem c_next {X : Xv} {G M : Mm} {q n e mb : Int} (hL : ALm mb G M q n e) {it c : Int} (hI : IT G M it q c) (hc : 0 ≤ c ∧ c < n) : CT X yJx35411_next_0502b prog_29_method_3_code 3 (some (FieldType.object "java/lang/Object")) 1 20 0 0 [vR it] G M (PQ (fun r G1 M1 => r = G 3 e c ∧ G1 = G ∧ M1 = nxM M it c)) := by
  refine CT.by (by decide +kernel) [1] ⟨cat_vR _, trivial⟩ (Nat.le_of_ble_eq_true rfl) (fun E hX C hR hIni => ?_)
  have hb := hL.b
  have hA := hL.ar (by omega)
  have hz := hL.cap
  have hcc : G 1 e 0 ≤ 100 := by have h0 : G 0 e 0 = 107 := hA.1.1; unfold cpL at hz; rw [if_pos h0] at hz; omega
  refine pw_aload_n C dJx35411_next_0502b_0 rfl ?_
  refine pw_cVV C hX dJx35411_next_0502b_1 ml_Jx35411_31 mc_Jx35411_checkForComodification_da8c8 (c_como hL hI) kc_1 hI.k rfl rfl ⟨Nat.le_of_ble_eq_true rfl, Nat.le_of_ble_eq_true rfl⟩ (Nat.le_of_ble_eq_true rfl) ⟨Nat.le_of_ble_eq_true rfl, Nat.le_of_ble_eq_true rfl⟩ ?_
  refine pw_aload_n C dJx35411_next_0502b_4 rfl ?_
  refine pw_getE C dJx35411_next_0502b_5 fl_Jx35411_25 rfl hI.k hI.2.2.2.1 ?_
  refine pw_istore_n C dJx35411_next_0502b_8 (Nat.le_of_ble_eq_true rfl) rfl ?_
  refine pw_iload_n C dJx35411_next_0502b_9 rfl ?_
  refine pw_aload_n C dJx35411_next_0502b_10 rfl ?_
  refine pw_getR C dJx35411_next_0502b_11 fl_Jx35411_1 hI.k rfl hI.2.2.1 ?_
  refine pw_getE C dJx35411_next_0502b_14 fl_Jx35411_28 rfl hL.k hL.sz ?_
  refine pw_icmp_lt (tgt := 28) C dJx35411_next_0502b_17 (by decide) (by omega) (fun c_17 => ?_) (fun c_17 => ?_)
  rotate_left
  · exact absurd c_17 (by omega)
  refine pw_aload_n C dJx35411_next_0502b_28 rfl ?_
  refine pw_getR C dJx35411_next_0502b_29 fl_Jx35411_1 hI.k rfl hI.2.2.1 ?_
  refine pw_getR C dJx35411_next_0502b_32 fl_Jx35411_37 hL.k rfl hL.ed ?_
  refine pw_astore_n C dJx35411_next_0502b_35 (Nat.le_of_ble_eq_true rfl) rfl ?_
  refine pw_iload_n C dJx35411_next_0502b_36 rfl ?_
  refine pw_aload_n C dJx35411_next_0502b_37 rfl ?_
  refine pw_alenR (t := 7) C dJx35411_next_0502b_38 hA.1 (by omega) ?_
  refine pw_icmp_lt (tgt := 50) C dJx35411_next_0502b_39 (by decide) (by omega) (fun c_39 => ?_) (fun c_39 => ?_)
  rotate_left
  · exact absurd c_39 (by omega)
  refine pw_aload_n C dJx35411_next_0502b_50 rfl ?_
  refine pw_iload_n C dJx35411_next_0502b_51 rfl ?_
  refine pw_iconst C dJx35411_next_0502b_52 ?_
  refine pw_iadd C dJx35411_next_0502b_53 ?_
  refine pw_putI C dJx35411_next_0502b_54 fl_Jx35411_25 (fun h => by cases h) hI.k rfl ?_
  refine pw_aload_n C dJx35411_next_0502b_57 rfl ?_
  refine pw_aload_n C dJx35411_next_0502b_58 rfl ?_
  refine pw_iload_n C dJx35411_next_0502b_59 rfl ?_
  refine pw_dup_x1 C dJx35411_next_0502b_60 rfl (cat_vR _) ?_
  refine pw_putI C dJx35411_next_0502b_61 fl_Jx35411_13 (fun h => by cases h) hI.k rfl ?_
  refine pw_aaldE C dJx35411_next_0502b_64 hA.1 (by omega) (by omega) rfl ?_
  exact pw_aret C hR dJx35411_next_0502b_65 (Or.inl ⟨_, rfl⟩) (⟨_, rfl, rfl, rfl, rfl⟩) (by omega) (by omega)

set_option maxHeartbeats 4000000 in
set_option maxRecDepth 100000 in
theorem c_itInit {X : Xv} {G M : Mm} {q n e mb : Int} (hL : ALm mb G M q n e) {it : Int} (hi : 0 ≤ it ∧ it < G 4 0 0) (hk : G 0 it 0 = 1) (hz : M 0 0 it = 0) (hqi : q ≠ it) : CT X yJx35411_init_45d68 prog_29_method_1_code 2 (none) 1 12 0 0 [vR it, vR q] G M (PU (fun G1 M1 => IT G1 M1 it q 0 ∧ G1 4 0 0 = G 4 0 0 ∧ ∀ b, b ≠ it → agr G M G1 M1 b)) := by
  refine CT.by (by decide +kernel) [1, 1] ⟨cat_vR _, cat_vR _, trivial⟩ (Nat.le_of_ble_eq_true rfl) (fun E hX C hR hIni => ?_)
  refine pw_aload_n C dJx35411_init_45d68_0 rfl ?_
  refine pw_aload_n C dJx35411_init_45d68_1 rfl ?_
  refine pw_putR C dJx35411_init_45d68_2 fl_Jx35411_1 (fun _ => hIni rfl) (Or.inl ⟨_, rfl⟩) hk rfl ?_
  have hk1 : mup G 2 3 it q 0 it 0 = 1 := (mup_n (by omega)).trans hk
  have hq1 : mup G 2 3 it q 0 q 0 = 2 := (mup_n (by omega)).trans hL.k
  refine pw_aload_n C dJx35411_init_45d68_5 rfl ?_
  refine pw_objInit C dJx35411_init_45d68_6 (List.mem_of_getElem? (i := 1236) (by decide +kernel)) (List.mem_of_getElem? (i := 126) (by decide +kernel)) (List.mem_of_getElem? (i := 127) (by decide +kernel)) hi.1 ⟨Nat.le_of_ble_eq_true rfl, Nat.le_of_ble_eq_true rfl⟩ ?_
  refine pw_aload_n C dJx35411_init_45d68_9 rfl ?_
  refine pw_iconst C dJx35411_init_45d68_10 ?_
  refine pw_putI C dJx35411_init_45d68_11 fl_Jx35411_13 (fun h => by cases h) hk1 rfl ?_
  refine pw_aload_n C dJx35411_init_45d68_14 rfl ?_
  refine pw_aload_n C dJx35411_init_45d68_15 rfl ?_
  refine pw_getR C dJx35411_init_45d68_16 fl_Jx35411_1 hk1 rfl (mup_s _ _ _ _ _) ?_
  refine pw_getE C dJx35411_init_45d68_19 fl_Jx35411_17 rfl hq1 ((mup_n (by omega)).trans rfl) ?_
  refine pw_putI C dJx35411_init_45d68_22 fl_Jx35411_22 (fun h => by cases h) hk1 rfl ?_
  exact pw_vret C hR dJx35411_init_45d68_25 (⟨rfl, IT.mk0 hi hk hz hqi, mup_n (by omega), fun b hb => ((agr_G2 b hb).tr (agr_M0 b hb)).tr (agr_M0 b hb)⟩) (by omega) (by omega)

set_option maxHeartbeats 4000000 in
set_option maxRecDepth 100000 in
theorem c_iterator {X : Xv} {G M : Mm} {q n e mb : Int} (hL : ALm mb G M q n e) : CT X yJx4a65c_iterator_32c93 prog_28_method_55_code 1 (some (FieldType.object "java/util/Iterator")) 2 33 1 4 [vR q] G M (PQ (fun r G1 M1 => r = G 4 0 0 ∧ IT G1 M1 r q 0 ∧ G1 4 0 0 = G 4 0 0 + 1 ∧ Kp G M G1 M1)) := by
  refine CT.by (by decide +kernel) [1] ⟨cat_vR _, trivial⟩ (Nat.le_of_ble_eq_true rfl) (fun E hX C hR hIni => ?_)
  refine pw_new C dJx4a65c_iterator_32c93_0 nl_Jx4a65c_267 (Nat.le_of_ble_eq_true rfl) (Nat.le_of_ble_eq_true rfl) ?_
  have hL1 := hL.kp (Kp.new (K := 1) (len := 0) (Kp.rf (G := G) (M := M)))
  have hn4 : nG G 1 0 4 0 0 = G 4 0 0 + 1 := nG_next
  have hq1 := hL.1
  refine pw_dup C dJx4a65c_iterator_32c93_3 (cat_vR _) ?_
  refine pw_aload_n C dJx4a65c_iterator_32c93_4 rfl ?_
  refine pw_cIU C hX dJx4a65c_iterator_32c93_5 ml_Jx4a65c_269 mc_Jx35411_init_45d68 (c_itInit hL1 (it := G 4 0 0) (by omega) nG_kind nM_fld (by omega)) (by omega) rfl rfl ⟨Nat.le_of_ble_eq_true rfl, Nat.le_of_ble_eq_true rfl⟩ (Nat.le_of_ble_eq_true rfl) (by show 0 + 1 + 0 ≤ 1 ∧ 0 + 4 + 0 ≤ 4; omega) (fun G1 M1 hq_ => ?_)
  exact pw_aret C hR dJx4a65c_iterator_32c93_8 (Or.inl ⟨_, rfl⟩) (⟨_, rfl, rfl, hq_.1, by rw [hq_.2.1, hn4], ⟨fun b hb => (agr_n b (by omega)).tr (hq_.2.2 b (by omega)), by rw [hq_.2.1, hn4]; omega⟩⟩) (Nat.le_of_ble_eq_true rfl) (Nat.le_of_ble_eq_true rfl)

