/-! ===== the model's public queries: proof, independence, arrival ===== -/
theorem own_LW {A : An} {l : Int} (hA : AB A) (hW : WF A) (hl : 0 ≤ l ∧ l < A 0 0 2) : LW (lup (A (20 + l)) 4 3 0) (fun i => A (200 + i)) (A 0 0 1) := by
  have hn := hA.n
  have he := hW.e l hl.1 hl.2
  refine ⟨fun t q1 q2 => ?_, ?_, by omega⟩
  · have hx := hW.l l t hl.1 hl.2 q1 q2
    rw [lup_n (i' := 3) (by omega), lup_n (i' := 0) (by omega), lup_n (i' := 1) (by omega), lup_n (i' := 2) (by omega), lup_n (i' := 4) (by omega)]
    exact ⟨hx.1, fun z => ⟨by have := hx.2 z; omega, (hx.2 z).1, (hx.2 z).2.1⟩⟩
  · rw [lup_n (by omega)]; exact he
theorem RM.tk {G M : Mm} {Q : Int} {A : An} {D : Fn} {I : Int → Int} (h : RM G M Q A D I) (hA : AB A) : TK G M (Q + 3) (A 0 0 1) (D 0 3) (D 4) (fun i => A (200 + i)) :=
  ⟨h.l3, fun i q1 q2 => ⟨h.e3 i q1 q2, h.ta i q1 q2, (hA.ta i (by have := hA.n; omega)).s1, (hA.ta i (by have := hA.n; omega)).s4⟩⟩
set_option maxHeartbeats 4000000 in
set_option maxRecDepth 100000 in
theorem m_proof_ {X : Xv} {G M : Mm} {Q : Int} {A : An} {D : Fn} {I : Int → Int} (hM : RM G M Q A D I) (hA : AB A) (hW : WF A) {s f v z : Int} (r_s : -2147483648 ≤ s ∧ s ≤ 2147483647) (r_f : -2147483648 ≤ f ∧ f ≤ 2147483647) (r_v : -2147483648 ≤ v ∧ v ≤ 2147483647) (z_z : z = 0 ∨ z = 1) : CT X yX10_proof_ prog_8_method_41_code 5 (some .int) 5 111 0 0 [vR Q, vI s, vI f, vI v, vI z] G M (PI (fun r G1 M1 => Kp G (mup M 0 240 Q (cd2 ((0 ≤ s ∧ s < A 0 0 0) ∧ 0 ≤ f ∧ f < 4) (0 ≤ v ∧ v ≤ 99))) G1 M1 ∧ (cd2 ((0 ≤ s ∧ s < A 0 0 0) ∧ 0 ≤ f ∧ f < 4) (0 ≤ v ∧ v ≤ 99) = 0 → r = (if z = 0 then mpr (A 10) (A (100 + (s * 4 + f))) v else mfo (A 10) (A (100 + (s * 4 + f))) v)))) := by
  refine CT.by (by decide +kernel) [1, 1, 1, 1, 1] ⟨cat_vR _, cat_vI _, cat_vI _, cat_vI _, cat_vI _, trivial⟩ (Nat.le_of_ble_eq_true rfl) (fun E hX C hR hIni => ?_)
  have hn := hA.n
  have hnS := hA.so.c
  refine pw_aload_n C dX10_proof__0 rfl ?_
  refine pw_aload_n C dX10_proof__1 rfl ?_
  refine pw_iload_n C dX10_proof__2 rfl ?_
  refine pw_iload_n C dX10_proof__3 rfl ?_
  refine pw_cVE C hX dX10_proof__4 ml_X10_119 mc_X10_isNoFact (m_isNoFact hM hA (s := s) (f := f) (by omega) (by omega)) kc_13 hM.k rfl rfl ⟨Nat.le_of_ble_eq_true rfl, Nat.le_of_ble_eq_true rfl⟩ (Nat.le_of_ble_eq_true rfl) (by show _ ≤ 0 ∧ _ ≤ 0; omega) ?_
  refine pw_iconst C dX10_proof__7 ?_
  by_cases cz_8 : ¬ ((0 ≤ s ∧ s < A 0 0 0) ∧ 0 ≤ f ∧ f < 4)
  · skip
    rw [bI_t cz_8]
    refine pw_cVI C hX dX10_proof__8 ml_X10_103 mc_X10_start (m_start hM hA (z := 1) (w := 1) (by omega) (by omega)) kc_13 hM.k rfl rfl ⟨Nat.le_of_ble_eq_true rfl, Nat.le_of_ble_eq_true rfl⟩ (Nat.le_of_ble_eq_true rfl) (by show _ ≤ 0 ∧ _ ≤ 0; omega) (fun r_ G M1 hq_ => ?_)
    obtain ⟨rfl, rfl, e1⟩ := hq_
    rw [if_neg (by decide)] at e1
    have hMn : RM G M1 Q A D I := by rw [e1]; exact hM.th
    clear hM
    have hM := hMn
    clear hMn
    have hK1 : Kp G M1 G M1 := Kp.rf
    refine pw_ifL_ne (tgt := 37) C dX10_proof__11 (by decide) rfl ?_
    refine pw_iconst C dX10_proof__37 ?_
    exact pw_iret C hR dX10_proof__38 ((by have hcd : cd2 ((0 ≤ s ∧ s < A 0 0 0) ∧ 0 ≤ f ∧ f < 4) (0 ≤ v ∧ v ≤ 99) = 1 := (by unfold cd2; first | rw [if_pos (by omega)] | rw [if_neg (by omega), if_pos (by omega)] | rw [if_neg (by omega), if_neg (by omega)] | rw [if_neg (by omega)]); exact ⟨_, rfl, by rw [hcd, ← e1]; exact hK1, fun h => by rw [hcd] at h; omega⟩)) (by omega) (by omega)
  · skip
    rw [bI_f cz_8]
    refine pw_cVI C hX dX10_proof__8 ml_X10_103 mc_X10_start (m_start hM hA (z := 0) (w := 1) (by omega) (by omega)) kc_13 hM.k rfl rfl ⟨Nat.le_of_ble_eq_true rfl, Nat.le_of_ble_eq_true rfl⟩ (Nat.le_of_ble_eq_true rfl) (by show _ ≤ 0 ∧ _ ≤ 0; omega) (fun r_ G M2 hq_ => ?_)
    obtain ⟨rfl, rfl, e2⟩ := hq_
    rw [if_pos rfl] at e2
    have hMn : RM G M2 Q A D I := by rw [e2]; exact hM.th
    clear hM
    have hM := hMn
    clear hMn
    have hK2 : Kp G M2 G M2 := Kp.rf
    refine pw_ifL_nen (tgt := 37) C dX10_proof__11 (by decide) rfl ?_
    refine pw_aload_n C dX10_proof__14 rfl ?_
    refine pw_iload_n C dX10_proof__15 rfl ?_
    refine pw_iconst C dX10_proof__16 ?_
    refine pw_bipush C dX10_proof__17 rfl ?_
    refine pw_cSE C hX dX10_proof__19 ml_X10_37 mc_X10_isIn (m_isIn (v := v) (lo := 0) (hi := 99) (by omega) (by omega) (by omega)) rfl rfl ⟨Nat.le_of_ble_eq_true rfl, Nat.le_of_ble_eq_true rfl⟩ (Nat.le_of_ble_eq_true rfl) (by show _ ≤ 0 ∧ _ ≤ 0; omega) ?_
    refine pw_ifB_ne (tgt := 29) C dX10_proof__22 (by decide) (fun c_22 => ?_) (fun c_22 => ?_)
    · skip
      refine pw_iconst C dX10_proof__29 ?_
      refine pw_iconst C dX10_proof__30 ?_
      refine pw_cVI C hX dX10_proof__31 ml_X10_29 mc_X10_refuse (m_refuse hM hA (z := 0) (w := 2) (by omega) (by omega) (by rw [e2, mup_s])) kc_13 hM.k rfl rfl ⟨Nat.le_of_ble_eq_true rfl, Nat.le_of_ble_eq_true rfl⟩ (Nat.le_of_ble_eq_true rfl) (by show _ ≤ 0 ∧ _ ≤ 0; omega) (fun r_ G M3 hq_ => ?_)
      obtain ⟨rfl, rfl, e3⟩ := hq_
      rw [if_pos rfl] at e3
      have hMn : RM G M3 Q A D I := by rw [e3]; exact hM.th
      rw [e2, mup_mup] at e3
      clear hM
      have hM := hMn
      clear hMn
      have hK3 : Kp G M3 G M3 := Kp.rf
      refine pw_ifL_eq (tgt := 39) C dX10_proof__34 (by decide) rfl ?_
      refine pw_iload C dX10_proof__39 rfl ?_
      refine pw_if_eq (tgt := 58) C dX10_proof__41 (by decide) (by omega) (fun c_41 => ?_) (fun c_41 => ?_)
      · skip
        refine pw_aload_n C dX10_proof__58 rfl ?_
        refine pw_aload_n C dX10_proof__59 rfl ?_
        refine pw_iload_n C dX10_proof__60 rfl ?_
        refine pw_iload_n C dX10_proof__61 rfl ?_
        refine pw_cVR C hX dX10_proof__62 ml_X10_123 mc_X10_fact (m_fact hM hA (s := s) (f := f) (by omega) (by omega)) kc_13 hM.k rfl rfl ⟨Nat.le_of_ble_eq_true rfl, Nat.le_of_ble_eq_true rfl⟩ (Nat.le_of_ble_eq_true rfl) (by show _ ≤ 0 ∧ _ ≤ 0; omega) ?_
        refine pw_iload_n C dX10_proof__65 rfl ?_
        refine pw_cVE C hX dX10_proof__66 ml_X10_85 mc_X10_proof (m_proof hM hA (hM.fa (s * 4 + f) (by omega) (by omega)) (hA.fa (s * 4 + f) (by omega)).f0 (v := v) (by omega)) kc_13 hM.k rfl rfl ⟨Nat.le_of_ble_eq_true rfl, Nat.le_of_ble_eq_true rfl⟩ (Nat.le_of_ble_eq_true rfl) (by show _ ≤ 0 ∧ _ ≤ 0; omega) ?_
        have b_mpr55 : 0 ≤ mpr (A 10) (A (100 + (s * 4 + f))) v ∧ mpr (A 10) (A (100 + (s * 4 + f))) v ≤ 3 := by unfold mpr; omega
        exact pw_iret C hR dX10_proof__69 ((by have hcd : cd2 ((0 ≤ s ∧ s < A 0 0 0) ∧ 0 ≤ f ∧ f < 4) (0 ≤ v ∧ v ≤ 99) = 0 := (by unfold cd2; first | rw [if_pos (by omega)] | rw [if_neg (by omega), if_pos (by omega)] | rw [if_neg (by omega), if_neg (by omega)] | rw [if_neg (by omega)]); exact ⟨_, rfl, by rw [hcd, ← e3]; exact hK3, fun _ => by rw [if_pos c_41]⟩)) (by omega) (by omega)
      · skip
        refine pw_aload_n C dX10_proof__44 rfl ?_
        refine pw_aload_n C dX10_proof__45 rfl ?_
        refine pw_iload_n C dX10_proof__46 rfl ?_
        refine pw_iload_n C dX10_proof__47 rfl ?_
        refine pw_cVR C hX dX10_proof__48 ml_X10_123 mc_X10_fact (m_fact hM hA (s := s) (f := f) (by omega) (by omega)) kc_13 hM.k rfl rfl ⟨Nat.le_of_ble_eq_true rfl, Nat.le_of_ble_eq_true rfl⟩ (Nat.le_of_ble_eq_true rfl) (by show _ ≤ 0 ∧ _ ≤ 0; omega) ?_
        refine pw_iload_n C dX10_proof__51 rfl ?_
        refine pw_cVE C hX dX10_proof__52 ml_X10_89 mc_X10_force (m_force hM hA (hM.fa (s * 4 + f) (by omega) (by omega)) (hA.fa (s * 4 + f) (by omega)).f0 (v := v) (by omega)) kc_13 hM.k rfl rfl ⟨Nat.le_of_ble_eq_true rfl, Nat.le_of_ble_eq_true rfl⟩ (Nat.le_of_ble_eq_true rfl) (by show _ ≤ 0 ∧ _ ≤ 0; omega) ?_
        have b_mfo56 := mfo_bd (F := A (100 + (s * 4 + f))) (v := v) hA.so
        refine pw_goto (tgt := 69) C dX10_proof__55 (by decide) ?_
        exact pw_iret C hR dX10_proof__69 ((by have hcd : cd2 ((0 ≤ s ∧ s < A 0 0 0) ∧ 0 ≤ f ∧ f < 4) (0 ≤ v ∧ v ≤ 99) = 0 := (by unfold cd2; first | rw [if_pos (by omega)] | rw [if_neg (by omega), if_pos (by omega)] | rw [if_neg (by omega), if_neg (by omega)] | rw [if_neg (by omega)]); exact ⟨_, rfl, by rw [hcd, ← e3]; exact hK3, fun _ => by rw [if_neg c_41]⟩)) (by omega) (by omega)
    · skip
      refine pw_iconst C dX10_proof__25 ?_
      refine pw_goto (tgt := 30) C dX10_proof__26 (by decide) ?_
      refine pw_iconst C dX10_proof__30 ?_
      refine pw_cVI C hX dX10_proof__31 ml_X10_29 mc_X10_refuse (m_refuse hM hA (z := 1) (w := 2) (by omega) (by omega) (by rw [e2, mup_s])) kc_13 hM.k rfl rfl ⟨Nat.le_of_ble_eq_true rfl, Nat.le_of_ble_eq_true rfl⟩ (Nat.le_of_ble_eq_true rfl) (by show _ ≤ 0 ∧ _ ≤ 0; omega) (fun r_ G M4 hq_ => ?_)
      obtain ⟨rfl, rfl, e4⟩ := hq_
      rw [if_neg (by decide)] at e4
      have hMn : RM G M4 Q A D I := by rw [e4]; exact hM.th
      rw [e2, mup_mup] at e4
      clear hM
      have hM := hMn
      clear hMn
      have hK4 : Kp G M4 G M4 := Kp.rf
      refine pw_ifL_eqn (tgt := 39) C dX10_proof__34 (by decide) rfl ?_
      refine pw_iconst C dX10_proof__37 ?_
      exact pw_iret C hR dX10_proof__38 ((by have hcd : cd2 ((0 ≤ s ∧ s < A 0 0 0) ∧ 0 ≤ f ∧ f < 4) (0 ≤ v ∧ v ≤ 99) = 2 := (by unfold cd2; first | rw [if_pos (by omega)] | rw [if_neg (by omega), if_pos (by omega)] | rw [if_neg (by omega), if_neg (by omega)] | rw [if_neg (by omega)]); exact ⟨_, rfl, by rw [hcd, ← e4]; exact hK4, fun h => by rw [hcd] at h; omega⟩)) (by omega) (by omega)

set_option maxHeartbeats 4000000 in
set_option maxRecDepth 100000 in
theorem m_areIndependent {X : Xv} {G M : Mm} {Q : Int} {A : An} {D : Fn} {I : Int → Int} (hM : RM G M Q A D I) (hA : AB A) (hW : WF A) {s u : Int} (r_s : -2147483648 ≤ s ∧ s ≤ 2147483647) (r_u : -2147483648 ≤ u ∧ u ≤ 2147483647) : CT X yX10_areIndependent prog_8_method_35_code 3 (some .boolean) 3 64 0 0 [vR Q, vI s, vI u] G M (PI (fun r G1 M1 => Kp G (mup M 0 240 Q (cd1 ((0 ≤ s ∧ s < A 10 2 0) ∧ 0 ≤ u ∧ u < A 10 2 0))) G1 M1 ∧ (cd1 ((0 ≤ s ∧ s < A 10 2 0) ∧ 0 ≤ u ∧ u < A 10 2 0) = 0 → r = bI (¬ A 10 1 s = A 10 1 u)))) := by
  refine CT.by (by decide +kernel) [1, 1, 1] ⟨cat_vR _, cat_vI _, cat_vI _, trivial⟩ (Nat.le_of_ble_eq_true rfl) (fun E hX C hR hIni => ?_)
  have hn := hA.n
  have hnS := hA.so.c
  refine pw_aload_n C dX10_areIndependent_0 rfl ?_
  refine pw_aload_n C dX10_areIndependent_1 rfl ?_
  refine pw_iload_n C dX10_areIndependent_2 rfl ?_
  refine pw_cVE C hX dX10_areIndependent_3 ml_X10_100 mc_X10_isNoSource (m_isNoSource hM hA (i := s) (by omega)) kc_13 hM.k rfl rfl ⟨Nat.le_of_ble_eq_true rfl, Nat.le_of_ble_eq_true rfl⟩ (Nat.le_of_ble_eq_true rfl) (by show _ ≤ 0 ∧ _ ≤ 0; omega) ?_
  refine pw_ifB_ne (tgt := 17) C dX10_areIndependent_6 (by decide) (fun c_6 => ?_) (fun c_6 => ?_)
  · skip
    refine pw_iconst C dX10_areIndependent_17 ?_
    refine pw_goto (tgt := 22) C dX10_areIndependent_18 (by decide) ?_
    refine pw_iconst C dX10_areIndependent_22 ?_
    refine pw_cVI C hX dX10_areIndependent_23 ml_X10_103 mc_X10_start (m_start hM hA (z := 1) (w := 1) (by omega) (by omega)) kc_13 hM.k rfl rfl ⟨Nat.le_of_ble_eq_true rfl, Nat.le_of_ble_eq_true rfl⟩ (Nat.le_of_ble_eq_true rfl) (by show _ ≤ 0 ∧ _ ≤ 0; omega) (fun r_ G M1 hq_ => ?_)
    obtain ⟨rfl, rfl, e1⟩ := hq_
    rw [if_neg (by decide)] at e1
    have hMn : RM G M1 Q A D I := by rw [e1]; exact hM.th
    clear hM
    have hM := hMn
    clear hMn
    have hK1 : Kp G M1 G M1 := Kp.rf
    refine pw_ifL_ne (tgt := 64) C dX10_areIndependent_26 (by decide) rfl ?_
    refine pw_iconst C dX10_areIndependent_64 ?_
    exact pw_zret C hR dX10_areIndependent_65 (by omega) ((by have hcd : cd1 ((0 ≤ s ∧ s < A 10 2 0) ∧ 0 ≤ u ∧ u < A 10 2 0) = 1 := (by unfold cd1; first | rw [if_pos (by omega)] | rw [if_neg (by omega)]); exact ⟨_, rfl, by rw [hcd, ← e1]; exact hK1, fun h => by rw [hcd] at h; omega⟩)) (by omega) (by omega)
  · skip
    refine pw_aload_n C dX10_areIndependent_9 rfl ?_
    refine pw_iload_n C dX10_areIndependent_10 rfl ?_
    refine pw_cVE C hX dX10_areIndependent_11 ml_X10_100 mc_X10_isNoSource (m_isNoSource hM hA (i := u) (by omega)) kc_13 hM.k rfl rfl ⟨Nat.le_of_ble_eq_true rfl, Nat.le_of_ble_eq_true rfl⟩ (Nat.le_of_ble_eq_true rfl) (by show _ ≤ 0 ∧ _ ≤ 0; omega) ?_
    refine pw_ifB_eq (tgt := 21) C dX10_areIndependent_14 (by decide) (fun c_14 => ?_) (fun c_14 => ?_)
    · skip
      refine pw_iconst C dX10_areIndependent_21 ?_
      refine pw_iconst C dX10_areIndependent_22 ?_
      refine pw_cVI C hX dX10_areIndependent_23 ml_X10_103 mc_X10_start (m_start hM hA (z := 0) (w := 1) (by omega) (by omega)) kc_13 hM.k rfl rfl ⟨Nat.le_of_ble_eq_true rfl, Nat.le_of_ble_eq_true rfl⟩ (Nat.le_of_ble_eq_true rfl) (by show _ ≤ 0 ∧ _ ≤ 0; omega) (fun r_ G M2 hq_ => ?_)
      obtain ⟨rfl, rfl, e2⟩ := hq_
      rw [if_pos rfl] at e2
      have hMn : RM G M2 Q A D I := by rw [e2]; exact hM.th
      clear hM
      have hM := hMn
      clear hMn
      have hK2 : Kp G M2 G M2 := Kp.rf
      refine pw_ifL_nen (tgt := 64) C dX10_areIndependent_26 (by decide) rfl ?_
      refine pw_aload_n C dX10_areIndependent_29 rfl ?_
      refine pw_getR C dX10_areIndependent_30 fl_X10_10 hM.k rfl hM.r1 ?_
      refine pw_iload_n C dX10_areIndependent_33 rfl ?_
      refine pw_cVR C hX dX10_areIndependent_34 ml_X10_45 mc_Jx4a65c_get_915e3 (hM.g1 (i := s) (by omega)) kc_2 hM.l1.k rfl rfl ⟨Nat.le_of_ble_eq_true rfl, Nat.le_of_ble_eq_true rfl⟩ (Nat.le_of_ble_eq_true rfl) (by show _ ≤ 0 ∧ _ ≤ 0; omega) ?_
      refine pw_cast (Cn := "SlugwireModel$Source") C dX10_areIndependent_37 (List.mem_of_getElem? (i := 954) (by decide +kernel)) (by rw [(hM.so s (by omega) (by omega)).1]; exact kc_11) ?_
      refine pw_getE C dX10_areIndependent_40 fl_X10_62 rfl (hM.so s (by omega) (by omega)).1 (hM.so s (by omega) (by omega)).2.2 ?_
      have b_40 := hA.so.r s (by omega) (by omega)
      refine pw_aload_n C dX10_areIndependent_43 rfl ?_
      refine pw_getR C dX10_areIndependent_44 fl_X10_10 hM.k rfl hM.r1 ?_
      refine pw_iload_n C dX10_areIndependent_47 rfl ?_
      refine pw_cVR C hX dX10_areIndependent_48 ml_X10_45 mc_Jx4a65c_get_915e3 (hM.g1 (i := u) (by omega)) kc_2 hM.l1.k rfl rfl ⟨Nat.le_of_ble_eq_true rfl, Nat.le_of_ble_eq_true rfl⟩ (Nat.le_of_ble_eq_true rfl) (by show _ ≤ 0 ∧ _ ≤ 0; omega) ?_
      refine pw_cast (Cn := "SlugwireModel$Source") C dX10_areIndependent_51 (List.mem_of_getElem? (i := 954) (by decide +kernel)) (by rw [(hM.so u (by omega) (by omega)).1]; exact kc_11) ?_
      refine pw_getE C dX10_areIndependent_54 fl_X10_62 rfl (hM.so u (by omega) (by omega)).1 (hM.so u (by omega) (by omega)).2.2 ?_
      have b_54 := hA.so.r u (by omega) (by omega)
      refine pw_icmp_eq (tgt := 64) C dX10_areIndependent_57 (by decide) (by omega) (fun c_57 => ?_) (fun c_57 => ?_)
      · skip
        refine pw_iconst C dX10_areIndependent_64 ?_
        exact pw_zret C hR dX10_areIndependent_65 (by omega) ((by have hcd : cd1 ((0 ≤ s ∧ s < A 10 2 0) ∧ 0 ≤ u ∧ u < A 10 2 0) = 0 := (by unfold cd1; first | rw [if_pos (by omega)] | rw [if_neg (by omega)]); exact ⟨_, rfl, by rw [hcd, ← e2]; exact hK2, fun _ => (bI_f (fun q => q c_57)).symm⟩)) (by omega) (by omega)
      · skip
        refine pw_iconst C dX10_areIndependent_60 ?_
        refine pw_goto (tgt := 65) C dX10_areIndependent_61 (by decide) ?_
        exact pw_zret C hR dX10_areIndependent_65 (by omega) ((by have hcd : cd1 ((0 ≤ s ∧ s < A 10 2 0) ∧ 0 ≤ u ∧ u < A 10 2 0) = 0 := (by unfold cd1; first | rw [if_pos (by omega)] | rw [if_neg (by omega)]); exact ⟨_, rfl, by rw [hcd, ← e2]; exact hK2, fun _ => (bI_t c_57).symm⟩)) (by omega) (by omega)
    · skip
      refine pw_iconst C dX10_areIndependent_17 ?_
      refine pw_goto (tgt := 22) C dX10_areIndependent_18 (by decide) ?_
      refine pw_iconst C dX10_areIndependent_22 ?_
      refine pw_cVI C hX dX10_areIndependent_23 ml_X10_103 mc_X10_start (m_start hM hA (z := 1) (w := 1) (by omega) (by omega)) kc_13 hM.k rfl rfl ⟨Nat.le_of_ble_eq_true rfl, Nat.le_of_ble_eq_true rfl⟩ (Nat.le_of_ble_eq_true rfl) (by show _ ≤ 0 ∧ _ ≤ 0; omega) (fun r_ G M3 hq_ => ?_)
      obtain ⟨rfl, rfl, e3⟩ := hq_
      rw [if_neg (by decide)] at e3
      have hMn : RM G M3 Q A D I := by rw [e3]; exact hM.th
      clear hM
      have hM := hMn
      clear hMn
      have hK3 : Kp G M3 G M3 := Kp.rf
      refine pw_ifL_ne (tgt := 64) C dX10_areIndependent_26 (by decide) rfl ?_
      refine pw_iconst C dX10_areIndependent_64 ?_
      exact pw_zret C hR dX10_areIndependent_65 (by omega) ((by have hcd : cd1 ((0 ≤ s ∧ s < A 10 2 0) ∧ 0 ≤ u ∧ u < A 10 2 0) = 1 := (by unfold cd1; first | rw [if_pos (by omega)] | rw [if_neg (by omega)]); exact ⟨_, rfl, by rw [hcd, ← e3]; exact hK3, fun h => by rw [hcd] at h; omega⟩)) (by omega) (by omega)

set_option maxHeartbeats 4000000 in
set_option maxRecDepth 100000 in
theorem m_arrives {X : Xv} {G M : Mm} {Q : Int} {A : An} {D : Fn} {I : Int → Int} (hM : RM G M Q A D I) (hA : AB A) (hW : WF A) {l t : Int} (r_l : -2147483648 ≤ l ∧ l ≤ 2147483647) (r_t : -2147483648 ≤ t ∧ t ≤ 2147483647) : CT X yX10_arrives prog_8_method_62_code 3 (some .int) 6 138 4 190 [vR Q, vI l, vI t] G M (PI (fun r G1 M1 => Kp G (mup M 0 240 Q (cd1 ((0 ≤ l ∧ l < A 0 0 2) ∧ 0 ≤ t ∧ t < A 0 0 1))) G1 M1 ∧ (cd1 ((0 ≤ l ∧ l < A 0 0 2) ∧ 0 ≤ t ∧ t < A 0 0 1) = 0 → r = mAr (lup (A (20 + l)) 4 3 0) t (A 0 0 3)))) := by
  refine CT.by (by decide +kernel) [1, 1, 1] ⟨cat_vR _, cat_vI _, cat_vI _, trivial⟩ (Nat.le_of_ble_eq_true rfl) (fun E hX C hR hIni => ?_)
  have hn := hA.n
  have hnS := hA.so.c
  refine pw_aload_n C dX10_arrives_0 rfl ?_
  refine pw_aload_n C dX10_arrives_1 rfl ?_
  refine pw_iload_n C dX10_arrives_2 rfl ?_
  refine pw_cVE C hX dX10_arrives_3 ml_X10_133 mc_X10_isNoLine (m_isNoLine hM hA (i := l) (by omega)) kc_13 hM.k rfl rfl ⟨Nat.le_of_ble_eq_true rfl, Nat.le_of_ble_eq_true rfl⟩ (Nat.le_of_ble_eq_true rfl) (by show _ ≤ 4 ∧ _ ≤ 190; omega) ?_
  refine pw_ifB_ne (tgt := 17) C dX10_arrives_6 (by decide) (fun c_6 => ?_) (fun c_6 => ?_)
  · skip
    refine pw_iconst C dX10_arrives_17 ?_
    refine pw_goto (tgt := 22) C dX10_arrives_18 (by decide) ?_
    refine pw_iconst C dX10_arrives_22 ?_
    refine pw_cVI C hX dX10_arrives_23 ml_X10_103 mc_X10_start (m_start hM hA (z := 1) (w := 1) (by omega) (by omega)) kc_13 hM.k rfl rfl ⟨Nat.le_of_ble_eq_true rfl, Nat.le_of_ble_eq_true rfl⟩ (Nat.le_of_ble_eq_true rfl) (by show _ ≤ 4 ∧ _ ≤ 190; omega) (fun r_ G M1 hq_ => ?_)
    obtain ⟨rfl, rfl, e1⟩ := hq_
    rw [if_neg (by decide)] at e1
    have hMn : RM G M1 Q A D I := by rw [e1]; exact hM.th
    clear hM
    have hM := hMn
    clear hMn
    have hK1 : Kp G M1 G M1 := Kp.rf
    refine pw_ifL_eqn (tgt := 33) C dX10_arrives_26 (by decide) rfl ?_
    refine pw_iconst C dX10_arrives_29 ?_
    refine pw_goto (tgt := 56) C dX10_arrives_30 (by decide) ?_
    exact pw_iret C hR dX10_arrives_56 ((by have hcd : cd1 ((0 ≤ l ∧ l < A 0 0 2) ∧ 0 ≤ t ∧ t < A 0 0 1) = 1 := (by unfold cd1; first | rw [if_pos (by omega)] | rw [if_neg (by omega)]); exact ⟨_, rfl, by rw [hcd, ← e1]; exact hK1, fun h => by rw [hcd] at h; omega⟩)) (by show _ ≤ 4; omega) (by show _ ≤ 190; omega)
  · skip
    refine pw_aload_n C dX10_arrives_9 rfl ?_
    refine pw_iload_n C dX10_arrives_10 rfl ?_
    refine pw_cVE C hX dX10_arrives_11 ml_X10_178 mc_X10_isNoTake (m_isNoTake hM hA (i := t) (by omega)) kc_13 hM.k rfl rfl ⟨Nat.le_of_ble_eq_true rfl, Nat.le_of_ble_eq_true rfl⟩ (Nat.le_of_ble_eq_true rfl) (by show _ ≤ 4 ∧ _ ≤ 190; omega) ?_
    refine pw_ifB_eq (tgt := 21) C dX10_arrives_14 (by decide) (fun c_14 => ?_) (fun c_14 => ?_)
    · skip
      refine pw_iconst C dX10_arrives_21 ?_
      refine pw_iconst C dX10_arrives_22 ?_
      refine pw_cVI C hX dX10_arrives_23 ml_X10_103 mc_X10_start (m_start hM hA (z := 0) (w := 1) (by omega) (by omega)) kc_13 hM.k rfl rfl ⟨Nat.le_of_ble_eq_true rfl, Nat.le_of_ble_eq_true rfl⟩ (Nat.le_of_ble_eq_true rfl) (by show _ ≤ 4 ∧ _ ≤ 190; omega) (fun r_ G M2 hq_ => ?_)
      obtain ⟨rfl, rfl, e2⟩ := hq_
      rw [if_pos rfl] at e2
      have hMn : RM G M2 Q A D I := by rw [e2]; exact hM.th
      clear hM
      have hM := hMn
      clear hMn
      have hK2 : Kp G M2 G M2 := Kp.rf
      refine pw_ifL_eq (tgt := 33) C dX10_arrives_26 (by decide) rfl ?_
      refine pw_aload_n C dX10_arrives_33 rfl ?_
      refine pw_aload_n C dX10_arrives_34 rfl ?_
      refine pw_getR C dX10_arrives_35 fl_X10_22 hM.k rfl hM.r4 ?_
      refine pw_iload_n C dX10_arrives_38 rfl ?_
      refine pw_cVR C hX dX10_arrives_39 ml_X10_45 mc_Jx4a65c_get_915e3 (hM.g4 (i := l) (by omega)) kc_2 hM.l4.k rfl rfl ⟨Nat.le_of_ble_eq_true rfl, Nat.le_of_ble_eq_true rfl⟩ (Nat.le_of_ble_eq_true rfl) (by show _ ≤ 4 ∧ _ ≤ 190; omega) ?_
      refine pw_cast (Cn := "SlugwireModel$Line") C dX10_arrives_42 (List.mem_of_getElem? (i := 1067) (by decide +kernel)) (by rw [(hM.li l (by omega) (by omega)).1]; exact kc_10) ?_
      have hq7 := hM.q
      have hl5 := (hM.p.l l (by omega) (by omega)).1
      refine pw_cVQ C hX dX10_arrives_45 ml_X10_291 mc_X7_copy (m_copy (hM.li l (by omega) (by omega)) (by omega)) kc_10 (hM.li l (by omega) (by omega)).1 rfl rfl ⟨Nat.le_of_ble_eq_true rfl, Nat.le_of_ble_eq_true rfl⟩ (Nat.le_of_ble_eq_true rfl) (by show _ ≤ 4 ∧ _ ≤ 190; omega) (fun b G6 M6 hq_ => ?_)
      obtain ⟨hb6, tt6, hL6, hK6⟩ := hq_
      have hM6 := hM.kp hK6
      refine pw_aload_n C dX10_arrives_48 rfl ?_
      refine pw_getR C dX10_arrives_49 fl_X10_19 hM6.k rfl hM6.r3 ?_
      refine pw_iload_n C dX10_arrives_52 rfl ?_
      have hD7 : DJ (Q + 3) (A 0 0 1) (D 4) b := ⟨by omega, fun i q1 q2 => by have z := (hM.p.t i q1 q2).1; omega⟩
      refine pw_cVI C hX dX10_arrives_53 ml_X10_295 mc_X10_arrivesNow (m_arrivesNow hM6 hA hL6 ((hA.li l (by omega)).u4 (by omega)) (hM6.tk hA) (own_LW hA hW (by omega)) hD7 (by omega) (t := t) (by omega)) kc_13 hM6.k rfl rfl ⟨Nat.le_of_ble_eq_true rfl, Nat.le_of_ble_eq_true rfl⟩ (Nat.le_of_ble_eq_true rfl) (by show _ ≤ 4 ∧ _ ≤ 190; omega) (fun r_ G8 M8 hq_ => ?_)
      obtain ⟨rfl, rfl, hO8⟩ := hq_
      have hK8 := hK6.ot (by omega) hO8
      exact pw_iret C hR dX10_arrives_56 ((by have hcd : cd1 ((0 ≤ l ∧ l < A 0 0 2) ∧ 0 ≤ t ∧ t < A 0 0 1) = 0 := (by unfold cd1; first | rw [if_pos (by omega)] | rw [if_neg (by omega)]); exact ⟨_, rfl, by rw [hcd, ← e2]; exact hK8, fun _ => rfl⟩)) (by show _ ≤ 4; omega) (by show _ ≤ 190; omega)
    · skip
      refine pw_iconst C dX10_arrives_17 ?_
      refine pw_goto (tgt := 22) C dX10_arrives_18 (by decide) ?_
      refine pw_iconst C dX10_arrives_22 ?_
      refine pw_cVI C hX dX10_arrives_23 ml_X10_103 mc_X10_start (m_start hM hA (z := 1) (w := 1) (by omega) (by omega)) kc_13 hM.k rfl rfl ⟨Nat.le_of_ble_eq_true rfl, Nat.le_of_ble_eq_true rfl⟩ (Nat.le_of_ble_eq_true rfl) (by show _ ≤ 4 ∧ _ ≤ 190; omega) (fun r_ G M3 hq_ => ?_)
      obtain ⟨rfl, rfl, e3⟩ := hq_
      rw [if_neg (by decide)] at e3
      have hMn : RM G M3 Q A D I := by rw [e3]; exact hM.th
      clear hM
      have hM := hMn
      clear hMn
      have hK3 : Kp G M3 G M3 := Kp.rf
      refine pw_ifL_eqn (tgt := 33) C dX10_arrives_26 (by decide) rfl ?_
      refine pw_iconst C dX10_arrives_29 ?_
      refine pw_goto (tgt := 56) C dX10_arrives_30 (by decide) ?_
      exact pw_iret C hR dX10_arrives_56 ((by have hcd : cd1 ((0 ≤ l ∧ l < A 0 0 2) ∧ 0 ≤ t ∧ t < A 0 0 1) = 1 := (by unfold cd1; first | rw [if_pos (by omega)] | rw [if_neg (by omega)]); exact ⟨_, rfl, by rw [hcd, ← e3]; exact hK3, fun h => by rw [hcd] at h; omega⟩)) (by show _ ≤ 4; omega) (by show _ ≤ 190; omega)

