/-! ===== the model's public queries ===== -/
def cd1 (p : Prop) [Decidable p] : Int := if ¬ p then 1 else 0
def cd2 (p q : Prop) [Decidable p] [Decidable q] : Int := if ¬ p then 1 else if ¬ q then 2 else 0
def cd3 (p q r : Prop) [Decidable p] [Decidable q] [Decidable r] : Int := if ¬ p then 1 else if ¬ q then 2 else if ¬ r then 3 else 0
set_option maxHeartbeats 4000000 in
set_option maxRecDepth 100000 in
theorem m_ofFact {X : Xv} {G M : Mm} {Q : Int} {A : An} {D : Fn} {I : Int → Int} (hM : RM G M Q A D I) (hA : AB A) (hW : WF A) {s f w : Int} (r_s : -2147483648 ≤ s ∧ s ≤ 2147483647) (r_f : -2147483648 ≤ f ∧ f ≤ 2147483647) (r_w : -2147483648 ≤ w ∧ w ≤ 2147483647) : CT X yX10_ofFact prog_8_method_40_code 4 (some .int) 9 204 ((kWf A s f w).toNat) (4 * (kWf A s f w).toNat) [vR Q, vI s, vI f, vI w] G M (PI (fun r G1 M1 => Kp G (mup M 0 240 Q (cd2 ((0 ≤ s ∧ s < A 0 0 0) ∧ 0 ≤ f ∧ f < 4) (0 ≤ w ∧ w ≤ 6))) G1 M1 ∧ (cd2 ((0 ≤ s ∧ s < A 0 0 0) ∧ 0 ≤ f ∧ f < 4) (0 ≤ w ∧ w ≤ 6) = 0 → r = moF A s f w))) := by
  refine CT.by (by decide +kernel) [1, 1, 1, 1] ⟨cat_vR _, cat_vI _, cat_vI _, cat_vI _, trivial⟩ (Nat.le_of_ble_eq_true rfl) (fun E hX C hR hIni => ?_)
  have hn := hA.n
  have hnS := hA.so.c
  refine pw_aload_n C dX10_ofFact_0 rfl ?_
  refine pw_aload_n C dX10_ofFact_1 rfl ?_
  refine pw_iload_n C dX10_ofFact_2 rfl ?_
  refine pw_iload_n C dX10_ofFact_3 rfl ?_
  refine pw_cVE C hX dX10_ofFact_4 ml_X10_119 mc_X10_isNoFact (m_isNoFact hM hA (s := s) (f := f) (by omega) (by omega)) kc_13 hM.k rfl rfl ⟨Nat.le_of_ble_eq_true rfl, Nat.le_of_ble_eq_true rfl⟩ (Nat.le_of_ble_eq_true rfl) (by show _ ≤ (kWf A s f w).toNat ∧ _ ≤ 4 * (kWf A s f w).toNat; omega) ?_
  refine pw_iconst C dX10_ofFact_7 ?_
  by_cases cz_8 : ¬ ((0 ≤ s ∧ s < A 0 0 0) ∧ 0 ≤ f ∧ f < 4)
  · skip
    rw [bI_t cz_8]
    refine pw_cVI C hX dX10_ofFact_8 ml_X10_103 mc_X10_start (m_start hM hA (z := 1) (w := 1) (by omega) (by omega)) kc_13 hM.k rfl rfl ⟨Nat.le_of_ble_eq_true rfl, Nat.le_of_ble_eq_true rfl⟩ (Nat.le_of_ble_eq_true rfl) (by show _ ≤ (kWf A s f w).toNat ∧ _ ≤ 4 * (kWf A s f w).toNat; omega) (fun r_ G M1 hq_ => ?_)
    obtain ⟨rfl, rfl, e1⟩ := hq_
    rw [if_neg (by decide)] at e1
    have hMn : RM G M1 Q A D I := by rw [e1]; exact hM.th
    clear hM
    have hM := hMn
    clear hMn
    have hK1 : Kp G M1 G M1 := Kp.rf
    refine pw_ifL_ne (tgt := 37) C dX10_ofFact_11 (by decide) rfl ?_
    refine pw_iconst C dX10_ofFact_37 ?_
    refine pw_goto (tgt := 48) C dX10_ofFact_38 (by decide) ?_
    exact pw_iret C hR dX10_ofFact_48 ((by have hcd : cd2 ((0 ≤ s ∧ s < A 0 0 0) ∧ 0 ≤ f ∧ f < 4) (0 ≤ w ∧ w ≤ 6) = 1 := (by unfold cd2; first | rw [if_pos (by omega)] | rw [if_neg (by omega), if_pos (by omega)] | rw [if_neg (by omega), if_neg (by omega)] | rw [if_neg (by omega)]); exact ⟨_, rfl, by rw [hcd, ← e1]; exact hK1, fun h => by rw [hcd] at h; omega⟩)) (by show _ ≤ (kWf A s f w).toNat; omega) (by show _ ≤ 4 * (kWf A s f w).toNat; omega)
  · skip
    rw [bI_f cz_8]
    refine pw_cVI C hX dX10_ofFact_8 ml_X10_103 mc_X10_start (m_start hM hA (z := 0) (w := 1) (by omega) (by omega)) kc_13 hM.k rfl rfl ⟨Nat.le_of_ble_eq_true rfl, Nat.le_of_ble_eq_true rfl⟩ (Nat.le_of_ble_eq_true rfl) (by show _ ≤ (kWf A s f w).toNat ∧ _ ≤ 4 * (kWf A s f w).toNat; omega) (fun r_ G M2 hq_ => ?_)
    obtain ⟨rfl, rfl, e2⟩ := hq_
    rw [if_pos rfl] at e2
    have hMn : RM G M2 Q A D I := by rw [e2]; exact hM.th
    clear hM
    have hM := hMn
    clear hMn
    have hK2 : Kp G M2 G M2 := Kp.rf
    refine pw_ifL_nen (tgt := 37) C dX10_ofFact_11 (by decide) rfl ?_
    refine pw_aload_n C dX10_ofFact_14 rfl ?_
    refine pw_iload_n C dX10_ofFact_15 rfl ?_
    refine pw_iconst C dX10_ofFact_16 ?_
    refine pw_bipush C dX10_ofFact_17 rfl ?_
    refine pw_cSE C hX dX10_ofFact_19 ml_X10_37 mc_X10_isIn (m_isIn (v := w) (lo := 0) (hi := 6) (by omega) (by omega) (by omega)) rfl rfl ⟨Nat.le_of_ble_eq_true rfl, Nat.le_of_ble_eq_true rfl⟩ (Nat.le_of_ble_eq_true rfl) (by show _ ≤ (kWf A s f w).toNat ∧ _ ≤ 4 * (kWf A s f w).toNat; omega) ?_
    refine pw_ifB_ne (tgt := 29) C dX10_ofFact_22 (by decide) (fun c_22 => ?_) (fun c_22 => ?_)
    · skip
      refine pw_iconst C dX10_ofFact_29 ?_
      refine pw_iconst C dX10_ofFact_30 ?_
      refine pw_cVI C hX dX10_ofFact_31 ml_X10_29 mc_X10_refuse (m_refuse hM hA (z := 0) (w := 2) (by omega) (by omega) (by rw [e2, mup_s])) kc_13 hM.k rfl rfl ⟨Nat.le_of_ble_eq_true rfl, Nat.le_of_ble_eq_true rfl⟩ (Nat.le_of_ble_eq_true rfl) (by show _ ≤ (kWf A s f w).toNat ∧ _ ≤ 4 * (kWf A s f w).toNat; omega) (fun r_ G M3 hq_ => ?_)
      obtain ⟨rfl, rfl, e3⟩ := hq_
      rw [if_pos rfl] at e3
      have hMn : RM G M3 Q A D I := by rw [e3]; exact hM.th
      rw [e2, mup_mup] at e3
      clear hM
      have hM := hMn
      clear hMn
      have hK3 : Kp G M3 G M3 := Kp.rf
      refine pw_ifL_eq (tgt := 41) C dX10_ofFact_34 (by decide) rfl ?_
      refine pw_aload_n C dX10_ofFact_41 rfl ?_
      refine pw_iload_n C dX10_ofFact_42 rfl ?_
      refine pw_iload_n C dX10_ofFact_43 rfl ?_
      refine pw_iload_n C dX10_ofFact_44 rfl ?_
      refine pw_cVI C hX dX10_ofFact_45 ml_X10_225 mc_X10_ofFactNow (m_ofFactNow hM hA hW (s := s) (f := f) (w := w) (by omega) (by omega) (by omega)) kc_13 hM.k rfl rfl ⟨Nat.le_of_ble_eq_true rfl, Nat.le_of_ble_eq_true rfl⟩ (Nat.le_of_ble_eq_true rfl) (by show _ ≤ (kWf A s f w).toNat ∧ _ ≤ 4 * (kWf A s f w).toNat; omega) (fun r_ G4 M5 hq_ => ?_)
      obtain ⟨rfl, hk_⟩ := hq_
      have hK5 := hK3.tr hk_
      have hM5 := hM.kp hK5
      clear hk_
      exact pw_iret C hR dX10_ofFact_48 ((by have hcd : cd2 ((0 ≤ s ∧ s < A 0 0 0) ∧ 0 ≤ f ∧ f < 4) (0 ≤ w ∧ w ≤ 6) = 0 := (by unfold cd2; first | rw [if_pos (by omega)] | rw [if_neg (by omega), if_pos (by omega)] | rw [if_neg (by omega), if_neg (by omega)] | rw [if_neg (by omega)]); exact ⟨_, rfl, by rw [hcd, ← e3]; exact hK5, fun _ => rfl⟩)) (by show _ ≤ (kWf A s f w).toNat; omega) (by show _ ≤ 4 * (kWf A s f w).toNat; omega)
    · skip
      refine pw_iconst C dX10_ofFact_25 ?_
      refine pw_goto (tgt := 30) C dX10_ofFact_26 (by decide) ?_
      refine pw_iconst C dX10_ofFact_30 ?_
      refine pw_cVI C hX dX10_ofFact_31 ml_X10_29 mc_X10_refuse (m_refuse hM hA (z := 1) (w := 2) (by omega) (by omega) (by rw [e2, mup_s])) kc_13 hM.k rfl rfl ⟨Nat.le_of_ble_eq_true rfl, Nat.le_of_ble_eq_true rfl⟩ (Nat.le_of_ble_eq_true rfl) (by show _ ≤ (kWf A s f w).toNat ∧ _ ≤ 4 * (kWf A s f w).toNat; omega) (fun r_ G M6 hq_ => ?_)
      obtain ⟨rfl, rfl, e6⟩ := hq_
      rw [if_neg (by decide)] at e6
      have hMn : RM G M6 Q A D I := by rw [e6]; exact hM.th
      rw [e2, mup_mup] at e6
      clear hM
      have hM := hMn
      clear hMn
      have hK6 : Kp G M6 G M6 := Kp.rf
      refine pw_ifL_eqn (tgt := 41) C dX10_ofFact_34 (by decide) rfl ?_
      refine pw_iconst C dX10_ofFact_37 ?_
      refine pw_goto (tgt := 48) C dX10_ofFact_38 (by decide) ?_
      exact pw_iret C hR dX10_ofFact_48 ((by have hcd : cd2 ((0 ≤ s ∧ s < A 0 0 0) ∧ 0 ≤ f ∧ f < 4) (0 ≤ w ∧ w ≤ 6) = 2 := (by unfold cd2; first | rw [if_pos (by omega)] | rw [if_neg (by omega), if_pos (by omega)] | rw [if_neg (by omega), if_neg (by omega)] | rw [if_neg (by omega)]); exact ⟨_, rfl, by rw [hcd, ← e6]; exact hK6, fun h => by rw [hcd] at h; omega⟩)) (by show _ ≤ (kWf A s f w).toNat; omega) (by show _ ≤ 4 * (kWf A s f w).toNat; omega)

set_option maxHeartbeats 4000000 in
set_option maxRecDepth 100000 in
theorem m_ofTake {X : Xv} {G M : Mm} {Q : Int} {A : An} {D : Fn} {I : Int → Int} (hM : RM G M Q A D I) (hA : AB A) (hW : WF A) {t w : Int} (r_t : -2147483648 ≤ t ∧ t ≤ 2147483647) (r_w : -2147483648 ≤ w ∧ w ≤ 2147483647) : CT X yX10_ofTake prog_8_method_43_code 3 (some .int) 4 88 1 9 [vR Q, vI t, vI w] G M (PI (fun r G1 M1 => Kp G (mup M 0 240 Q (cd2 (0 ≤ t ∧ t < A 0 0 1) (0 ≤ w ∧ w ≤ 8))) G1 M1 ∧ (cd2 (0 ≤ t ∧ t < A 0 0 1) (0 ≤ w ∧ w ≤ 8) = 0 → r = oTa A t w))) := by
  refine CT.by (by decide +kernel) [1, 1, 1] ⟨cat_vR _, cat_vI _, cat_vI _, trivial⟩ (Nat.le_of_ble_eq_true rfl) (fun E hX C hR hIni => ?_)
  have hn := hA.n
  have hnS := hA.so.c
  refine pw_aload_n C dX10_ofTake_0 rfl ?_
  refine pw_aload_n C dX10_ofTake_1 rfl ?_
  refine pw_iload_n C dX10_ofTake_2 rfl ?_
  refine pw_cVE C hX dX10_ofTake_3 ml_X10_178 mc_X10_isNoTake (m_isNoTake hM hA (i := t) (by omega)) kc_13 hM.k rfl rfl ⟨Nat.le_of_ble_eq_true rfl, Nat.le_of_ble_eq_true rfl⟩ (Nat.le_of_ble_eq_true rfl) (by show _ ≤ 1 ∧ _ ≤ 9; omega) ?_
  refine pw_iconst C dX10_ofTake_6 ?_
  by_cases cz_7 : ¬ (0 ≤ t ∧ t < A 0 0 1)
  · skip
    rw [bI_t cz_7]
    refine pw_cVI C hX dX10_ofTake_7 ml_X10_103 mc_X10_start (m_start hM hA (z := 1) (w := 1) (by omega) (by omega)) kc_13 hM.k rfl rfl ⟨Nat.le_of_ble_eq_true rfl, Nat.le_of_ble_eq_true rfl⟩ (Nat.le_of_ble_eq_true rfl) (by show _ ≤ 1 ∧ _ ≤ 9; omega) (fun r_ G M1 hq_ => ?_)
    obtain ⟨rfl, rfl, e1⟩ := hq_
    rw [if_neg (by decide)] at e1
    have hMn : RM G M1 Q A D I := by rw [e1]; exact hM.th
    clear hM
    have hM := hMn
    clear hMn
    have hK1 : Kp G M1 G M1 := Kp.rf
    refine pw_ifL_ne (tgt := 36) C dX10_ofTake_10 (by decide) rfl ?_
    refine pw_iconst C dX10_ofTake_36 ?_
    refine pw_goto (tgt := 46) C dX10_ofTake_37 (by decide) ?_
    exact pw_iret C hR dX10_ofTake_46 ((by have hcd : cd2 (0 ≤ t ∧ t < A 0 0 1) (0 ≤ w ∧ w ≤ 8) = 1 := (by unfold cd2; first | rw [if_pos (by omega)] | rw [if_neg (by omega), if_pos (by omega)] | rw [if_neg (by omega), if_neg (by omega)] | rw [if_neg (by omega)]); exact ⟨_, rfl, by rw [hcd, ← e1]; exact hK1, fun h => by rw [hcd] at h; omega⟩)) (by show _ ≤ 1; omega) (by show _ ≤ 9; omega)
  · skip
    rw [bI_f cz_7]
    refine pw_cVI C hX dX10_ofTake_7 ml_X10_103 mc_X10_start (m_start hM hA (z := 0) (w := 1) (by omega) (by omega)) kc_13 hM.k rfl rfl ⟨Nat.le_of_ble_eq_true rfl, Nat.le_of_ble_eq_true rfl⟩ (Nat.le_of_ble_eq_true rfl) (by show _ ≤ 1 ∧ _ ≤ 9; omega) (fun r_ G M2 hq_ => ?_)
    obtain ⟨rfl, rfl, e2⟩ := hq_
    rw [if_pos rfl] at e2
    have hMn : RM G M2 Q A D I := by rw [e2]; exact hM.th
    clear hM
    have hM := hMn
    clear hMn
    have hK2 : Kp G M2 G M2 := Kp.rf
    refine pw_ifL_nen (tgt := 36) C dX10_ofTake_10 (by decide) rfl ?_
    refine pw_aload_n C dX10_ofTake_13 rfl ?_
    refine pw_iload_n C dX10_ofTake_14 rfl ?_
    refine pw_iconst C dX10_ofTake_15 ?_
    refine pw_bipush C dX10_ofTake_16 rfl ?_
    refine pw_cSE C hX dX10_ofTake_18 ml_X10_37 mc_X10_isIn (m_isIn (v := w) (lo := 0) (hi := 8) (by omega) (by omega) (by omega)) rfl rfl ⟨Nat.le_of_ble_eq_true rfl, Nat.le_of_ble_eq_true rfl⟩ (Nat.le_of_ble_eq_true rfl) (by show _ ≤ 1 ∧ _ ≤ 9; omega) ?_
    refine pw_ifB_ne (tgt := 28) C dX10_ofTake_21 (by decide) (fun c_21 => ?_) (fun c_21 => ?_)
    · skip
      refine pw_iconst C dX10_ofTake_28 ?_
      refine pw_iconst C dX10_ofTake_29 ?_
      refine pw_cVI C hX dX10_ofTake_30 ml_X10_29 mc_X10_refuse (m_refuse hM hA (z := 0) (w := 2) (by omega) (by omega) (by rw [e2, mup_s])) kc_13 hM.k rfl rfl ⟨Nat.le_of_ble_eq_true rfl, Nat.le_of_ble_eq_true rfl⟩ (Nat.le_of_ble_eq_true rfl) (by show _ ≤ 1 ∧ _ ≤ 9; omega) (fun r_ G M3 hq_ => ?_)
      obtain ⟨rfl, rfl, e3⟩ := hq_
      rw [if_pos rfl] at e3
      have hMn : RM G M3 Q A D I := by rw [e3]; exact hM.th
      rw [e2, mup_mup] at e3
      clear hM
      have hM := hMn
      clear hMn
      have hK3 : Kp G M3 G M3 := Kp.rf
      refine pw_ifL_eq (tgt := 40) C dX10_ofTake_33 (by decide) rfl ?_
      refine pw_aload_n C dX10_ofTake_40 rfl ?_
      refine pw_iload_n C dX10_ofTake_41 rfl ?_
      refine pw_iload_n C dX10_ofTake_42 rfl ?_
      refine pw_cVI C hX dX10_ofTake_43 ml_X10_241 mc_X10_ofTakeNow (m_ofTakeNow hM hA hW (t := t) (w := w) (by omega) (by omega)) kc_13 hM.k rfl rfl ⟨Nat.le_of_ble_eq_true rfl, Nat.le_of_ble_eq_true rfl⟩ (Nat.le_of_ble_eq_true rfl) (by show _ ≤ 1 ∧ _ ≤ 9; omega) (fun r_ G4 M5 hq_ => ?_)
      obtain ⟨rfl, hk_⟩ := hq_
      have hK5 := hK3.tr hk_
      have hM5 := hM.kp hK5
      clear hk_
      exact pw_iret C hR dX10_ofTake_46 ((by have hcd : cd2 (0 ≤ t ∧ t < A 0 0 1) (0 ≤ w ∧ w ≤ 8) = 0 := (by unfold cd2; first | rw [if_pos (by omega)] | rw [if_neg (by omega), if_pos (by omega)] | rw [if_neg (by omega), if_neg (by omega)] | rw [if_neg (by omega)]); exact ⟨_, rfl, by rw [hcd, ← e3]; exact hK5, fun _ => rfl⟩)) (by show _ ≤ 1; omega) (by show _ ≤ 9; omega)
    · skip
      refine pw_iconst C dX10_ofTake_24 ?_
      refine pw_goto (tgt := 29) C dX10_ofTake_25 (by decide) ?_
      refine pw_iconst C dX10_ofTake_29 ?_
      refine pw_cVI C hX dX10_ofTake_30 ml_X10_29 mc_X10_refuse (m_refuse hM hA (z := 1) (w := 2) (by omega) (by omega) (by rw [e2, mup_s])) kc_13 hM.k rfl rfl ⟨Nat.le_of_ble_eq_true rfl, Nat.le_of_ble_eq_true rfl⟩ (Nat.le_of_ble_eq_true rfl) (by show _ ≤ 1 ∧ _ ≤ 9; omega) (fun r_ G M6 hq_ => ?_)
      obtain ⟨rfl, rfl, e6⟩ := hq_
      rw [if_neg (by decide)] at e6
      have hMn : RM G M6 Q A D I := by rw [e6]; exact hM.th
      rw [e2, mup_mup] at e6
      clear hM
      have hM := hMn
      clear hMn
      have hK6 : Kp G M6 G M6 := Kp.rf
      refine pw_ifL_eqn (tgt := 40) C dX10_ofTake_33 (by decide) rfl ?_
      refine pw_iconst C dX10_ofTake_36 ?_
      refine pw_goto (tgt := 46) C dX10_ofTake_37 (by decide) ?_
      exact pw_iret C hR dX10_ofTake_46 ((by have hcd : cd2 (0 ≤ t ∧ t < A 0 0 1) (0 ≤ w ∧ w ≤ 8) = 2 := (by unfold cd2; first | rw [if_pos (by omega)] | rw [if_neg (by omega), if_pos (by omega)] | rw [if_neg (by omega), if_neg (by omega)] | rw [if_neg (by omega)]); exact ⟨_, rfl, by rw [hcd, ← e6]; exact hK6, fun h => by rw [hcd] at h; omega⟩)) (by show _ ≤ 1; omega) (by show _ ≤ 9; omega)

set_option maxHeartbeats 4000000 in
set_option maxRecDepth 100000 in
theorem m_says {X : Xv} {G M : Mm} {Q : Int} {A : An} {D : Fn} {I : Int → Int} (hM : RM G M Q A D I) (hA : AB A) (hW : WF A) {t f : Int} (r_t : -2147483648 ≤ t ∧ t ≤ 2147483647) (r_f : -2147483648 ≤ f ∧ f ≤ 2147483647) : CT X yX10_says prog_8_method_45_code 3 (some .int) 4 86 0 0 [vR Q, vI t, vI f] G M (PI (fun r G1 M1 => Kp G (mup M 0 240 Q (cd1 ((0 ≤ t ∧ t < A 0 0 1) ∧ 0 ≤ f ∧ f < 4))) G1 M1 ∧ (cd1 ((0 ≤ t ∧ t < A 0 0 1) ∧ 0 ≤ f ∧ f < 4) = 0 → r = A (200 + t) 0 f))) := by
  refine CT.by (by decide +kernel) [1, 1, 1] ⟨cat_vR _, cat_vI _, cat_vI _, trivial⟩ (Nat.le_of_ble_eq_true rfl) (fun E hX C hR hIni => ?_)
  have hn := hA.n
  have hnS := hA.so.c
  refine pw_aload_n C dX10_says_0 rfl ?_
  refine pw_aload_n C dX10_says_1 rfl ?_
  refine pw_iload_n C dX10_says_2 rfl ?_
  refine pw_cVE C hX dX10_says_3 ml_X10_178 mc_X10_isNoTake (m_isNoTake hM hA (i := t) (by omega)) kc_13 hM.k rfl rfl ⟨Nat.le_of_ble_eq_true rfl, Nat.le_of_ble_eq_true rfl⟩ (Nat.le_of_ble_eq_true rfl) (by show _ ≤ 0 ∧ _ ≤ 0; omega) ?_
  refine pw_ifB_ne (tgt := 18) C dX10_says_6 (by decide) (fun c_6 => ?_) (fun c_6 => ?_)
  · skip
    refine pw_iconst C dX10_says_18 ?_
    refine pw_goto (tgt := 23) C dX10_says_19 (by decide) ?_
    refine pw_iconst C dX10_says_23 ?_
    refine pw_cVI C hX dX10_says_24 ml_X10_103 mc_X10_start (m_start hM hA (z := 1) (w := 1) (by omega) (by omega)) kc_13 hM.k rfl rfl ⟨Nat.le_of_ble_eq_true rfl, Nat.le_of_ble_eq_true rfl⟩ (Nat.le_of_ble_eq_true rfl) (by show _ ≤ 0 ∧ _ ≤ 0; omega) (fun r_ G M1 hq_ => ?_)
    obtain ⟨rfl, rfl, e1⟩ := hq_
    rw [if_neg (by decide)] at e1
    have hMn : RM G M1 Q A D I := by rw [e1]; exact hM.th
    clear hM
    have hM := hMn
    clear hMn
    have hK1 : Kp G M1 G M1 := Kp.rf
    refine pw_ifL_eqn (tgt := 34) C dX10_says_27 (by decide) rfl ?_
    refine pw_iconst C dX10_says_30 ?_
    refine pw_goto (tgt := 40) C dX10_says_31 (by decide) ?_
    exact pw_iret C hR dX10_says_40 ((by have hcd : cd1 ((0 ≤ t ∧ t < A 0 0 1) ∧ 0 ≤ f ∧ f < 4) = 1 := (by unfold cd1; first | rw [if_pos (by omega)] | rw [if_neg (by omega)]); exact ⟨_, rfl, by rw [hcd, ← e1]; exact hK1, fun h => by rw [hcd] at h; omega⟩)) (by omega) (by omega)
  · skip
    refine pw_iload_n C dX10_says_9 rfl ?_
    refine pw_iconst C dX10_says_10 ?_
    refine pw_iconst C dX10_says_11 ?_
    refine pw_cSE C hX dX10_says_12 ml_X10_37 mc_X10_isIn (m_isIn (v := f) (lo := 0) (hi := 3) (by omega) (by omega) (by omega)) rfl rfl ⟨Nat.le_of_ble_eq_true rfl, Nat.le_of_ble_eq_true rfl⟩ (Nat.le_of_ble_eq_true rfl) (by show _ ≤ 0 ∧ _ ≤ 0; omega) ?_
    refine pw_ifB_ne (tgt := 22) C dX10_says_15 (by decide) (fun c_15 => ?_) (fun c_15 => ?_)
    · skip
      refine pw_iconst C dX10_says_22 ?_
      refine pw_iconst C dX10_says_23 ?_
      refine pw_cVI C hX dX10_says_24 ml_X10_103 mc_X10_start (m_start hM hA (z := 0) (w := 1) (by omega) (by omega)) kc_13 hM.k rfl rfl ⟨Nat.le_of_ble_eq_true rfl, Nat.le_of_ble_eq_true rfl⟩ (Nat.le_of_ble_eq_true rfl) (by show _ ≤ 0 ∧ _ ≤ 0; omega) (fun r_ G M2 hq_ => ?_)
      obtain ⟨rfl, rfl, e2⟩ := hq_
      rw [if_pos rfl] at e2
      have hMn : RM G M2 Q A D I := by rw [e2]; exact hM.th
      clear hM
      have hM := hMn
      clear hMn
      have hK2 : Kp G M2 G M2 := Kp.rf
      refine pw_ifL_eq (tgt := 34) C dX10_says_27 (by decide) rfl ?_
      refine pw_aload_n C dX10_says_34 rfl ?_
      refine pw_iload_n C dX10_says_35 rfl ?_
      refine pw_iload_n C dX10_says_36 rfl ?_
      refine pw_cVE C hX dX10_says_37 ml_X10_244 mc_X10_saysNow (m_saysNow hM hA hW (t := t) (f := f) (by omega) (by omega)) kc_13 hM.k rfl rfl ⟨Nat.le_of_ble_eq_true rfl, Nat.le_of_ble_eq_true rfl⟩ (Nat.le_of_ble_eq_true rfl) (by show _ ≤ 0 ∧ _ ≤ 0; omega) ?_
      exact pw_iret C hR dX10_says_40 ((by have hcd : cd1 ((0 ≤ t ∧ t < A 0 0 1) ∧ 0 ≤ f ∧ f < 4) = 0 := (by unfold cd1; first | rw [if_pos (by omega)] | rw [if_neg (by omega)]); exact ⟨_, rfl, by rw [hcd, ← e2]; exact hK2, fun _ => rfl⟩)) (by omega) (by omega)
    · skip
      refine pw_iconst C dX10_says_18 ?_
      refine pw_goto (tgt := 23) C dX10_says_19 (by decide) ?_
      refine pw_iconst C dX10_says_23 ?_
      refine pw_cVI C hX dX10_says_24 ml_X10_103 mc_X10_start (m_start hM hA (z := 1) (w := 1) (by omega) (by omega)) kc_13 hM.k rfl rfl ⟨Nat.le_of_ble_eq_true rfl, Nat.le_of_ble_eq_true rfl⟩ (Nat.le_of_ble_eq_true rfl) (by show _ ≤ 0 ∧ _ ≤ 0; omega) (fun r_ G M3 hq_ => ?_)
      obtain ⟨rfl, rfl, e3⟩ := hq_
      rw [if_neg (by decide)] at e3
      have hMn : RM G M3 Q A D I := by rw [e3]; exact hM.th
      clear hM
      have hM := hMn
      clear hMn
      have hK3 : Kp G M3 G M3 := Kp.rf
      refine pw_ifL_eqn (tgt := 34) C dX10_says_27 (by decide) rfl ?_
      refine pw_iconst C dX10_says_30 ?_
      refine pw_goto (tgt := 40) C dX10_says_31 (by decide) ?_
      exact pw_iret C hR dX10_says_40 ((by have hcd : cd1 ((0 ≤ t ∧ t < A 0 0 1) ∧ 0 ≤ f ∧ f < 4) = 1 := (by unfold cd1; first | rw [if_pos (by omega)] | rw [if_neg (by omega)]); exact ⟨_, rfl, by rw [hcd, ← e3]; exact hK3, fun h => by rw [hcd] at h; omega⟩)) (by omega) (by omega)

set_option maxHeartbeats 4000000 in
set_option maxRecDepth 100000 in
theorem m_state {X : Xv} {G M : Mm} {Q : Int} {A : An} {D : Fn} {I : Int → Int} (hM : RM G M Q A D I) (hA : AB A) (hW : WF A) {l t : Int} (r_l : -2147483648 ≤ l ∧ l ≤ 2147483647) (r_t : -2147483648 ≤ t ∧ t ≤ 2147483647) : CT X yX10_state prog_8_method_48_code 3 (some .int) 5 110 0 0 [vR Q, vI l, vI t] G M (PI (fun r G1 M1 => Kp G (mup M 0 240 Q (cd1 ((0 ≤ l ∧ l < A 0 0 2) ∧ 0 ≤ t ∧ t < A 0 0 1))) G1 M1 ∧ (cd1 ((0 ≤ l ∧ l < A 0 0 2) ∧ 0 ≤ t ∧ t < A 0 0 1) = 0 → r = stt A l t))) := by
  refine CT.by (by decide +kernel) [1, 1, 1] ⟨cat_vR _, cat_vI _, cat_vI _, trivial⟩ (Nat.le_of_ble_eq_true rfl) (fun E hX C hR hIni => ?_)
  have hn := hA.n
  have hnS := hA.so.c
  refine pw_aload_n C dX10_state_0 rfl ?_
  refine pw_aload_n C dX10_state_1 rfl ?_
  refine pw_iload_n C dX10_state_2 rfl ?_
  refine pw_cVE C hX dX10_state_3 ml_X10_133 mc_X10_isNoLine (m_isNoLine hM hA (i := l) (by omega)) kc_13 hM.k rfl rfl ⟨Nat.le_of_ble_eq_true rfl, Nat.le_of_ble_eq_true rfl⟩ (Nat.le_of_ble_eq_true rfl) (by show _ ≤ 0 ∧ _ ≤ 0; omega) ?_
  refine pw_ifB_ne (tgt := 17) C dX10_state_6 (by decide) (fun c_6 => ?_) (fun c_6 => ?_)
  · skip
    refine pw_iconst C dX10_state_17 ?_
    refine pw_goto (tgt := 22) C dX10_state_18 (by decide) ?_
    refine pw_iconst C dX10_state_22 ?_
    refine pw_cVI C hX dX10_state_23 ml_X10_103 mc_X10_start (m_start hM hA (z := 1) (w := 1) (by omega) (by omega)) kc_13 hM.k rfl rfl ⟨Nat.le_of_ble_eq_true rfl, Nat.le_of_ble_eq_true rfl⟩ (Nat.le_of_ble_eq_true rfl) (by show _ ≤ 0 ∧ _ ≤ 0; omega) (fun r_ G M1 hq_ => ?_)
    obtain ⟨rfl, rfl, e1⟩ := hq_
    rw [if_neg (by decide)] at e1
    have hMn : RM G M1 Q A D I := by rw [e1]; exact hM.th
    clear hM
    have hM := hMn
    clear hMn
    have hK1 : Kp G M1 G M1 := Kp.rf
    refine pw_ifL_eqn (tgt := 33) C dX10_state_26 (by decide) rfl ?_
    refine pw_iconst C dX10_state_29 ?_
    refine pw_goto (tgt := 39) C dX10_state_30 (by decide) ?_
    exact pw_iret C hR dX10_state_39 ((by have hcd : cd1 ((0 ≤ l ∧ l < A 0 0 2) ∧ 0 ≤ t ∧ t < A 0 0 1) = 1 := (by unfold cd1; first | rw [if_pos (by omega)] | rw [if_neg (by omega)]); exact ⟨_, rfl, by rw [hcd, ← e1]; exact hK1, fun h => by rw [hcd] at h; omega⟩)) (by omega) (by omega)
  · skip
    refine pw_aload_n C dX10_state_9 rfl ?_
    refine pw_iload_n C dX10_state_10 rfl ?_
    refine pw_cVE C hX dX10_state_11 ml_X10_178 mc_X10_isNoTake (m_isNoTake hM hA (i := t) (by omega)) kc_13 hM.k rfl rfl ⟨Nat.le_of_ble_eq_true rfl, Nat.le_of_ble_eq_true rfl⟩ (Nat.le_of_ble_eq_true rfl) (by show _ ≤ 0 ∧ _ ≤ 0; omega) ?_
    refine pw_ifB_eq (tgt := 21) C dX10_state_14 (by decide) (fun c_14 => ?_) (fun c_14 => ?_)
    · skip
      refine pw_iconst C dX10_state_21 ?_
      refine pw_iconst C dX10_state_22 ?_
      refine pw_cVI C hX dX10_state_23 ml_X10_103 mc_X10_start (m_start hM hA (z := 0) (w := 1) (by omega) (by omega)) kc_13 hM.k rfl rfl ⟨Nat.le_of_ble_eq_true rfl, Nat.le_of_ble_eq_true rfl⟩ (Nat.le_of_ble_eq_true rfl) (by show _ ≤ 0 ∧ _ ≤ 0; omega) (fun r_ G M2 hq_ => ?_)
      obtain ⟨rfl, rfl, e2⟩ := hq_
      rw [if_pos rfl] at e2
      have hMn : RM G M2 Q A D I := by rw [e2]; exact hM.th
      clear hM
      have hM := hMn
      clear hMn
      have hK2 : Kp G M2 G M2 := Kp.rf
      refine pw_ifL_eq (tgt := 33) C dX10_state_26 (by decide) rfl ?_
      refine pw_aload_n C dX10_state_33 rfl ?_
      refine pw_iload_n C dX10_state_34 rfl ?_
      refine pw_iload_n C dX10_state_35 rfl ?_
      refine pw_cVE C hX dX10_state_36 ml_X10_254 mc_X10_stateNow (m_stateNow hM hA hW (l := l) (t := t) (by omega) (by omega)) kc_13 hM.k rfl rfl ⟨Nat.le_of_ble_eq_true rfl, Nat.le_of_ble_eq_true rfl⟩ (Nat.le_of_ble_eq_true rfl) (by show _ ≤ 0 ∧ _ ≤ 0; omega) ?_
      have b_stt53 := stt_bd (A := A) (l := l) (t := t)
      exact pw_iret C hR dX10_state_39 ((by have hcd : cd1 ((0 ≤ l ∧ l < A 0 0 2) ∧ 0 ≤ t ∧ t < A 0 0 1) = 0 := (by unfold cd1; first | rw [if_pos (by omega)] | rw [if_neg (by omega)]); exact ⟨_, rfl, by rw [hcd, ← e2]; exact hK2, fun _ => rfl⟩)) (by omega) (by omega)
    · skip
      refine pw_iconst C dX10_state_17 ?_
      refine pw_goto (tgt := 22) C dX10_state_18 (by decide) ?_
      refine pw_iconst C dX10_state_22 ?_
      refine pw_cVI C hX dX10_state_23 ml_X10_103 mc_X10_start (m_start hM hA (z := 1) (w := 1) (by omega) (by omega)) kc_13 hM.k rfl rfl ⟨Nat.le_of_ble_eq_true rfl, Nat.le_of_ble_eq_true rfl⟩ (Nat.le_of_ble_eq_true rfl) (by show _ ≤ 0 ∧ _ ≤ 0; omega) (fun r_ G M3 hq_ => ?_)
      obtain ⟨rfl, rfl, e3⟩ := hq_
      rw [if_neg (by decide)] at e3
      have hMn : RM G M3 Q A D I := by rw [e3]; exact hM.th
      clear hM
      have hM := hMn
      clear hMn
      have hK3 : Kp G M3 G M3 := Kp.rf
      refine pw_ifL_eqn (tgt := 33) C dX10_state_26 (by decide) rfl ?_
      refine pw_iconst C dX10_state_29 ?_
      refine pw_goto (tgt := 39) C dX10_state_30 (by decide) ?_
      exact pw_iret C hR dX10_state_39 ((by have hcd : cd1 ((0 ≤ l ∧ l < A 0 0 2) ∧ 0 ≤ t ∧ t < A 0 0 1) = 1 := (by unfold cd1; first | rw [if_pos (by omega)] | rw [if_neg (by omega)]); exact ⟨_, rfl, by rw [hcd, ← e3]; exact hK3, fun h => by rw [hcd] at h; omega⟩)) (by omega) (by omega)

set_option maxHeartbeats 4000000 in
set_option maxRecDepth 100000 in
theorem m_tells {X : Xv} {G M : Mm} {Q : Int} {A : An} {D : Fn} {I : Int → Int} (hM : RM G M Q A D I) (hA : AB A) (hW : WF A) {l s f : Int} (r_l : -2147483648 ≤ l ∧ l ≤ 2147483647) (r_s : -2147483648 ≤ s ∧ s ≤ 2147483647) (r_f : -2147483648 ≤ f ∧ f ≤ 2147483647) : CT X yX10_tells prog_8_method_50_code 4 (some .int) 6 134 0 0 [vR Q, vI l, vI s, vI f] G M (PI (fun r G1 M1 => Kp G (mup M 0 240 Q (cd1 ((0 ≤ l ∧ l < A 0 0 2) ∧ (0 ≤ s ∧ s < A 0 0 0) ∧ 0 ≤ f ∧ f < 4))) G1 M1 ∧ (cd1 ((0 ≤ l ∧ l < A 0 0 2) ∧ (0 ≤ s ∧ s < A 0 0 0) ∧ 0 ≤ f ∧ f < 4) = 0 → r = tld A l s f))) := by
  refine CT.by (by decide +kernel) [1, 1, 1, 1] ⟨cat_vR _, cat_vI _, cat_vI _, cat_vI _, trivial⟩ (Nat.le_of_ble_eq_true rfl) (fun E hX C hR hIni => ?_)
  have hn := hA.n
  have hnS := hA.so.c
  refine pw_aload_n C dX10_tells_0 rfl ?_
  refine pw_aload_n C dX10_tells_1 rfl ?_
  refine pw_iload_n C dX10_tells_2 rfl ?_
  refine pw_cVE C hX dX10_tells_3 ml_X10_133 mc_X10_isNoLine (m_isNoLine hM hA (i := l) (by omega)) kc_13 hM.k rfl rfl ⟨Nat.le_of_ble_eq_true rfl, Nat.le_of_ble_eq_true rfl⟩ (Nat.le_of_ble_eq_true rfl) (by show _ ≤ 0 ∧ _ ≤ 0; omega) ?_
  refine pw_ifB_ne (tgt := 18) C dX10_tells_6 (by decide) (fun c_6 => ?_) (fun c_6 => ?_)
  · skip
    refine pw_iconst C dX10_tells_18 ?_
    refine pw_goto (tgt := 23) C dX10_tells_19 (by decide) ?_
    refine pw_iconst C dX10_tells_23 ?_
    refine pw_cVI C hX dX10_tells_24 ml_X10_103 mc_X10_start (m_start hM hA (z := 1) (w := 1) (by omega) (by omega)) kc_13 hM.k rfl rfl ⟨Nat.le_of_ble_eq_true rfl, Nat.le_of_ble_eq_true rfl⟩ (Nat.le_of_ble_eq_true rfl) (by show _ ≤ 0 ∧ _ ≤ 0; omega) (fun r_ G M1 hq_ => ?_)
    obtain ⟨rfl, rfl, e1⟩ := hq_
    rw [if_neg (by decide)] at e1
    have hMn : RM G M1 Q A D I := by rw [e1]; exact hM.th
    clear hM
    have hM := hMn
    clear hMn
    have hK1 : Kp G M1 G M1 := Kp.rf
    refine pw_ifL_eqn (tgt := 34) C dX10_tells_27 (by decide) rfl ?_
    refine pw_iconst C dX10_tells_30 ?_
    refine pw_goto (tgt := 41) C dX10_tells_31 (by decide) ?_
    exact pw_iret C hR dX10_tells_41 ((by have hcd : cd1 ((0 ≤ l ∧ l < A 0 0 2) ∧ (0 ≤ s ∧ s < A 0 0 0) ∧ 0 ≤ f ∧ f < 4) = 1 := (by unfold cd1; first | rw [if_pos (by omega)] | rw [if_neg (by omega)]); exact ⟨_, rfl, by rw [hcd, ← e1]; exact hK1, fun h => by rw [hcd] at h; omega⟩)) (by omega) (by omega)
  · skip
    refine pw_aload_n C dX10_tells_9 rfl ?_
    refine pw_iload_n C dX10_tells_10 rfl ?_
    refine pw_iload_n C dX10_tells_11 rfl ?_
    refine pw_cVE C hX dX10_tells_12 ml_X10_119 mc_X10_isNoFact (m_isNoFact hM hA (s := s) (f := f) (by omega) (by omega)) kc_13 hM.k rfl rfl ⟨Nat.le_of_ble_eq_true rfl, Nat.le_of_ble_eq_true rfl⟩ (Nat.le_of_ble_eq_true rfl) (by show _ ≤ 0 ∧ _ ≤ 0; omega) ?_
    refine pw_ifB_eq (tgt := 22) C dX10_tells_15 (by decide) (fun c_15 => ?_) (fun c_15 => ?_)
    · skip
      refine pw_iconst C dX10_tells_22 ?_
      refine pw_iconst C dX10_tells_23 ?_
      refine pw_cVI C hX dX10_tells_24 ml_X10_103 mc_X10_start (m_start hM hA (z := 0) (w := 1) (by omega) (by omega)) kc_13 hM.k rfl rfl ⟨Nat.le_of_ble_eq_true rfl, Nat.le_of_ble_eq_true rfl⟩ (Nat.le_of_ble_eq_true rfl) (by show _ ≤ 0 ∧ _ ≤ 0; omega) (fun r_ G M2 hq_ => ?_)
      obtain ⟨rfl, rfl, e2⟩ := hq_
      rw [if_pos rfl] at e2
      have hMn : RM G M2 Q A D I := by rw [e2]; exact hM.th
      clear hM
      have hM := hMn
      clear hMn
      have hK2 : Kp G M2 G M2 := Kp.rf
      refine pw_ifL_eq (tgt := 34) C dX10_tells_27 (by decide) rfl ?_
      refine pw_aload_n C dX10_tells_34 rfl ?_
      refine pw_iload_n C dX10_tells_35 rfl ?_
      refine pw_iload_n C dX10_tells_36 rfl ?_
      refine pw_iload_n C dX10_tells_37 rfl ?_
      refine pw_cVE C hX dX10_tells_38 ml_X10_257 mc_X10_tellsNow (m_tellsNow hM hA hW (l := l) (s := s) (f := f) (by omega) (by omega) (by omega)) kc_13 hM.k rfl rfl ⟨Nat.le_of_ble_eq_true rfl, Nat.le_of_ble_eq_true rfl⟩ (Nat.le_of_ble_eq_true rfl) (by show _ ≤ 0 ∧ _ ≤ 0; omega) ?_
      have b_tld54 := tld_bd (l := l) (s := s) (f := f) hA (by omega)
      exact pw_iret C hR dX10_tells_41 ((by have hcd : cd1 ((0 ≤ l ∧ l < A 0 0 2) ∧ (0 ≤ s ∧ s < A 0 0 0) ∧ 0 ≤ f ∧ f < 4) = 0 := (by unfold cd1; first | rw [if_pos (by omega)] | rw [if_neg (by omega)]); exact ⟨_, rfl, by rw [hcd, ← e2]; exact hK2, fun _ => rfl⟩)) (by omega) (by omega)
    · skip
      refine pw_iconst C dX10_tells_18 ?_
      refine pw_goto (tgt := 23) C dX10_tells_19 (by decide) ?_
      refine pw_iconst C dX10_tells_23 ?_
      refine pw_cVI C hX dX10_tells_24 ml_X10_103 mc_X10_start (m_start hM hA (z := 1) (w := 1) (by omega) (by omega)) kc_13 hM.k rfl rfl ⟨Nat.le_of_ble_eq_true rfl, Nat.le_of_ble_eq_true rfl⟩ (Nat.le_of_ble_eq_true rfl) (by show _ ≤ 0 ∧ _ ≤ 0; omega) (fun r_ G M3 hq_ => ?_)
      obtain ⟨rfl, rfl, e3⟩ := hq_
      rw [if_neg (by decide)] at e3
      have hMn : RM G M3 Q A D I := by rw [e3]; exact hM.th
      clear hM
      have hM := hMn
      clear hMn
      have hK3 : Kp G M3 G M3 := Kp.rf
      refine pw_ifL_eqn (tgt := 34) C dX10_tells_27 (by decide) rfl ?_
      refine pw_iconst C dX10_tells_30 ?_
      refine pw_goto (tgt := 41) C dX10_tells_31 (by decide) ?_
      exact pw_iret C hR dX10_tells_41 ((by have hcd : cd1 ((0 ≤ l ∧ l < A 0 0 2) ∧ (0 ≤ s ∧ s < A 0 0 0) ∧ 0 ≤ f ∧ f < 4) = 1 := (by unfold cd1; first | rw [if_pos (by omega)] | rw [if_neg (by omega)]); exact ⟨_, rfl, by rw [hcd, ← e3]; exact hK3, fun h => by rw [hcd] at h; omega⟩)) (by omega) (by omega)

set_option maxHeartbeats 4000000 in
set_option maxRecDepth 100000 in
theorem m_ofLine {X : Xv} {G M : Mm} {Q : Int} {A : An} {D : Fn} {I : Int → Int} (hM : RM G M Q A D I) (hA : AB A) (hW : WF A) {l w : Int} (r_l : -2147483648 ≤ l ∧ l ≤ 2147483647) (r_w : -2147483648 ≤ w ∧ w ≤ 2147483647) : CT X yX10_ofLine prog_8_method_54_code 3 (some .int) 9 208 0 0 [vR Q, vI l, vI w] G M (PI (fun r G1 M1 => Kp G (mup M 0 240 Q (cd2 (0 ≤ l ∧ l < A 0 0 2) (0 ≤ w ∧ w ≤ 7))) G1 M1 ∧ (cd2 (0 ≤ l ∧ l < A 0 0 2) (0 ≤ w ∧ w ≤ 7) = 0 → r = oLi A l w))) := by
  refine CT.by (by decide +kernel) [1, 1, 1] ⟨cat_vR _, cat_vI _, cat_vI _, trivial⟩ (Nat.le_of_ble_eq_true rfl) (fun E hX C hR hIni => ?_)
  have hn := hA.n
  have hnS := hA.so.c
  refine pw_aload_n C dX10_ofLine_0 rfl ?_
  refine pw_aload_n C dX10_ofLine_1 rfl ?_
  refine pw_iload_n C dX10_ofLine_2 rfl ?_
  refine pw_cVE C hX dX10_ofLine_3 ml_X10_133 mc_X10_isNoLine (m_isNoLine hM hA (i := l) (by omega)) kc_13 hM.k rfl rfl ⟨Nat.le_of_ble_eq_true rfl, Nat.le_of_ble_eq_true rfl⟩ (Nat.le_of_ble_eq_true rfl) (by show _ ≤ 0 ∧ _ ≤ 0; omega) ?_
  refine pw_iconst C dX10_ofLine_6 ?_
  by_cases cz_7 : ¬ (0 ≤ l ∧ l < A 0 0 2)
  · skip
    rw [bI_t cz_7]
    refine pw_cVI C hX dX10_ofLine_7 ml_X10_103 mc_X10_start (m_start hM hA (z := 1) (w := 1) (by omega) (by omega)) kc_13 hM.k rfl rfl ⟨Nat.le_of_ble_eq_true rfl, Nat.le_of_ble_eq_true rfl⟩ (Nat.le_of_ble_eq_true rfl) (by show _ ≤ 0 ∧ _ ≤ 0; omega) (fun r_ G M1 hq_ => ?_)
    obtain ⟨rfl, rfl, e1⟩ := hq_
    rw [if_neg (by decide)] at e1
    have hMn : RM G M1 Q A D I := by rw [e1]; exact hM.th
    clear hM
    have hM := hMn
    clear hMn
    have hK1 : Kp G M1 G M1 := Kp.rf
    refine pw_ifL_ne (tgt := 36) C dX10_ofLine_10 (by decide) rfl ?_
    refine pw_iconst C dX10_ofLine_36 ?_
    refine pw_goto (tgt := 46) C dX10_ofLine_37 (by decide) ?_
    exact pw_iret C hR dX10_ofLine_46 ((by have hcd : cd2 (0 ≤ l ∧ l < A 0 0 2) (0 ≤ w ∧ w ≤ 7) = 1 := (by unfold cd2; first | rw [if_pos (by omega)] | rw [if_neg (by omega), if_pos (by omega)] | rw [if_neg (by omega), if_neg (by omega)] | rw [if_neg (by omega)]); exact ⟨_, rfl, by rw [hcd, ← e1]; exact hK1, fun h => by rw [hcd] at h; omega⟩)) (by omega) (by omega)
  · skip
    rw [bI_f cz_7]
    refine pw_cVI C hX dX10_ofLine_7 ml_X10_103 mc_X10_start (m_start hM hA (z := 0) (w := 1) (by omega) (by omega)) kc_13 hM.k rfl rfl ⟨Nat.le_of_ble_eq_true rfl, Nat.le_of_ble_eq_true rfl⟩ (Nat.le_of_ble_eq_true rfl) (by show _ ≤ 0 ∧ _ ≤ 0; omega) (fun r_ G M2 hq_ => ?_)
    obtain ⟨rfl, rfl, e2⟩ := hq_
    rw [if_pos rfl] at e2
    have hMn : RM G M2 Q A D I := by rw [e2]; exact hM.th
    clear hM
    have hM := hMn
    clear hMn
    have hK2 : Kp G M2 G M2 := Kp.rf
    refine pw_ifL_nen (tgt := 36) C dX10_ofLine_10 (by decide) rfl ?_
    refine pw_aload_n C dX10_ofLine_13 rfl ?_
    refine pw_iload_n C dX10_ofLine_14 rfl ?_
    refine pw_iconst C dX10_ofLine_15 ?_
    refine pw_bipush C dX10_ofLine_16 rfl ?_
    refine pw_cSE C hX dX10_ofLine_18 ml_X10_37 mc_X10_isIn (m_isIn (v := w) (lo := 0) (hi := 7) (by omega) (by omega) (by omega)) rfl rfl ⟨Nat.le_of_ble_eq_true rfl, Nat.le_of_ble_eq_true rfl⟩ (Nat.le_of_ble_eq_true rfl) (by show _ ≤ 0 ∧ _ ≤ 0; omega) ?_
    refine pw_ifB_ne (tgt := 28) C dX10_ofLine_21 (by decide) (fun c_21 => ?_) (fun c_21 => ?_)
    · skip
      refine pw_iconst C dX10_ofLine_28 ?_
      refine pw_iconst C dX10_ofLine_29 ?_
      refine pw_cVI C hX dX10_ofLine_30 ml_X10_29 mc_X10_refuse (m_refuse hM hA (z := 0) (w := 2) (by omega) (by omega) (by rw [e2, mup_s])) kc_13 hM.k rfl rfl ⟨Nat.le_of_ble_eq_true rfl, Nat.le_of_ble_eq_true rfl⟩ (Nat.le_of_ble_eq_true rfl) (by show _ ≤ 0 ∧ _ ≤ 0; omega) (fun r_ G M3 hq_ => ?_)
      obtain ⟨rfl, rfl, e3⟩ := hq_
      rw [if_pos rfl] at e3
      have hMn : RM G M3 Q A D I := by rw [e3]; exact hM.th
      rw [e2, mup_mup] at e3
      clear hM
      have hM := hMn
      clear hMn
      have hK3 : Kp G M3 G M3 := Kp.rf
      refine pw_ifL_eq (tgt := 40) C dX10_ofLine_33 (by decide) rfl ?_
      refine pw_aload_n C dX10_ofLine_40 rfl ?_
      refine pw_iload_n C dX10_ofLine_41 rfl ?_
      refine pw_iload_n C dX10_ofLine_42 rfl ?_
      refine pw_cVE C hX dX10_ofLine_43 ml_X10_277 mc_X10_ofLineNow (m_ofLineNow hM hA hW (l := l) (w := w) (by omega) (by omega)) kc_13 hM.k rfl rfl ⟨Nat.le_of_ble_eq_true rfl, Nat.le_of_ble_eq_true rfl⟩ (Nat.le_of_ble_eq_true rfl) (by show _ ≤ 0 ∧ _ ≤ 0; omega) ?_
      exact pw_iret C hR dX10_ofLine_46 ((by have hcd : cd2 (0 ≤ l ∧ l < A 0 0 2) (0 ≤ w ∧ w ≤ 7) = 0 := (by unfold cd2; first | rw [if_pos (by omega)] | rw [if_neg (by omega), if_pos (by omega)] | rw [if_neg (by omega), if_neg (by omega)] | rw [if_neg (by omega)]); exact ⟨_, rfl, by rw [hcd, ← e3]; exact hK3, fun _ => rfl⟩)) (by omega) (by omega)
    · skip
      refine pw_iconst C dX10_ofLine_24 ?_
      refine pw_goto (tgt := 29) C dX10_ofLine_25 (by decide) ?_
      refine pw_iconst C dX10_ofLine_29 ?_
      refine pw_cVI C hX dX10_ofLine_30 ml_X10_29 mc_X10_refuse (m_refuse hM hA (z := 1) (w := 2) (by omega) (by omega) (by rw [e2, mup_s])) kc_13 hM.k rfl rfl ⟨Nat.le_of_ble_eq_true rfl, Nat.le_of_ble_eq_true rfl⟩ (Nat.le_of_ble_eq_true rfl) (by show _ ≤ 0 ∧ _ ≤ 0; omega) (fun r_ G M4 hq_ => ?_)
      obtain ⟨rfl, rfl, e4⟩ := hq_
      rw [if_neg (by decide)] at e4
      have hMn : RM G M4 Q A D I := by rw [e4]; exact hM.th
      rw [e2, mup_mup] at e4
      clear hM
      have hM := hMn
      clear hMn
      have hK4 : Kp G M4 G M4 := Kp.rf
      refine pw_ifL_eqn (tgt := 40) C dX10_ofLine_33 (by decide) rfl ?_
      refine pw_iconst C dX10_ofLine_36 ?_
      refine pw_goto (tgt := 46) C dX10_ofLine_37 (by decide) ?_
      exact pw_iret C hR dX10_ofLine_46 ((by have hcd : cd2 (0 ≤ l ∧ l < A 0 0 2) (0 ≤ w ∧ w ≤ 7) = 2 := (by unfold cd2; first | rw [if_pos (by omega)] | rw [if_neg (by omega), if_pos (by omega)] | rw [if_neg (by omega), if_neg (by omega)] | rw [if_neg (by omega)]); exact ⟨_, rfl, by rw [hcd, ← e4]; exact hK4, fun h => by rw [hcd] at h; omega⟩)) (by omega) (by omega)

set_option maxHeartbeats 4000000 in
set_option maxRecDepth 100000 in
theorem m_many {X : Xv} {G M : Mm} {Q : Int} {A : An} {D : Fn} {I : Int → Int} (hM : RM G M Q A D I) (hA : AB A) (hW : WF A) {w : Int} (r_w : -2147483648 ≤ w ∧ w ≤ 2147483647) : CT X yX10_many prog_8_method_59_code 2 (some .int) 10 228 ((kMn A w).toNat) (4 * (kMn A w).toNat) [vR Q, vI w] G M (PI (fun r G1 M1 => Kp G (mup M 0 240 Q (cd1 (0 ≤ w ∧ w ≤ 10))) G1 M1 ∧ (cd1 (0 ≤ w ∧ w ≤ 10) = 0 → r = mnM A w))) := by
  refine CT.by (by decide +kernel) [1, 1] ⟨cat_vR _, cat_vI _, trivial⟩ (Nat.le_of_ble_eq_true rfl) (fun E hX C hR hIni => ?_)
  have hn := hA.n
  have hnS := hA.so.c
  refine pw_aload_n C dX10_many_0 rfl ?_
  refine pw_iload_n C dX10_many_1 rfl ?_
  refine pw_iconst C dX10_many_2 ?_
  refine pw_bipush C dX10_many_3 rfl ?_
  refine pw_cSE C hX dX10_many_5 ml_X10_37 mc_X10_isIn (m_isIn (v := w) (lo := 0) (hi := 10) (by omega) (by omega) (by omega)) rfl rfl ⟨Nat.le_of_ble_eq_true rfl, Nat.le_of_ble_eq_true rfl⟩ (Nat.le_of_ble_eq_true rfl) (by show _ ≤ (kMn A w).toNat ∧ _ ≤ 4 * (kMn A w).toNat; omega) ?_
  refine pw_ifB_ne (tgt := 15) C dX10_many_8 (by decide) (fun c_8 => ?_) (fun c_8 => ?_)
  · skip
    refine pw_iconst C dX10_many_15 ?_
    refine pw_iconst C dX10_many_16 ?_
    refine pw_cVI C hX dX10_many_17 ml_X10_103 mc_X10_start (m_start hM hA (z := 0) (w := 1) (by omega) (by omega)) kc_13 hM.k rfl rfl ⟨Nat.le_of_ble_eq_true rfl, Nat.le_of_ble_eq_true rfl⟩ (Nat.le_of_ble_eq_true rfl) (by show _ ≤ (kMn A w).toNat ∧ _ ≤ 4 * (kMn A w).toNat; omega) (fun r_ G M1 hq_ => ?_)
    obtain ⟨rfl, rfl, e1⟩ := hq_
    rw [if_pos rfl] at e1
    have hMn : RM G M1 Q A D I := by rw [e1]; exact hM.th
    clear hM
    have hM := hMn
    clear hMn
    have hK1 : Kp G M1 G M1 := Kp.rf
    refine pw_ifL_eq (tgt := 27) C dX10_many_20 (by decide) rfl ?_
    refine pw_aload_n C dX10_many_27 rfl ?_
    refine pw_iload_n C dX10_many_28 rfl ?_
    refine pw_cVI C hX dX10_many_29 ml_X10_288 mc_X10_manyNow (m_manyNow hM hA hW (w := w) (by omega)) kc_13 hM.k rfl rfl ⟨Nat.le_of_ble_eq_true rfl, Nat.le_of_ble_eq_true rfl⟩ (Nat.le_of_ble_eq_true rfl) (by show _ ≤ (kMn A w).toNat ∧ _ ≤ 4 * (kMn A w).toNat; omega) (fun r_ G2 M3 hq_ => ?_)
    obtain ⟨rfl, hk_⟩ := hq_
    have hK3 := hK1.tr hk_
    have hM3 := hM.kp hK3
    clear hk_
    exact pw_iret C hR dX10_many_32 ((by have hcd : cd1 (0 ≤ w ∧ w ≤ 10) = 0 := (by unfold cd1; first | rw [if_pos (by omega)] | rw [if_neg (by omega)]); exact ⟨_, rfl, by rw [hcd, ← e1]; exact hK3, fun _ => rfl⟩)) (by show _ ≤ (kMn A w).toNat; omega) (by show _ ≤ 4 * (kMn A w).toNat; omega)
  · skip
    refine pw_iconst C dX10_many_11 ?_
    refine pw_goto (tgt := 16) C dX10_many_12 (by decide) ?_
    refine pw_iconst C dX10_many_16 ?_
    refine pw_cVI C hX dX10_many_17 ml_X10_103 mc_X10_start (m_start hM hA (z := 1) (w := 1) (by omega) (by omega)) kc_13 hM.k rfl rfl ⟨Nat.le_of_ble_eq_true rfl, Nat.le_of_ble_eq_true rfl⟩ (Nat.le_of_ble_eq_true rfl) (by show _ ≤ (kMn A w).toNat ∧ _ ≤ 4 * (kMn A w).toNat; omega) (fun r_ G M4 hq_ => ?_)
    obtain ⟨rfl, rfl, e4⟩ := hq_
    rw [if_neg (by decide)] at e4
    have hMn : RM G M4 Q A D I := by rw [e4]; exact hM.th
    clear hM
    have hM := hMn
    clear hMn
    have hK4 : Kp G M4 G M4 := Kp.rf
    refine pw_ifL_eqn (tgt := 27) C dX10_many_20 (by decide) rfl ?_
    refine pw_iconst C dX10_many_23 ?_
    refine pw_goto (tgt := 32) C dX10_many_24 (by decide) ?_
    exact pw_iret C hR dX10_many_32 ((by have hcd : cd1 (0 ≤ w ∧ w ≤ 10) = 1 := (by unfold cd1; first | rw [if_pos (by omega)] | rw [if_neg (by omega)]); exact ⟨_, rfl, by rw [hcd, ← e4]; exact hK4, fun h => by rw [hcd] at h; omega⟩)) (by show _ ≤ (kMn A w).toNat; omega) (by show _ ≤ 4 * (kMn A w).toNat; omega)

set_option maxHeartbeats 4000000 in
set_option maxRecDepth 100000 in
theorem m_needs {X : Xv} {G M : Mm} {Q : Int} {A : An} {D : Fn} {I : Int → Int} (hM : RM G M Q A D I) (hA : AB A) (hW : WF A) {s f v w : Int} (r_s : -2147483648 ≤ s ∧ s ≤ 2147483647) (r_f : -2147483648 ≤ f ∧ f ≤ 2147483647) (r_v : -2147483648 ≤ v ∧ v ≤ 2147483647) (r_w : -2147483648 ≤ w ∧ w ≤ 2147483647) : CT X yX10_needs prog_8_method_67_code 5 (some .int) 7 165 0 0 [vR Q, vI s, vI f, vI v, vI w] G M (PI (fun r G1 M1 => Kp G (mup M 0 240 Q (cd2 ((0 ≤ s ∧ s < A 0 0 0) ∧ 0 ≤ f ∧ f < 4) ((0 ≤ v ∧ v ≤ 99) ∧ 1 ≤ w ∧ w ≤ 3))) G1 M1 ∧ (cd2 ((0 ≤ s ∧ s < A 0 0 0) ∧ 0 ≤ f ∧ f < 4) ((0 ≤ v ∧ v ≤ 99) ∧ 1 ≤ w ∧ w ≤ 3) = 0 → r = mNe (A 10) (A (100 + (s * 4 + f))) v w))) := by
  refine CT.by (by decide +kernel) [1, 1, 1, 1, 1] ⟨cat_vR _, cat_vI _, cat_vI _, cat_vI _, cat_vI _, trivial⟩ (Nat.le_of_ble_eq_true rfl) (fun E hX C hR hIni => ?_)
  have hn := hA.n
  have hnS := hA.so.c
  refine pw_aload_n C dX10_needs_0 rfl ?_
  refine pw_aload_n C dX10_needs_1 rfl ?_
  refine pw_iload_n C dX10_needs_2 rfl ?_
  refine pw_iload_n C dX10_needs_3 rfl ?_
  refine pw_cVE C hX dX10_needs_4 ml_X10_119 mc_X10_isNoFact (m_isNoFact hM hA (s := s) (f := f) (by omega) (by omega)) kc_13 hM.k rfl rfl ⟨Nat.le_of_ble_eq_true rfl, Nat.le_of_ble_eq_true rfl⟩ (Nat.le_of_ble_eq_true rfl) (by show _ ≤ 0 ∧ _ ≤ 0; omega) ?_
  refine pw_iconst C dX10_needs_7 ?_
  by_cases cz_8 : ¬ ((0 ≤ s ∧ s < A 0 0 0) ∧ 0 ≤ f ∧ f < 4)
  · skip
    rw [bI_t cz_8]
    refine pw_cVI C hX dX10_needs_8 ml_X10_103 mc_X10_start (m_start hM hA (z := 1) (w := 1) (by omega) (by omega)) kc_13 hM.k rfl rfl ⟨Nat.le_of_ble_eq_true rfl, Nat.le_of_ble_eq_true rfl⟩ (Nat.le_of_ble_eq_true rfl) (by show _ ≤ 0 ∧ _ ≤ 0; omega) (fun r_ G M1 hq_ => ?_)
    obtain ⟨rfl, rfl, e1⟩ := hq_
    rw [if_neg (by decide)] at e1
    have hMn : RM G M1 Q A D I := by rw [e1]; exact hM.th
    clear hM
    have hM := hMn
    clear hMn
    have hK1 : Kp G M1 G M1 := Kp.rf
    refine pw_ifL_ne (tgt := 47) C dX10_needs_11 (by decide) rfl ?_
    refine pw_iconst C dX10_needs_47 ?_
    refine pw_goto (tgt := 60) C dX10_needs_48 (by decide) ?_
    exact pw_iret C hR dX10_needs_60 ((by have hcd : cd2 ((0 ≤ s ∧ s < A 0 0 0) ∧ 0 ≤ f ∧ f < 4) ((0 ≤ v ∧ v ≤ 99) ∧ 1 ≤ w ∧ w ≤ 3) = 1 := (by unfold cd2; first | rw [if_pos (by omega)] | rw [if_neg (by omega), if_pos (by omega)] | rw [if_neg (by omega), if_neg (by omega)] | rw [if_neg (by omega)]); exact ⟨_, rfl, by rw [hcd, ← e1]; exact hK1, fun h => by rw [hcd] at h; omega⟩)) (by omega) (by omega)
  · skip
    rw [bI_f cz_8]
    refine pw_cVI C hX dX10_needs_8 ml_X10_103 mc_X10_start (m_start hM hA (z := 0) (w := 1) (by omega) (by omega)) kc_13 hM.k rfl rfl ⟨Nat.le_of_ble_eq_true rfl, Nat.le_of_ble_eq_true rfl⟩ (Nat.le_of_ble_eq_true rfl) (by show _ ≤ 0 ∧ _ ≤ 0; omega) (fun r_ G M2 hq_ => ?_)
    obtain ⟨rfl, rfl, e2⟩ := hq_
    rw [if_pos rfl] at e2
    have hMn : RM G M2 Q A D I := by rw [e2]; exact hM.th
    clear hM
    have hM := hMn
    clear hMn
    have hK2 : Kp G M2 G M2 := Kp.rf
    refine pw_ifL_nen (tgt := 47) C dX10_needs_11 (by decide) rfl ?_
    refine pw_aload_n C dX10_needs_14 rfl ?_
    refine pw_iload_n C dX10_needs_15 rfl ?_
    refine pw_iconst C dX10_needs_16 ?_
    refine pw_bipush C dX10_needs_17 rfl ?_
    refine pw_cSE C hX dX10_needs_19 ml_X10_37 mc_X10_isIn (m_isIn (v := v) (lo := 0) (hi := 99) (by omega) (by omega) (by omega)) rfl rfl ⟨Nat.le_of_ble_eq_true rfl, Nat.le_of_ble_eq_true rfl⟩ (Nat.le_of_ble_eq_true rfl) (by show _ ≤ 0 ∧ _ ≤ 0; omega) ?_
    refine pw_ifB_eq (tgt := 35) C dX10_needs_22 (by decide) (fun c_22 => ?_) (fun c_22 => ?_)
    · skip
      refine pw_iconst C dX10_needs_35 ?_
      refine pw_goto (tgt := 40) C dX10_needs_36 (by decide) ?_
      refine pw_iconst C dX10_needs_40 ?_
      refine pw_cVI C hX dX10_needs_41 ml_X10_29 mc_X10_refuse (m_refuse hM hA (z := 1) (w := 2) (by omega) (by omega) (by rw [e2, mup_s])) kc_13 hM.k rfl rfl ⟨Nat.le_of_ble_eq_true rfl, Nat.le_of_ble_eq_true rfl⟩ (Nat.le_of_ble_eq_true rfl) (by show _ ≤ 0 ∧ _ ≤ 0; omega) (fun r_ G M3 hq_ => ?_)
      obtain ⟨rfl, rfl, e3⟩ := hq_
      rw [if_neg (by decide)] at e3
      have hMn : RM G M3 Q A D I := by rw [e3]; exact hM.th
      rw [e2, mup_mup] at e3
      clear hM
      have hM := hMn
      clear hMn
      have hK3 : Kp G M3 G M3 := Kp.rf
      refine pw_ifL_eqn (tgt := 51) C dX10_needs_44 (by decide) rfl ?_
      refine pw_iconst C dX10_needs_47 ?_
      refine pw_goto (tgt := 60) C dX10_needs_48 (by decide) ?_
      exact pw_iret C hR dX10_needs_60 ((by have hcd : cd2 ((0 ≤ s ∧ s < A 0 0 0) ∧ 0 ≤ f ∧ f < 4) ((0 ≤ v ∧ v ≤ 99) ∧ 1 ≤ w ∧ w ≤ 3) = 2 := (by unfold cd2; first | rw [if_pos (by omega)] | rw [if_neg (by omega), if_pos (by omega)] | rw [if_neg (by omega), if_neg (by omega)] | rw [if_neg (by omega)]); exact ⟨_, rfl, by rw [hcd, ← e3]; exact hK3, fun h => by rw [hcd] at h; omega⟩)) (by omega) (by omega)
    · skip
      refine pw_iload C dX10_needs_25 rfl ?_
      refine pw_iconst C dX10_needs_27 ?_
      refine pw_iconst C dX10_needs_28 ?_
      refine pw_cSE C hX dX10_needs_29 ml_X10_37 mc_X10_isIn (m_isIn (v := w) (lo := 1) (hi := 3) (by omega) (by omega) (by omega)) rfl rfl ⟨Nat.le_of_ble_eq_true rfl, Nat.le_of_ble_eq_true rfl⟩ (Nat.le_of_ble_eq_true rfl) (by show _ ≤ 0 ∧ _ ≤ 0; omega) ?_
      refine pw_ifB_ne (tgt := 39) C dX10_needs_32 (by decide) (fun c_32 => ?_) (fun c_32 => ?_)
      · skip
        refine pw_iconst C dX10_needs_39 ?_
        refine pw_iconst C dX10_needs_40 ?_
        refine pw_cVI C hX dX10_needs_41 ml_X10_29 mc_X10_refuse (m_refuse hM hA (z := 0) (w := 2) (by omega) (by omega) (by rw [e2, mup_s])) kc_13 hM.k rfl rfl ⟨Nat.le_of_ble_eq_true rfl, Nat.le_of_ble_eq_true rfl⟩ (Nat.le_of_ble_eq_true rfl) (by show _ ≤ 0 ∧ _ ≤ 0; omega) (fun r_ G M4 hq_ => ?_)
        obtain ⟨rfl, rfl, e4⟩ := hq_
        rw [if_pos rfl] at e4
        have hMn : RM G M4 Q A D I := by rw [e4]; exact hM.th
        rw [e2, mup_mup] at e4
        clear hM
        have hM := hMn
        clear hMn
        have hK4 : Kp G M4 G M4 := Kp.rf
        refine pw_ifL_eq (tgt := 51) C dX10_needs_44 (by decide) rfl ?_
        refine pw_aload_n C dX10_needs_51 rfl ?_
        refine pw_iload_n C dX10_needs_52 rfl ?_
        refine pw_iload_n C dX10_needs_53 rfl ?_
        refine pw_iload_n C dX10_needs_54 rfl ?_
        refine pw_iload C dX10_needs_55 rfl ?_
        refine pw_cVE C hX dX10_needs_57 ml_X10_309 mc_X10_needsNow (m_needsNow hM hA (s := s) (f := f) (v := v) (w := w) (by omega) (by omega) (by omega) (by omega)) kc_13 hM.k rfl rfl ⟨Nat.le_of_ble_eq_true rfl, Nat.le_of_ble_eq_true rfl⟩ (Nat.le_of_ble_eq_true rfl) (by show _ ≤ 0 ∧ _ ≤ 0; omega) ?_
        exact pw_iret C hR dX10_needs_60 ((by have hcd : cd2 ((0 ≤ s ∧ s < A 0 0 0) ∧ 0 ≤ f ∧ f < 4) ((0 ≤ v ∧ v ≤ 99) ∧ 1 ≤ w ∧ w ≤ 3) = 0 := (by unfold cd2; first | rw [if_pos (by omega)] | rw [if_neg (by omega), if_pos (by omega)] | rw [if_neg (by omega), if_neg (by omega)] | rw [if_neg (by omega)]); exact ⟨_, rfl, by rw [hcd, ← e4]; exact hK4, fun _ => rfl⟩)) (by omega) (by omega)
      · skip
        refine pw_iconst C dX10_needs_35 ?_
        refine pw_goto (tgt := 40) C dX10_needs_36 (by decide) ?_
        refine pw_iconst C dX10_needs_40 ?_
        refine pw_cVI C hX dX10_needs_41 ml_X10_29 mc_X10_refuse (m_refuse hM hA (z := 1) (w := 2) (by omega) (by omega) (by rw [e2, mup_s])) kc_13 hM.k rfl rfl ⟨Nat.le_of_ble_eq_true rfl, Nat.le_of_ble_eq_true rfl⟩ (Nat.le_of_ble_eq_true rfl) (by show _ ≤ 0 ∧ _ ≤ 0; omega) (fun r_ G M5 hq_ => ?_)
        obtain ⟨rfl, rfl, e5⟩ := hq_
        rw [if_neg (by decide)] at e5
        have hMn : RM G M5 Q A D I := by rw [e5]; exact hM.th
        rw [e2, mup_mup] at e5
        clear hM
        have hM := hMn
        clear hMn
        have hK5 : Kp G M5 G M5 := Kp.rf
        refine pw_ifL_eqn (tgt := 51) C dX10_needs_44 (by decide) rfl ?_
        refine pw_iconst C dX10_needs_47 ?_
        refine pw_goto (tgt := 60) C dX10_needs_48 (by decide) ?_
        exact pw_iret C hR dX10_needs_60 ((by have hcd : cd2 ((0 ≤ s ∧ s < A 0 0 0) ∧ 0 ≤ f ∧ f < 4) ((0 ≤ v ∧ v ≤ 99) ∧ 1 ≤ w ∧ w ≤ 3) = 2 := (by unfold cd2; first | rw [if_pos (by omega)] | rw [if_neg (by omega), if_pos (by omega)] | rw [if_neg (by omega), if_neg (by omega)] | rw [if_neg (by omega)]); exact ⟨_, rfl, by rw [hcd, ← e5]; exact hK5, fun h => by rw [hcd] at h; omega⟩)) (by omega) (by omega)

set_option maxHeartbeats 4000000 in
set_option maxRecDepth 100000 in
theorem m_lead {X : Xv} {G M : Mm} {Q : Int} {A : An} {D : Fn} {I : Int → Int} (hM : RM G M Q A D I) (hA : AB A) (hW : WF A) {s wd : Int} (r_s : -2147483648 ≤ s ∧ s ≤ 2147483647) (r_wd : -2147483648 ≤ wd ∧ wd ≤ 2147483647) : CT X yX10_lead prog_8_method_69_code 3 (some .int) 8 186 1 4 [vR Q, vI s, vI wd] G M (PI (fun r G1 M1 => Kp G (mup M 0 240 Q (cd2 (0 ≤ s ∧ s < A 0 0 0) (0 ≤ wd ∧ wd ≤ 99))) G1 M1 ∧ (cd2 (0 ≤ s ∧ s < A 0 0 0) (0 ≤ wd ∧ wd ≤ 99) = 0 → r = mLe A s wd))) := by
  refine CT.by (by decide +kernel) [1, 1, 1] ⟨cat_vR _, cat_vI _, cat_vI _, trivial⟩ (Nat.le_of_ble_eq_true rfl) (fun E hX C hR hIni => ?_)
  have hn := hA.n
  have hnS := hA.so.c
  refine pw_aload_n C dX10_lead_0 rfl ?_
  refine pw_aload_n C dX10_lead_1 rfl ?_
  refine pw_iload_n C dX10_lead_2 rfl ?_
  refine pw_cVE C hX dX10_lead_3 ml_X10_41 mc_X10_isNoStory (m_isNoStory hM hA (i := s) (by omega)) kc_13 hM.k rfl rfl ⟨Nat.le_of_ble_eq_true rfl, Nat.le_of_ble_eq_true rfl⟩ (Nat.le_of_ble_eq_true rfl) (by show _ ≤ 1 ∧ _ ≤ 4; omega) ?_
  refine pw_iconst C dX10_lead_6 ?_
  by_cases cz_7 : ¬ (0 ≤ s ∧ s < A 0 0 0)
  · skip
    rw [bI_t cz_7]
    refine pw_cVI C hX dX10_lead_7 ml_X10_103 mc_X10_start (m_start hM hA (z := 1) (w := 1) (by omega) (by omega)) kc_13 hM.k rfl rfl ⟨Nat.le_of_ble_eq_true rfl, Nat.le_of_ble_eq_true rfl⟩ (Nat.le_of_ble_eq_true rfl) (by show _ ≤ 1 ∧ _ ≤ 4; omega) (fun r_ G M1 hq_ => ?_)
    obtain ⟨rfl, rfl, e1⟩ := hq_
    rw [if_neg (by decide)] at e1
    have hMn : RM G M1 Q A D I := by rw [e1]; exact hM.th
    clear hM
    have hM := hMn
    clear hMn
    have hK1 : Kp G M1 G M1 := Kp.rf
    refine pw_ifL_ne (tgt := 36) C dX10_lead_10 (by decide) rfl ?_
    refine pw_iconst C dX10_lead_36 ?_
    refine pw_goto (tgt := 46) C dX10_lead_37 (by decide) ?_
    exact pw_iret C hR dX10_lead_46 ((by have hcd : cd2 (0 ≤ s ∧ s < A 0 0 0) (0 ≤ wd ∧ wd ≤ 99) = 1 := (by unfold cd2; first | rw [if_pos (by omega)] | rw [if_neg (by omega), if_pos (by omega)] | rw [if_neg (by omega), if_neg (by omega)] | rw [if_neg (by omega)]); exact ⟨_, rfl, by rw [hcd, ← e1]; exact hK1, fun h => by rw [hcd] at h; omega⟩)) (by show _ ≤ 1; omega) (by show _ ≤ 4; omega)
  · skip
    rw [bI_f cz_7]
    refine pw_cVI C hX dX10_lead_7 ml_X10_103 mc_X10_start (m_start hM hA (z := 0) (w := 1) (by omega) (by omega)) kc_13 hM.k rfl rfl ⟨Nat.le_of_ble_eq_true rfl, Nat.le_of_ble_eq_true rfl⟩ (Nat.le_of_ble_eq_true rfl) (by show _ ≤ 1 ∧ _ ≤ 4; omega) (fun r_ G M2 hq_ => ?_)
    obtain ⟨rfl, rfl, e2⟩ := hq_
    rw [if_pos rfl] at e2
    have hMn : RM G M2 Q A D I := by rw [e2]; exact hM.th
    clear hM
    have hM := hMn
    clear hMn
    have hK2 : Kp G M2 G M2 := Kp.rf
    refine pw_ifL_nen (tgt := 36) C dX10_lead_10 (by decide) rfl ?_
    refine pw_aload_n C dX10_lead_13 rfl ?_
    refine pw_iload_n C dX10_lead_14 rfl ?_
    refine pw_iconst C dX10_lead_15 ?_
    refine pw_bipush C dX10_lead_16 rfl ?_
    refine pw_cSE C hX dX10_lead_18 ml_X10_37 mc_X10_isIn (m_isIn (v := wd) (lo := 0) (hi := 99) (by omega) (by omega) (by omega)) rfl rfl ⟨Nat.le_of_ble_eq_true rfl, Nat.le_of_ble_eq_true rfl⟩ (Nat.le_of_ble_eq_true rfl) (by show _ ≤ 1 ∧ _ ≤ 4; omega) ?_
    refine pw_ifB_ne (tgt := 28) C dX10_lead_21 (by decide) (fun c_21 => ?_) (fun c_21 => ?_)
    · skip
      refine pw_iconst C dX10_lead_28 ?_
      refine pw_iconst C dX10_lead_29 ?_
      refine pw_cVI C hX dX10_lead_30 ml_X10_29 mc_X10_refuse (m_refuse hM hA (z := 0) (w := 2) (by omega) (by omega) (by rw [e2, mup_s])) kc_13 hM.k rfl rfl ⟨Nat.le_of_ble_eq_true rfl, Nat.le_of_ble_eq_true rfl⟩ (Nat.le_of_ble_eq_true rfl) (by show _ ≤ 1 ∧ _ ≤ 4; omega) (fun r_ G M3 hq_ => ?_)
      obtain ⟨rfl, rfl, e3⟩ := hq_
      rw [if_pos rfl] at e3
      have hMn : RM G M3 Q A D I := by rw [e3]; exact hM.th
      rw [e2, mup_mup] at e3
      clear hM
      have hM := hMn
      clear hMn
      have hK3 : Kp G M3 G M3 := Kp.rf
      refine pw_ifL_eq (tgt := 40) C dX10_lead_33 (by decide) rfl ?_
      refine pw_aload_n C dX10_lead_40 rfl ?_
      refine pw_iload_n C dX10_lead_41 rfl ?_
      refine pw_iload_n C dX10_lead_42 rfl ?_
      refine pw_cVI C hX dX10_lead_43 ml_X10_313 mc_X10_leadNow (m_leadNow hM hA hW (s := s) (wd := wd) (by omega) (by omega)) kc_13 hM.k rfl rfl ⟨Nat.le_of_ble_eq_true rfl, Nat.le_of_ble_eq_true rfl⟩ (Nat.le_of_ble_eq_true rfl) (by show _ ≤ 1 ∧ _ ≤ 4; omega) (fun r_ G4 M5 hq_ => ?_)
      obtain ⟨rfl, hk_⟩ := hq_
      have hK5 := hK3.tr hk_
      have hM5 := hM.kp hK5
      clear hk_
      exact pw_iret C hR dX10_lead_46 ((by have hcd : cd2 (0 ≤ s ∧ s < A 0 0 0) (0 ≤ wd ∧ wd ≤ 99) = 0 := (by unfold cd2; first | rw [if_pos (by omega)] | rw [if_neg (by omega), if_pos (by omega)] | rw [if_neg (by omega), if_neg (by omega)] | rw [if_neg (by omega)]); exact ⟨_, rfl, by rw [hcd, ← e3]; exact hK5, fun _ => rfl⟩)) (by show _ ≤ 1; omega) (by show _ ≤ 4; omega)
    · skip
      refine pw_iconst C dX10_lead_24 ?_
      refine pw_goto (tgt := 29) C dX10_lead_25 (by decide) ?_
      refine pw_iconst C dX10_lead_29 ?_
      refine pw_cVI C hX dX10_lead_30 ml_X10_29 mc_X10_refuse (m_refuse hM hA (z := 1) (w := 2) (by omega) (by omega) (by rw [e2, mup_s])) kc_13 hM.k rfl rfl ⟨Nat.le_of_ble_eq_true rfl, Nat.le_of_ble_eq_true rfl⟩ (Nat.le_of_ble_eq_true rfl) (by show _ ≤ 1 ∧ _ ≤ 4; omega) (fun r_ G M6 hq_ => ?_)
      obtain ⟨rfl, rfl, e6⟩ := hq_
      rw [if_neg (by decide)] at e6
      have hMn : RM G M6 Q A D I := by rw [e6]; exact hM.th
      rw [e2, mup_mup] at e6
      clear hM
      have hM := hMn
      clear hMn
      have hK6 : Kp G M6 G M6 := Kp.rf
      refine pw_ifL_eqn (tgt := 40) C dX10_lead_33 (by decide) rfl ?_
      refine pw_iconst C dX10_lead_36 ?_
      refine pw_goto (tgt := 46) C dX10_lead_37 (by decide) ?_
      exact pw_iret C hR dX10_lead_46 ((by have hcd : cd2 (0 ≤ s ∧ s < A 0 0 0) (0 ≤ wd ∧ wd ≤ 99) = 2 := (by unfold cd2; first | rw [if_pos (by omega)] | rw [if_neg (by omega), if_pos (by omega)] | rw [if_neg (by omega), if_neg (by omega)] | rw [if_neg (by omega)]); exact ⟨_, rfl, by rw [hcd, ← e6]; exact hK6, fun h => by rw [hcd] at h; omega⟩)) (by show _ ≤ 1; omega) (by show _ ≤ 4; omega)

set_option maxHeartbeats 4000000 in
set_option maxRecDepth 100000 in
theorem m_wouldArrive {X : Xv} {G M : Mm} {Q : Int} {A : An} {D : Fn} {I : Int → Int} (hM : RM G M Q A D I) (hA : AB A) (hW : WF A) (hE : EM X G) {l k w : Int} (r_l : -2147483648 ≤ l ∧ l ≤ 2147483647) (r_k : -2147483648 ≤ k ∧ k ≤ 2147483647) (r_w : -2147483648 ≤ w ∧ w ≤ 2147483647) : CT X yX10_wouldArrive prog_8_method_64_code 4 (some .int) 8 201 9 367 [vR Q, vI l, vI k, vI w] G M (PI (fun r G1 M1 => Kp G (mup M 0 240 Q (cd2 (0 ≤ l ∧ l < A 0 0 2) ((0 ≤ k ∧ k ≤ 4) ∧ 1 ≤ w ∧ w ≤ 200))) G1 M1 ∧ (cd2 (0 ≤ l ∧ l < A 0 0 2) ((0 ≤ k ∧ k ≤ 4) ∧ 1 ≤ w ∧ w ≤ 200) = 0 → r = mWo A l k w))) := by
  refine CT.by (by decide +kernel) [1, 1, 1, 1] ⟨cat_vR _, cat_vI _, cat_vI _, cat_vI _, trivial⟩ (Nat.le_of_ble_eq_true rfl) (fun E hX C hR hIni => ?_)
  have hn := hA.n
  have hnS := hA.so.c
  refine pw_aload_n C dX10_wouldArrive_0 rfl ?_
  refine pw_aload_n C dX10_wouldArrive_1 rfl ?_
  refine pw_iload_n C dX10_wouldArrive_2 rfl ?_
  refine pw_cVE C hX dX10_wouldArrive_3 ml_X10_133 mc_X10_isNoLine (m_isNoLine hM hA (i := l) (by omega)) kc_13 hM.k rfl rfl ⟨Nat.le_of_ble_eq_true rfl, Nat.le_of_ble_eq_true rfl⟩ (Nat.le_of_ble_eq_true rfl) (by show _ ≤ 9 ∧ _ ≤ 367; omega) ?_
  refine pw_iconst C dX10_wouldArrive_6 ?_
  by_cases cz_7 : ¬ (0 ≤ l ∧ l < A 0 0 2)
  · skip
    rw [bI_t cz_7]
    refine pw_cVI C hX dX10_wouldArrive_7 ml_X10_103 mc_X10_start (m_start hM hA (z := 1) (w := 1) (by omega) (by omega)) kc_13 hM.k rfl rfl ⟨Nat.le_of_ble_eq_true rfl, Nat.le_of_ble_eq_true rfl⟩ (Nat.le_of_ble_eq_true rfl) (by show _ ≤ 9 ∧ _ ≤ 367; omega) (fun r_ G M1 hq_ => ?_)
    obtain ⟨rfl, rfl, e1⟩ := hq_
    rw [if_neg (by decide)] at e1
    have hMn : RM G M1 Q A D I := by rw [e1]; exact hM.th
    clear hM
    have hM := hMn
    clear hMn
    have hK1 : Kp G M1 G M1 := Kp.rf
    refine pw_ifL_ne (tgt := 46) C dX10_wouldArrive_10 (by decide) rfl ?_
    refine pw_iconst C dX10_wouldArrive_46 ?_
    refine pw_goto (tgt := 57) C dX10_wouldArrive_47 (by decide) ?_
    exact pw_iret C hR dX10_wouldArrive_57 ((by have hcd : cd2 (0 ≤ l ∧ l < A 0 0 2) ((0 ≤ k ∧ k ≤ 4) ∧ 1 ≤ w ∧ w ≤ 200) = 1 := (by unfold cd2; first | rw [if_pos (by omega)] | rw [if_neg (by omega), if_pos (by omega)] | rw [if_neg (by omega), if_neg (by omega)] | rw [if_neg (by omega)]); exact ⟨_, rfl, by rw [hcd, ← e1]; exact hK1, fun h => by rw [hcd] at h; omega⟩)) (by show _ ≤ 9; omega) (by show _ ≤ 367; omega)
  · skip
    rw [bI_f cz_7]
    refine pw_cVI C hX dX10_wouldArrive_7 ml_X10_103 mc_X10_start (m_start hM hA (z := 0) (w := 1) (by omega) (by omega)) kc_13 hM.k rfl rfl ⟨Nat.le_of_ble_eq_true rfl, Nat.le_of_ble_eq_true rfl⟩ (Nat.le_of_ble_eq_true rfl) (by show _ ≤ 9 ∧ _ ≤ 367; omega) (fun r_ G M2 hq_ => ?_)
    obtain ⟨rfl, rfl, e2⟩ := hq_
    rw [if_pos rfl] at e2
    have hMn : RM G M2 Q A D I := by rw [e2]; exact hM.th
    clear hM
    have hM := hMn
    clear hMn
    have hK2 : Kp G M2 G M2 := Kp.rf
    refine pw_ifL_nen (tgt := 46) C dX10_wouldArrive_10 (by decide) rfl ?_
    refine pw_aload_n C dX10_wouldArrive_13 rfl ?_
    refine pw_iload_n C dX10_wouldArrive_14 rfl ?_
    refine pw_iconst C dX10_wouldArrive_15 ?_
    refine pw_iconst C dX10_wouldArrive_16 ?_
    refine pw_cSE C hX dX10_wouldArrive_17 ml_X10_37 mc_X10_isIn (m_isIn (v := k) (lo := 0) (hi := 4) (by omega) (by omega) (by omega)) rfl rfl ⟨Nat.le_of_ble_eq_true rfl, Nat.le_of_ble_eq_true rfl⟩ (Nat.le_of_ble_eq_true rfl) (by show _ ≤ 9 ∧ _ ≤ 367; omega) ?_
    refine pw_ifB_eq (tgt := 34) C dX10_wouldArrive_20 (by decide) (fun c_20 => ?_) (fun c_20 => ?_)
    · skip
      refine pw_iconst C dX10_wouldArrive_34 ?_
      refine pw_goto (tgt := 39) C dX10_wouldArrive_35 (by decide) ?_
      refine pw_iconst C dX10_wouldArrive_39 ?_
      refine pw_cVI C hX dX10_wouldArrive_40 ml_X10_29 mc_X10_refuse (m_refuse hM hA (z := 1) (w := 2) (by omega) (by omega) (by rw [e2, mup_s])) kc_13 hM.k rfl rfl ⟨Nat.le_of_ble_eq_true rfl, Nat.le_of_ble_eq_true rfl⟩ (Nat.le_of_ble_eq_true rfl) (by show _ ≤ 9 ∧ _ ≤ 367; omega) (fun r_ G M3 hq_ => ?_)
      obtain ⟨rfl, rfl, e3⟩ := hq_
      rw [if_neg (by decide)] at e3
      have hMn : RM G M3 Q A D I := by rw [e3]; exact hM.th
      rw [e2, mup_mup] at e3
      clear hM
      have hM := hMn
      clear hMn
      have hK3 : Kp G M3 G M3 := Kp.rf
      refine pw_ifL_eqn (tgt := 50) C dX10_wouldArrive_43 (by decide) rfl ?_
      refine pw_iconst C dX10_wouldArrive_46 ?_
      refine pw_goto (tgt := 57) C dX10_wouldArrive_47 (by decide) ?_
      exact pw_iret C hR dX10_wouldArrive_57 ((by have hcd : cd2 (0 ≤ l ∧ l < A 0 0 2) ((0 ≤ k ∧ k ≤ 4) ∧ 1 ≤ w ∧ w ≤ 200) = 2 := (by unfold cd2; first | rw [if_pos (by omega)] | rw [if_neg (by omega), if_pos (by omega)] | rw [if_neg (by omega), if_neg (by omega)] | rw [if_neg (by omega)]); exact ⟨_, rfl, by rw [hcd, ← e3]; exact hK3, fun h => by rw [hcd] at h; omega⟩)) (by show _ ≤ 9; omega) (by show _ ≤ 367; omega)
    · skip
      refine pw_iload_n C dX10_wouldArrive_23 rfl ?_
      refine pw_iconst C dX10_wouldArrive_24 ?_
      refine pw_sipush C dX10_wouldArrive_25 rfl ?_
      refine pw_cSE C hX dX10_wouldArrive_28 ml_X10_37 mc_X10_isIn (m_isIn (v := w) (lo := 1) (hi := 200) (by omega) (by omega) (by omega)) rfl rfl ⟨Nat.le_of_ble_eq_true rfl, Nat.le_of_ble_eq_true rfl⟩ (Nat.le_of_ble_eq_true rfl) (by show _ ≤ 9 ∧ _ ≤ 367; omega) ?_
      refine pw_ifB_ne (tgt := 38) C dX10_wouldArrive_31 (by decide) (fun c_31 => ?_) (fun c_31 => ?_)
      · skip
        refine pw_iconst C dX10_wouldArrive_38 ?_
        refine pw_iconst C dX10_wouldArrive_39 ?_
        refine pw_cVI C hX dX10_wouldArrive_40 ml_X10_29 mc_X10_refuse (m_refuse hM hA (z := 0) (w := 2) (by omega) (by omega) (by rw [e2, mup_s])) kc_13 hM.k rfl rfl ⟨Nat.le_of_ble_eq_true rfl, Nat.le_of_ble_eq_true rfl⟩ (Nat.le_of_ble_eq_true rfl) (by show _ ≤ 9 ∧ _ ≤ 367; omega) (fun r_ G M4 hq_ => ?_)
        obtain ⟨rfl, rfl, e4⟩ := hq_
        rw [if_pos rfl] at e4
        have hMn : RM G M4 Q A D I := by rw [e4]; exact hM.th
        rw [e2, mup_mup] at e4
        clear hM
        have hM := hMn
        clear hMn
        have hK4 : Kp G M4 G M4 := Kp.rf
        refine pw_ifL_eq (tgt := 50) C dX10_wouldArrive_43 (by decide) rfl ?_
        refine pw_aload_n C dX10_wouldArrive_50 rfl ?_
        refine pw_iload_n C dX10_wouldArrive_51 rfl ?_
        refine pw_iload_n C dX10_wouldArrive_52 rfl ?_
        refine pw_iload_n C dX10_wouldArrive_53 rfl ?_
        refine pw_cVI C hX dX10_wouldArrive_54 ml_X10_302 mc_X10_wouldArriveNow (m_wouldArriveNow hM hA hW hE (l := l) (k := k) (w := w) (by omega) (by omega) (by omega)) kc_13 hM.k rfl rfl ⟨Nat.le_of_ble_eq_true rfl, Nat.le_of_ble_eq_true rfl⟩ (Nat.le_of_ble_eq_true rfl) (by show _ ≤ 9 ∧ _ ≤ 367; omega) (fun r_ G5 M6 hq_ => ?_)
        obtain ⟨rfl, hk_⟩ := hq_
        have hK6 := hK4.tr hk_
        have hM6 := hM.kp hK6
        clear hk_
        exact pw_iret C hR dX10_wouldArrive_57 ((by have hcd : cd2 (0 ≤ l ∧ l < A 0 0 2) ((0 ≤ k ∧ k ≤ 4) ∧ 1 ≤ w ∧ w ≤ 200) = 0 := (by unfold cd2; first | rw [if_pos (by omega)] | rw [if_neg (by omega), if_pos (by omega)] | rw [if_neg (by omega), if_neg (by omega)] | rw [if_neg (by omega)]); exact ⟨_, rfl, by rw [hcd, ← e4]; exact hK6, fun _ => rfl⟩)) (by show _ ≤ 9; omega) (by show _ ≤ 367; omega)
      · skip
        refine pw_iconst C dX10_wouldArrive_34 ?_
        refine pw_goto (tgt := 39) C dX10_wouldArrive_35 (by decide) ?_
        refine pw_iconst C dX10_wouldArrive_39 ?_
        refine pw_cVI C hX dX10_wouldArrive_40 ml_X10_29 mc_X10_refuse (m_refuse hM hA (z := 1) (w := 2) (by omega) (by omega) (by rw [e2, mup_s])) kc_13 hM.k rfl rfl ⟨Nat.le_of_ble_eq_true rfl, Nat.le_of_ble_eq_true rfl⟩ (Nat.le_of_ble_eq_true rfl) (by show _ ≤ 9 ∧ _ ≤ 367; omega) (fun r_ G M7 hq_ => ?_)
        obtain ⟨rfl, rfl, e7⟩ := hq_
        rw [if_neg (by decide)] at e7
        have hMn : RM G M7 Q A D I := by rw [e7]; exact hM.th
        rw [e2, mup_mup] at e7
        clear hM
        have hM := hMn
        clear hMn
        have hK7 : Kp G M7 G M7 := Kp.rf
        refine pw_ifL_eqn (tgt := 50) C dX10_wouldArrive_43 (by decide) rfl ?_
        refine pw_iconst C dX10_wouldArrive_46 ?_
        refine pw_goto (tgt := 57) C dX10_wouldArrive_47 (by decide) ?_
        exact pw_iret C hR dX10_wouldArrive_57 ((by have hcd : cd2 (0 ≤ l ∧ l < A 0 0 2) ((0 ≤ k ∧ k ≤ 4) ∧ 1 ≤ w ∧ w ≤ 200) = 2 := (by unfold cd2; first | rw [if_pos (by omega)] | rw [if_neg (by omega), if_pos (by omega)] | rw [if_neg (by omega), if_neg (by omega)] | rw [if_neg (by omega)]); exact ⟨_, rfl, by rw [hcd, ← e7]; exact hK7, fun h => by rw [hcd] at h; omega⟩)) (by show _ ≤ 9; omega) (by show _ ≤ 367; omega)

