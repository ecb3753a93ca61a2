/-! ===== the model's writers: corrections, kills, minutes ===== -/
theorem ins_p2k : ∀ f : Nat, f < 4 → ∀ j : Nat, j < 4 → ((((2 : Int) ^ f) / (2 : Int) ^ j) % 2 = 1 ↔ j = f) := by decide +kernel
theorem ins_p2 {f j : Int} (hf : 0 ≤ f ∧ f < 4) (hj : 0 ≤ j ∧ j < 4) : ins (p2 f) j ↔ j = f := by
  have := ins_p2k f.toNat (by omega) j.toNat (by omega)
  unfold ins
  constructor
  · intro q; have := this.mp q; omega
  · intro q; exact this.mpr (by omega)
theorem hv_p2 {A : An} {s f : Int} (hf : 0 ≤ f ∧ f < 4) (h : ¬ A (100 + (s * 4 + f)) 1 0 = -1) : hv A s (p2 f) 0 = 4 := by
  have z := fnd_spec (p := fun j => ins (p2 f) j ∧ vtf A 0 (s * 4 + j) = -1) (lo := 0) (hi := 4) (by omega)
  have e : hv A s (p2 f) 0 = fnd (fun j => ins (p2 f) j ∧ vtf A 0 (s * 4 + j) = -1) 0 4 := rfl
  rw [e]
  apply Classical.byContradiction
  intro hc
  obtain ⟨y1, y2⟩ := z.2.2.2 (by omega)
  rw [(ins_p2 hf (by omega)).mp y1] at y2
  exact h y2
set_option maxHeartbeats 4000000 in
set_option maxRecDepth 100000 in
theorem m_correct {X : Xv} {G M : Mm} {Q : Int} {A : An} {D : Fn} {I : Int → Int} (hM : RM G M Q A D I) (hA : AB A) (hW : WF A) (hB : BK A) {t f : Int} (r_t : -2147483648 ≤ t ∧ t ≤ 2147483647) (r_f : -2147483648 ≤ f ∧ f ≤ 2147483647) : CT X yX10_correct prog_8_method_32_code 6 (some .int) 8 199 4 118 [vR Q, vI t, vI f] G M (PI (fun r G1 M1 => Fq Q G (mup M 0 240 Q (cd3 (0 ≤ t ∧ t < A 0 0 1) ((0 ≤ f ∧ f < 4) ∧ ¬ A (200 + t) 0 f = -1) (A (200 + t) 1 7 = -1 ∧ A 0 0 1 < 60))) G1 M1 ∧ (cd3 (0 ≤ t ∧ t < A 0 0 1) ((0 ≤ f ∧ f < 4) ∧ ¬ A (200 + t) 0 f = -1) (A (200 + t) 1 7 = -1 ∧ A 0 0 1 < 60) = 0 → r = (if A (100 + (A (200 + t) 1 0 * 4 + f)) 1 0 = -1 ∨ A (100 + (A (200 + t) 1 0 * 4 + f)) 1 0 = A (200 + t) 0 f then -2 else A 0 0 1)) ∧ ∃ D1 I1, RM G1 M1 Q (if cd3 (0 ≤ t ∧ t < A 0 0 1) ((0 ≤ f ∧ f < 4) ∧ ¬ A (200 + t) 0 f = -1) (A (200 + t) 1 7 = -1 ∧ A 0 0 1 < 60) = 0 then (if A (100 + (A (200 + t) 1 0 * 4 + f)) 1 0 = -1 ∨ A (100 + (A (200 + t) 1 0 * 4 + f)) 1 0 = A (200 + t) 0 f then A else aFil A (A (200 + t) 1 0) 2 (p2 f) 0 0 t) else A) D1 I1)) := by
  refine CT.by (by decide +kernel) [1, 1, 1] ⟨cat_vR _, cat_vI _, cat_vI _, trivial⟩ (Nat.le_of_ble_eq_true rfl) (fun E hX C hR hIni => ?_)
  have hn := hA.n
  have hnS := hA.so.c
  refine pw_aload_n C dX10_correct_0 rfl ?_
  refine pw_aload_n C dX10_correct_1 rfl ?_
  refine pw_iload_n C dX10_correct_2 rfl ?_
  refine pw_cVE C hX dX10_correct_3 ml_X10_178 mc_X10_isNoTake (m_isNoTake hM hA (i := t) (by omega)) kc_13 hM.k rfl rfl ⟨Nat.le_of_ble_eq_true rfl, Nat.le_of_ble_eq_true rfl⟩ (Nat.le_of_ble_eq_true rfl) (by show 0 + 0 ≤ 4 ∧ 0 + 0 ≤ 118; omega) ?_
  refine pw_iconst C dX10_correct_6 ?_
  by_cases cz_7 : ¬ (0 ≤ t ∧ t < A 0 0 1)
  · skip
    rw [bI_t cz_7]
    refine pw_cVI C hX dX10_correct_7 ml_X10_103 mc_X10_start (m_start hM hA (z := 1) (w := 1) (by omega) (by omega)) kc_13 hM.k rfl rfl ⟨Nat.le_of_ble_eq_true rfl, Nat.le_of_ble_eq_true rfl⟩ (Nat.le_of_ble_eq_true rfl) (by show 0 + 0 ≤ 4 ∧ 0 + 0 ≤ 118; omega) (fun r_ G M1 hq_ => ?_)
    obtain ⟨rfl, rfl, e1⟩ := hq_
    rw [if_neg (by decide)] at e1
    have hMn : RM G M1 Q A D I := by rw [e1]; exact hM.th
    clear hM
    have hM := hMn
    clear hMn
    have hK1 : Kp G M1 G M1 := Kp.rf
    refine pw_ifL_ne (tgt := 98) C dX10_correct_10 (by decide) rfl ?_
    refine pw_iconst C dX10_correct_98 ?_
    exact pw_iret C hR dX10_correct_99 ((by have hcd : cd3 (0 ≤ t ∧ t < A 0 0 1) ((0 ≤ f ∧ f < 4) ∧ ¬ A (200 + t) 0 f = -1) (A (200 + t) 1 7 = -1 ∧ A 0 0 1 < 60) = 1 := (by unfold cd3; first | (exfalso; omega) | rw [if_pos (by omega)] | rw [if_neg (by omega), if_pos (by omega)] | rw [if_neg (by omega), if_neg (by omega), if_pos (by omega)] | rw [if_neg (by omega), if_neg (by omega), if_neg (by omega)]); exact ⟨_, rfl, by rw [hcd, ← e1]; exact Fq.rf, fun h => absurd (hcd.symm.trans h) (by decide), D, I, by rw [if_neg (fun h => absurd (hcd.symm.trans h) (by decide))]; exact hM⟩)) (by show _ ≤ 4; omega) (by show _ ≤ 118; omega)
  · skip
    rw [bI_f cz_7]
    refine pw_cVI C hX dX10_correct_7 ml_X10_103 mc_X10_start (m_start hM hA (z := 0) (w := 1) (by omega) (by omega)) kc_13 hM.k rfl rfl ⟨Nat.le_of_ble_eq_true rfl, Nat.le_of_ble_eq_true rfl⟩ (Nat.le_of_ble_eq_true rfl) (by show 0 + 0 ≤ 4 ∧ 0 + 0 ≤ 118; omega) (fun r_ G M2 hq_ => ?_)
    obtain ⟨rfl, rfl, e2⟩ := hq_
    rw [if_pos rfl] at e2
    have hMn : RM G M2 Q A D I := by rw [e2]; exact hM.th
    clear hM
    have hM := hMn
    clear hMn
    have hK2 : Kp G M2 G M2 := Kp.rf
    refine pw_ifL_nen (tgt := 98) C dX10_correct_10 (by decide) rfl ?_
    refine pw_aload_n C dX10_correct_13 rfl ?_
    refine pw_iload_n C dX10_correct_14 rfl ?_
    refine pw_iconst C dX10_correct_15 ?_
    refine pw_iconst C dX10_correct_16 ?_
    refine pw_cSE C hX dX10_correct_17 ml_X10_37 mc_X10_isIn (m_isIn (v := f) (lo := 0) (hi := 3) (by omega) (by omega) (by omega)) rfl rfl ⟨Nat.le_of_ble_eq_true rfl, Nat.le_of_ble_eq_true rfl⟩ (Nat.le_of_ble_eq_true rfl) (by show 0 + 0 ≤ 4 ∧ 0 + 0 ≤ 118; omega) ?_
    refine pw_ifB_eq (tgt := 44) C dX10_correct_20 (by decide) (fun c_20 => ?_) (fun c_20 => ?_)
    · skip
      refine pw_iconst C dX10_correct_44 ?_
      refine pw_goto (tgt := 49) C dX10_correct_45 (by decide) ?_
      refine pw_iconst C dX10_correct_49 ?_
      refine pw_cVI C hX dX10_correct_50 ml_X10_29 mc_X10_refuse (m_refuse hM hA (z := 1) (w := 2) (by omega) (by omega) (by rw [e2, mup_s])) kc_13 hM.k rfl rfl ⟨Nat.le_of_ble_eq_true rfl, Nat.le_of_ble_eq_true rfl⟩ (Nat.le_of_ble_eq_true rfl) (by show 0 + 0 ≤ 4 ∧ 0 + 0 ≤ 118; omega) (fun r_ G M3 hq_ => ?_)
      obtain ⟨rfl, rfl, e3⟩ := hq_
      rw [if_neg (by decide)] at e3
      have hMn : RM G M3 Q A D I := by rw [e3]; exact hM.th
      rw [e2, mup_mup] at e3
      clear hM
      have hM := hMn
      clear hMn
      have hK3 : Kp G M3 G M3 := Kp.rf
      refine pw_ifL_ne (tgt := 98) C dX10_correct_53 (by decide) rfl ?_
      refine pw_iconst C dX10_correct_98 ?_
      exact pw_iret C hR dX10_correct_99 ((by have hcd : cd3 (0 ≤ t ∧ t < A 0 0 1) ((0 ≤ f ∧ f < 4) ∧ ¬ A (200 + t) 0 f = -1) (A (200 + t) 1 7 = -1 ∧ A 0 0 1 < 60) = 2 := (by unfold cd3; first | (exfalso; omega) | rw [if_pos (by omega)] | rw [if_neg (by omega), if_pos (by omega)] | rw [if_neg (by omega), if_neg (by omega), if_pos (by omega)] | rw [if_neg (by omega), if_neg (by omega), if_neg (by omega)]); exact ⟨_, rfl, by rw [hcd, ← e3]; exact Fq.rf, fun h => absurd (hcd.symm.trans h) (by decide), D, I, by rw [if_neg (fun h => absurd (hcd.symm.trans h) (by decide))]; exact hM⟩)) (by show _ ≤ 4; omega) (by show _ ≤ 118; omega)
    · skip
      refine pw_aload_n C dX10_correct_23 rfl ?_
      refine pw_getR C dX10_correct_24 fl_X10_19 hM.k rfl hM.r3 ?_
      refine pw_iload_n C dX10_correct_27 rfl ?_
      refine pw_cVR C hX dX10_correct_28 ml_X10_45 mc_Jx4a65c_get_915e3 (hM.g3 (i := t) (by omega)) kc_2 hM.l3.k rfl rfl ⟨Nat.le_of_ble_eq_true rfl, Nat.le_of_ble_eq_true rfl⟩ (Nat.le_of_ble_eq_true rfl) (by show 0 + 0 ≤ 4 ∧ 0 + 0 ≤ 118; omega) ?_
      refine pw_cast (Cn := "SlugwireModel$Take") C dX10_correct_31 (List.mem_of_getElem? (i := 1149) (by decide +kernel)) (by rw [(hM.ta t (by omega) (by omega)).1]; exact kc_12) ?_
      refine pw_getE C dX10_correct_34 fl_X10_181 rfl (hM.ta t (by omega) (by omega)).1 (hM.ta t (by omega) (by omega)).2.2.2.1.2.2.1 ?_
      have b_34 := (hA.ta t (by omega)).s2
      refine pw_iload_n C dX10_correct_37 rfl ?_
      refine pw_cSE C hX dX10_correct_38 ml_X10_166 mc_X10_has (m_has (set := (A (200 + t) 1 2)) (f := f) (by omega) (by omega)) rfl rfl ⟨Nat.le_of_ble_eq_true rfl, Nat.le_of_ble_eq_true rfl⟩ (Nat.le_of_ble_eq_true rfl) (by show 0 + 0 ≤ 4 ∧ 0 + 0 ≤ 118; omega) ?_
      have hi9 := hW.i t f (by omega) (by omega) (by omega) (by omega)
      refine pw_ifB_ne (tgt := 48) C dX10_correct_41 (by decide) (fun c_41 => ?_) (fun c_41 => ?_)
      · skip
        have hv9 := hi9.mp c_41
        refine pw_iconst C dX10_correct_48 ?_
        refine pw_iconst C dX10_correct_49 ?_
        refine pw_cVI C hX dX10_correct_50 ml_X10_29 mc_X10_refuse (m_refuse hM hA (z := 0) (w := 2) (by omega) (by omega) (by rw [e2, mup_s])) kc_13 hM.k rfl rfl ⟨Nat.le_of_ble_eq_true rfl, Nat.le_of_ble_eq_true rfl⟩ (Nat.le_of_ble_eq_true rfl) (by show 0 + 0 ≤ 4 ∧ 0 + 0 ≤ 118; omega) (fun r_ G M4 hq_ => ?_)
        obtain ⟨rfl, rfl, e4⟩ := hq_
        rw [if_pos rfl] at e4
        have hMn : RM G M4 Q A D I := by rw [e4]; exact hM.th
        rw [e2, mup_mup] at e4
        clear hM
        have hM := hMn
        clear hMn
        have hK4 : Kp G M4 G M4 := Kp.rf
        refine pw_ifL_nen (tgt := 98) C dX10_correct_53 (by decide) rfl ?_
        refine pw_aload_n C dX10_correct_56 rfl ?_
        refine pw_aload_n C dX10_correct_57 rfl ?_
        refine pw_getR C dX10_correct_58 fl_X10_19 hM.k rfl hM.r3 ?_
        refine pw_iload_n C dX10_correct_61 rfl ?_
        refine pw_cVR C hX dX10_correct_62 ml_X10_45 mc_Jx4a65c_get_915e3 (hM.g3 (i := t) (by omega)) kc_2 hM.l3.k rfl rfl ⟨Nat.le_of_ble_eq_true rfl, Nat.le_of_ble_eq_true rfl⟩ (Nat.le_of_ble_eq_true rfl) (by show 0 + 0 ≤ 4 ∧ 0 + 0 ≤ 118; omega) ?_
        refine pw_cast (Cn := "SlugwireModel$Take") C dX10_correct_65 (List.mem_of_getElem? (i := 1149) (by decide +kernel)) (by rw [(hM.ta t (by omega) (by omega)).1]; exact kc_12) ?_
        refine pw_getE C dX10_correct_68 fl_X10_184 rfl (hM.ta t (by omega) (by omega)).1 (hM.ta t (by omega) (by omega)).2.2.2.1.2.2.2.2.2.2.2.2 ?_
        have b_68 := (hA.ta t (by omega)).s7
        refine pw_ifB_ne (tgt := 86) C dX10_correct_71 (by decide) (fun c_71 => ?_) (fun c_71 => ?_)
        · skip
          refine pw_iconst C dX10_correct_86 ?_
          refine pw_goto (tgt := 91) C dX10_correct_87 (by decide) ?_
          refine pw_iconst C dX10_correct_91 ?_
          refine pw_cVI C hX dX10_correct_92 ml_X10_29 mc_X10_refuse (m_refuse hM hA (z := 1) (w := 3) (by omega) (by omega) (by rw [e4, mup_s])) kc_13 hM.k rfl rfl ⟨Nat.le_of_ble_eq_true rfl, Nat.le_of_ble_eq_true rfl⟩ (Nat.le_of_ble_eq_true rfl) (by show 0 + 0 ≤ 4 ∧ 0 + 0 ≤ 118; omega) (fun r_ G M5 hq_ => ?_)
          obtain ⟨rfl, rfl, e5⟩ := hq_
          rw [if_neg (by decide)] at e5
          have hMn : RM G M5 Q A D I := by rw [e5]; exact hM.th
          rw [e4, mup_mup] at e5
          clear hM
          have hM := hMn
          clear hMn
          have hK5 : Kp G M5 G M5 := Kp.rf
          refine pw_ifL_eqn (tgt := 100) C dX10_correct_95 (by decide) rfl ?_
          refine pw_iconst C dX10_correct_98 ?_
          exact pw_iret C hR dX10_correct_99 ((by have hcd : cd3 (0 ≤ t ∧ t < A 0 0 1) ((0 ≤ f ∧ f < 4) ∧ ¬ A (200 + t) 0 f = -1) (A (200 + t) 1 7 = -1 ∧ A 0 0 1 < 60) = 3 := (by unfold cd3; first | (exfalso; omega) | rw [if_pos (by omega)] | rw [if_neg (by omega), if_pos (by omega)] | rw [if_neg (by omega), if_neg (by omega), if_pos (by omega)] | rw [if_neg (by omega), if_neg (by omega), if_neg (by omega)]); exact ⟨_, rfl, by rw [hcd, ← e5]; exact Fq.rf, fun h => absurd (hcd.symm.trans h) (by decide), D, I, by rw [if_neg (fun h => absurd (hcd.symm.trans h) (by decide))]; exact hM⟩)) (by show _ ≤ 4; omega) (by show _ ≤ 118; omega)
        · skip
          refine pw_aload_n C dX10_correct_74 rfl ?_
          refine pw_getR C dX10_correct_75 fl_X10_19 hM.k rfl hM.r3 ?_
          refine pw_cVE C hX dX10_correct_78 ml_X10_33 mc_Jx4a65c_size_8abf5 (c_size hM.l3) kc_2 hM.l3.k rfl rfl ⟨Nat.le_of_ble_eq_true rfl, Nat.le_of_ble_eq_true rfl⟩ (Nat.le_of_ble_eq_true rfl) (by show 0 + 0 ≤ 4 ∧ 0 + 0 ≤ 118; omega) ?_
          refine pw_bipush C dX10_correct_81 rfl ?_
          refine pw_icmp_ne (tgt := 90) C dX10_correct_83 (by decide) (by omega) (fun c_83 => ?_) (fun c_83 => ?_)
          · skip
            refine pw_iconst C dX10_correct_90 ?_
            refine pw_iconst C dX10_correct_91 ?_
            refine pw_cVI C hX dX10_correct_92 ml_X10_29 mc_X10_refuse (m_refuse hM hA (z := 0) (w := 3) (by omega) (by omega) (by rw [e4, mup_s])) kc_13 hM.k rfl rfl ⟨Nat.le_of_ble_eq_true rfl, Nat.le_of_ble_eq_true rfl⟩ (Nat.le_of_ble_eq_true rfl) (by show 0 + 0 ≤ 4 ∧ 0 + 0 ≤ 118; omega) (fun r_ G M6 hq_ => ?_)
            obtain ⟨rfl, rfl, e6⟩ := hq_
            rw [if_pos rfl] at e6
            have hMn : RM G M6 Q A D I := by rw [e6]; exact hM.th
            rw [e4, mup_mup] at e6
            clear hM
            have hM := hMn
            clear hMn
            have hK6 : Kp G M6 G M6 := Kp.rf
            refine pw_ifL_eq (tgt := 100) C dX10_correct_95 (by decide) rfl ?_
            refine pw_aload_n C dX10_correct_100 rfl ?_
            refine pw_getR C dX10_correct_101 fl_X10_19 hM.k rfl hM.r3 ?_
            refine pw_iload_n C dX10_correct_104 rfl ?_
            refine pw_cVR C hX dX10_correct_105 ml_X10_45 mc_Jx4a65c_get_915e3 (hM.g3 (i := t) (by omega)) kc_2 hM.l3.k rfl rfl ⟨Nat.le_of_ble_eq_true rfl, Nat.le_of_ble_eq_true rfl⟩ (Nat.le_of_ble_eq_true rfl) (by show 0 + 0 ≤ 4 ∧ 0 + 0 ≤ 118; omega) ?_
            refine pw_cast (Cn := "SlugwireModel$Take") C dX10_correct_108 (List.mem_of_getElem? (i := 1149) (by decide +kernel)) (by rw [(hM.ta t (by omega) (by omega)).1]; exact kc_12) ?_
            refine pw_astore_n C dX10_correct_111 (Nat.le_of_ble_eq_true rfl) rfl ?_
            refine pw_aload_n C dX10_correct_112 rfl ?_
            refine pw_aload_n C dX10_correct_113 rfl ?_
            refine pw_aload_n C dX10_correct_114 rfl ?_
            refine pw_getE C dX10_correct_115 fl_X10_188 rfl (hM.ta t (by omega) (by omega)).1 (hM.ta t (by omega) (by omega)).2.2.2.1.1 ?_
            have b_115 := (hA.ta t (by omega)).s0
            refine pw_iload_n C dX10_correct_118 rfl ?_
            have hst := hB.2.2.2 t (by omega) (by omega)
            have hs0 := (hA.ta t (by omega)).s0
            refine pw_cVR C hX dX10_correct_119 ml_X10_123 mc_X10_fact (m_fact hM hA (s := A (200 + t) 1 0) (f := f) (by omega) (by omega)) kc_13 hM.k rfl rfl ⟨Nat.le_of_ble_eq_true rfl, Nat.le_of_ble_eq_true rfl⟩ (Nat.le_of_ble_eq_true rfl) (by show 0 + 0 ≤ 4 ∧ 0 + 0 ≤ 118; omega) ?_
            refine pw_cVE C hX dX10_correct_122 ml_X10_96 mc_X10_truth (m_truth hM hA (hM.fa (A (200 + t) 1 0 * 4 + f) (by omega) (by omega)) (hA.fa (A (200 + t) 1 0 * 4 + f) (by omega)).f0) kc_13 hM.k rfl rfl ⟨Nat.le_of_ble_eq_true rfl, Nat.le_of_ble_eq_true rfl⟩ (Nat.le_of_ble_eq_true rfl) (by show 0 + 0 ≤ 4 ∧ 0 + 0 ≤ 118; omega) ?_
            have htr := (hW.f (A (200 + t) 1 0 * 4 + f) (by omega) (by omega)).1
            rw [← htr]
            have btr := (hA.fa (A (200 + t) 1 0 * 4 + f) (by omega)).s0
            have btv := (hA.ta t (by omega)).v0 f (by omega) (by omega)
            obtain ⟨v, ev⟩ : ∃ v, A (100 + (A (200 + t) 1 0 * 4 + f)) 1 0 = v := ⟨_, rfl⟩
            rw [ev] at btr ⊢
            clear htr
            refine pw_istore C dX10_correct_125 (Nat.le_of_ble_eq_true rfl) rfl ?_
            refine pw_iload C dX10_correct_127 rfl ?_
            refine pw_iconst C dX10_correct_129 ?_
            refine pw_icmp_eq (tgt := 144) C dX10_correct_130 (by decide) (by omega) (fun c_130 => ?_) (fun c_130 => ?_)
            · skip
              refine pw_bipush C dX10_correct_144 rfl ?_
              have hcc : A (100 + (A (200 + t) 1 0 * 4 + f)) 1 0 = -1 ∨ A (100 + (A (200 + t) 1 0 * 4 + f)) 1 0 = A (200 + t) 0 f := by rw [ev]; omega
              exact pw_iret C hR dX10_correct_146 ((by have hcd : cd3 (0 ≤ t ∧ t < A 0 0 1) ((0 ≤ f ∧ f < 4) ∧ ¬ A (200 + t) 0 f = -1) (A (200 + t) 1 7 = -1 ∧ A 0 0 1 < 60) = 0 := (by unfold cd3; first | (exfalso; omega) | rw [if_pos (by omega)] | rw [if_neg (by omega), if_pos (by omega)] | rw [if_neg (by omega), if_neg (by omega), if_pos (by omega)] | rw [if_neg (by omega), if_neg (by omega), if_neg (by omega)]); exact ⟨_, rfl, by rw [hcd, ← e6]; exact Fq.rf, fun _ => by rw [if_pos hcc], _, _, by rw [if_pos hcd]; exact (by rw [if_pos hcc]; exact hM)⟩)) (by omega) (by omega)
            · skip
              refine pw_iload C dX10_correct_133 rfl ?_
              refine pw_aload_n C dX10_correct_135 rfl ?_
              refine pw_getR C dX10_correct_136 fl_X10_169 (hM.ta t (by omega) (by omega)).1 rfl (hM.ta t (by omega) (by omega)).2.1 ?_
              refine pw_iload_n C dX10_correct_139 rfl ?_
              refine pw_ialdE C dX10_correct_140 (hM.ta t (by omega) (by omega)).2.2.1 (by omega) ((hM.ta t (by omega) (by omega)).2.2.2.2 f (by omega) (by omega) (by omega)) ?_
              have b_140 := (hA.ta t (by omega)).v0 f (by omega) (by omega)
              refine pw_icmp_ne (tgt := 147) C dX10_correct_141 (by decide) (by omega) (fun c_141 => ?_) (fun c_141 => ?_)
              · skip
                refine pw_new C dX10_correct_147 nl_X10_154 (Nat.le_of_ble_eq_true rfl) (Nat.le_of_ble_eq_true rfl) ?_
                have hKn : Kp G M6 (nG G 12 0) (nM G M6) := Kp.rf.new
                have hn0 : nG G 12 0 0 (G 4 0 0) 0 = 12 := nG_kind
                have hn4 : nG G 12 0 4 0 0 = G 4 0 0 + 1 := nG_next
                have hnz : ∀ f, nM G M6 0 f (G 4 0 0) = 0 := fun f => nM_fld
                have hq9 := hM.q
                obtain ⟨x, ex⟩ : ∃ x, G 4 0 0 = x := ⟨_, rfl⟩
                rw [ex] at hn0 hn4 hnz hq9 ⊢
                generalize nG G 12 0 = Gn at hKn hn0 hn4 ⊢
                generalize nM G M6 = Mn at hKn hnz ⊢
                have hMn := hM.kp hKn
                refine pw_dup C dX10_correct_150 (cat_vR _) ?_
                refine pw_aload_n C dX10_correct_151 rfl ?_
                refine pw_getE C dX10_correct_152 fl_X10_188 rfl (hMn.ta t (by omega) (by omega)).1 (hMn.ta t (by omega) (by omega)).2.2.2.1.1 ?_
                have b_152 := (hA.ta t (by omega)).s0
                refine pw_iconst C dX10_correct_155 ?_
                refine pw_iconst C dX10_correct_156 ?_
                refine pw_iload_n C dX10_correct_157 rfl ?_
                refine pw_ishl C dX10_correct_158 ?_
                refine pw_top (v' := vI (p2 f)) (congrArg Value.int (shl_eq (by omega))) ?_
                have bp2 := p2_bd (f := f) (by omega)
                refine pw_iconst C dX10_correct_159 ?_
                refine pw_bipush C dX10_correct_160 rfl ?_
                refine pw_iconst C dX10_correct_162 ?_
                refine pw_iload_n C dX10_correct_163 rfl ?_
                refine pw_aload_n C dX10_correct_164 rfl ?_
                refine pw_getE C dX10_correct_165 fl_X10_130 rfl hMn.k hMn.w ?_
                refine pw_cIU C hX dX10_correct_168 ml_X10_163 mc_X9_init (m_takeInit (a := x) (s := (A (200 + t) 1 0)) (k := 2) (set := (p2 f)) (g := 0) (wd := 15) (hd := 0) (of := t) (fd := A 0 0 3) (by omega) hn0 hn4 hnz (by omega)) (by omega) rfl rfl ⟨Nat.le_of_ble_eq_true rfl, Nat.le_of_ble_eq_true rfl⟩ (Nat.le_of_ble_eq_true rfl) (by show 1 + 1 ≤ 4 ∧ 10 + 4 ≤ 118; omega) (fun G2 M2 hq_ => ?_)
                obtain ⟨hTm, h24, ho2⟩ := hq_
                have hK2 : Kp G M6 G2 M2 := ⟨fun b hb => (hKn.1 b hb).tr (ho2 b (by omega)), by omega⟩
                have hM2 := hM.kp hK2
                clear ho2 hKn hn0 hn4 hnz hMn
                refine pw_astore C dX10_correct_171 (Nat.le_of_ble_eq_true rfl) rfl ?_
                refine pw_aload C dX10_correct_173 rfl ?_
                refine pw_getR C dX10_correct_175 fl_X10_169 hTm.1 rfl hTm.2.1 ?_
                refine pw_iload_n C dX10_correct_178 rfl ?_
                refine pw_iload C dX10_correct_179 rfl ?_
                refine pw_iastG C dX10_correct_181 hTm.2.2.1 (by omega) (fun M9 e9 => ?_)
                have hT9 : MTa G2 M9 x (lup (Tmk (A (200 + t) 1 0) 2 (p2 f) 0 15 0 t (A 0 0 3)) 0 f v) := by rw [e9]; exact hTm.v
                have hK9 : Kp G M6 G2 M9 := by rw [e9]; exact hK2.w (x := x + 1) (by omega) agr_M1 rfl
                have hM9 := hM.kp hK9
                clear e9
                refine pw_aload_n C dX10_correct_182 rfl ?_
                refine pw_aload C dX10_correct_183 rfl ?_
                have hcc : ¬ (A (100 + (A (200 + t) 1 0 * 4 + f)) 1 0 = -1 ∨ A (100 + (A (200 + t) 1 0 * 4 + f)) 1 0 = A (200 + t) 0 f) := by rw [ev]; omega
                have zT := nT_1 (A := A) (s := A (200 + t) 1 0) (k := 2) (set := p2 f) (g := 0) (hd := 0) (tg := t)
                have b7 := hB.2.1 (A 0 0 1) (Int.le_refl _) (by omega)
                have hTn : MTa G2 M9 x (nT A (A (200 + t) 1 0) 2 (p2 f) 0 0 t) := by
                  refine hT9.ext ⟨?_, ?_, ?_, ?_, ?_, ?_, ?_, ?_⟩ ?_ (fun j q1 q2 q3 => ?_)
                  · rw [lup_n (by omega), zT.1]; rfl
                  · rw [lup_n (by omega), zT.2.1]; rfl
                  · rw [lup_n (by omega), zT.2.2.1]; rfl
                  · rw [lup_n (by omega), zT.2.2.2.2.2.1]; rfl
                  · rw [lup_n (by omega), zT.2.2.2.1]; rfl
                  · rw [lup_n (by omega), zT.2.2.2.2.1]; rfl
                  · rw [lup_n (by omega), zT.2.2.2.2.2.2.1]; rfl
                  · rw [lup_n (by omega), zT.2.2.2.2.2.2.2.2]; rfl
                  · rw [lup_n (by omega), zT.2.2.2.2.2.2.2.1, b7]; rfl
                  · rw [nT_0] at q3 ⊢
                    by_cases hj : ins (p2 f) j
                    · have ej := (ins_p2 (by omega) ⟨q1, q2⟩).mp hj
                      rw [if_pos hj, ej, lup_s]; exact ev.symm
                    · rw [if_neg hj] at q3; exact absurd rfl q3
                have w15 : wdf 2 (bc (p2 f)) = 15 := rfl
                refine pw_cVU C hX dX10_correct_185 ml_X10_175 mc_X10_add (m_add hM hA hK9 (by omega) hTn (by omega) (by rw [zT.2.2.2.1, w15]; omega)) kc_13 hM9.k rfl rfl ⟨Nat.le_of_ble_eq_true rfl, Nat.le_of_ble_eq_true rfl⟩ (Nat.le_of_ble_eq_true rfl) (by show 2 + 2 ≤ 4 ∧ 14 + 104 ≤ 118; omega) (fun G9 M8 hq_ => ?_)
                obtain ⟨hFa, D9, I9, hMa⟩ := hq_
                have hc9 : aRun (aT A (nT A (A (200 + t) 1 0) 2 (p2 f) 0 0 t)) (A 0 0 1) 0 0 1 = A 0 0 1 + 1 := by unfold aRun; rw [onL_n (by rw [aT_0 (by omega), if_neg (by omega)]; omega), aT_0 (by omega), if_pos rfl]
                refine pw_aload_n C dX10_correct_188 rfl ?_
                refine pw_getR C dX10_correct_189 fl_X10_19 hMa.k rfl hMa.r3 ?_
                have hLz := hMa.l3
                rw [hc9] at hLz
                refine pw_cVE C hX dX10_correct_192 ml_X10_33 mc_Jx4a65c_size_8abf5 (c_size hLz) kc_2 hMa.l3.k rfl rfl ⟨Nat.le_of_ble_eq_true rfl, Nat.le_of_ble_eq_true rfl⟩ (Nat.le_of_ble_eq_true rfl) (by show 4 + 0 ≤ 4 ∧ 118 + 0 ≤ 118; omega) ?_
                refine pw_iconst C dX10_correct_195 ?_
                refine pw_isub C dX10_correct_196 ?_
                exact pw_iret C hR dX10_correct_197 ((by have hcd : cd3 (0 ≤ t ∧ t < A 0 0 1) ((0 ≤ f ∧ f < 4) ∧ ¬ A (200 + t) 0 f = -1) (A (200 + t) 1 7 = -1 ∧ A 0 0 1 < 60) = 0 := (by unfold cd3; first | (exfalso; omega) | rw [if_pos (by omega)] | rw [if_neg (by omega), if_pos (by omega)] | rw [if_neg (by omega), if_neg (by omega), if_pos (by omega)] | rw [if_neg (by omega), if_neg (by omega), if_neg (by omega)]); exact ⟨_, rfl, by rw [hcd, ← e6]; exact hFa, fun _ => by rw [if_neg hcc]; omega, _, _, by rw [if_pos hcd]; exact (by rw [if_neg hcc]; exact hMa)⟩)) (by omega) (by omega)
              · skip
                refine pw_bipush C dX10_correct_144 rfl ?_
                have hcc : A (100 + (A (200 + t) 1 0 * 4 + f)) 1 0 = -1 ∨ A (100 + (A (200 + t) 1 0 * 4 + f)) 1 0 = A (200 + t) 0 f := by rw [ev]; omega
                exact pw_iret C hR dX10_correct_146 ((by have hcd : cd3 (0 ≤ t ∧ t < A 0 0 1) ((0 ≤ f ∧ f < 4) ∧ ¬ A (200 + t) 0 f = -1) (A (200 + t) 1 7 = -1 ∧ A 0 0 1 < 60) = 0 := (by unfold cd3; first | (exfalso; omega) | rw [if_pos (by omega)] | rw [if_neg (by omega), if_pos (by omega)] | rw [if_neg (by omega), if_neg (by omega), if_pos (by omega)] | rw [if_neg (by omega), if_neg (by omega), if_neg (by omega)]); exact ⟨_, rfl, by rw [hcd, ← e6]; exact Fq.rf, fun _ => by rw [if_pos hcc], _, _, by rw [if_pos hcd]; exact (by rw [if_pos hcc]; exact hM)⟩)) (by omega) (by omega)
          · skip
            refine pw_iconst C dX10_correct_86 ?_
            refine pw_goto (tgt := 91) C dX10_correct_87 (by decide) ?_
            refine pw_iconst C dX10_correct_91 ?_
            refine pw_cVI C hX dX10_correct_92 ml_X10_29 mc_X10_refuse (m_refuse hM hA (z := 1) (w := 3) (by omega) (by omega) (by rw [e4, mup_s])) kc_13 hM.k rfl rfl ⟨Nat.le_of_ble_eq_true rfl, Nat.le_of_ble_eq_true rfl⟩ (Nat.le_of_ble_eq_true rfl) (by show 0 + 0 ≤ 4 ∧ 0 + 0 ≤ 118; omega) (fun r_ G M7 hq_ => ?_)
            obtain ⟨rfl, rfl, e7⟩ := hq_
            rw [if_neg (by decide)] at e7
            have hMn : RM G M7 Q A D I := by rw [e7]; exact hM.th
            rw [e4, mup_mup] at e7
            clear hM
            have hM := hMn
            clear hMn
            have hK7 : Kp G M7 G M7 := Kp.rf
            refine pw_ifL_eqn (tgt := 100) C dX10_correct_95 (by decide) rfl ?_
            refine pw_iconst C dX10_correct_98 ?_
            exact pw_iret C hR dX10_correct_99 ((by have hcd : cd3 (0 ≤ t ∧ t < A 0 0 1) ((0 ≤ f ∧ f < 4) ∧ ¬ A (200 + t) 0 f = -1) (A (200 + t) 1 7 = -1 ∧ A 0 0 1 < 60) = 3 := (by unfold cd3; first | (exfalso; omega) | rw [if_pos (by omega)] | rw [if_neg (by omega), if_pos (by omega)] | rw [if_neg (by omega), if_neg (by omega), if_pos (by omega)] | rw [if_neg (by omega), if_neg (by omega), if_neg (by omega)]); exact ⟨_, rfl, by rw [hcd, ← e7]; exact Fq.rf, fun h => absurd (hcd.symm.trans h) (by decide), D, I, by rw [if_neg (fun h => absurd (hcd.symm.trans h) (by decide))]; exact hM⟩)) (by show _ ≤ 4; omega) (by show _ ≤ 118; omega)
      · skip
        have hv9 : A (200 + t) 0 f = -1 := Decidable.not_not.mp (fun q => c_41 (hi9.mpr q))
        refine pw_iconst C dX10_correct_44 ?_
        refine pw_goto (tgt := 49) C dX10_correct_45 (by decide) ?_
        refine pw_iconst C dX10_correct_49 ?_
        refine pw_cVI C hX dX10_correct_50 ml_X10_29 mc_X10_refuse (m_refuse hM hA (z := 1) (w := 2) (by omega) (by omega) (by rw [e2, mup_s])) kc_13 hM.k rfl rfl ⟨Nat.le_of_ble_eq_true rfl, Nat.le_of_ble_eq_true rfl⟩ (Nat.le_of_ble_eq_true rfl) (by show 0 + 0 ≤ 4 ∧ 0 + 0 ≤ 118; omega) (fun r_ G M8 hq_ => ?_)
        obtain ⟨rfl, rfl, e8⟩ := hq_
        rw [if_neg (by decide)] at e8
        have hMn : RM G M8 Q A D I := by rw [e8]; exact hM.th
        rw [e2, mup_mup] at e8
        clear hM
        have hM := hMn
        clear hMn
        have hK8 : Kp G M8 G M8 := Kp.rf
        refine pw_ifL_ne (tgt := 98) C dX10_correct_53 (by decide) rfl ?_
        refine pw_iconst C dX10_correct_98 ?_
        exact pw_iret C hR dX10_correct_99 ((by have hcd : cd3 (0 ≤ t ∧ t < A 0 0 1) ((0 ≤ f ∧ f < 4) ∧ ¬ A (200 + t) 0 f = -1) (A (200 + t) 1 7 = -1 ∧ A 0 0 1 < 60) = 2 := (by unfold cd3; first | (exfalso; omega) | rw [if_pos (by omega)] | rw [if_neg (by omega), if_pos (by omega)] | rw [if_neg (by omega), if_neg (by omega), if_pos (by omega)] | rw [if_neg (by omega), if_neg (by omega), if_neg (by omega)]); exact ⟨_, rfl, by rw [hcd, ← e8]; exact Fq.rf, fun h => absurd (hcd.symm.trans h) (by decide), D, I, by rw [if_neg (fun h => absurd (hcd.symm.trans h) (by decide))]; exact hM⟩)) (by show _ ≤ 4; omega) (by show _ ≤ 118; omega)

set_option maxHeartbeats 4000000 in
set_option maxRecDepth 100000 in
theorem m_kill {X : Xv} {G M : Mm} {Q : Int} {A : An} {D : Fn} {I : Int → Int} (hM : RM G M Q A D I) (hA : AB A) (hW : WF A) (hB : BK A) {t : Int} (r_t : -2147483648 ≤ t ∧ t ≤ 2147483647) : CT X yX10_kill prog_8_method_33_code 5 (some .int) 7 176 4 118 [vR Q, vI t] G M (PI (fun r G1 M1 => Fq Q G (mup M 0 240 Q (cd2 (0 ≤ t ∧ t < A 0 0 1) ((¬ A (200 + t) 1 1 = 1 ∧ A (200 + t) 1 7 = -1) ∧ A 0 0 1 < 60))) G1 M1 ∧ (cd2 (0 ≤ t ∧ t < A 0 0 1) ((¬ A (200 + t) 1 1 = 1 ∧ A (200 + t) 1 7 = -1) ∧ A 0 0 1 < 60) = 0 → r = nKil A t) ∧ ∃ D1 I1, RM G1 M1 Q (if cd2 (0 ≤ t ∧ t < A 0 0 1) ((¬ A (200 + t) 1 1 = 1 ∧ A (200 + t) 1 7 = -1) ∧ A 0 0 1 < 60) = 0 then aKil A t else A) D1 I1)) := by
  refine CT.by (by decide +kernel) [1, 1] ⟨cat_vR _, cat_vI _, trivial⟩ (Nat.le_of_ble_eq_true rfl) (fun E hX C hR hIni => ?_)
  have hn := hA.n
  have hnS := hA.so.c
  refine pw_aload_n C dX10_kill_0 rfl ?_
  refine pw_aload_n C dX10_kill_1 rfl ?_
  refine pw_iload_n C dX10_kill_2 rfl ?_
  refine pw_cVE C hX dX10_kill_3 ml_X10_178 mc_X10_isNoTake (m_isNoTake hM hA (i := t) (by omega)) kc_13 hM.k rfl rfl ⟨Nat.le_of_ble_eq_true rfl, Nat.le_of_ble_eq_true rfl⟩ (Nat.le_of_ble_eq_true rfl) (by show 0 + 0 ≤ 4 ∧ 0 + 0 ≤ 118; omega) ?_
  refine pw_iconst C dX10_kill_6 ?_
  by_cases cz_7 : ¬ (0 ≤ t ∧ t < A 0 0 1)
  · skip
    rw [bI_t cz_7]
    refine pw_cVI C hX dX10_kill_7 ml_X10_103 mc_X10_start (m_start hM hA (z := 1) (w := 1) (by omega) (by omega)) kc_13 hM.k rfl rfl ⟨Nat.le_of_ble_eq_true rfl, Nat.le_of_ble_eq_true rfl⟩ (Nat.le_of_ble_eq_true rfl) (by show 0 + 0 ≤ 4 ∧ 0 + 0 ≤ 118; omega) (fun r_ G M1 hq_ => ?_)
    obtain ⟨rfl, rfl, e1⟩ := hq_
    rw [if_neg (by decide)] at e1
    have hMn : RM G M1 Q A D I := by rw [e1]; exact hM.th
    clear hM
    have hM := hMn
    clear hMn
    have hK1 : Kp G M1 G M1 := Kp.rf
    refine pw_ifL_ne (tgt := 73) C dX10_kill_10 (by decide) rfl ?_
    refine pw_iconst C dX10_kill_73 ?_
    exact pw_iret C hR dX10_kill_74 ((by have hcd : cd2 (0 ≤ t ∧ t < A 0 0 1) ((¬ A (200 + t) 1 1 = 1 ∧ A (200 + t) 1 7 = -1) ∧ A 0 0 1 < 60) = 1 := (by unfold cd2; first | (exfalso; omega) | rw [if_pos (by omega)] | rw [if_neg (by omega), if_pos (by omega)] | rw [if_neg (by omega), if_neg (by omega)]); exact ⟨_, rfl, by rw [hcd, ← e1]; exact Fq.rf, fun h => absurd (hcd.symm.trans h) (by decide), D, I, by rw [if_neg (fun h => absurd (hcd.symm.trans h) (by decide))]; exact hM⟩)) (by show _ ≤ 4; omega) (by show _ ≤ 118; omega)
  · skip
    rw [bI_f cz_7]
    refine pw_cVI C hX dX10_kill_7 ml_X10_103 mc_X10_start (m_start hM hA (z := 0) (w := 1) (by omega) (by omega)) kc_13 hM.k rfl rfl ⟨Nat.le_of_ble_eq_true rfl, Nat.le_of_ble_eq_true rfl⟩ (Nat.le_of_ble_eq_true rfl) (by show 0 + 0 ≤ 4 ∧ 0 + 0 ≤ 118; omega) (fun r_ G M2 hq_ => ?_)
    obtain ⟨rfl, rfl, e2⟩ := hq_
    rw [if_pos rfl] at e2
    have hMn : RM G M2 Q A D I := by rw [e2]; exact hM.th
    clear hM
    have hM := hMn
    clear hMn
    have hK2 : Kp G M2 G M2 := Kp.rf
    refine pw_ifL_nen (tgt := 73) C dX10_kill_10 (by decide) rfl ?_
    refine pw_aload_n C dX10_kill_13 rfl ?_
    refine pw_aload_n C dX10_kill_14 rfl ?_
    refine pw_getR C dX10_kill_15 fl_X10_19 hM.k rfl hM.r3 ?_
    refine pw_iload_n C dX10_kill_18 rfl ?_
    refine pw_cVR C hX dX10_kill_19 ml_X10_45 mc_Jx4a65c_get_915e3 (hM.g3 (i := t) (by omega)) kc_2 hM.l3.k rfl rfl ⟨Nat.le_of_ble_eq_true rfl, Nat.le_of_ble_eq_true rfl⟩ (Nat.le_of_ble_eq_true rfl) (by show 0 + 0 ≤ 4 ∧ 0 + 0 ≤ 118; omega) ?_
    refine pw_cast (Cn := "SlugwireModel$Take") C dX10_kill_22 (List.mem_of_getElem? (i := 1149) (by decide +kernel)) (by rw [(hM.ta t (by omega) (by omega)).1]; exact kc_12) ?_
    refine pw_getE C dX10_kill_25 fl_X10_191 rfl (hM.ta t (by omega) (by omega)).1 (hM.ta t (by omega) (by omega)).2.2.2.1.2.1 ?_
    have b_25 := (hA.ta t (by omega)).s1
    refine pw_iconst C dX10_kill_28 ?_
    refine pw_icmp_eq (tgt := 61) C dX10_kill_29 (by decide) (by omega) (fun c_29 => ?_) (fun c_29 => ?_)
    · skip
      refine pw_iconst C dX10_kill_61 ?_
      refine pw_goto (tgt := 66) C dX10_kill_62 (by decide) ?_
      refine pw_iconst C dX10_kill_66 ?_
      refine pw_cVI C hX dX10_kill_67 ml_X10_29 mc_X10_refuse (m_refuse hM hA (z := 1) (w := 2) (by omega) (by omega) (by rw [e2, mup_s])) kc_13 hM.k rfl rfl ⟨Nat.le_of_ble_eq_true rfl, Nat.le_of_ble_eq_true rfl⟩ (Nat.le_of_ble_eq_true rfl) (by show 0 + 0 ≤ 4 ∧ 0 + 0 ≤ 118; omega) (fun r_ G M3 hq_ => ?_)
      obtain ⟨rfl, rfl, e3⟩ := hq_
      rw [if_neg (by decide)] at e3
      have hMn : RM G M3 Q A D I := by rw [e3]; exact hM.th
      rw [e2, mup_mup] at e3
      clear hM
      have hM := hMn
      clear hMn
      have hK3 : Kp G M3 G M3 := Kp.rf
      refine pw_ifL_eqn (tgt := 75) C dX10_kill_70 (by decide) rfl ?_
      refine pw_iconst C dX10_kill_73 ?_
      exact pw_iret C hR dX10_kill_74 ((by have hcd : cd2 (0 ≤ t ∧ t < A 0 0 1) ((¬ A (200 + t) 1 1 = 1 ∧ A (200 + t) 1 7 = -1) ∧ A 0 0 1 < 60) = 2 := (by unfold cd2; first | (exfalso; omega) | rw [if_pos (by omega)] | rw [if_neg (by omega), if_pos (by omega)] | rw [if_neg (by omega), if_neg (by omega)]); exact ⟨_, rfl, by rw [hcd, ← e3]; exact Fq.rf, fun h => absurd (hcd.symm.trans h) (by decide), D, I, by rw [if_neg (fun h => absurd (hcd.symm.trans h) (by decide))]; exact hM⟩)) (by show _ ≤ 4; omega) (by show _ ≤ 118; omega)
    · skip
      refine pw_aload_n C dX10_kill_32 rfl ?_
      refine pw_getR C dX10_kill_33 fl_X10_19 hM.k rfl hM.r3 ?_
      refine pw_iload_n C dX10_kill_36 rfl ?_
      refine pw_cVR C hX dX10_kill_37 ml_X10_45 mc_Jx4a65c_get_915e3 (hM.g3 (i := t) (by omega)) kc_2 hM.l3.k rfl rfl ⟨Nat.le_of_ble_eq_true rfl, Nat.le_of_ble_eq_true rfl⟩ (Nat.le_of_ble_eq_true rfl) (by show 0 + 0 ≤ 4 ∧ 0 + 0 ≤ 118; omega) ?_
      refine pw_cast (Cn := "SlugwireModel$Take") C dX10_kill_40 (List.mem_of_getElem? (i := 1149) (by decide +kernel)) (by rw [(hM.ta t (by omega) (by omega)).1]; exact kc_12) ?_
      refine pw_getE C dX10_kill_43 fl_X10_184 rfl (hM.ta t (by omega) (by omega)).1 (hM.ta t (by omega) (by omega)).2.2.2.1.2.2.2.2.2.2.2.2 ?_
      have b_43 := (hA.ta t (by omega)).s7
      refine pw_ifB_ne (tgt := 61) C dX10_kill_46 (by decide) (fun c_46 => ?_) (fun c_46 => ?_)
      · skip
        refine pw_iconst C dX10_kill_61 ?_
        refine pw_goto (tgt := 66) C dX10_kill_62 (by decide) ?_
        refine pw_iconst C dX10_kill_66 ?_
        refine pw_cVI C hX dX10_kill_67 ml_X10_29 mc_X10_refuse (m_refuse hM hA (z := 1) (w := 2) (by omega) (by omega) (by rw [e2, mup_s])) kc_13 hM.k rfl rfl ⟨Nat.le_of_ble_eq_true rfl, Nat.le_of_ble_eq_true rfl⟩ (Nat.le_of_ble_eq_true rfl) (by show 0 + 0 ≤ 4 ∧ 0 + 0 ≤ 118; omega) (fun r_ G M4 hq_ => ?_)
        obtain ⟨rfl, rfl, e4⟩ := hq_
        rw [if_neg (by decide)] at e4
        have hMn : RM G M4 Q A D I := by rw [e4]; exact hM.th
        rw [e2, mup_mup] at e4
        clear hM
        have hM := hMn
        clear hMn
        have hK4 : Kp G M4 G M4 := Kp.rf
        refine pw_ifL_eqn (tgt := 75) C dX10_kill_70 (by decide) rfl ?_
        refine pw_iconst C dX10_kill_73 ?_
        exact pw_iret C hR dX10_kill_74 ((by have hcd : cd2 (0 ≤ t ∧ t < A 0 0 1) ((¬ A (200 + t) 1 1 = 1 ∧ A (200 + t) 1 7 = -1) ∧ A 0 0 1 < 60) = 2 := (by unfold cd2; first | (exfalso; omega) | rw [if_pos (by omega)] | rw [if_neg (by omega), if_pos (by omega)] | rw [if_neg (by omega), if_neg (by omega)]); exact ⟨_, rfl, by rw [hcd, ← e4]; exact Fq.rf, fun h => absurd (hcd.symm.trans h) (by decide), D, I, by rw [if_neg (fun h => absurd (hcd.symm.trans h) (by decide))]; exact hM⟩)) (by show _ ≤ 4; omega) (by show _ ≤ 118; omega)
      · skip
        refine pw_aload_n C dX10_kill_49 rfl ?_
        refine pw_getR C dX10_kill_50 fl_X10_19 hM.k rfl hM.r3 ?_
        refine pw_cVE C hX dX10_kill_53 ml_X10_33 mc_Jx4a65c_size_8abf5 (c_size hM.l3) kc_2 hM.l3.k rfl rfl ⟨Nat.le_of_ble_eq_true rfl, Nat.le_of_ble_eq_true rfl⟩ (Nat.le_of_ble_eq_true rfl) (by show 0 + 0 ≤ 4 ∧ 0 + 0 ≤ 118; omega) ?_
        refine pw_bipush C dX10_kill_56 rfl ?_
        refine pw_icmp_ne (tgt := 65) C dX10_kill_58 (by decide) (by omega) (fun c_58 => ?_) (fun c_58 => ?_)
        · skip
          refine pw_iconst C dX10_kill_65 ?_
          refine pw_iconst C dX10_kill_66 ?_
          refine pw_cVI C hX dX10_kill_67 ml_X10_29 mc_X10_refuse (m_refuse hM hA (z := 0) (w := 2) (by omega) (by omega) (by rw [e2, mup_s])) kc_13 hM.k rfl rfl ⟨Nat.le_of_ble_eq_true rfl, Nat.le_of_ble_eq_true rfl⟩ (Nat.le_of_ble_eq_true rfl) (by show 0 + 0 ≤ 4 ∧ 0 + 0 ≤ 118; omega) (fun r_ G M5 hq_ => ?_)
          obtain ⟨rfl, rfl, e5⟩ := hq_
          rw [if_pos rfl] at e5
          have hMn : RM G M5 Q A D I := by rw [e5]; exact hM.th
          rw [e2, mup_mup] at e5
          clear hM
          have hM := hMn
          clear hMn
          have hK5 : Kp G M5 G M5 := Kp.rf
          refine pw_ifL_eq (tgt := 75) C dX10_kill_70 (by decide) rfl ?_
          refine pw_aload_n C dX10_kill_75 rfl ?_
          refine pw_getR C dX10_kill_76 fl_X10_19 hM.k rfl hM.r3 ?_
          refine pw_iload_n C dX10_kill_79 rfl ?_
          refine pw_cVR C hX dX10_kill_80 ml_X10_45 mc_Jx4a65c_get_915e3 (hM.g3 (i := t) (by omega)) kc_2 hM.l3.k rfl rfl ⟨Nat.le_of_ble_eq_true rfl, Nat.le_of_ble_eq_true rfl⟩ (Nat.le_of_ble_eq_true rfl) (by show 0 + 0 ≤ 4 ∧ 0 + 0 ≤ 118; omega) ?_
          refine pw_cast (Cn := "SlugwireModel$Take") C dX10_kill_83 (List.mem_of_getElem? (i := 1149) (by decide +kernel)) (by rw [(hM.ta t (by omega) (by omega)).1]; exact kc_12) ?_
          refine pw_iconst C dX10_kill_86 ?_
          have hT0 := hM.ta t (by omega) (by omega)
          refine pw_putZG C dX10_kill_87 fl_X10_184 (fun h => by cases h) rfl (by omega) hT0.1 (fun Mk5 e5 => ?_)
          have hT5 : MTa G Mk5 (D 4 t) (lup (A (200 + t)) 1 7 (A 0 0 1)) := by rw [e5]; exact hT0.kl (by omega)
          have hO5 : Ot (D 4 t) (D 4 t + 1) M5 Mk5 := by rw [e5]; exact Ot.rf.u0 (by omega)
          have hM5 : RM G Mk5 Q (aup A (200 + t) (lup (A (200 + t)) 1 7 (A 0 0 1))) D I := hM.uT (by omega) hT5 hO5
          have hF5 : Fq Q G M5 G Mk5 := Fq.rf.wr hO5 (hM.p.t t (by omega) (by omega)).1.1
          have hA5 : AB (aup A (200 + t) (lup (A (200 + t)) 1 7 (A 0 0 1))) := hA.uT t (by omega) (tb_k (hA.ta t (by omega)) (by omega))
          have k50 : (aup A (200 + t) (lup (A (200 + t)) 1 7 (A 0 0 1))) 0 = A 0 := aup_n (by omega)
          have h51 := hM5.l3
          rw [k50] at h51
          clear e5 hT0 hT5 hO5
          refine pw_aload_n C dX10_kill_90 rfl ?_
          refine pw_getR C dX10_kill_91 fl_X10_19 hM5.k rfl hM5.r3 ?_
          refine pw_new C dX10_kill_94 nl_X10_154 (Nat.le_of_ble_eq_true rfl) (Nat.le_of_ble_eq_true rfl) ?_
          have hKn : Kp G Mk5 (nG G 12 0) (nM G Mk5) := Kp.rf.new
          have hn0 : nG G 12 0 0 (G 4 0 0) 0 = 12 := nG_kind
          have hn4 : nG G 12 0 4 0 0 = G 4 0 0 + 1 := nG_next
          have hnz : ∀ f, nM G Mk5 0 f (G 4 0 0) = 0 := fun f => nM_fld
          have hq9 := hM.q
          obtain ⟨x, ex⟩ : ∃ x, G 4 0 0 = x := ⟨_, rfl⟩
          rw [ex] at hn0 hn4 hnz hq9 ⊢
          generalize nG G 12 0 = Gn at hKn hn0 hn4 ⊢
          generalize nM G Mk5 = Mn at hKn hnz ⊢
          have hMn := hM5.kp hKn
          have hLn := hMn.l3
          rw [k50] at hLn
          have htn := (hMn.ta t (by omega) (by rw [k50]; omega))
          rw [aup_s] at htn
          have hnw := hMn.w
          rw [k50] at hnw
          refine pw_dup C dX10_kill_97 (cat_vR _) ?_
          refine pw_aload_n C dX10_kill_98 rfl ?_
          refine pw_getR C dX10_kill_99 fl_X10_19 hMn.k rfl hMn.r3 ?_
          refine pw_iload_n C dX10_kill_102 rfl ?_
          have hgt := hMn.g3 (X := X) (i := t) (by rw [k50]; omega)
          refine pw_cVR C hX dX10_kill_103 ml_X10_45 mc_Jx4a65c_get_915e3 hgt kc_2 hMn.l3.k rfl rfl ⟨Nat.le_of_ble_eq_true rfl, Nat.le_of_ble_eq_true rfl⟩ (Nat.le_of_ble_eq_true rfl) (by show 1 + 0 ≤ 4 ∧ 10 + 0 ≤ 118; omega) ?_
          refine pw_cast (Cn := "SlugwireModel$Take") C dX10_kill_106 (List.mem_of_getElem? (i := 1149) (by decide +kernel)) (by rw [htn.1]; exact kc_12) ?_
          refine pw_getE C dX10_kill_109 fl_X10_188 rfl htn.1 (htn.2.2.2.1.1.trans (lup_n (by omega))) ?_
          have hs0 := (hA.ta t (by omega)).s0
          refine pw_iconst C dX10_kill_112 ?_
          refine pw_iconst C dX10_kill_113 ?_
          refine pw_iconst C dX10_kill_114 ?_
          refine pw_iconst C dX10_kill_115 ?_
          refine pw_iconst C dX10_kill_116 ?_
          refine pw_iload_n C dX10_kill_117 rfl ?_
          refine pw_aload_n C dX10_kill_118 rfl ?_
          refine pw_getE C dX10_kill_119 fl_X10_130 rfl hMn.k hnw ?_
          refine pw_cIU C hX dX10_kill_122 ml_X10_163 mc_X9_init (m_takeInit (a := x) (s := A (200 + t) 1 0) (k := 1) (set := 0) (g := 0) (wd := 5) (hd := 0) (of := t) (fd := A 0 0 3) (by omega) hn0 hn4 hnz (by omega)) (by omega) rfl rfl ⟨Nat.le_of_ble_eq_true rfl, Nat.le_of_ble_eq_true rfl⟩ (Nat.le_of_ble_eq_true rfl) (by show 1 + 1 ≤ 4 ∧ 10 + 4 ≤ 118; omega) (fun G2 M2 hq_ => ?_)
          obtain ⟨hTm, h24, ho2⟩ := hq_
          have hK2 : Kp G Mk5 G2 M2 := ⟨fun b hb => (hKn.1 b hb).tr (ho2 b (by omega)), by omega⟩
          have hM2 := hM5.kp hK2
          have hL2 := hM2.l3
          rw [k50] at hL2
          clear ho2 hKn hn0 hn4 hnz hMn hLn htn hnw
          refine pw_cVI C hX dX10_kill_125 ml_X10_109 mc_Jx4a65c_add_9ea2d (c_add hL2 (by omega) (fun j q1 q2 => by rw [hM2.e3 j q1 (by rw [k50]; exact q2)]; have z := (hM2.p.t j q1 (by rw [k50]; exact q2)).1; exact okT (by omega) (hM2.ta j q1 (by rw [k50]; exact q2)).1) (v := x) (okT (by omega) hTm.1) (by omega)) kc_2 hL2.k rfl rfl ⟨Nat.le_of_ble_eq_true rfl, Nat.le_of_ble_eq_true rfl⟩ (Nat.le_of_ble_eq_true rfl) (by show 2 + 1 ≤ 4 ∧ 14 + 100 ≤ 118; omega) (fun r_ Ga Ma hq_ => ?_)
          obtain ⟨rfl, hadd⟩ := hq_
          have zT := nT_1 (A := A) (s := A (200 + t) 1 0) (k := 1) (set := 0) (g := 0) (hd := 0) (tg := t)
          have b7 := hB.2.1 (A 0 0 1) (Int.le_refl _) (by omega)
          have hTn : MTa G2 M2 x (nT A (A (200 + t) 1 0) 1 0 0 0 t) := by
            refine hTm.ext ⟨?_, ?_, ?_, ?_, ?_, ?_, ?_, ?_⟩ ?_ (fun j q1 q2 q3 => ?_)
            · rw [zT.1]; rfl
            · rw [zT.2.1]; rfl
            · rw [zT.2.2.1]; rfl
            · rw [zT.2.2.2.2.2.1]; rfl
            · rw [zT.2.2.2.1]; rfl
            · rw [zT.2.2.2.2.1]; rfl
            · rw [zT.2.2.2.2.2.2.1]; rfl
            · rw [zT.2.2.2.2.2.2.2.2]; rfl
            · rw [zT.2.2.2.2.2.2.2.1, b7]; rfl
            · rw [nT_0, if_neg ins_0] at q3; exact absurd rfl q3
          obtain ⟨D9, I9, hM9, hF9, hD9⟩ := hM5.addT hA5 (by rw [k50]; omega) ⟨by omega, by omega⟩ hK2 hTn (by rw [k50]; exact hadd)
          have ek : aT (aup A (200 + t) (lup (A (200 + t)) 1 7 (A 0 0 1))) (nT A (A (200 + t) 1 0) 1 0 0 0 t) = aKl0 A t := aT_k (by omega) (by omega)
          rw [ek] at hM9
          rw [k50] at hD9
          have hF8 : Fq Q G M5 Ga Ma := hF5.tr hF9
          clear hadd hTn hTm hF9 hF5 hL2 h51 ek
          have kn : aKl0 A t (200 + A 0 0 1) = (nT A (A (200 + t) 1 0) 1 0 0 0 t) := by unfold aKl0; rw [aup_n (by omega), aTk_t]
          have kc0 : ∀ c, aKl0 A t 0 0 c = if c = 1 then A 0 0 1 + 1 else A 0 0 c := fun c => by unfold aKl0; rw [aup_n (by omega), aTk_0 (by omega)]
          have hc2 : aKl0 A t 0 0 2 = A 0 0 2 := by rw [kc0, if_neg (by omega)]
          have hc1 : aKl0 A t 0 0 1 = A 0 0 1 + 1 := by rw [kc0, if_pos rfl]
          have kl0 : ∀ l, 0 ≤ l → l < A 0 0 2 → aKl0 A t (20 + l) = A (20 + l) := fun l q1 q2 => by unfold aKl0; rw [aup_n (by omega), aTk_o (by omega) (by omega)]
          have ef : ∀ L, klF (aKl0 A t) t (A 0 0 1) L = if L 0 t = 0 then enq L (A 0 0 1) 1 5 0 else lup L 0 t (-1) := fun L => by unfold klF; rw [kn, zT.2.1, zT.2.2.2.1, zT.2.2.2.2.1]; rfl
          refine pw_pop C dX10_kill_128 rfl ?_
          refine pw_iconst C dX10_kill_129 ?_
          refine pw_istore_n C dX10_kill_130 (Nat.le_of_ble_eq_true rfl) rfl ?_
          refine pw_aload_n C dX10_kill_131 rfl ?_
          refine pw_getR C dX10_kill_132 fl_X10_22 hM9.k rfl hM9.r4 ?_
          have hLi := hM9.l4
          have hqi := hM9.q
          refine pw_cVQ C hX dX10_kill_135 ml_X10_139 mc_Jx4a65c_iterator_32c93 (c_iterator hLi) kc_2 hLi.k rfl rfl ⟨Nat.le_of_ble_eq_true rfl, Nat.le_of_ble_eq_true rfl⟩ (Nat.le_of_ble_eq_true rfl) (by show 3 + 1 ≤ 4 ∧ 114 + 4 ≤ 118; omega) (fun it G6 M6 hq_ => ?_)
          obtain ⟨hit_, hI6, hT6, hk6⟩ := hq_
          obtain ⟨Ii, hMi, hi9⟩ := hM9.its hit_ hT6 hk6
          have hF6 : Fq Q G M5 G6 M6 := hF8.tr (hk6.fq (by omega))
          clear hk6 hT6 hLi hit_
          refine pw_astore_n C dX10_kill_138 (Nat.le_of_ble_eq_true rfl) rfl ?_
          suffices K_139 : ∀ (nn_139 : Nat) (m : Int) (Md : Mm) (c : Int), (0 ≤ c ∧ c ≤ A 0 0 2) → (IT G6 Md it (Q + 4) c) → (RM G6 Md Q (onL (aKl0 A t) c (klF (aKl0 A t) t (A 0 0 1))) D9 Ii) → (Fq Q G M5 G6 Md) → (0 ≤ m ∧ m ≤ c) → (fr (fun l c => if A (20 + l) 0 t = 0 then c + 1 else c) c (A 0 0 2) m = nKil A t) → A 0 0 2 - c < (nn_139 : Int) → PW E G6 Md (3 + 1) (114 + 4) 139 [(0, 1, vR Q), (1, 1, vI t), (2, 1, vI m), (3, 1, vR it)] [] from pw_locs (by exact ⟨rfl, cat_vR _, rfl, rfl, rfl, rfl, rfl, cat_vR _, trivial⟩) (K_139 (A 0 0 2 - 0 + 1 : Int).toNat 0 M6 0 (by omega) (by first | exact hI6 | omega) (by first | exact (by rw [onL_0]; exact hMi) | omega) (by first | exact hF6 | omega) (by omega) (by first | exact rfl | omega) (by omega))
          intro nn_139
          induction nn_139 with
          | zero => intro m Md c hc_ hI_ hRd hFd hm0 hg h_m139; exact absurd h_m139 (by omega)
          | succ nn_139 ih_139 =>
            intro m Md c hc_ hI_ hRd hFd hm0 hg h_m139
            have hLd : AL G6 Md (Q + 4) (A 0 0 2) (D9 0 4) := by have q := hRd.l4; rw [onL_n (by omega), hc2] at q; exact q
            refine pw_aload_n C dX10_kill_139 rfl ?_
            refine pw_cFE C hX dX10_kill_140 (List.mem_of_getElem? (i := 1251) (by decide +kernel)) mf_Jx35411_hasNext_aae02 (c_hasNext hLd hI_ (by omega)) kc_1 hI_.k rfl rfl ⟨Nat.le_of_ble_eq_true rfl, Nat.le_of_ble_eq_true rfl⟩ (Nat.le_of_ble_eq_true rfl) (by show (3 + 1) + 0 ≤ 4 ∧ (114 + 4) + 0 ≤ 118; omega) ?_
            refine pw_ifB_eq (tgt := 202) C dX10_kill_145 (by decide) (fun c_145 => ?_) (fun c_145 => ?_)
            · skip
              refine pw_iload_n C dX10_kill_202 rfl ?_
              exact pw_iret C hR dX10_kill_203 ((by have hcd : cd2 (0 ≤ t ∧ t < A 0 0 1) ((¬ A (200 + t) 1 1 = 1 ∧ A (200 + t) 1 7 = -1) ∧ A 0 0 1 < 60) = 0 := (by unfold cd2; first | (exfalso; omega) | rw [if_pos (by omega)] | rw [if_neg (by omega), if_pos (by omega)] | rw [if_neg (by omega), if_neg (by omega)]); exact ⟨_, rfl, by rw [hcd, ← e5]; exact hFd, fun _ => fr_done (by omega) hg, _, _, by rw [if_pos hcd]; exact (by unfold aKil; rw [show A 0 0 2 = c by omega]; exact hRd)⟩)) (by omega) (by omega)
            · skip
              refine pw_aload_n C dX10_kill_148 rfl ?_
              refine pw_cFQ C hX dX10_kill_149 (List.mem_of_getElem? (i := 1261) (by decide +kernel)) mf_Jx35411_next_0502b (c_next hLd hI_ (by omega)) kc_1 hI_.k rfl rfl ⟨Nat.le_of_ble_eq_true rfl, Nat.le_of_ble_eq_true rfl⟩ (Nat.le_of_ble_eq_true rfl) (by show (3 + 1) + 0 ≤ 4 ∧ (114 + 4) + 0 ≤ 118; omega) (fun r_ G6 Mx hq_ => ?_)
              obtain ⟨rfl, rfl, hx_⟩ := hq_
              have hcn : c < (onL (aKl0 A t) c (klF (aKl0 A t) t (A 0 0 1))) 0 0 2 := by rw [onL_n (by omega), hc2]; omega
              rw [hRd.e4 c (by omega) hcn]
              have hOx : Ot it it Md Mx := by rw [hx_]; exact (Ot.rf.u0 (by omega)).u0 (by omega)
              have hIx := hI_.nx (by omega)
              rw [← hx_] at hIx
              have hRx := hRd.uI hi9 hOx
              have hFx := hFd.wr hOx hi9.1
              clear hx_ hOx hI_
              have hLc : MLi G6 Mx (D9 5 c) (A (20 + c)) := by have q := hRx.li c (by omega) hcn; rw [onL_n (by omega), kl0 c (by omega) (by omega)] at q; exact q
              have hlo := (hRx.p.l c (by omega) hcn).1.1
              have hit := hRx.itl hi9.2 (l := c) ⟨by omega, hcn⟩
              refine pw_cast (Cn := "SlugwireModel$Line") C dX10_kill_154 (List.mem_of_getElem? (i := 1067) (by decide +kernel)) (by rw [hLc.1]; exact kc_10) ?_
              refine pw_astore C dX10_kill_157 (Nat.le_of_ble_eq_true rfl) rfl ?_
              refine pw_aload C dX10_kill_159 rfl ?_
              refine pw_getR C dX10_kill_161 fl_X10_194 hLc.1 rfl hLc.2.1.2.2 ?_
              refine pw_iload_n C dX10_kill_164 rfl ?_
              have hBc := hA.li c (by omega)
              have hlt := (hW.l c t (by omega) (by omega) (by omega) (by omega)).1
              refine pw_ialdE C dX10_kill_165 hLc.2.2.2.2.1 (by omega) (hLc.2.2.2.2.2.2 t (by omega) (by omega)).2.2 ?_
              have b_165 := hBc.v3 t (by omega) (by omega)
              refine pw_iconst C dX10_kill_166 ?_
              refine pw_icmp_eq (tgt := 191) C dX10_kill_167 (by decide) (by omega) (fun c_167 => ?_) (fun c_167 => ?_)
              · skip
                refine pw_aload C dX10_kill_191 rfl ?_
                refine pw_getR C dX10_kill_193 fl_X10_197 hLc.1 rfl hLc.2.1.1 ?_
                refine pw_iload_n C dX10_kill_196 rfl ?_
                refine pw_iconst C dX10_kill_197 ?_
                refine pw_zastG C dX10_kill_198 hLc.2.2.1 (by omega) (by omega) (fun M2 e2 => ?_)
                have hO2 : Ot (D9 5 c) (D9 5 c + 3) Mx M2 := by rw [e2]; exact Ot.rf.u1 (by omega)
                have hL2 : MLi G6 M2 (D9 5 c) (klF (aKl0 A t) t (A 0 0 1) (aKl0 A t (20 + c))) := by rw [e2, ef, kl0 c (by omega) (by omega), if_neg (by omega)]; exact hLc.off
                have hR2 : RM G6 M2 Q (onL (aKl0 A t) (c + 1) (klF (aKl0 A t) t (A 0 0 1))) D9 Ii := by
                  have q := hRx.uL (l := c) ⟨by omega, hcn, by omega⟩ hL2 hO2
                  rw [onL_1 (by omega)] at q
                  exact q
                have hI2 := hIx.wr hO2 hit (by omega)
                have hF2 := hFx.wr hO2 hlo
                clear hL2 hO2
                refine pw_goto (tgt := 139) C dX10_kill_199 (by decide) ?_
                exact pw_locs (by exact ⟨rfl, cat_vR _, rfl, rfl, rfl, rfl, rfl, cat_vR _, trivial⟩) (ih_139 m M2 (c + 1) (by omega) (hI2) (hR2) (hF2) (by omega) (fr_go (by omega) hg (if_neg (by omega))) (by omega))
              · skip
                refine pw_aload C dX10_kill_170 rfl ?_
                refine pw_aload_n C dX10_kill_172 rfl ?_
                refine pw_getR C dX10_kill_173 fl_X10_19 hRx.k rfl hRx.r3 ?_
                have hL3 : AL G6 Mx (Q + 3) (A 0 0 1 + 1) (D9 0 3) := by have q := hRx.l3; rw [onL_n (by omega), hc1] at q; exact q
                refine pw_cVE C hX dX10_kill_176 ml_X10_33 mc_Jx4a65c_size_8abf5 (c_size hL3) kc_2 hL3.k rfl rfl ⟨Nat.le_of_ble_eq_true rfl, Nat.le_of_ble_eq_true rfl⟩ (Nat.le_of_ble_eq_true rfl) (by show (3 + 1) + 0 ≤ 4 ∧ (114 + 4) + 0 ≤ 118; omega) ?_
                refine pw_iconst C dX10_kill_179 ?_
                refine pw_isub C dX10_kill_180 ?_
                refine pw_iconst C dX10_kill_181 ?_
                refine pw_cVU C hX dX10_kill_182 ml_X10_158 mc_X7_run (m_run hLc (t := ((A 0 0 1 + 1) - 1)) (x := 5) (by omega)) kc_10 hLc.1 rfl rfl ⟨Nat.le_of_ble_eq_true rfl, Nat.le_of_ble_eq_true rfl⟩ (Nat.le_of_ble_eq_true rfl) (by show (3 + 1) + 0 ≤ 4 ∧ (114 + 4) + 0 ≤ 118; omega) (fun G6 M2 hq_ => ?_)
                obtain ⟨rfl, e2⟩ := hq_
                rw [show ((A 0 0 1 + 1) - 1) = A 0 0 1 by omega] at e2
                have hO2 : Ot (D9 5 c) (D9 5 c + 3) Mx M2 := by rw [e2]; exact (Ot.rf.u1 (by omega)).u1 (by omega)
                have hL2 : MLi G6 M2 (D9 5 c) (klF (aKl0 A t) t (A 0 0 1) (aKl0 A t (20 + c))) := by rw [e2, ef, kl0 c (by omega) (by omega), if_pos (by omega)]; exact hLc.nq (by omega)
                have hR2 : RM G6 M2 Q (onL (aKl0 A t) (c + 1) (klF (aKl0 A t) t (A 0 0 1))) D9 Ii := by
                  have q := hRx.uL (l := c) ⟨by omega, hcn, by omega⟩ hL2 hO2
                  rw [onL_1 (by omega)] at q
                  exact q
                have hI2 := hIx.wr hO2 hit (by omega)
                have hF2 := hFx.wr hO2 hlo
                clear hL2 hO2
                refine pw_iinc C dX10_kill_185 rfl (Nat.le_of_ble_eq_true rfl) rfl ?_
                refine pw_goto (tgt := 199) C dX10_kill_188 (by decide) ?_
                refine pw_goto (tgt := 139) C dX10_kill_199 (by decide) ?_
                exact pw_locs (by exact ⟨rfl, cat_vR _, rfl, rfl, rfl, rfl, rfl, cat_vR _, trivial⟩) (ih_139 (m + 1) M2 (c + 1) (by omega) (hI2) (hR2) (hF2) (by omega) (fr_go (by omega) hg (if_pos (by omega))) (by omega))
        · skip
          refine pw_iconst C dX10_kill_61 ?_
          refine pw_goto (tgt := 66) C dX10_kill_62 (by decide) ?_
          refine pw_iconst C dX10_kill_66 ?_
          refine pw_cVI C hX dX10_kill_67 ml_X10_29 mc_X10_refuse (m_refuse hM hA (z := 1) (w := 2) (by omega) (by omega) (by rw [e2, mup_s])) kc_13 hM.k rfl rfl ⟨Nat.le_of_ble_eq_true rfl, Nat.le_of_ble_eq_true rfl⟩ (Nat.le_of_ble_eq_true rfl) (by show 0 + 0 ≤ 4 ∧ 0 + 0 ≤ 118; omega) (fun r_ G M7 hq_ => ?_)
          obtain ⟨rfl, rfl, e7⟩ := hq_
          rw [if_neg (by decide)] at e7
          have hMn : RM G M7 Q A D I := by rw [e7]; exact hM.th
          rw [e2, mup_mup] at e7
          clear hM
          have hM := hMn
          clear hMn
          have hK7 : Kp G M7 G M7 := Kp.rf
          refine pw_ifL_eqn (tgt := 75) C dX10_kill_70 (by decide) rfl ?_
          refine pw_iconst C dX10_kill_73 ?_
          exact pw_iret C hR dX10_kill_74 ((by have hcd : cd2 (0 ≤ t ∧ t < A 0 0 1) ((¬ A (200 + t) 1 1 = 1 ∧ A (200 + t) 1 7 = -1) ∧ A 0 0 1 < 60) = 2 := (by unfold cd2; first | (exfalso; omega) | rw [if_pos (by omega)] | rw [if_neg (by omega), if_pos (by omega)] | rw [if_neg (by omega), if_neg (by omega)]); exact ⟨_, rfl, by rw [hcd, ← e7]; exact Fq.rf, fun h => absurd (hcd.symm.trans h) (by decide), D, I, by rw [if_neg (fun h => absurd (hcd.symm.trans h) (by decide))]; exact hM⟩)) (by show _ ≤ 4; omega) (by show _ ≤ 118; omega)

set_option maxHeartbeats 4000000 in
set_option maxRecDepth 100000 in
theorem m_pass {X : Xv} {G M : Mm} {Q : Int} {A : An} {D : Fn} {I : Int → Int} (hM : RM G M Q A D I) (hA : AB A) (hW : WF A) (hB : BK A) {m9 : Int} (r_m9 : -2147483648 ≤ m9 ∧ m9 ≤ 2147483647) : CT X yX10_pass prog_8_method_34_code 6 (some .int) 5 114 99 396 [vR Q, vI m9] G M (PI (fun r G1 M1 => Fq Q G (mup M 0 240 Q (cd2 (1 ≤ m9 ∧ m9 ≤ 99) (A 0 0 3 + m9 ≤ 9999))) G1 M1 ∧ (cd2 (1 ≤ m9 ∧ m9 ≤ 99) (A 0 0 3 + m9 ≤ 9999) = 0 → r = (aPas A m9).2) ∧ ∃ D1 I1, RM G1 M1 Q (if cd2 (1 ≤ m9 ∧ m9 ≤ 99) (A 0 0 3 + m9 ≤ 9999) = 0 then (aPas A m9).1 else A) D1 I1)) := by
  refine CT.by (by decide +kernel) [1, 1] ⟨cat_vR _, cat_vI _, trivial⟩ (Nat.le_of_ble_eq_true rfl) (fun E hX C hR hIni => ?_)
  have hn := hA.n
  have hnS := hA.so.c
  refine pw_aload_n C dX10_pass_0 rfl ?_
  refine pw_iload_n C dX10_pass_1 rfl ?_
  refine pw_iconst C dX10_pass_2 ?_
  refine pw_bipush C dX10_pass_3 rfl ?_
  refine pw_cSE C hX dX10_pass_5 ml_X10_37 mc_X10_isIn (m_isIn (v := m9) (lo := 1) (hi := 99) (by omega) (by omega) (by omega)) rfl rfl ⟨Nat.le_of_ble_eq_true rfl, Nat.le_of_ble_eq_true rfl⟩ (Nat.le_of_ble_eq_true rfl) (by show 0 + 0 ≤ 99 ∧ 0 + 0 ≤ 396; omega) ?_
  refine pw_ifB_ne (tgt := 15) C dX10_pass_8 (by decide) (fun c_8 => ?_) (fun c_8 => ?_)
  · skip
    refine pw_iconst C dX10_pass_15 ?_
    refine pw_iconst C dX10_pass_16 ?_
    refine pw_cVI C hX dX10_pass_17 ml_X10_103 mc_X10_start (m_start hM hA (z := 0) (w := 1) (by omega) (by omega)) kc_13 hM.k rfl rfl ⟨Nat.le_of_ble_eq_true rfl, Nat.le_of_ble_eq_true rfl⟩ (Nat.le_of_ble_eq_true rfl) (by show 0 + 0 ≤ 99 ∧ 0 + 0 ≤ 396; omega) (fun r_ G M1 hq_ => ?_)
    obtain ⟨rfl, rfl, e1⟩ := hq_
    rw [if_pos rfl] at e1
    have hMn : RM G M1 Q A D I := by rw [e1]; exact hM.th
    clear hM
    have hM := hMn
    clear hMn
    have hK1 : Kp G M1 G M1 := Kp.rf
    refine pw_ifL_nen (tgt := 48) C dX10_pass_20 (by decide) rfl ?_
    refine pw_aload_n C dX10_pass_23 rfl ?_
    refine pw_aload_n C dX10_pass_24 rfl ?_
    refine pw_getE C dX10_pass_25 fl_X10_130 rfl hM.k hM.w ?_
    refine pw_iload_n C dX10_pass_28 rfl ?_
    refine pw_iadd C dX10_pass_29 ?_
    refine pw_sipush C dX10_pass_30 rfl ?_
    refine pw_icmp_le (tgt := 40) C dX10_pass_33 (by decide) (by omega) (fun c_33 => ?_) (fun c_33 => ?_)
    · skip
      refine pw_iconst C dX10_pass_40 ?_
      refine pw_iconst C dX10_pass_41 ?_
      refine pw_cVI C hX dX10_pass_42 ml_X10_29 mc_X10_refuse (m_refuse hM hA (z := 0) (w := 2) (by omega) (by omega) (by rw [e1, mup_s])) kc_13 hM.k rfl rfl ⟨Nat.le_of_ble_eq_true rfl, Nat.le_of_ble_eq_true rfl⟩ (Nat.le_of_ble_eq_true rfl) (by show 0 + 0 ≤ 99 ∧ 0 + 0 ≤ 396; omega) (fun r_ G M2 hq_ => ?_)
      obtain ⟨rfl, rfl, e2⟩ := hq_
      rw [if_pos rfl] at e2
      have hMn : RM G M2 Q A D I := by rw [e2]; exact hM.th
      rw [e1, mup_mup] at e2
      clear hM
      have hM := hMn
      clear hMn
      have hK2 : Kp G M2 G M2 := Kp.rf
      refine pw_ifL_eq (tgt := 50) C dX10_pass_45 (by decide) rfl ?_
      refine pw_iconst C dX10_pass_50 ?_
      refine pw_istore_n C dX10_pass_51 (Nat.le_of_ble_eq_true rfl) rfl ?_
      refine pw_iconst C dX10_pass_52 ?_
      refine pw_istore_n C dX10_pass_53 (Nat.le_of_ble_eq_true rfl) rfl ?_
      suffices K_54 : ∀ (nn_54 : Nat) (n k : Int) (Gk : Mm) (Mk : Mm) (Ik : Int → Int) (kc : Nat) (nc : Nat), (0 ≤ k ∧ k ≤ m9) → (n = (aPas A k).2) → (RM Gk Mk Q (aPas A k).1 D Ik) → (Fq Q G M2 Gk Mk) → ((kc : Int) = k) → ((nc : Int) = 4 * k) → m9 - k < (nn_54 : Int) → PW E Gk Mk kc nc 54 [(0, 1, vR Q), (1, 1, vI m9), (2, 1, vI n), (3, 1, vI k)] [] from pw_locs (by exact ⟨rfl, cat_vR _, rfl, rfl, rfl, rfl, rfl, rfl, trivial⟩) (K_54 (m9 - 0 + 1 : Int).toNat 0 0 G M2 I 0 0 (by omega) (by first | exact by rw [aPas_0] | omega) (by first | exact by rw [aPas_0]; exact hM | omega) (by first | exact Fq.rf | omega) (by omega) (by omega) (by omega))
      intro nn_54
      induction nn_54 with
      | zero => intro n k Gk Mk Ik kc nc h1 hn9 hRk hFk hkc hnc h_m54; exact absurd h_m54 (by omega)
      | succ nn_54 ih_54 =>
        intro n k Gk Mk Ik kc nc h1 hn9 hRk hFk hkc hnc h_m54
        obtain ⟨⟨hAk, hWk, hBk⟩, hak⟩ := Inv.pas (A := A) (m := k) ⟨hA, hW, hB⟩ (by omega) (by omega)
        have hqk := hRk.q
        refine pw_iload_n C dX10_pass_54 rfl ?_
        refine pw_iload_n C dX10_pass_55 rfl ?_
        refine pw_icmp_ge (tgt := 125) C dX10_pass_56 (by decide) (by omega) (fun c_56 => ?_) (fun c_56 => ?_)
        · skip
          refine pw_iload_n C dX10_pass_125 rfl ?_
          exact pw_iret C hR dX10_pass_126 ((by have hcd : cd2 (1 ≤ m9 ∧ m9 ≤ 99) (A 0 0 3 + m9 ≤ 9999) = 0 := (by unfold cd2; first | (exfalso; omega) | rw [if_pos (by omega)] | rw [if_neg (by omega), if_pos (by omega)] | rw [if_neg (by omega), if_neg (by omega)]); exact ⟨_, rfl, by rw [hcd, ← e2]; exact hFk, fun _ => by rw [show m9 = k by omega]; exact hn9, _, _, by rw [if_pos hcd]; exact (by rw [show m9 = k by omega]; exact hRk)⟩)) (by omega) (by omega)
        · skip
          refine pw_aload_n C dX10_pass_59 rfl ?_
          refine pw_dup C dX10_pass_60 (cat_vR _) ?_
          refine pw_getE C dX10_pass_61 fl_X10_130 rfl hRk.k (hRk.w.trans (by rw [hak, if_pos rfl])) ?_
          refine pw_iconst C dX10_pass_64 ?_
          refine pw_iadd C dX10_pass_65 ?_
          refine pw_putIG C dX10_pass_66 fl_X10_130 (fun h => by cases h) rfl hRk.k (fun Mn en => ?_)
          have hM9 : RM Gk Mn Q (aup (aPas A k).1 0 (lup ((aPas A k).1 0) 0 3 (A 0 0 3 + k + 1))) D Ik := by rw [en]; exact hRk.nw
          have hFn : Fq Q G M2 Gk Mn := by rw [en]; exact hFk.nw
          have hc2 : (aup (aPas A k).1 0 (lup ((aPas A k).1 0) 0 3 (A 0 0 3 + k + 1))) 0 0 2 = A 0 0 2 := by rw [aup_s, lup_n (by omega), hak, if_neg (by omega)]
          have hc1 : (aup (aPas A k).1 0 (lup ((aPas A k).1 0) 0 3 (A 0 0 3 + k + 1))) 0 0 1 = A 0 0 1 := by rw [aup_s, lup_n (by omega), hak, if_neg (by omega)]
          have hc3 : (aup (aPas A k).1 0 (lup ((aPas A k).1 0) 0 3 (A 0 0 3 + k + 1))) 0 0 3 = A 0 0 3 + k + 1 := by rw [aup_s, lup_s]
          clear en
          refine pw_aload_n C dX10_pass_69 rfl ?_
          refine pw_getR C dX10_pass_70 fl_X10_22 hM9.k rfl hM9.r4 ?_
          have hLi := hM9.l4
          have hqi := hM9.q
          refine pw_cVQ C hX dX10_pass_73 ml_X10_139 mc_Jx4a65c_iterator_32c93 (c_iterator hLi) kc_2 hLi.k rfl rfl ⟨Nat.le_of_ble_eq_true rfl, Nat.le_of_ble_eq_true rfl⟩ (Nat.le_of_ble_eq_true rfl) (by show kc + 1 ≤ 99 ∧ nc + 4 ≤ 396; omega) (fun it G6 M6 hq_ => ?_)
          obtain ⟨hit_, hI6, hT6, hk6⟩ := hq_
          obtain ⟨Ii, hMi, hi9⟩ := hM9.its hit_ hT6 hk6
          have hF6 : Fq Q G M2 G6 M6 := hFn.tr (hk6.fq (by omega))
          clear hk6 hT6 hLi hit_
          refine pw_astore C dX10_pass_76 (Nat.le_of_ble_eq_true rfl) rfl ?_
          suffices K_78 : ∀ (nn_78 : Nat) (m : Int) (Md : Mm) (c : Int), (0 ≤ c ∧ c ≤ A 0 0 2) → (IT G6 Md it (Q + 4) c) → (RM G6 Md Q (onL (aup (aPas A k).1 0 (lup ((aPas A k).1 0) 0 3 (A 0 0 3 + k + 1))) c (fun L => (rM L (A 0 0 3 + k + 1)).1)) D Ii) → (Fq Q G M2 G6 Md) → (fr (fun l c => c + (rM ((aPas A k).1 (20 + l)) (A 0 0 3 + k + 1)).2) c (A 0 0 2) m = n + nMin (aPas A k).1) → A 0 0 2 - c < (nn_78 : Int) → PW E G6 Md (kc + 1) (nc + 4) 78 [(0, 1, vR Q), (1, 1, vI m9), (2, 1, vI m), (3, 1, vI k), (4, 1, vR it)] [] from pw_locs (by exact ⟨rfl, cat_vR _, rfl, rfl, rfl, rfl, rfl, rfl, rfl, cat_vR _, trivial⟩) (K_78 (A 0 0 2 - 0 + 1 : Int).toNat n M6 0 (by omega) (by first | exact hI6 | omega) (by first | exact (by rw [onL_0]; exact hMi) | omega) (by first | exact hF6 | omega) (by first | exact (by have q := nM_eq (A := (aPas A k).1) (c := n); rw [hak, if_pos rfl, hak, if_neg (by omega)] at q; exact q) | omega) (by omega))
          intro nn_78
          induction nn_78 with
          | zero => intro m Md c hc_ hI_ hRd hFd hg h_m78; exact absurd h_m78 (by omega)
          | succ nn_78 ih_78 =>
            intro m Md c hc_ hI_ hRd hFd hg h_m78
            have hLd : AL G6 Md (Q + 4) (A 0 0 2) (D 0 4) := by have q := hRd.l4; rw [onL_n (by omega), hc2] at q; exact q
            refine pw_aload C dX10_pass_78 rfl ?_
            refine pw_cFE C hX dX10_pass_80 (List.mem_of_getElem? (i := 1251) (by decide +kernel)) mf_Jx35411_hasNext_aae02 (c_hasNext hLd hI_ (by omega)) kc_1 hI_.k rfl rfl ⟨Nat.le_of_ble_eq_true rfl, Nat.le_of_ble_eq_true rfl⟩ (Nat.le_of_ble_eq_true rfl) (by show (kc + 1) + 0 ≤ 99 ∧ (nc + 4) + 0 ≤ 396; omega) ?_
            refine pw_ifB_eq (tgt := 119) C dX10_pass_85 (by decide) (fun c_85 => ?_) (fun c_85 => ?_)
            · skip
              refine pw_iinc C dX10_pass_119 rfl (Nat.le_of_ble_eq_true rfl) rfl ?_
              refine pw_goto (tgt := 54) C dX10_pass_122 (by decide) ?_
              exact pw_locs (by exact ⟨rfl, cat_vR _, rfl, rfl, rfl, rfl, rfl, rfl, trivial⟩) (ih_54 m (k + 1) G6 Md Ii (kc + 1) (nc + 4) (by omega) (by rw [aPas_1 (by omega), ← hn9]; exact fr_done (by omega) hg) (by rw [aPas_1 (by omega)]; show RM G6 Md Q (aMin (aPas A k).1) D Ii; unfold aMin; rw [hak, if_pos rfl, hak, if_neg (by omega), show A 0 0 2 = c by omega]; exact hRd) (hFd) (by omega) (by omega) (by omega))
            · skip
              refine pw_aload C dX10_pass_88 rfl ?_
              refine pw_cFQ C hX dX10_pass_90 (List.mem_of_getElem? (i := 1261) (by decide +kernel)) mf_Jx35411_next_0502b (c_next hLd hI_ (by omega)) kc_1 hI_.k rfl rfl ⟨Nat.le_of_ble_eq_true rfl, Nat.le_of_ble_eq_true rfl⟩ (Nat.le_of_ble_eq_true rfl) (by show (kc + 1) + 0 ≤ 99 ∧ (nc + 4) + 0 ≤ 396; omega) (fun r_ G6 Mx hq_ => ?_)
              obtain ⟨rfl, rfl, hx_⟩ := hq_
              have hcn : c < (onL (aup (aPas A k).1 0 (lup ((aPas A k).1 0) 0 3 (A 0 0 3 + k + 1))) c (fun L => (rM L (A 0 0 3 + k + 1)).1)) 0 0 2 := by rw [onL_n (by omega), hc2]; omega
              rw [hRd.e4 c (by omega) hcn]
              have hOx : Ot it it Md Mx := by rw [hx_]; exact (Ot.rf.u0 (by omega)).u0 (by omega)
              have hIx := hI_.nx (by omega)
              rw [← hx_] at hIx
              have hRx := hRd.uI hi9 hOx
              have hFx := hFd.wr hOx hi9.1
              clear hx_ hOx hI_
              have hLc : MLi G6 Mx (D 5 c) ((aPas A k).1 (20 + c)) := by have q := hRx.li c (by omega) hcn; rw [onL_n (by omega), aup_n (by omega)] at q; exact q
              have hlo := (hRx.p.l c (by omega) hcn).1.1
              have hit := hRx.itl hi9.2 (l := c) ⟨by omega, hcn⟩
              refine pw_cast (Cn := "SlugwireModel$Line") C dX10_pass_95 (List.mem_of_getElem? (i := 1067) (by decide +kernel)) (by rw [hLc.1]; exact kc_10) ?_
              refine pw_astore C dX10_pass_98 (Nat.le_of_ble_eq_true rfl) rfl ?_
              refine pw_iload_n C dX10_pass_100 rfl ?_
              refine pw_aload C dX10_pass_101 rfl ?_
              refine pw_aload_n C dX10_pass_103 rfl ?_
              refine pw_getR C dX10_pass_104 fl_X10_19 hRx.k rfl hRx.r3 ?_
              refine pw_aload_n C dX10_pass_107 rfl ?_
              refine pw_getE C dX10_pass_108 fl_X10_130 rfl hRx.k (hRx.w.trans (by rw [onL_n (by omega), hc3])) ?_
              have hBl := hAk.li c (by omega)
              have hLw := (hWk.wl c (by omega) (by rw [hak, if_neg (by omega)]; omega)).lw (by rw [hak, if_neg (by omega)]; omega)
              have hTk : TK G6 Mx (Q + 3) (A 0 0 1) (D 0 3) (D 4) (fun i => (aPas A k).1 (200 + i)) := by
                have e9 : lup D 0 4 0 0 3 = D 0 3 := lup_n (by omega)
                refine ⟨by have q := hRx.l3; rw [onL_n (by omega), hc1] at q; exact q, fun i q1 q2 => ⟨?_, ?_, ?_⟩⟩
                · exact hRx.e3 i q1 (by rw [onL_n (by omega), hc1]; exact q2)
                · have q := hRx.ta i q1 (by rw [onL_n (by omega), hc1]; exact q2)
                  rw [onL_n (by omega), aup_n (by omega)] at q
                  exact q
                · have q := hAk.ta i (by omega)
                  exact ⟨q.s1, q.s4⟩
              have hDj := hRx.dj (l := c) ⟨by omega, hcn⟩
              rw [onL_n (by omega), hc1] at hDj
              rw [hak, if_neg (by omega)] at hLw
              refine pw_cVI C hX dX10_pass_111 ml_X10_201 mc_X7_minute (m_minute hLc hBl hTk hLw (m := A 0 0 3 + k + 1) (by omega) hDj) kc_10 hLc.1 rfl rfl ⟨Nat.le_of_ble_eq_true rfl, Nat.le_of_ble_eq_true rfl⟩ (Nat.le_of_ble_eq_true rfl) (by show (kc + 1) + 0 ≤ 99 ∧ (nc + 4) + 0 ≤ 396; omega) (fun r_ G6 M2 hq_ => ?_)
              obtain ⟨rfl, rfl, hL2, -, -, hO2⟩ := hq_
              have hL2 : MLi G6 M2 (D 5 c) ((fun L => (rM L (A 0 0 3 + k + 1)).1) ((aup (aPas A k).1 0 (lup ((aPas A k).1 0) 0 3 (A 0 0 3 + k + 1))) (20 + c))) := by show MLi G6 M2 (D 5 c) (rM ((aup (aPas A k).1 0 (lup ((aPas A k).1 0) 0 3 (A 0 0 3 + k + 1))) (20 + c)) (A 0 0 3 + k + 1)).1; rw [aup_n (by omega)]; exact hL2
              have hR2 : RM G6 M2 Q (onL (aup (aPas A k).1 0 (lup ((aPas A k).1 0) 0 3 (A 0 0 3 + k + 1))) (c + 1) (fun L => (rM L (A 0 0 3 + k + 1)).1)) D Ii := by
                have q := hRx.uL (l := c) ⟨by omega, hcn, by omega⟩ hL2 hO2
                rw [onL_1 (by omega)] at q
                exact q
              have hI2 := hIx.wr hO2 hit (by omega)
              have hF2 := hFx.wr hO2 hlo
              clear hL2 hO2
              refine pw_iadd C dX10_pass_114 ?_
              refine pw_istore_n C dX10_pass_115 (Nat.le_of_ble_eq_true rfl) rfl ?_
              refine pw_goto (tgt := 78) C dX10_pass_116 (by decide) ?_
              exact pw_locs (by exact ⟨rfl, cat_vR _, rfl, rfl, rfl, rfl, rfl, rfl, rfl, cat_vR _, trivial⟩) (ih_78 (m + (rM ((aPas A k).1 (20 + c)) (A 0 0 3 + k + 1)).2) M2 (c + 1) (by omega) (hI2) (hR2) (hF2) (fr_go (by omega) hg rfl) (by omega))
    · skip
      refine pw_iconst C dX10_pass_36 ?_
      refine pw_goto (tgt := 41) C dX10_pass_37 (by decide) ?_
      refine pw_iconst C dX10_pass_41 ?_
      refine pw_cVI C hX dX10_pass_42 ml_X10_29 mc_X10_refuse (m_refuse hM hA (z := 1) (w := 2) (by omega) (by omega) (by rw [e1, mup_s])) kc_13 hM.k rfl rfl ⟨Nat.le_of_ble_eq_true rfl, Nat.le_of_ble_eq_true rfl⟩ (Nat.le_of_ble_eq_true rfl) (by show 0 + 0 ≤ 99 ∧ 0 + 0 ≤ 396; omega) (fun r_ G M4 hq_ => ?_)
      obtain ⟨rfl, rfl, e4⟩ := hq_
      rw [if_neg (by decide)] at e4
      have hMn : RM G M4 Q A D I := by rw [e4]; exact hM.th
      rw [e1, mup_mup] at e4
      clear hM
      have hM := hMn
      clear hMn
      have hK4 : Kp G M4 G M4 := Kp.rf
      refine pw_ifL_eqn (tgt := 50) C dX10_pass_45 (by decide) rfl ?_
      refine pw_iconst C dX10_pass_48 ?_
      exact pw_iret C hR dX10_pass_49 ((by have hcd : cd2 (1 ≤ m9 ∧ m9 ≤ 99) (A 0 0 3 + m9 ≤ 9999) = 2 := (by unfold cd2; first | (exfalso; omega) | rw [if_pos (by omega)] | rw [if_neg (by omega), if_pos (by omega)] | rw [if_neg (by omega), if_neg (by omega)]); exact ⟨_, rfl, by rw [hcd, ← e4]; exact Fq.rf, fun h => absurd (hcd.symm.trans h) (by decide), D, I, by rw [if_neg (fun h => absurd (hcd.symm.trans h) (by decide))]; exact hM⟩)) (by show _ ≤ 99; omega) (by show _ ≤ 396; omega)
  · skip
    refine pw_iconst C dX10_pass_11 ?_
    refine pw_goto (tgt := 16) C dX10_pass_12 (by decide) ?_
    refine pw_iconst C dX10_pass_16 ?_
    refine pw_cVI C hX dX10_pass_17 ml_X10_103 mc_X10_start (m_start hM hA (z := 1) (w := 1) (by omega) (by omega)) kc_13 hM.k rfl rfl ⟨Nat.le_of_ble_eq_true rfl, Nat.le_of_ble_eq_true rfl⟩ (Nat.le_of_ble_eq_true rfl) (by show 0 + 0 ≤ 99 ∧ 0 + 0 ≤ 396; omega) (fun r_ G M5 hq_ => ?_)
    obtain ⟨rfl, rfl, e5⟩ := hq_
    rw [if_neg (by decide)] at e5
    have hMn : RM G M5 Q A D I := by rw [e5]; exact hM.th
    clear hM
    have hM := hMn
    clear hMn
    have hK5 : Kp G M5 G M5 := Kp.rf
    refine pw_ifL_ne (tgt := 48) C dX10_pass_20 (by decide) rfl ?_
    refine pw_iconst C dX10_pass_48 ?_
    exact pw_iret C hR dX10_pass_49 ((by have hcd : cd2 (1 ≤ m9 ∧ m9 ≤ 99) (A 0 0 3 + m9 ≤ 9999) = 1 := (by unfold cd2; first | (exfalso; omega) | rw [if_pos (by omega)] | rw [if_neg (by omega), if_pos (by omega)] | rw [if_neg (by omega), if_neg (by omega)]); exact ⟨_, rfl, by rw [hcd, ← e5]; exact Fq.rf, fun h => absurd (hcd.symm.trans h) (by decide), D, I, by rw [if_neg (fun h => absurd (hcd.symm.trans h) (by decide))]; exact hM⟩)) (by show _ ≤ 99; omega) (by show _ ≤ 396; omega)

