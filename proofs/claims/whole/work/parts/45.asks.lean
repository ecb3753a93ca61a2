/-! ===== the model's queries ===== -/
def kWf (A : An) (s f w : Int) : Int := if w ≤ 4 then 0 else nWt A s f
/-- of a fact, as the model finds it -/
def moF (A : An) (s f w : Int) : Int := if w = 0 then mst (A 10) (A (100 + (s * 4 + f))) 1 else if w = 1 then mhd (A 10) (A (100 + (s * 4 + f))) else if w = 2 then cSay (A (100 + (s * 4 + f))) else if w = 3 then mvl (A (100 + (s * 4 + f))) else if w = 4 then A (100 + (s * 4 + f)) 1 3 else if w = 5 then fh A s f else bI (isF A s f)
theorem nWt_nn {A : An} {s f : Int} (hA : AB A) : 0 ≤ nWt A s f := by have hn := hA.n; exact nWS_le (by omega)
/-- all facts' takes -/
def nWA (A : An) : Int := fr (fun s c => fr (fun f c => c + nWt A s f) 0 4 c) 0 (A 0 0 0) 0
theorem nW4_le {A : An} {s lo c : Int} (hA : AB A) (h : lo ≤ 4) : c ≤ fr (fun f c => c + nWt A s f) lo 4 c :=
  fr_inv (σ := Int) (f := fun f c => c + nWt A s f) (hi := 4) (P := fun _ x => c ≤ x) (lo := lo) (s := c) h (Int.le_refl _) (fun i x _ _ hp => by have := nWt_nn (s := s) (f := i) hA; omega)
theorem nWA_le {A : An} {lo c : Int} (hA : AB A) (h : lo ≤ A 0 0 0) : c ≤ fr (fun s c => fr (fun f c => c + nWt A s f) 0 4 c) lo (A 0 0 0) c :=
  fr_inv (σ := Int) (f := fun s c => fr (fun f c => c + nWt A s f) 0 4 c) (hi := A 0 0 0) (P := fun _ x => c ≤ x) (lo := lo) (s := c) h (Int.le_refl _) (fun i x _ _ hp => Int.le_trans hp (nW4_le hA (by omega)))
/-- facts with a truth (z = 0), said without one (z = 1), as the model finds them -/
abbrev mfP (A : An) (z s f : Int) : Prop := 0 < cSay (A (100 + (s * 4 + f))) ∧ (¬ mst (A 10) (A (100 + (s * 4 + f))) 1 = -1 ↔ z = 0)
def mfc (A : An) (z : Int) : Int := fr (fun s c => fr (fun f c => if mfP A z s f then c + 1 else c) 0 4 c) 0 (A 0 0 0) 0
set_option maxHeartbeats 4000000 in
set_option maxRecDepth 100000 in
theorem m_isFirst {X : Xv} {G M : Mm} {Q : Int} {A : An} {D : Fn} {I : Int → Int} (hM : RM G M Q A D I) (hA : AB A) (hW : WF A) {s f : Int} (hs9 : 0 ≤ s ∧ s < A 0 0 0) (hf9 : 0 ≤ f ∧ f < 4) : CT X yX10_isFirst prog_8_method_38_code 5 (some .boolean) 5 114 ((nWt A s f).toNat) (4 * (nWt A s f).toNat) [vR Q, vI s, vI f] G M (PI (fun r G1 M1 => r = bI (isF A s f) ∧ Kp G M G1 M1)) := by
  refine CT.by (by decide +kernel) [1, 1, 1] ⟨cat_vR _, cat_vI _, cat_vI _, trivial⟩ (Nat.le_of_ble_eq_true rfl) (fun E hX C hR hIni => ?_)
  have hn := hA.n
  have hnS := hA.so.c
  have hq9 := hM.q
  have hK0 : Kp G M G M := Kp.rf
  have b_13r := (hA.fa (s * 4 + f) (by omega)).s3
  refine pw_aload_n C dX10_isFirst_0 rfl ?_
  refine pw_iload_n C dX10_isFirst_1 rfl ?_
  refine pw_iload_n C dX10_isFirst_2 rfl ?_
  have b_fh := fh_bd (s := s) (f := f) hA
  refine pw_cVI C hX dX10_isFirst_3 ml_X10_214 mc_X10_had (m_had hM hA hW (s := s) (f := f) (by omega) (by omega)) kc_13 hM.k rfl rfl ⟨Nat.le_of_ble_eq_true rfl, Nat.le_of_ble_eq_true rfl⟩ (Nat.le_of_ble_eq_true rfl) (show 0 + (nWt A s f).toNat ≤ (nWt A s f).toNat ∧ 0 + 4 * (nWt A s f).toNat ≤ 4 * (nWt A s f).toNat by omega) (fun r_ G1 M2 hq_ => ?_)
  obtain ⟨rfl, hk_⟩ := hq_
  have hK2 := hK0.tr hk_
  have hM2 := hM.kp hK2
  clear hk_
  refine pw_istore_n C dX10_isFirst_6 (Nat.le_of_ble_eq_true rfl) rfl ?_
  refine pw_aload_n C dX10_isFirst_7 rfl ?_
  refine pw_iload_n C dX10_isFirst_8 rfl ?_
  refine pw_iload_n C dX10_isFirst_9 rfl ?_
  refine pw_cVR C hX dX10_isFirst_10 ml_X10_123 mc_X10_fact (m_fact hM2 hA (s := s) (f := f) (by omega) (by omega)) kc_13 hM2.k rfl rfl ⟨Nat.le_of_ble_eq_true rfl, Nat.le_of_ble_eq_true rfl⟩ (Nat.le_of_ble_eq_true rfl) (show (0 + (nWt A s f).toNat) + 0 ≤ (nWt A s f).toNat ∧ (0 + 4 * (nWt A s f).toNat) + 0 ≤ 4 * (nWt A s f).toNat by omega) ?_
  refine pw_getE C dX10_isFirst_13 fl_X10_127 rfl (hM2.fa (s * 4 + f) (by omega) (by omega)).1 (hM2.fa (s * 4 + f) (by omega) (by omega)).2.2.2.2 ?_
  refine pw_istore C dX10_isFirst_16 (Nat.le_of_ble_eq_true rfl) rfl ?_
  refine pw_iload_n C dX10_isFirst_18 rfl ?_
  refine pw_iconst C dX10_isFirst_19 ?_
  refine pw_icmp_eq (tgt := 39) C dX10_isFirst_20 (by decide) (by omega) (fun c_20 => ?_) (fun c_20 => ?_)
  · skip
    refine pw_iconst C dX10_isFirst_39 ?_
    exact pw_zret C hR dX10_isFirst_40 (by omega) (⟨_, rfl, by first | exact (bI_t (by omega)).symm | exact (bI_f (by omega)).symm, hK2⟩) (by show 0 + _ ≤ _; omega) (by show 0 + _ ≤ _; omega)
  · skip
    refine pw_iload C dX10_isFirst_23 rfl ?_
    refine pw_iconst C dX10_isFirst_25 ?_
    refine pw_icmp_eq (tgt := 35) C dX10_isFirst_26 (by decide) (by omega) (fun c_26 => ?_) (fun c_26 => ?_)
    · skip
      refine pw_iconst C dX10_isFirst_35 ?_
      refine pw_goto (tgt := 40) C dX10_isFirst_36 (by decide) ?_
      exact pw_zret C hR dX10_isFirst_40 (by omega) (⟨_, rfl, by first | exact (bI_t (by omega)).symm | exact (bI_f (by omega)).symm, hK2⟩) (by show 0 + _ ≤ _; omega) (by show 0 + _ ≤ _; omega)
    · skip
      refine pw_iload_n C dX10_isFirst_29 rfl ?_
      refine pw_iload C dX10_isFirst_30 rfl ?_
      refine pw_icmp_ge (tgt := 39) C dX10_isFirst_32 (by decide) (by omega) (fun c_32 => ?_) (fun c_32 => ?_)
      · skip
        refine pw_iconst C dX10_isFirst_39 ?_
        exact pw_zret C hR dX10_isFirst_40 (by omega) (⟨_, rfl, by first | exact (bI_t (by omega)).symm | exact (bI_f (by omega)).symm, hK2⟩) (by show 0 + _ ≤ _; omega) (by show 0 + _ ≤ _; omega)
      · skip
        refine pw_iconst C dX10_isFirst_35 ?_
        refine pw_goto (tgt := 40) C dX10_isFirst_36 (by decide) ?_
        exact pw_zret C hR dX10_isFirst_40 (by omega) (⟨_, rfl, by first | exact (bI_t (by omega)).symm | exact (bI_f (by omega)).symm, hK2⟩) (by show 0 + _ ≤ _; omega) (by show 0 + _ ≤ _; omega)

set_option maxHeartbeats 4000000 in
set_option maxRecDepth 100000 in
theorem m_ofFactNow {X : Xv} {G M : Mm} {Q : Int} {A : An} {D : Fn} {I : Int → Int} (hM : RM G M Q A D I) (hA : AB A) (hW : WF A) {s f w : Int} (hs9 : 0 ≤ s ∧ s < A 0 0 0) (hf9 : 0 ≤ f ∧ f < 4) (hw9 : 0 ≤ w ∧ w ≤ 6) : CT X yX10_ofFactNow prog_8_method_39_code 5 (some .int) 8 180 ((kWf A s f w).toNat) (4 * (kWf A s f w).toNat) [vR Q, vI s, vI f, vI w] G M (PI (fun r G1 M1 => r = moF A s f w ∧ Kp G M G1 M1)) := by
  refine CT.by (by decide +kernel) [1, 1, 1, 1] ⟨cat_vR _, cat_vI _, cat_vI _, cat_vI _, trivial⟩ (Nat.le_of_ble_eq_true rfl) (fun E hX C hR hIni => ?_)
  have hn := hA.n
  have hnS := hA.so.c
  have hq9 := hM.q
  have hK0 : Kp G M G M := Kp.rf
  have hkw : w ≤ 4 ∨ kWf A s f w = nWt A s f := by unfold kWf; split <;> omega
  refine pw_aload_n C dX10_ofFactNow_0 rfl ?_
  refine pw_iload_n C dX10_ofFactNow_1 rfl ?_
  refine pw_iload_n C dX10_ofFactNow_2 rfl ?_
  refine pw_cVR C hX dX10_ofFactNow_3 ml_X10_123 mc_X10_fact (m_fact hM hA (s := s) (f := f) (by omega) (by omega)) kc_13 hM.k rfl rfl ⟨Nat.le_of_ble_eq_true rfl, Nat.le_of_ble_eq_true rfl⟩ (Nat.le_of_ble_eq_true rfl) (show 0 + 0 ≤ (kWf A s f w).toNat ∧ 0 + 0 ≤ 4 * (kWf A s f w).toNat by omega) ?_
  refine pw_astore C dX10_ofFactNow_6 (Nat.le_of_ble_eq_true rfl) rfl ?_
  refine pw_iload_n C dX10_ofFactNow_8 rfl ?_
  by_cases c_9 : 0 ≤ w ∧ w ≤ 5
  · rcases (show w = 0 ∨ w = 1 ∨ w = 2 ∨ w = 3 ∨ w = 4 ∨ w = 5 from by omega) with c_9 | c_9 | c_9 | c_9 | c_9 | c_9
    · refine pw_swin (tgt := 48) (off := 39) C dX10_ofFactNow_9 (by omega) (by omega) (by omega) (by rw [c_9]; rfl) (by decide) ?_
      refine pw_aload_n C dX10_ofFactNow_48 rfl ?_
      refine pw_aload C dX10_ofFactNow_49 rfl ?_
      refine pw_cVE C hX dX10_ofFactNow_51 ml_X10_96 mc_X10_truth (m_truth hM hA (hM.fa (s * 4 + f) (by omega) (by omega)) (hA.fa (s * 4 + f) (by omega)).f0) kc_13 hM.k rfl rfl ⟨Nat.le_of_ble_eq_true rfl, Nat.le_of_ble_eq_true rfl⟩ (Nat.le_of_ble_eq_true rfl) (show 0 + 0 ≤ (kWf A s f w).toNat ∧ 0 + 0 ≤ 4 * (kWf A s f w).toNat by omega) ?_
      have b_mst14 := mst_bd (S := A 10) (F := A (100 + (s * 4 + f))) (z := 1)
      exact pw_iret C hR dX10_ofFactNow_54 (⟨_, rfl, by subst c_9; rfl, hK0⟩) (by omega) (by omega)
    · refine pw_swin (tgt := 55) (off := 46) C dX10_ofFactNow_9 (by omega) (by omega) (by omega) (by rw [c_9]; rfl) (by decide) ?_
      refine pw_aload_n C dX10_ofFactNow_55 rfl ?_
      refine pw_aload C dX10_ofFactNow_56 rfl ?_
      refine pw_cVE C hX dX10_ofFactNow_58 ml_X10_172 mc_X10_heard (m_heard hM hA (hM.fa (s * 4 + f) (by omega) (by omega)) (hA.fa (s * 4 + f) (by omega)).f0) kc_13 hM.k rfl rfl ⟨Nat.le_of_ble_eq_true rfl, Nat.le_of_ble_eq_true rfl⟩ (Nat.le_of_ble_eq_true rfl) (show 0 + 0 ≤ (kWf A s f w).toNat ∧ 0 + 0 ≤ 4 * (kWf A s f w).toNat by omega) ?_
      have b_mhd15 : -1 ≤ mhd (A 10) (A (100 + (s * 4 + f))) ∧ mhd (A 10) (A (100 + (s * 4 + f))) ≤ 99 := by have := mst_bd (S := A 10) (F := A (100 + (s * 4 + f))) (z := 1); have := mst_bd (S := A 10) (F := A (100 + (s * 4 + f))) (z := 0); unfold mhd; omega
      exact pw_iret C hR dX10_ofFactNow_61 (⟨_, rfl, by subst c_9; rfl, hK0⟩) (by omega) (by omega)
    · refine pw_swin (tgt := 62) (off := 53) C dX10_ofFactNow_9 (by omega) (by omega) (by omega) (by rw [c_9]; rfl) (by decide) ?_
      refine pw_aload C dX10_ofFactNow_62 rfl ?_
      refine pw_cSE C hX dX10_ofFactNow_64 ml_X10_217 mc_X10_saying (m_saying (hM.fa (s * 4 + f) (by omega) (by omega)) (hA.fa (s * 4 + f) (by omega)).f0) rfl rfl ⟨Nat.le_of_ble_eq_true rfl, Nat.le_of_ble_eq_true rfl⟩ (Nat.le_of_ble_eq_true rfl) (show 0 + 0 ≤ (kWf A s f w).toNat ∧ 0 + 0 ≤ 4 * (kWf A s f w).toNat by omega) ?_
      exact pw_iret C hR dX10_ofFactNow_67 (⟨_, rfl, by subst c_9; rfl, hK0⟩) (by omega) (by omega)
    · refine pw_swin (tgt := 68) (off := 59) C dX10_ofFactNow_9 (by omega) (by omega) (by omega) (by rw [c_9]; rfl) (by decide) ?_
      refine pw_aload C dX10_ofFactNow_68 rfl ?_
      refine pw_cSE C hX dX10_ofFactNow_70 ml_X10_220 mc_X10_values (m_values (hM.fa (s * 4 + f) (by omega) (by omega)) (hA.fa (s * 4 + f) (by omega)).f0) rfl rfl ⟨Nat.le_of_ble_eq_true rfl, Nat.le_of_ble_eq_true rfl⟩ (Nat.le_of_ble_eq_true rfl) (show 0 + 0 ≤ (kWf A s f w).toNat ∧ 0 + 0 ≤ 4 * (kWf A s f w).toNat by omega) ?_
      exact pw_iret C hR dX10_ofFactNow_73 (⟨_, rfl, by subst c_9; rfl, hK0⟩) (by omega) (by omega)
    · refine pw_swin (tgt := 74) (off := 65) C dX10_ofFactNow_9 (by omega) (by omega) (by omega) (by rw [c_9]; rfl) (by decide) ?_
      refine pw_aload C dX10_ofFactNow_74 rfl ?_
      refine pw_getE C dX10_ofFactNow_76 fl_X10_127 rfl (hM.fa (s * 4 + f) (by omega) (by omega)).1 (hM.fa (s * 4 + f) (by omega) (by omega)).2.2.2.2 ?_
      exact pw_iret C hR dX10_ofFactNow_79 (⟨_, rfl, by subst c_9; rfl, hK0⟩) (by omega) (by omega)
    · refine pw_swin (tgt := 80) (off := 71) C dX10_ofFactNow_9 (by omega) (by omega) (by omega) (by rw [c_9]; rfl) (by decide) ?_
      refine pw_aload_n C dX10_ofFactNow_80 rfl ?_
      refine pw_iload_n C dX10_ofFactNow_81 rfl ?_
      refine pw_iload_n C dX10_ofFactNow_82 rfl ?_
      have b_fh := fh_bd (s := s) (f := f) hA
      refine pw_cVI C hX dX10_ofFactNow_83 ml_X10_214 mc_X10_had (m_had hM hA hW (s := s) (f := f) (by omega) (by omega)) kc_13 hM.k rfl rfl ⟨Nat.le_of_ble_eq_true rfl, Nat.le_of_ble_eq_true rfl⟩ (Nat.le_of_ble_eq_true rfl) (show 0 + (nWt A s f).toNat ≤ (kWf A s f w).toNat ∧ 0 + 4 * (nWt A s f).toNat ≤ 4 * (kWf A s f w).toNat by omega) (fun r_ G1 M2 hq_ => ?_)
      obtain ⟨rfl, hk_⟩ := hq_
      have hK2 := hK0.tr hk_
      have hM2 := hM.kp hK2
      clear hk_
      exact pw_iret C hR dX10_ofFactNow_86 (⟨_, rfl, by subst c_9; rfl, hK2⟩) (by show 0 + _ ≤ _; omega) (by show 0 + _ ≤ _; omega)
  · refine pw_swout (tgt := 87) C dX10_ofFactNow_9 (by omega) (by omega) (by decide) ?_
    refine pw_aload_n C dX10_ofFactNow_87 rfl ?_
    refine pw_iload_n C dX10_ofFactNow_88 rfl ?_
    refine pw_iload_n C dX10_ofFactNow_89 rfl ?_
    refine pw_cVI C hX dX10_ofFactNow_90 ml_X10_222 mc_X10_isFirst (m_isFirst hM hA hW (s := s) (f := f) (by omega) (by omega)) kc_13 hM.k rfl rfl ⟨Nat.le_of_ble_eq_true rfl, Nat.le_of_ble_eq_true rfl⟩ (Nat.le_of_ble_eq_true rfl) (show 0 + (nWt A s f).toNat ≤ (kWf A s f w).toNat ∧ 0 + 4 * (nWt A s f).toNat ≤ 4 * (kWf A s f w).toNat by omega) (fun r_ G3 M4 hq_ => ?_)
    obtain ⟨rfl, hk_⟩ := hq_
    have hK4 := hK0.tr hk_
    have hM4 := hM.kp hK4
    clear hk_
    refine pw_ifB_eq (tgt := 100) C dX10_ofFactNow_93 (by decide) (fun c_93 => ?_) (fun c_93 => ?_)
    · skip
      refine pw_iconst C dX10_ofFactNow_100 ?_
      exact pw_iret C hR dX10_ofFactNow_101 (⟨_, rfl, by have e : w = 6 := (by omega); subst e; exact bI_f c_93 |>.symm, hK4⟩) (by show 0 + _ ≤ _; omega) (by show 0 + _ ≤ _; omega)
    · skip
      refine pw_iconst C dX10_ofFactNow_96 ?_
      refine pw_goto (tgt := 101) C dX10_ofFactNow_97 (by decide) ?_
      exact pw_iret C hR dX10_ofFactNow_101 (⟨_, rfl, by have e : w = 6 := (by omega); subst e; exact bI_t c_93 |>.symm, hK4⟩) (by show 0 + _ ≤ _; omega) (by show 0 + _ ≤ _; omega)

set_option maxHeartbeats 4000000 in
set_option maxRecDepth 100000 in
theorem m_ofTakeNow {X : Xv} {G M : Mm} {Q : Int} {A : An} {D : Fn} {I : Int → Int} (hM : RM G M Q A D I) (hA : AB A) (hW : WF A) {t w : Int} (ht9 : 0 ≤ t ∧ t < A 0 0 1) (hw9 : 0 ≤ w ∧ w ≤ 8) : CT X yX10_ofTakeNow prog_8_method_42_code 5 (some .int) 3 64 1 9 [vR Q, vI t, vI w] G M (PI (fun r G1 M1 => r = oTa A t w ∧ Kp G M G1 M1)) := by
  refine CT.by (by decide +kernel) [1, 1, 1] ⟨cat_vR _, cat_vI _, cat_vI _, trivial⟩ (Nat.le_of_ble_eq_true rfl) (fun E hX C hR hIni => ?_)
  have hn := hA.n
  have hnS := hA.so.c
  have hq9 := hM.q
  have hK0 : Kp G M G M := Kp.rf
  refine pw_aload_n C dX10_ofTakeNow_0 rfl ?_
  refine pw_getR C dX10_ofTakeNow_1 fl_X10_19 hM.k rfl hM.r3 ?_
  refine pw_iload_n C dX10_ofTakeNow_4 rfl ?_
  refine pw_cVR C hX dX10_ofTakeNow_5 ml_X10_45 mc_Jx4a65c_get_915e3 (hM.g3 (i := t) (by omega)) kc_2 hM.l3.k rfl rfl ⟨Nat.le_of_ble_eq_true rfl, Nat.le_of_ble_eq_true rfl⟩ (Nat.le_of_ble_eq_true rfl) ⟨Nat.le_of_ble_eq_true rfl, Nat.le_of_ble_eq_true rfl⟩ ?_
  refine pw_cast (Cn := "SlugwireModel$Take") C dX10_ofTakeNow_8 (List.mem_of_getElem? (i := 1149) (by decide +kernel)) (by rw [(hM.ta t (by omega) (by omega)).1]; exact kc_12) ?_
  refine pw_astore_n C dX10_ofTakeNow_11 (Nat.le_of_ble_eq_true rfl) rfl ?_
  refine pw_bipush C dX10_ofTakeNow_12 rfl ?_
  refine pw_newI C dX10_ofTakeNow_14 (by omega) (ks := 9) rfl (Nat.le_of_ble_eq_true rfl) (Nat.le_of_ble_eq_true rfl) ?_
  have hKn : Kp G M (nG G 100 9) (nM G M) := Kp.rf.new
  have hAr : AI (nG G 100 9) (G 4 0 0) 9 := ⟨nG_kind, nG_len⟩
  generalize nG G 100 9 = Gn at hKn hAr ⊢
  generalize nM G M = Mn at hKn ⊢
  have hMn := hM.kp hKn
  refine pw_dup C dX10_ofTakeNow_16 (cat_vR _) ?_
  refine pw_iconst C dX10_ofTakeNow_17 ?_
  refine pw_aload_n C dX10_ofTakeNow_18 rfl ?_
  refine pw_getE C dX10_ofTakeNow_19 fl_X10_188 rfl (hMn.ta t (by omega) (by omega)).1 (hMn.ta t (by omega) (by omega)).2.2.2.1.1 ?_
  have b_19 := (hA.ta t (by omega)).s0
  refine pw_iastG C dX10_ofTakeNow_22 hAr (by omega) (fun M1 e0 => ?_)
  have hK1 : Kp G M Gn M1 := by rw [e0]; exact hKn.w (Int.le_refl _) agr_M1 rfl
  have hM1 := hM.kp hK1
  refine pw_dup C dX10_ofTakeNow_23 (cat_vR _) ?_
  refine pw_iconst C dX10_ofTakeNow_24 ?_
  refine pw_aload_n C dX10_ofTakeNow_25 rfl ?_
  refine pw_getE C dX10_ofTakeNow_26 fl_X10_191 rfl (hM1.ta t (by omega) (by omega)).1 (hM1.ta t (by omega) (by omega)).2.2.2.1.2.1 ?_
  have b_26 := (hA.ta t (by omega)).s1
  refine pw_iastG C dX10_ofTakeNow_29 hAr (by omega) (fun M2 e1 => ?_)
  have hK2 : Kp G M Gn M2 := by rw [e1]; exact hK1.w (Int.le_refl _) agr_M1 rfl
  have hM2 := hM.kp hK2
  refine pw_dup C dX10_ofTakeNow_30 (cat_vR _) ?_
  refine pw_iconst C dX10_ofTakeNow_31 ?_
  refine pw_aload_n C dX10_ofTakeNow_32 rfl ?_
  refine pw_getE C dX10_ofTakeNow_33 fl_X10_181 rfl (hM2.ta t (by omega) (by omega)).1 (hM2.ta t (by omega) (by omega)).2.2.2.1.2.2.1 ?_
  have b_33 := (hA.ta t (by omega)).s2
  refine pw_iastG C dX10_ofTakeNow_36 hAr (by omega) (fun M3 e2 => ?_)
  have hK3 : Kp G M Gn M3 := by rw [e2]; exact hK2.w (Int.le_refl _) agr_M1 rfl
  have hM3 := hM.kp hK3
  refine pw_dup C dX10_ofTakeNow_37 (cat_vR _) ?_
  refine pw_iconst C dX10_ofTakeNow_38 ?_
  refine pw_aload_n C dX10_ofTakeNow_39 rfl ?_
  refine pw_getE C dX10_ofTakeNow_40 fl_X10_153 rfl (hM3.ta t (by omega) (by omega)).1 (hM3.ta t (by omega) (by omega)).2.2.2.1.2.2.2.2.1 ?_
  have b_40 := (hA.ta t (by omega)).s3
  refine pw_iastG C dX10_ofTakeNow_43 hAr (by omega) (fun M4 e3 => ?_)
  have hK4 : Kp G M Gn M4 := by rw [e3]; exact hK3.w (Int.le_refl _) agr_M1 rfl
  have hM4 := hM.kp hK4
  refine pw_dup C dX10_ofTakeNow_44 (cat_vR _) ?_
  refine pw_iconst C dX10_ofTakeNow_45 ?_
  refine pw_aload_n C dX10_ofTakeNow_46 rfl ?_
  refine pw_getE C dX10_ofTakeNow_47 fl_X10_229 rfl (hM4.ta t (by omega) (by omega)).1 (hM4.ta t (by omega) (by omega)).2.2.2.1.2.2.2.2.2.1 ?_
  have b_47 := (hA.ta t (by omega)).s4
  refine pw_iastG C dX10_ofTakeNow_50 hAr (by omega) (fun M5 e4 => ?_)
  have hK5 : Kp G M Gn M5 := by rw [e4]; exact hK4.w (Int.le_refl _) agr_M1 rfl
  have hM5 := hM.kp hK5
  refine pw_dup C dX10_ofTakeNow_51 (cat_vR _) ?_
  refine pw_iconst C dX10_ofTakeNow_52 ?_
  refine pw_aload_n C dX10_ofTakeNow_53 rfl ?_
  refine pw_getE C dX10_ofTakeNow_54 fl_X10_232 rfl (hM5.ta t (by omega) (by omega)).1 (hM5.ta t (by omega) (by omega)).2.2.2.1.2.2.2.1 ?_
  have b_54 := (hA.ta t (by omega)).s5
  refine pw_if_eq (tgt := 64) C dX10_ofTakeNow_57 (by decide) (by omega) (fun c_57 => ?_) (fun c_57 => ?_)
  · skip
    refine pw_iconst C dX10_ofTakeNow_64 ?_
    refine pw_iastG C dX10_ofTakeNow_65 hAr (by omega) (fun M6 e5 => ?_)
    have hK6 : Kp G M Gn M6 := by rw [e5]; exact hK5.w (Int.le_refl _) agr_M1 rfl
    have hM6 := hM.kp hK6
    refine pw_dup C dX10_ofTakeNow_66 (cat_vR _) ?_
    refine pw_bipush C dX10_ofTakeNow_67 rfl ?_
    refine pw_aload_n C dX10_ofTakeNow_69 rfl ?_
    refine pw_getE C dX10_ofTakeNow_70 fl_X10_184 rfl (hM6.ta t (by omega) (by omega)).1 (hM6.ta t (by omega) (by omega)).2.2.2.1.2.2.2.2.2.2.2.2 ?_
    have b_70 := (hA.ta t (by omega)).s7
    refine pw_ifB_eq (tgt := 80) C dX10_ofTakeNow_73 (by decide) (fun c_73 => ?_) (fun c_73 => ?_)
    · skip
      refine pw_iconst C dX10_ofTakeNow_80 ?_
      refine pw_iastG C dX10_ofTakeNow_81 hAr (by omega) (fun M7 e6 => ?_)
      have hK7 : Kp G M Gn M7 := by rw [e6]; exact hK6.w (Int.le_refl _) agr_M1 rfl
      have hM7 := hM.kp hK7
      refine pw_dup C dX10_ofTakeNow_82 (cat_vR _) ?_
      refine pw_bipush C dX10_ofTakeNow_83 rfl ?_
      refine pw_aload_n C dX10_ofTakeNow_85 rfl ?_
      refine pw_getE C dX10_ofTakeNow_86 fl_X10_235 rfl (hM7.ta t (by omega) (by omega)).1 (hM7.ta t (by omega) (by omega)).2.2.2.1.2.2.2.2.2.2.1 ?_
      have b_86 := (hA.ta t (by omega)).s6
      refine pw_iastG C dX10_ofTakeNow_89 hAr (by omega) (fun M8 e7 => ?_)
      have hK8 : Kp G M Gn M8 := by rw [e7]; exact hK7.w (Int.le_refl _) agr_M1 rfl
      have hM8 := hM.kp hK8
      refine pw_dup C dX10_ofTakeNow_90 (cat_vR _) ?_
      refine pw_bipush C dX10_ofTakeNow_91 rfl ?_
      refine pw_aload_n C dX10_ofTakeNow_93 rfl ?_
      refine pw_getE C dX10_ofTakeNow_94 fl_X10_238 rfl (hM8.ta t (by omega) (by omega)).1 (hM8.ta t (by omega) (by omega)).2.2.2.1.2.2.2.2.2.2.2.1 ?_
      have b_94 := (hA.ta t (by omega)).s8
      refine pw_iastG C dX10_ofTakeNow_97 hAr (by omega) (fun M9 e8 => ?_)
      have hK9 : Kp G M Gn M9 := by rw [e8]; exact hK8.w (Int.le_refl _) agr_M1 rfl
      have hM9 := hM.kp hK9
      refine pw_astore C dX10_ofTakeNow_98 (Nat.le_of_ble_eq_true rfl) rfl ?_
      refine pw_aload C dX10_ofTakeNow_100 rfl ?_
      refine pw_iload_n C dX10_ofTakeNow_102 rfl ?_
      refine pw_ialdE (x := oTa A t w) C dX10_ofTakeNow_103 hAr (by omega) ?_ ?_
      · rcases (show w = 0 ∨ w = 1 ∨ w = 2 ∨ w = 3 ∨ w = 4 ∨ w = 5 ∨ w = 6 ∨ w = 7 ∨ w = 8 by omega) with rfl | rfl | rfl | rfl | rfl | rfl | rfl | rfl | rfl
        · rw [e8, mup_n (by omega), e7, mup_n (by omega), e6, mup_n (by omega), e5, mup_n (by omega), e4, mup_n (by omega), e3, mup_n (by omega), e2, mup_n (by omega), e1, mup_n (by omega), e0, mup_s]; rfl
        · rw [e8, mup_n (by omega), e7, mup_n (by omega), e6, mup_n (by omega), e5, mup_n (by omega), e4, mup_n (by omega), e3, mup_n (by omega), e2, mup_n (by omega), e1, mup_s]; rfl
        · rw [e8, mup_n (by omega), e7, mup_n (by omega), e6, mup_n (by omega), e5, mup_n (by omega), e4, mup_n (by omega), e3, mup_n (by omega), e2, mup_s]; rfl
        · rw [e8, mup_n (by omega), e7, mup_n (by omega), e6, mup_n (by omega), e5, mup_n (by omega), e4, mup_n (by omega), e3, mup_s]; rfl
        · rw [e8, mup_n (by omega), e7, mup_n (by omega), e6, mup_n (by omega), e5, mup_n (by omega), e4, mup_s]; rfl
        · rw [e8, mup_n (by omega), e7, mup_n (by omega), e6, mup_n (by omega), e5, mup_s]; exact (if_pos c_57).symm
        · rw [e8, mup_n (by omega), e7, mup_n (by omega), e6, mup_s]; exact (if_pos (Decidable.not_not.mp c_73)).symm
        · rw [e8, mup_n (by omega), e7, mup_s]; rfl
        · rw [e8, mup_s]; rfl
      exact pw_iret C hR dX10_ofTakeNow_104 (⟨_, rfl, rfl, hK9⟩) (Nat.le_of_ble_eq_true rfl) (Nat.le_of_ble_eq_true rfl)
    · skip
      refine pw_iconst C dX10_ofTakeNow_76 ?_
      refine pw_goto (tgt := 81) C dX10_ofTakeNow_77 (by decide) ?_
      refine pw_iastG C dX10_ofTakeNow_81 hAr (by omega) (fun M10 e6 => ?_)
      have hK10 : Kp G M Gn M10 := by rw [e6]; exact hK6.w (Int.le_refl _) agr_M1 rfl
      have hM10 := hM.kp hK10
      refine pw_dup C dX10_ofTakeNow_82 (cat_vR _) ?_
      refine pw_bipush C dX10_ofTakeNow_83 rfl ?_
      refine pw_aload_n C dX10_ofTakeNow_85 rfl ?_
      refine pw_getE C dX10_ofTakeNow_86 fl_X10_235 rfl (hM10.ta t (by omega) (by omega)).1 (hM10.ta t (by omega) (by omega)).2.2.2.1.2.2.2.2.2.2.1 ?_
      have b_86 := (hA.ta t (by omega)).s6
      refine pw_iastG C dX10_ofTakeNow_89 hAr (by omega) (fun M11 e7 => ?_)
      have hK11 : Kp G M Gn M11 := by rw [e7]; exact hK10.w (Int.le_refl _) agr_M1 rfl
      have hM11 := hM.kp hK11
      refine pw_dup C dX10_ofTakeNow_90 (cat_vR _) ?_
      refine pw_bipush C dX10_ofTakeNow_91 rfl ?_
      refine pw_aload_n C dX10_ofTakeNow_93 rfl ?_
      refine pw_getE C dX10_ofTakeNow_94 fl_X10_238 rfl (hM11.ta t (by omega) (by omega)).1 (hM11.ta t (by omega) (by omega)).2.2.2.1.2.2.2.2.2.2.2.1 ?_
      have b_94 := (hA.ta t (by omega)).s8
      refine pw_iastG C dX10_ofTakeNow_97 hAr (by omega) (fun M12 e8 => ?_)
      have hK12 : Kp G M Gn M12 := by rw [e8]; exact hK11.w (Int.le_refl _) agr_M1 rfl
      have hM12 := hM.kp hK12
      refine pw_astore C dX10_ofTakeNow_98 (Nat.le_of_ble_eq_true rfl) rfl ?_
      refine pw_aload C dX10_ofTakeNow_100 rfl ?_
      refine pw_iload_n C dX10_ofTakeNow_102 rfl ?_
      refine pw_ialdE (x := oTa A t w) C dX10_ofTakeNow_103 hAr (by omega) ?_ ?_
      · rcases (show w = 0 ∨ w = 1 ∨ w = 2 ∨ w = 3 ∨ w = 4 ∨ w = 5 ∨ w = 6 ∨ w = 7 ∨ w = 8 by omega) with rfl | rfl | rfl | rfl | rfl | rfl | rfl | rfl | rfl
        · rw [e8, mup_n (by omega), e7, mup_n (by omega), e6, mup_n (by omega), e5, mup_n (by omega), e4, mup_n (by omega), e3, mup_n (by omega), e2, mup_n (by omega), e1, mup_n (by omega), e0, mup_s]; rfl
        · rw [e8, mup_n (by omega), e7, mup_n (by omega), e6, mup_n (by omega), e5, mup_n (by omega), e4, mup_n (by omega), e3, mup_n (by omega), e2, mup_n (by omega), e1, mup_s]; rfl
        · rw [e8, mup_n (by omega), e7, mup_n (by omega), e6, mup_n (by omega), e5, mup_n (by omega), e4, mup_n (by omega), e3, mup_n (by omega), e2, mup_s]; rfl
        · rw [e8, mup_n (by omega), e7, mup_n (by omega), e6, mup_n (by omega), e5, mup_n (by omega), e4, mup_n (by omega), e3, mup_s]; rfl
        · rw [e8, mup_n (by omega), e7, mup_n (by omega), e6, mup_n (by omega), e5, mup_n (by omega), e4, mup_s]; rfl
        · rw [e8, mup_n (by omega), e7, mup_n (by omega), e6, mup_n (by omega), e5, mup_s]; exact (if_pos c_57).symm
        · rw [e8, mup_n (by omega), e7, mup_n (by omega), e6, mup_s]; exact (if_neg c_73).symm
        · rw [e8, mup_n (by omega), e7, mup_s]; rfl
        · rw [e8, mup_s]; rfl
      exact pw_iret C hR dX10_ofTakeNow_104 (⟨_, rfl, rfl, hK12⟩) (Nat.le_of_ble_eq_true rfl) (Nat.le_of_ble_eq_true rfl)
  · skip
    refine pw_iconst C dX10_ofTakeNow_60 ?_
    refine pw_goto (tgt := 65) C dX10_ofTakeNow_61 (by decide) ?_
    refine pw_iastG C dX10_ofTakeNow_65 hAr (by omega) (fun M13 e5 => ?_)
    have hK13 : Kp G M Gn M13 := by rw [e5]; exact hK5.w (Int.le_refl _) agr_M1 rfl
    have hM13 := hM.kp hK13
    refine pw_dup C dX10_ofTakeNow_66 (cat_vR _) ?_
    refine pw_bipush C dX10_ofTakeNow_67 rfl ?_
    refine pw_aload_n C dX10_ofTakeNow_69 rfl ?_
    refine pw_getE C dX10_ofTakeNow_70 fl_X10_184 rfl (hM13.ta t (by omega) (by omega)).1 (hM13.ta t (by omega) (by omega)).2.2.2.1.2.2.2.2.2.2.2.2 ?_
    have b_70 := (hA.ta t (by omega)).s7
    refine pw_ifB_eq (tgt := 80) C dX10_ofTakeNow_73 (by decide) (fun c_73 => ?_) (fun c_73 => ?_)
    · skip
      refine pw_iconst C dX10_ofTakeNow_80 ?_
      refine pw_iastG C dX10_ofTakeNow_81 hAr (by omega) (fun M14 e6 => ?_)
      have hK14 : Kp G M Gn M14 := by rw [e6]; exact hK13.w (Int.le_refl _) agr_M1 rfl
      have hM14 := hM.kp hK14
      refine pw_dup C dX10_ofTakeNow_82 (cat_vR _) ?_
      refine pw_bipush C dX10_ofTakeNow_83 rfl ?_
      refine pw_aload_n C dX10_ofTakeNow_85 rfl ?_
      refine pw_getE C dX10_ofTakeNow_86 fl_X10_235 rfl (hM14.ta t (by omega) (by omega)).1 (hM14.ta t (by omega) (by omega)).2.2.2.1.2.2.2.2.2.2.1 ?_
      have b_86 := (hA.ta t (by omega)).s6
      refine pw_iastG C dX10_ofTakeNow_89 hAr (by omega) (fun M15 e7 => ?_)
      have hK15 : Kp G M Gn M15 := by rw [e7]; exact hK14.w (Int.le_refl _) agr_M1 rfl
      have hM15 := hM.kp hK15
      refine pw_dup C dX10_ofTakeNow_90 (cat_vR _) ?_
      refine pw_bipush C dX10_ofTakeNow_91 rfl ?_
      refine pw_aload_n C dX10_ofTakeNow_93 rfl ?_
      refine pw_getE C dX10_ofTakeNow_94 fl_X10_238 rfl (hM15.ta t (by omega) (by omega)).1 (hM15.ta t (by omega) (by omega)).2.2.2.1.2.2.2.2.2.2.2.1 ?_
      have b_94 := (hA.ta t (by omega)).s8
      refine pw_iastG C dX10_ofTakeNow_97 hAr (by omega) (fun M16 e8 => ?_)
      have hK16 : Kp G M Gn M16 := by rw [e8]; exact hK15.w (Int.le_refl _) agr_M1 rfl
      have hM16 := hM.kp hK16
      refine pw_astore C dX10_ofTakeNow_98 (Nat.le_of_ble_eq_true rfl) rfl ?_
      refine pw_aload C dX10_ofTakeNow_100 rfl ?_
      refine pw_iload_n C dX10_ofTakeNow_102 rfl ?_
      refine pw_ialdE (x := oTa A t w) C dX10_ofTakeNow_103 hAr (by omega) ?_ ?_
      · rcases (show w = 0 ∨ w = 1 ∨ w = 2 ∨ w = 3 ∨ w = 4 ∨ w = 5 ∨ w = 6 ∨ w = 7 ∨ w = 8 by omega) with rfl | rfl | rfl | rfl | rfl | rfl | rfl | rfl | rfl
        · rw [e8, mup_n (by omega), e7, mup_n (by omega), e6, mup_n (by omega), e5, mup_n (by omega), e4, mup_n (by omega), e3, mup_n (by omega), e2, mup_n (by omega), e1, mup_n (by omega), e0, mup_s]; rfl
        · rw [e8, mup_n (by omega), e7, mup_n (by omega), e6, mup_n (by omega), e5, mup_n (by omega), e4, mup_n (by omega), e3, mup_n (by omega), e2, mup_n (by omega), e1, mup_s]; rfl
        · rw [e8, mup_n (by omega), e7, mup_n (by omega), e6, mup_n (by omega), e5, mup_n (by omega), e4, mup_n (by omega), e3, mup_n (by omega), e2, mup_s]; rfl
        · rw [e8, mup_n (by omega), e7, mup_n (by omega), e6, mup_n (by omega), e5, mup_n (by omega), e4, mup_n (by omega), e3, mup_s]; rfl
        · rw [e8, mup_n (by omega), e7, mup_n (by omega), e6, mup_n (by omega), e5, mup_n (by omega), e4, mup_s]; rfl
        · rw [e8, mup_n (by omega), e7, mup_n (by omega), e6, mup_n (by omega), e5, mup_s]; exact (if_neg c_57).symm
        · rw [e8, mup_n (by omega), e7, mup_n (by omega), e6, mup_s]; exact (if_pos (Decidable.not_not.mp c_73)).symm
        · rw [e8, mup_n (by omega), e7, mup_s]; rfl
        · rw [e8, mup_s]; rfl
      exact pw_iret C hR dX10_ofTakeNow_104 (⟨_, rfl, rfl, hK16⟩) (Nat.le_of_ble_eq_true rfl) (Nat.le_of_ble_eq_true rfl)
    · skip
      refine pw_iconst C dX10_ofTakeNow_76 ?_
      refine pw_goto (tgt := 81) C dX10_ofTakeNow_77 (by decide) ?_
      refine pw_iastG C dX10_ofTakeNow_81 hAr (by omega) (fun M17 e6 => ?_)
      have hK17 : Kp G M Gn M17 := by rw [e6]; exact hK13.w (Int.le_refl _) agr_M1 rfl
      have hM17 := hM.kp hK17
      refine pw_dup C dX10_ofTakeNow_82 (cat_vR _) ?_
      refine pw_bipush C dX10_ofTakeNow_83 rfl ?_
      refine pw_aload_n C dX10_ofTakeNow_85 rfl ?_
      refine pw_getE C dX10_ofTakeNow_86 fl_X10_235 rfl (hM17.ta t (by omega) (by omega)).1 (hM17.ta t (by omega) (by omega)).2.2.2.1.2.2.2.2.2.2.1 ?_
      have b_86 := (hA.ta t (by omega)).s6
      refine pw_iastG C dX10_ofTakeNow_89 hAr (by omega) (fun M18 e7 => ?_)
      have hK18 : Kp G M Gn M18 := by rw [e7]; exact hK17.w (Int.le_refl _) agr_M1 rfl
      have hM18 := hM.kp hK18
      refine pw_dup C dX10_ofTakeNow_90 (cat_vR _) ?_
      refine pw_bipush C dX10_ofTakeNow_91 rfl ?_
      refine pw_aload_n C dX10_ofTakeNow_93 rfl ?_
      refine pw_getE C dX10_ofTakeNow_94 fl_X10_238 rfl (hM18.ta t (by omega) (by omega)).1 (hM18.ta t (by omega) (by omega)).2.2.2.1.2.2.2.2.2.2.2.1 ?_
      have b_94 := (hA.ta t (by omega)).s8
      refine pw_iastG C dX10_ofTakeNow_97 hAr (by omega) (fun M19 e8 => ?_)
      have hK19 : Kp G M Gn M19 := by rw [e8]; exact hK18.w (Int.le_refl _) agr_M1 rfl
      have hM19 := hM.kp hK19
      refine pw_astore C dX10_ofTakeNow_98 (Nat.le_of_ble_eq_true rfl) rfl ?_
      refine pw_aload C dX10_ofTakeNow_100 rfl ?_
      refine pw_iload_n C dX10_ofTakeNow_102 rfl ?_
      refine pw_ialdE (x := oTa A t w) C dX10_ofTakeNow_103 hAr (by omega) ?_ ?_
      · rcases (show w = 0 ∨ w = 1 ∨ w = 2 ∨ w = 3 ∨ w = 4 ∨ w = 5 ∨ w = 6 ∨ w = 7 ∨ w = 8 by omega) with rfl | rfl | rfl | rfl | rfl | rfl | rfl | rfl | rfl
        · rw [e8, mup_n (by omega), e7, mup_n (by omega), e6, mup_n (by omega), e5, mup_n (by omega), e4, mup_n (by omega), e3, mup_n (by omega), e2, mup_n (by omega), e1, mup_n (by omega), e0, mup_s]; rfl
        · rw [e8, mup_n (by omega), e7, mup_n (by omega), e6, mup_n (by omega), e5, mup_n (by omega), e4, mup_n (by omega), e3, mup_n (by omega), e2, mup_n (by omega), e1, mup_s]; rfl
        · rw [e8, mup_n (by omega), e7, mup_n (by omega), e6, mup_n (by omega), e5, mup_n (by omega), e4, mup_n (by omega), e3, mup_n (by omega), e2, mup_s]; rfl
        · rw [e8, mup_n (by omega), e7, mup_n (by omega), e6, mup_n (by omega), e5, mup_n (by omega), e4, mup_n (by omega), e3, mup_s]; rfl
        · rw [e8, mup_n (by omega), e7, mup_n (by omega), e6, mup_n (by omega), e5, mup_n (by omega), e4, mup_s]; rfl
        · rw [e8, mup_n (by omega), e7, mup_n (by omega), e6, mup_n (by omega), e5, mup_s]; exact (if_neg c_57).symm
        · rw [e8, mup_n (by omega), e7, mup_n (by omega), e6, mup_s]; exact (if_neg c_73).symm
        · rw [e8, mup_n (by omega), e7, mup_s]; rfl
        · rw [e8, mup_s]; rfl
      exact pw_iret C hR dX10_ofTakeNow_104 (⟨_, rfl, rfl, hK19⟩) (Nat.le_of_ble_eq_true rfl) (Nat.le_of_ble_eq_true rfl)

set_option maxHeartbeats 4000000 in
set_option maxRecDepth 100000 in
theorem m_takesOfN {X : Xv} {G M : Mm} {Q : Int} {A : An} {D : Fn} {I : Int → Int} (hM : RM G M Q A D I) (hA : AB A) (hW : WF A) : CT X yX10_takesOf prog_8_method_56_code 5 (some .int) 3 53 1 4 [vR Q, vI (-1)] G M (PI (fun r G1 M1 => r = cKi A ∧ Kp G M G1 M1)) := by
  refine CT.by (by decide +kernel) [1, 1] ⟨cat_vR _, cat_vI _, trivial⟩ (Nat.le_of_ble_eq_true rfl) (fun E hX C hR hIni => ?_)
  have hn := hA.n
  have hnS := hA.so.c
  have hq9 := hM.q
  have hK0 : Kp G M G M := Kp.rf
  refine pw_iconst C dX10_takesOf_0 ?_
  refine pw_istore_n C dX10_takesOf_1 (Nat.le_of_ble_eq_true rfl) rfl ?_
  refine pw_aload_n C dX10_takesOf_2 rfl ?_
  refine pw_getR C dX10_takesOf_3 fl_X10_19 hM.k rfl hM.r3 ?_
  refine pw_cVQ C hX dX10_takesOf_6 ml_X10_139 mc_Jx4a65c_iterator_32c93 (c_iterator hM.l3) kc_2 hM.l3.k rfl rfl ⟨Nat.le_of_ble_eq_true rfl, Nat.le_of_ble_eq_true rfl⟩ (Nat.le_of_ble_eq_true rfl) (show 0 + 1 ≤ 1 ∧ 0 + 4 ≤ 4 by omega) (fun it2 G1 M2 hq_ => ?_)
  obtain ⟨hit2, hI2, hT2, hk_⟩ := hq_
  have hK2 := hK0.tr hk_
  have hM2 := hM.kp hK2
  have hi2 : G 4 0 0 ≤ it2 := by have q_ := hK0.2; omega
  clear hk_ hT2 hit2
  refine pw_astore_n C dX10_takesOf_9 (Nat.le_of_ble_eq_true rfl) rfl ?_
  suffices K_10 : ∀ (nn_10 : Nat) (d : Int) (Gd : Mm) (Md : Mm) (c : Int), (0 ≤ c ∧ c ≤ A 0 0 1) → (IT Gd Md it2 (Q + 3) c) → (Kp G M Gd Md) → (fr (fun t c => if ¬ A (200 + t) 1 7 = -1 then c + 1 else c) c (A 0 0 1) d = cKi A) → A 0 0 1 - c < (nn_10 : Int) → PW E Gd Md (0 + 1) (0 + 4) 10 [(0, 1, vR Q), (1, 1, vI (-1)), (2, 1, vI d), (3, 1, vR it2)] [] from pw_locs (by exact ⟨rfl, cat_vR _, rfl, rfl, rfl, rfl, rfl, cat_vR _, trivial⟩) (K_10 (A 0 0 1 - 0 + 1 : Int).toNat 0 G1 M2 0 (by omega) (by first | exact hI2 | omega) (by first | exact hK2 | omega) (by first | exact rfl | omega) (by omega))
  intro nn_10
  induction nn_10 with
  | zero => intro d Gd Md c hc_ hI_ hKd hg h_m10; exact absurd h_m10 (by omega)
  | succ nn_10 ih_10 =>
    intro d Gd Md c hc_ hI_ hKd hg h_m10
    have hMd := hM.kp hKd
    refine pw_aload_n C dX10_takesOf_10 rfl ?_
    refine pw_cFE C hX dX10_takesOf_11 (List.mem_of_getElem? (i := 1251) (by decide +kernel)) mf_Jx35411_hasNext_aae02 (c_hasNext hMd.l3 hI_ (by omega)) kc_1 hI_.k rfl rfl ⟨Nat.le_of_ble_eq_true rfl, Nat.le_of_ble_eq_true rfl⟩ (Nat.le_of_ble_eq_true rfl) (show (0 + 1) + 0 ≤ 1 ∧ (0 + 4) + 0 ≤ 4 by omega) ?_
    refine pw_ifB_eq (tgt := 63) C dX10_takesOf_16 (by decide) (fun c_16 => ?_) (fun c_16 => ?_)
    · skip
      refine pw_iload_n C dX10_takesOf_63 rfl ?_
      exact pw_iret C hR dX10_takesOf_64 (⟨_, rfl, fr_done (by omega) hg, hKd⟩) (Nat.le_of_ble_eq_true rfl) (Nat.le_of_ble_eq_true rfl)
    · skip
      refine pw_aload_n C dX10_takesOf_19 rfl ?_
      refine pw_cFQ C hX dX10_takesOf_20 (List.mem_of_getElem? (i := 1261) (by decide +kernel)) mf_Jx35411_next_0502b (c_next hMd.l3 hI_ (by omega)) kc_1 hI_.k rfl rfl ⟨Nat.le_of_ble_eq_true rfl, Nat.le_of_ble_eq_true rfl⟩ (Nat.le_of_ble_eq_true rfl) (show (0 + 1) + 0 ≤ 1 ∧ (0 + 4) + 0 ≤ 4 by omega) (fun r_ Gd M3 hq_ => ?_)
      obtain ⟨rfl, rfl, hx_⟩ := hq_
      rw [hMd.e3 c (by omega) (by omega)]
      have hI3 := hI_.nx (by omega)
      have hK3 : Kp G M Gd M3 := by rw [hx_]; exact hKd.w hi2 nx_agr rfl
      rw [← hx_] at hI3
      have hM3 := hM.kp hK3
      clear hx_
      refine pw_cast (Cn := "SlugwireModel$Take") C dX10_takesOf_25 (List.mem_of_getElem? (i := 1149) (by decide +kernel)) (by rw [(hM3.ta c (by omega) (by omega)).1]; exact kc_12) ?_
      refine pw_astore C dX10_takesOf_28 (Nat.le_of_ble_eq_true rfl) rfl ?_
      refine pw_iload_n C dX10_takesOf_30 rfl ?_
      refine pw_iload_n C dX10_takesOf_31 rfl ?_
      refine pw_iconst C dX10_takesOf_32 ?_
      refine pw_icmp_ne (tgt := 44) C dX10_takesOf_33 (by decide) (by omega) (fun c_33 => ?_) (fun c_33 => ?_)
      · skip
        refine pw_aload C dX10_takesOf_44 rfl ?_
        refine pw_getE C dX10_takesOf_46 fl_X10_191 rfl (hM3.ta c (by omega) (by omega)).1 (hM3.ta c (by omega) (by omega)).2.2.2.1.2.1 ?_
        have b_46 := (hA.ta c (by omega)).s1
        refine pw_iload_n C dX10_takesOf_49 rfl ?_
        refine pw_icmp_ne (tgt := 57) C dX10_takesOf_50 (by decide) (by omega) (fun c_50 => ?_) (fun c_50 => ?_)
        · skip
          refine pw_iconst C dX10_takesOf_57 ?_
          refine pw_iadd C dX10_takesOf_58 ?_
          refine pw_istore_n C dX10_takesOf_59 (Nat.le_of_ble_eq_true rfl) rfl ?_
          refine pw_goto (tgt := 10) C dX10_takesOf_60 (by decide) ?_
          exact pw_locs (by exact ⟨rfl, cat_vR _, rfl, rfl, rfl, rfl, rfl, cat_vR _, trivial⟩) (ih_10 (d + 0) Gd M3 (c + 1) (by omega) (hI3) (hK3) (fr_go (by omega) hg (by (try dsimp only); first | exact if_pos (by omega) | (rw [if_neg (by omega)]; omega))) (by omega))
        · skip
          refine pw_iconst C dX10_takesOf_53 ?_
          refine pw_goto (tgt := 58) C dX10_takesOf_54 (by decide) ?_
          refine pw_iadd C dX10_takesOf_58 ?_
          refine pw_istore_n C dX10_takesOf_59 (Nat.le_of_ble_eq_true rfl) rfl ?_
          refine pw_goto (tgt := 10) C dX10_takesOf_60 (by decide) ?_
          exact pw_locs (by exact ⟨rfl, cat_vR _, rfl, rfl, rfl, rfl, rfl, cat_vR _, trivial⟩) (ih_10 (d + 1) Gd M3 (c + 1) (by omega) (hI3) (hK3) (fr_go (by omega) hg (by (try dsimp only); first | exact if_pos (by omega) | (rw [if_neg (by omega)]; omega))) (by omega))
      · skip
        refine pw_aload C dX10_takesOf_36 rfl ?_
        refine pw_getE C dX10_takesOf_38 fl_X10_184 rfl (hM3.ta c (by omega) (by omega)).1 (hM3.ta c (by omega) (by omega)).2.2.2.1.2.2.2.2.2.2.2.2 ?_
        have b_38 := (hA.ta c (by omega)).s7
        refine pw_ifB_ne (tgt := 53) C dX10_takesOf_41 (by decide) (fun c_41 => ?_) (fun c_41 => ?_)
        · skip
          refine pw_iconst C dX10_takesOf_53 ?_
          refine pw_goto (tgt := 58) C dX10_takesOf_54 (by decide) ?_
          refine pw_iadd C dX10_takesOf_58 ?_
          refine pw_istore_n C dX10_takesOf_59 (Nat.le_of_ble_eq_true rfl) rfl ?_
          refine pw_goto (tgt := 10) C dX10_takesOf_60 (by decide) ?_
          exact pw_locs (by exact ⟨rfl, cat_vR _, rfl, rfl, rfl, rfl, rfl, cat_vR _, trivial⟩) (ih_10 (d + 1) Gd M3 (c + 1) (by omega) (hI3) (hK3) (fr_go (by omega) hg (by (try dsimp only); first | exact if_pos (by omega) | (rw [if_neg (by omega)]; omega))) (by omega))
        · skip
          refine pw_aload C dX10_takesOf_44 rfl ?_
          refine pw_getE C dX10_takesOf_46 fl_X10_191 rfl (hM3.ta c (by omega) (by omega)).1 (hM3.ta c (by omega) (by omega)).2.2.2.1.2.1 ?_
          have b_46 := (hA.ta c (by omega)).s1
          refine pw_iload_n C dX10_takesOf_49 rfl ?_
          refine pw_icmp_ne (tgt := 57) C dX10_takesOf_50 (by decide) (by omega) (fun c_50 => ?_) (fun c_50 => ?_)
          · skip
            refine pw_iconst C dX10_takesOf_57 ?_
            refine pw_iadd C dX10_takesOf_58 ?_
            refine pw_istore_n C dX10_takesOf_59 (Nat.le_of_ble_eq_true rfl) rfl ?_
            refine pw_goto (tgt := 10) C dX10_takesOf_60 (by decide) ?_
            exact pw_locs (by exact ⟨rfl, cat_vR _, rfl, rfl, rfl, rfl, rfl, cat_vR _, trivial⟩) (ih_10 (d + 0) Gd M3 (c + 1) (by omega) (hI3) (hK3) (fr_go (by omega) hg (by (try dsimp only); first | exact if_pos (by omega) | (rw [if_neg (by omega)]; omega))) (by omega))
          · skip
            refine pw_iconst C dX10_takesOf_53 ?_
            refine pw_goto (tgt := 58) C dX10_takesOf_54 (by decide) ?_
            refine pw_iadd C dX10_takesOf_58 ?_
            refine pw_istore_n C dX10_takesOf_59 (Nat.le_of_ble_eq_true rfl) rfl ?_
            refine pw_goto (tgt := 10) C dX10_takesOf_60 (by decide) ?_
            exact pw_locs (by exact ⟨rfl, cat_vR _, rfl, rfl, rfl, rfl, rfl, cat_vR _, trivial⟩) (ih_10 (d + 1) Gd M3 (c + 1) (by omega) (hI3) (hK3) (fr_go (by omega) hg (by (try dsimp only); first | exact if_pos (by omega) | (rw [if_neg (by omega)]; omega))) (by omega))

set_option maxHeartbeats 4000000 in
set_option maxRecDepth 100000 in
theorem m_takesOfC {X : Xv} {G M : Mm} {Q : Int} {A : An} {D : Fn} {I : Int → Int} (hM : RM G M Q A D I) (hA : AB A) (hW : WF A) : CT X yX10_takesOf prog_8_method_56_code 5 (some .int) 3 53 1 4 [vR Q, vI 2] G M (PI (fun r G1 M1 => r = cCo A ∧ Kp G M G1 M1)) := by
  refine CT.by (by decide +kernel) [1, 1] ⟨cat_vR _, cat_vI _, trivial⟩ (Nat.le_of_ble_eq_true rfl) (fun E hX C hR hIni => ?_)
  have hn := hA.n
  have hnS := hA.so.c
  have hq9 := hM.q
  have hK0 : Kp G M G M := Kp.rf
  refine pw_iconst C dX10_takesOf_0 ?_
  refine pw_istore_n C dX10_takesOf_1 (Nat.le_of_ble_eq_true rfl) rfl ?_
  refine pw_aload_n C dX10_takesOf_2 rfl ?_
  refine pw_getR C dX10_takesOf_3 fl_X10_19 hM.k rfl hM.r3 ?_
  refine pw_cVQ C hX dX10_takesOf_6 ml_X10_139 mc_Jx4a65c_iterator_32c93 (c_iterator hM.l3) kc_2 hM.l3.k rfl rfl ⟨Nat.le_of_ble_eq_true rfl, Nat.le_of_ble_eq_true rfl⟩ (Nat.le_of_ble_eq_true rfl) (show 0 + 1 ≤ 1 ∧ 0 + 4 ≤ 4 by omega) (fun it2 G1 M2 hq_ => ?_)
  obtain ⟨hit2, hI2, hT2, hk_⟩ := hq_
  have hK2 := hK0.tr hk_
  have hM2 := hM.kp hK2
  have hi2 : G 4 0 0 ≤ it2 := by have q_ := hK0.2; omega
  clear hk_ hT2 hit2
  refine pw_astore_n C dX10_takesOf_9 (Nat.le_of_ble_eq_true rfl) rfl ?_
  suffices K_10 : ∀ (nn_10 : Nat) (d : Int) (Gd : Mm) (Md : Mm) (c : Int), (0 ≤ c ∧ c ≤ A 0 0 1) → (IT Gd Md it2 (Q + 3) c) → (Kp G M Gd Md) → (fr (fun t c => if A (200 + t) 1 1 = 2 then c + 1 else c) c (A 0 0 1) d = cCo A) → A 0 0 1 - c < (nn_10 : Int) → PW E Gd Md (0 + 1) (0 + 4) 10 [(0, 1, vR Q), (1, 1, vI 2), (2, 1, vI d), (3, 1, vR it2)] [] from pw_locs (by exact ⟨rfl, cat_vR _, rfl, rfl, rfl, rfl, rfl, cat_vR _, trivial⟩) (K_10 (A 0 0 1 - 0 + 1 : Int).toNat 0 G1 M2 0 (by omega) (by first | exact hI2 | omega) (by first | exact hK2 | omega) (by first | exact rfl | omega) (by omega))
  intro nn_10
  induction nn_10 with
  | zero => intro d Gd Md c hc_ hI_ hKd hg h_m10; exact absurd h_m10 (by omega)
  | succ nn_10 ih_10 =>
    intro d Gd Md c hc_ hI_ hKd hg h_m10
    have hMd := hM.kp hKd
    refine pw_aload_n C dX10_takesOf_10 rfl ?_
    refine pw_cFE C hX dX10_takesOf_11 (List.mem_of_getElem? (i := 1251) (by decide +kernel)) mf_Jx35411_hasNext_aae02 (c_hasNext hMd.l3 hI_ (by omega)) kc_1 hI_.k rfl rfl ⟨Nat.le_of_ble_eq_true rfl, Nat.le_of_ble_eq_true rfl⟩ (Nat.le_of_ble_eq_true rfl) (show (0 + 1) + 0 ≤ 1 ∧ (0 + 4) + 0 ≤ 4 by omega) ?_
    refine pw_ifB_eq (tgt := 63) C dX10_takesOf_16 (by decide) (fun c_16 => ?_) (fun c_16 => ?_)
    · skip
      refine pw_iload_n C dX10_takesOf_63 rfl ?_
      exact pw_iret C hR dX10_takesOf_64 (⟨_, rfl, fr_done (by omega) hg, hKd⟩) (Nat.le_of_ble_eq_true rfl) (Nat.le_of_ble_eq_true rfl)
    · skip
      refine pw_aload_n C dX10_takesOf_19 rfl ?_
      refine pw_cFQ C hX dX10_takesOf_20 (List.mem_of_getElem? (i := 1261) (by decide +kernel)) mf_Jx35411_next_0502b (c_next hMd.l3 hI_ (by omega)) kc_1 hI_.k rfl rfl ⟨Nat.le_of_ble_eq_true rfl, Nat.le_of_ble_eq_true rfl⟩ (Nat.le_of_ble_eq_true rfl) (show (0 + 1) + 0 ≤ 1 ∧ (0 + 4) + 0 ≤ 4 by omega) (fun r_ Gd M3 hq_ => ?_)
      obtain ⟨rfl, rfl, hx_⟩ := hq_
      rw [hMd.e3 c (by omega) (by omega)]
      have hI3 := hI_.nx (by omega)
      have hK3 : Kp G M Gd M3 := by rw [hx_]; exact hKd.w hi2 nx_agr rfl
      rw [← hx_] at hI3
      have hM3 := hM.kp hK3
      clear hx_
      refine pw_cast (Cn := "SlugwireModel$Take") C dX10_takesOf_25 (List.mem_of_getElem? (i := 1149) (by decide +kernel)) (by rw [(hM3.ta c (by omega) (by omega)).1]; exact kc_12) ?_
      refine pw_astore C dX10_takesOf_28 (Nat.le_of_ble_eq_true rfl) rfl ?_
      refine pw_iload_n C dX10_takesOf_30 rfl ?_
      refine pw_iload_n C dX10_takesOf_31 rfl ?_
      refine pw_iconst C dX10_takesOf_32 ?_
      refine pw_icmp_ne (tgt := 44) C dX10_takesOf_33 (by decide) (by omega) (fun c_33 => ?_) (fun c_33 => ?_)
      · skip
        refine pw_aload C dX10_takesOf_44 rfl ?_
        refine pw_getE C dX10_takesOf_46 fl_X10_191 rfl (hM3.ta c (by omega) (by omega)).1 (hM3.ta c (by omega) (by omega)).2.2.2.1.2.1 ?_
        have b_46 := (hA.ta c (by omega)).s1
        refine pw_iload_n C dX10_takesOf_49 rfl ?_
        refine pw_icmp_ne (tgt := 57) C dX10_takesOf_50 (by decide) (by omega) (fun c_50 => ?_) (fun c_50 => ?_)
        · skip
          refine pw_iconst C dX10_takesOf_57 ?_
          refine pw_iadd C dX10_takesOf_58 ?_
          refine pw_istore_n C dX10_takesOf_59 (Nat.le_of_ble_eq_true rfl) rfl ?_
          refine pw_goto (tgt := 10) C dX10_takesOf_60 (by decide) ?_
          exact pw_locs (by exact ⟨rfl, cat_vR _, rfl, rfl, rfl, rfl, rfl, cat_vR _, trivial⟩) (ih_10 (d + 0) Gd M3 (c + 1) (by omega) (hI3) (hK3) (fr_go (by omega) hg (by (try dsimp only); first | exact if_pos (by omega) | (rw [if_neg (by omega)]; omega))) (by omega))
        · skip
          refine pw_iconst C dX10_takesOf_53 ?_
          refine pw_goto (tgt := 58) C dX10_takesOf_54 (by decide) ?_
          refine pw_iadd C dX10_takesOf_58 ?_
          refine pw_istore_n C dX10_takesOf_59 (Nat.le_of_ble_eq_true rfl) rfl ?_
          refine pw_goto (tgt := 10) C dX10_takesOf_60 (by decide) ?_
          exact pw_locs (by exact ⟨rfl, cat_vR _, rfl, rfl, rfl, rfl, rfl, cat_vR _, trivial⟩) (ih_10 (d + 1) Gd M3 (c + 1) (by omega) (hI3) (hK3) (fr_go (by omega) hg (by (try dsimp only); first | exact if_pos (by omega) | (rw [if_neg (by omega)]; omega))) (by omega))
      · skip
        refine pw_aload C dX10_takesOf_36 rfl ?_
        refine pw_getE C dX10_takesOf_38 fl_X10_184 rfl (hM3.ta c (by omega) (by omega)).1 (hM3.ta c (by omega) (by omega)).2.2.2.1.2.2.2.2.2.2.2.2 ?_
        have b_38 := (hA.ta c (by omega)).s7
        refine pw_ifB_ne (tgt := 53) C dX10_takesOf_41 (by decide) (fun c_41 => ?_) (fun c_41 => ?_)
        · skip
          refine pw_iconst C dX10_takesOf_53 ?_
          refine pw_goto (tgt := 58) C dX10_takesOf_54 (by decide) ?_
          refine pw_iadd C dX10_takesOf_58 ?_
          refine pw_istore_n C dX10_takesOf_59 (Nat.le_of_ble_eq_true rfl) rfl ?_
          refine pw_goto (tgt := 10) C dX10_takesOf_60 (by decide) ?_
          exact pw_locs (by exact ⟨rfl, cat_vR _, rfl, rfl, rfl, rfl, rfl, cat_vR _, trivial⟩) (ih_10 (d + 1) Gd M3 (c + 1) (by omega) (hI3) (hK3) (fr_go (by omega) hg (by (try dsimp only); first | exact if_pos (by omega) | (rw [if_neg (by omega)]; omega))) (by omega))
        · skip
          refine pw_aload C dX10_takesOf_44 rfl ?_
          refine pw_getE C dX10_takesOf_46 fl_X10_191 rfl (hM3.ta c (by omega) (by omega)).1 (hM3.ta c (by omega) (by omega)).2.2.2.1.2.1 ?_
          have b_46 := (hA.ta c (by omega)).s1
          refine pw_iload_n C dX10_takesOf_49 rfl ?_
          refine pw_icmp_ne (tgt := 57) C dX10_takesOf_50 (by decide) (by omega) (fun c_50 => ?_) (fun c_50 => ?_)
          · skip
            refine pw_iconst C dX10_takesOf_57 ?_
            refine pw_iadd C dX10_takesOf_58 ?_
            refine pw_istore_n C dX10_takesOf_59 (Nat.le_of_ble_eq_true rfl) rfl ?_
            refine pw_goto (tgt := 10) C dX10_takesOf_60 (by decide) ?_
            exact pw_locs (by exact ⟨rfl, cat_vR _, rfl, rfl, rfl, rfl, rfl, cat_vR _, trivial⟩) (ih_10 (d + 0) Gd M3 (c + 1) (by omega) (hI3) (hK3) (fr_go (by omega) hg (by (try dsimp only); first | exact if_pos (by omega) | (rw [if_neg (by omega)]; omega))) (by omega))
          · skip
            refine pw_iconst C dX10_takesOf_53 ?_
            refine pw_goto (tgt := 58) C dX10_takesOf_54 (by decide) ?_
            refine pw_iadd C dX10_takesOf_58 ?_
            refine pw_istore_n C dX10_takesOf_59 (Nat.le_of_ble_eq_true rfl) rfl ?_
            refine pw_goto (tgt := 10) C dX10_takesOf_60 (by decide) ?_
            exact pw_locs (by exact ⟨rfl, cat_vR _, rfl, rfl, rfl, rfl, rfl, cat_vR _, trivial⟩) (ih_10 (d + 1) Gd M3 (c + 1) (by omega) (hI3) (hK3) (fr_go (by omega) hg (by (try dsimp only); first | exact if_pos (by omega) | (rw [if_neg (by omega)]; omega))) (by omega))

set_option maxHeartbeats 4000000 in
set_option maxRecDepth 100000 in
theorem m_wrong {X : Xv} {G M : Mm} {Q : Int} {A : An} {D : Fn} {I : Int → Int} (hM : RM G M Q A D I) (hA : AB A) (hW : WF A) : CT X yX10_wrong prog_8_method_57_code 3 (some .int) 8 185 0 0 [vR Q] G M (PE G M (cWA A)) := by
  refine CT.by (by decide +kernel) [1] ⟨cat_vR _, trivial⟩ (Nat.le_of_ble_eq_true rfl) (fun E hX C hR hIni => ?_)
  have hn := hA.n
  have hnS := hA.so.c
  refine pw_iconst C dX10_wrong_0 ?_
  refine pw_istore_n C dX10_wrong_1 (Nat.le_of_ble_eq_true rfl) rfl ?_
  refine pw_iconst C dX10_wrong_2 ?_
  refine pw_istore_n C dX10_wrong_3 (Nat.le_of_ble_eq_true rfl) rfl ?_
  suffices K_4 : ∀ (nn_4 : Nat) (c l : Int) , (0 ≤ l ∧ l ≤ A 0 0 2) → (fr (fun l c => c + cWr A l) l (A 0 0 2) c = cWA A) → A 0 0 2 - l < (nn_4 : Int) → PW E G M 0 0 4 [(0, 1, vR Q), (1, 1, vI c), (2, 1, vI l)] [] from pw_locs (by exact ⟨rfl, cat_vR _, rfl, rfl, rfl, rfl, trivial⟩) (K_4 (A 0 0 2 - 0 + 1 : Int).toNat 0 0  (by omega) (by first | exact rfl | omega) (by omega))
  intro nn_4
  induction nn_4 with
  | zero => intro c l h1 hf h_m4; exact absurd h_m4 (by omega)
  | succ nn_4 ih_4 =>
    intro c l h1 hf h_m4
    refine pw_iload_n C dX10_wrong_4 rfl ?_
    refine pw_aload_n C dX10_wrong_5 rfl ?_
    refine pw_getR C dX10_wrong_6 fl_X10_22 hM.k rfl hM.r4 ?_
    refine pw_cVE C hX dX10_wrong_9 ml_X10_33 mc_Jx4a65c_size_8abf5 (c_size hM.l4) kc_2 hM.l4.k rfl rfl ⟨Nat.le_of_ble_eq_true rfl, Nat.le_of_ble_eq_true rfl⟩ (Nat.le_of_ble_eq_true rfl) ⟨Nat.le_of_ble_eq_true rfl, Nat.le_of_ble_eq_true rfl⟩ ?_
    refine pw_icmp_ge (tgt := 30) C dX10_wrong_12 (by decide) (by omega) (fun c_12 => ?_) (fun c_12 => ?_)
    · skip
      refine pw_iload_n C dX10_wrong_30 rfl ?_
      exact pw_iretE C hR dX10_wrong_31 rfl rfl (fr_done (by omega) hf) (Nat.zero_le _) (Nat.zero_le _)
    · skip
      refine pw_iload_n C dX10_wrong_15 rfl ?_
      refine pw_aload_n C dX10_wrong_16 rfl ?_
      refine pw_iload_n C dX10_wrong_17 rfl ?_
      refine pw_iconst C dX10_wrong_18 ?_
      refine pw_cVE C hX dX10_wrong_19 ml_X10_273 mc_X10_told (m_told1 hM hA hW (l := l) (by omega)) kc_13 hM.k rfl rfl ⟨Nat.le_of_ble_eq_true rfl, Nat.le_of_ble_eq_true rfl⟩ (Nat.le_of_ble_eq_true rfl) ⟨Nat.le_of_ble_eq_true rfl, Nat.le_of_ble_eq_true rfl⟩ ?_
      refine pw_iadd C dX10_wrong_22 ?_
      refine pw_istore_n C dX10_wrong_23 (Nat.le_of_ble_eq_true rfl) rfl ?_
      refine pw_iinc C dX10_wrong_24 rfl (Nat.le_of_ble_eq_true rfl) rfl ?_
      refine pw_goto (tgt := 4) C dX10_wrong_27 (by decide) ?_
      exact pw_locs (by exact ⟨rfl, cat_vR _, rfl, rfl, rfl, rfl, trivial⟩) (ih_4 (c + (cWr A l)) (l + 1)  (by omega) (fr_go (by omega) hf rfl) (by omega))

set_option maxHeartbeats 4000000 in
set_option maxRecDepth 100000 in
theorem m_facts0 {X : Xv} {G M : Mm} {Q : Int} {A : An} {D : Fn} {I : Int → Int} (hM : RM G M Q A D I) (hA : AB A) (hW : WF A) : CT X yX10_facts prog_8_method_55_code 7 (some .int) 7 158 0 0 [vR Q, vI 0] G M (PE G M (mfc A 0)) := by
  refine CT.by (by decide +kernel) [1, 1] ⟨cat_vR _, cat_vI _, trivial⟩ (Nat.le_of_ble_eq_true rfl) (fun E hX C hR hIni => ?_)
  have hn := hA.n
  have hnS := hA.so.c
  refine pw_iconst C dX10_facts_0 ?_
  refine pw_istore_n C dX10_facts_1 (Nat.le_of_ble_eq_true rfl) rfl ?_
  refine pw_iconst C dX10_facts_2 ?_
  refine pw_istore_n C dX10_facts_3 (Nat.le_of_ble_eq_true rfl) rfl ?_
  suffices K_4 : ∀ (nn_4 : Nat) (c s : Int) , (0 ≤ s ∧ s ≤ A 0 0 0) → (fr (fun s c => fr (fun f c => if mfP A 0 s f then c + 1 else c) 0 4 c) s (A 0 0 0) c = mfc A 0) → A 0 0 0 - s < (nn_4 : Int) → PW E G M 0 0 4 [(0, 1, vR Q), (1, 1, vI 0), (2, 1, vI c), (3, 1, vI s)] [] from pw_locs (by exact ⟨rfl, cat_vR _, rfl, rfl, rfl, rfl, rfl, rfl, trivial⟩) (K_4 (A 0 0 0 - 0 + 1 : Int).toNat 0 0  (by omega) (by first | exact rfl | omega) (by omega))
  intro nn_4
  induction nn_4 with
  | zero => intro c s h1 hf h_m4; exact absurd h_m4 (by omega)
  | succ nn_4 ih_4 =>
    intro c s h1 hf h_m4
    refine pw_iload_n C dX10_facts_4 rfl ?_
    refine pw_aload_n C dX10_facts_5 rfl ?_
    refine pw_getR C dX10_facts_6 fl_X10_16 hM.k rfl hM.r2 ?_
    refine pw_cVE C hX dX10_facts_9 ml_X10_33 mc_Jx4a65c_size_8abf5 (c_size hM.l2) kc_2 hM.l2.k rfl rfl ⟨Nat.le_of_ble_eq_true rfl, Nat.le_of_ble_eq_true rfl⟩ (Nat.le_of_ble_eq_true rfl) ⟨Nat.le_of_ble_eq_true rfl, Nat.le_of_ble_eq_true rfl⟩ ?_
    refine pw_icmp_ge (tgt := 115) C dX10_facts_12 (by decide) (by omega) (fun c_12 => ?_) (fun c_12 => ?_)
    · skip
      refine pw_iload_n C dX10_facts_115 rfl ?_
      exact pw_iretE C hR dX10_facts_116 rfl rfl (fr_done (by omega) hf) (Nat.zero_le _) (Nat.zero_le _)
    · skip
      refine pw_iconst C dX10_facts_15 ?_
      refine pw_istore C dX10_facts_16 (Nat.le_of_ble_eq_true rfl) rfl ?_
      suffices K_18 : ∀ (nn_18 : Nat) (c2 f : Int) , (0 ≤ f ∧ f ≤ 4) → (fr (fun f c => if mfP A 0 s f then c + 1 else c) f 4 c2 = fr (fun f c => if mfP A 0 s f then c + 1 else c) 0 4 c) → 4 - f < (nn_18 : Int) → PW E G M 0 0 18 [(0, 1, vR Q), (1, 1, vI 0), (2, 1, vI c2), (3, 1, vI s), (4, 1, vI f)] [] from pw_locs (by exact ⟨rfl, cat_vR _, rfl, rfl, rfl, rfl, rfl, rfl, rfl, rfl, trivial⟩) (K_18 (4 - 0 + 1 : Int).toNat c 0  (by omega) (by first | exact rfl | omega) (by omega))
      intro nn_18
      induction nn_18 with
      | zero => intro c2 f h2 hf2 h_m18; exact absurd h_m18 (by omega)
      | succ nn_18 ih_18 =>
        intro c2 f h2 hf2 h_m18
        refine pw_iload C dX10_facts_18 rfl ?_
        refine pw_iconst C dX10_facts_20 ?_
        refine pw_icmp_ge (tgt := 109) C dX10_facts_21 (by decide) (by omega) (fun c_21 => ?_) (fun c_21 => ?_)
        · skip
          refine pw_iinc C dX10_facts_109 rfl (Nat.le_of_ble_eq_true rfl) rfl ?_
          refine pw_goto (tgt := 4) C dX10_facts_112 (by decide) ?_
          exact pw_locs (by exact ⟨rfl, cat_vR _, rfl, rfl, rfl, rfl, rfl, rfl, trivial⟩) (ih_4 c2 (s + 1)  (by omega) (fr_go (by omega) hf (fr_done (by omega) hf2).symm) (by omega))
        · skip
          refine pw_aload_n C dX10_facts_24 rfl ?_
          refine pw_iload_n C dX10_facts_25 rfl ?_
          refine pw_iload C dX10_facts_26 rfl ?_
          refine pw_cVR C hX dX10_facts_28 ml_X10_123 mc_X10_fact (m_fact hM hA (s := s) (f := f) (by omega) (by omega)) kc_13 hM.k rfl rfl ⟨Nat.le_of_ble_eq_true rfl, Nat.le_of_ble_eq_true rfl⟩ (Nat.le_of_ble_eq_true rfl) ⟨Nat.le_of_ble_eq_true rfl, Nat.le_of_ble_eq_true rfl⟩ ?_
          refine pw_astore C dX10_facts_31 (Nat.le_of_ble_eq_true rfl) rfl ?_
          refine pw_iload_n C dX10_facts_33 rfl ?_
          refine pw_iconst C dX10_facts_34 ?_
          refine pw_icmp_ne (tgt := 48) C dX10_facts_35 (by decide) (by omega) (fun c_35 => ?_) (fun c_35 => ?_)
          rotate_left
          · exact absurd c_35 (by omega)
          refine pw_aload C dX10_facts_48 rfl ?_
          refine pw_cSE C hX dX10_facts_50 ml_X10_217 mc_X10_saying (m_saying (hM.fa (s * 4 + f) (by omega) (by omega)) (hA.fa (s * 4 + f) (by omega)).f0) rfl rfl ⟨Nat.le_of_ble_eq_true rfl, Nat.le_of_ble_eq_true rfl⟩ (Nat.le_of_ble_eq_true rfl) ⟨Nat.le_of_ble_eq_true rfl, Nat.le_of_ble_eq_true rfl⟩ ?_
          have b_50 := cSay_bd (F := A (100 + (s * 4 + f)))
          refine pw_if_le (tgt := 87) C dX10_facts_53 (by decide) (by omega) (fun c_53 => ?_) (fun c_53 => ?_)
          · skip
            refine pw_iconst C dX10_facts_87 ?_
            refine pw_istore C dX10_facts_88 (Nat.le_of_ble_eq_true rfl) rfl ?_
            refine pw_iload_n C dX10_facts_90 rfl ?_
            refine pw_iload C dX10_facts_91 rfl ?_
            refine pw_ifL_eq (tgt := 100) C dX10_facts_93 (by decide) rfl ?_
            refine pw_iconst C dX10_facts_100 ?_
            refine pw_iadd C dX10_facts_101 ?_
            refine pw_istore_n C dX10_facts_102 (Nat.le_of_ble_eq_true rfl) rfl ?_
            refine pw_iinc C dX10_facts_103 rfl (Nat.le_of_ble_eq_true rfl) rfl ?_
            refine pw_goto (tgt := 18) C dX10_facts_106 (by decide) ?_
            exact pw_locs (by exact ⟨rfl, cat_vR _, rfl, rfl, rfl, rfl, rfl, rfl, rfl, rfl, trivial⟩) (ih_18 (c2 + 0) (f + 1)  (by omega) (fr_go (by omega) hf2 (by (try dsimp only); rw [if_neg (fun q => by have := q.1; omega)]; omega)) (by omega))
          · skip
            refine pw_aload_n C dX10_facts_56 rfl ?_
            refine pw_aload C dX10_facts_57 rfl ?_
            refine pw_cVE C hX dX10_facts_59 ml_X10_96 mc_X10_truth (m_truth hM hA (hM.fa (s * 4 + f) (by omega) (by omega)) (hA.fa (s * 4 + f) (by omega)).f0) kc_13 hM.k rfl rfl ⟨Nat.le_of_ble_eq_true rfl, Nat.le_of_ble_eq_true rfl⟩ (Nat.le_of_ble_eq_true rfl) ⟨Nat.le_of_ble_eq_true rfl, Nat.le_of_ble_eq_true rfl⟩ ?_
            have b_mst16 := mst_bd (S := A 10) (F := A (100 + (s * 4 + f))) (z := 1)
            refine pw_iconst C dX10_facts_62 ?_
            refine pw_icmp_eq (tgt := 70) C dX10_facts_63 (by decide) (by omega) (fun c_63 => ?_) (fun c_63 => ?_)
            · skip
              refine pw_iconst C dX10_facts_70 ?_
              refine pw_iload_n C dX10_facts_71 rfl ?_
              refine pw_ifL_nen (tgt := 79) C dX10_facts_72 (by decide) rfl ?_
              refine pw_iconst C dX10_facts_75 ?_
              refine pw_goto (tgt := 80) C dX10_facts_76 (by decide) ?_
              refine pw_icmp_ne (tgt := 87) C dX10_facts_80 (by decide) (by omega) (fun c_80 => ?_) (fun c_80 => ?_)
              · skip
                refine pw_iconst C dX10_facts_87 ?_
                refine pw_istore C dX10_facts_88 (Nat.le_of_ble_eq_true rfl) rfl ?_
                refine pw_iload_n C dX10_facts_90 rfl ?_
                refine pw_iload C dX10_facts_91 rfl ?_
                refine pw_ifL_eq (tgt := 100) C dX10_facts_93 (by decide) rfl ?_
                refine pw_iconst C dX10_facts_100 ?_
                refine pw_iadd C dX10_facts_101 ?_
                refine pw_istore_n C dX10_facts_102 (Nat.le_of_ble_eq_true rfl) rfl ?_
                refine pw_iinc C dX10_facts_103 rfl (Nat.le_of_ble_eq_true rfl) rfl ?_
                refine pw_goto (tgt := 18) C dX10_facts_106 (by decide) ?_
                exact pw_locs (by exact ⟨rfl, cat_vR _, rfl, rfl, rfl, rfl, rfl, rfl, rfl, rfl, trivial⟩) (ih_18 (c2 + 0) (f + 1)  (by omega) (fr_go (by omega) hf2 (by (try dsimp only); first | exact if_pos ⟨by omega, by omega⟩ | (rw [if_neg (fun q => by have := q.2; omega)]; omega))) (by omega))
              · skip
                refine pw_iconst C dX10_facts_83 ?_
                refine pw_goto (tgt := 88) C dX10_facts_84 (by decide) ?_
                refine pw_istore C dX10_facts_88 (Nat.le_of_ble_eq_true rfl) rfl ?_
                refine pw_iload_n C dX10_facts_90 rfl ?_
                refine pw_iload C dX10_facts_91 rfl ?_
                refine pw_ifL_eqn (tgt := 100) C dX10_facts_93 (by decide) rfl ?_
                refine pw_iconst C dX10_facts_96 ?_
                refine pw_goto (tgt := 101) C dX10_facts_97 (by decide) ?_
                refine pw_iadd C dX10_facts_101 ?_
                refine pw_istore_n C dX10_facts_102 (Nat.le_of_ble_eq_true rfl) rfl ?_
                refine pw_iinc C dX10_facts_103 rfl (Nat.le_of_ble_eq_true rfl) rfl ?_
                refine pw_goto (tgt := 18) C dX10_facts_106 (by decide) ?_
                exact pw_locs (by exact ⟨rfl, cat_vR _, rfl, rfl, rfl, rfl, rfl, rfl, rfl, rfl, trivial⟩) (ih_18 (c2 + 1) (f + 1)  (by omega) (fr_go (by omega) hf2 (by (try dsimp only); first | exact if_pos ⟨by omega, by omega⟩ | (rw [if_neg (fun q => by have := q.2; omega)]; omega))) (by omega))
            · skip
              refine pw_iconst C dX10_facts_66 ?_
              refine pw_goto (tgt := 71) C dX10_facts_67 (by decide) ?_
              refine pw_iload_n C dX10_facts_71 rfl ?_
              refine pw_ifL_nen (tgt := 79) C dX10_facts_72 (by decide) rfl ?_
              refine pw_iconst C dX10_facts_75 ?_
              refine pw_goto (tgt := 80) C dX10_facts_76 (by decide) ?_
              refine pw_icmp_ne (tgt := 87) C dX10_facts_80 (by decide) (by omega) (fun c_80 => ?_) (fun c_80 => ?_)
              · skip
                refine pw_iconst C dX10_facts_87 ?_
                refine pw_istore C dX10_facts_88 (Nat.le_of_ble_eq_true rfl) rfl ?_
                refine pw_iload_n C dX10_facts_90 rfl ?_
                refine pw_iload C dX10_facts_91 rfl ?_
                refine pw_ifL_eq (tgt := 100) C dX10_facts_93 (by decide) rfl ?_
                refine pw_iconst C dX10_facts_100 ?_
                refine pw_iadd C dX10_facts_101 ?_
                refine pw_istore_n C dX10_facts_102 (Nat.le_of_ble_eq_true rfl) rfl ?_
                refine pw_iinc C dX10_facts_103 rfl (Nat.le_of_ble_eq_true rfl) rfl ?_
                refine pw_goto (tgt := 18) C dX10_facts_106 (by decide) ?_
                exact pw_locs (by exact ⟨rfl, cat_vR _, rfl, rfl, rfl, rfl, rfl, rfl, rfl, rfl, trivial⟩) (ih_18 (c2 + 0) (f + 1)  (by omega) (fr_go (by omega) hf2 (by (try dsimp only); first | exact if_pos ⟨by omega, by omega⟩ | (rw [if_neg (fun q => by have := q.2; omega)]; omega))) (by omega))
              · skip
                refine pw_iconst C dX10_facts_83 ?_
                refine pw_goto (tgt := 88) C dX10_facts_84 (by decide) ?_
                refine pw_istore C dX10_facts_88 (Nat.le_of_ble_eq_true rfl) rfl ?_
                refine pw_iload_n C dX10_facts_90 rfl ?_
                refine pw_iload C dX10_facts_91 rfl ?_
                refine pw_ifL_eqn (tgt := 100) C dX10_facts_93 (by decide) rfl ?_
                refine pw_iconst C dX10_facts_96 ?_
                refine pw_goto (tgt := 101) C dX10_facts_97 (by decide) ?_
                refine pw_iadd C dX10_facts_101 ?_
                refine pw_istore_n C dX10_facts_102 (Nat.le_of_ble_eq_true rfl) rfl ?_
                refine pw_iinc C dX10_facts_103 rfl (Nat.le_of_ble_eq_true rfl) rfl ?_
                refine pw_goto (tgt := 18) C dX10_facts_106 (by decide) ?_
                exact pw_locs (by exact ⟨rfl, cat_vR _, rfl, rfl, rfl, rfl, rfl, rfl, rfl, rfl, trivial⟩) (ih_18 (c2 + 1) (f + 1)  (by omega) (fr_go (by omega) hf2 (by (try dsimp only); first | exact if_pos ⟨by omega, by omega⟩ | (rw [if_neg (fun q => by have := q.2; omega)]; omega))) (by omega))

set_option maxHeartbeats 4000000 in
set_option maxRecDepth 100000 in
theorem m_facts1 {X : Xv} {G M : Mm} {Q : Int} {A : An} {D : Fn} {I : Int → Int} (hM : RM G M Q A D I) (hA : AB A) (hW : WF A) : CT X yX10_facts prog_8_method_55_code 7 (some .int) 7 158 0 0 [vR Q, vI 1] G M (PE G M (mfc A 1)) := by
  refine CT.by (by decide +kernel) [1, 1] ⟨cat_vR _, cat_vI _, trivial⟩ (Nat.le_of_ble_eq_true rfl) (fun E hX C hR hIni => ?_)
  have hn := hA.n
  have hnS := hA.so.c
  refine pw_iconst C dX10_facts_0 ?_
  refine pw_istore_n C dX10_facts_1 (Nat.le_of_ble_eq_true rfl) rfl ?_
  refine pw_iconst C dX10_facts_2 ?_
  refine pw_istore_n C dX10_facts_3 (Nat.le_of_ble_eq_true rfl) rfl ?_
  suffices K_4 : ∀ (nn_4 : Nat) (c s : Int) , (0 ≤ s ∧ s ≤ A 0 0 0) → (fr (fun s c => fr (fun f c => if mfP A 1 s f then c + 1 else c) 0 4 c) s (A 0 0 0) c = mfc A 1) → A 0 0 0 - s < (nn_4 : Int) → PW E G M 0 0 4 [(0, 1, vR Q), (1, 1, vI 1), (2, 1, vI c), (3, 1, vI s)] [] from pw_locs (by exact ⟨rfl, cat_vR _, rfl, rfl, rfl, rfl, rfl, rfl, trivial⟩) (K_4 (A 0 0 0 - 0 + 1 : Int).toNat 0 0  (by omega) (by first | exact rfl | omega) (by omega))
  intro nn_4
  induction nn_4 with
  | zero => intro c s h1 hf h_m4; exact absurd h_m4 (by omega)
  | succ nn_4 ih_4 =>
    intro c s h1 hf h_m4
    refine pw_iload_n C dX10_facts_4 rfl ?_
    refine pw_aload_n C dX10_facts_5 rfl ?_
    refine pw_getR C dX10_facts_6 fl_X10_16 hM.k rfl hM.r2 ?_
    refine pw_cVE C hX dX10_facts_9 ml_X10_33 mc_Jx4a65c_size_8abf5 (c_size hM.l2) kc_2 hM.l2.k rfl rfl ⟨Nat.le_of_ble_eq_true rfl, Nat.le_of_ble_eq_true rfl⟩ (Nat.le_of_ble_eq_true rfl) ⟨Nat.le_of_ble_eq_true rfl, Nat.le_of_ble_eq_true rfl⟩ ?_
    refine pw_icmp_ge (tgt := 115) C dX10_facts_12 (by decide) (by omega) (fun c_12 => ?_) (fun c_12 => ?_)
    · skip
      refine pw_iload_n C dX10_facts_115 rfl ?_
      exact pw_iretE C hR dX10_facts_116 rfl rfl (fr_done (by omega) hf) (Nat.zero_le _) (Nat.zero_le _)
    · skip
      refine pw_iconst C dX10_facts_15 ?_
      refine pw_istore C dX10_facts_16 (Nat.le_of_ble_eq_true rfl) rfl ?_
      suffices K_18 : ∀ (nn_18 : Nat) (c2 f : Int) , (0 ≤ f ∧ f ≤ 4) → (fr (fun f c => if mfP A 1 s f then c + 1 else c) f 4 c2 = fr (fun f c => if mfP A 1 s f then c + 1 else c) 0 4 c) → 4 - f < (nn_18 : Int) → PW E G M 0 0 18 [(0, 1, vR Q), (1, 1, vI 1), (2, 1, vI c2), (3, 1, vI s), (4, 1, vI f)] [] from pw_locs (by exact ⟨rfl, cat_vR _, rfl, rfl, rfl, rfl, rfl, rfl, rfl, rfl, trivial⟩) (K_18 (4 - 0 + 1 : Int).toNat c 0  (by omega) (by first | exact rfl | omega) (by omega))
      intro nn_18
      induction nn_18 with
      | zero => intro c2 f h2 hf2 h_m18; exact absurd h_m18 (by omega)
      | succ nn_18 ih_18 =>
        intro c2 f h2 hf2 h_m18
        refine pw_iload C dX10_facts_18 rfl ?_
        refine pw_iconst C dX10_facts_20 ?_
        refine pw_icmp_ge (tgt := 109) C dX10_facts_21 (by decide) (by omega) (fun c_21 => ?_) (fun c_21 => ?_)
        · skip
          refine pw_iinc C dX10_facts_109 rfl (Nat.le_of_ble_eq_true rfl) rfl ?_
          refine pw_goto (tgt := 4) C dX10_facts_112 (by decide) ?_
          exact pw_locs (by exact ⟨rfl, cat_vR _, rfl, rfl, rfl, rfl, rfl, rfl, trivial⟩) (ih_4 c2 (s + 1)  (by omega) (fr_go (by omega) hf (fr_done (by omega) hf2).symm) (by omega))
        · skip
          refine pw_aload_n C dX10_facts_24 rfl ?_
          refine pw_iload_n C dX10_facts_25 rfl ?_
          refine pw_iload C dX10_facts_26 rfl ?_
          refine pw_cVR C hX dX10_facts_28 ml_X10_123 mc_X10_fact (m_fact hM hA (s := s) (f := f) (by omega) (by omega)) kc_13 hM.k rfl rfl ⟨Nat.le_of_ble_eq_true rfl, Nat.le_of_ble_eq_true rfl⟩ (Nat.le_of_ble_eq_true rfl) ⟨Nat.le_of_ble_eq_true rfl, Nat.le_of_ble_eq_true rfl⟩ ?_
          refine pw_astore C dX10_facts_31 (Nat.le_of_ble_eq_true rfl) rfl ?_
          refine pw_iload_n C dX10_facts_33 rfl ?_
          refine pw_iconst C dX10_facts_34 ?_
          refine pw_icmp_ne (tgt := 48) C dX10_facts_35 (by decide) (by omega) (fun c_35 => ?_) (fun c_35 => ?_)
          rotate_left
          · exact absurd c_35 (by omega)
          refine pw_aload C dX10_facts_48 rfl ?_
          refine pw_cSE C hX dX10_facts_50 ml_X10_217 mc_X10_saying (m_saying (hM.fa (s * 4 + f) (by omega) (by omega)) (hA.fa (s * 4 + f) (by omega)).f0) rfl rfl ⟨Nat.le_of_ble_eq_true rfl, Nat.le_of_ble_eq_true rfl⟩ (Nat.le_of_ble_eq_true rfl) ⟨Nat.le_of_ble_eq_true rfl, Nat.le_of_ble_eq_true rfl⟩ ?_
          have b_50 := cSay_bd (F := A (100 + (s * 4 + f)))
          refine pw_if_le (tgt := 87) C dX10_facts_53 (by decide) (by omega) (fun c_53 => ?_) (fun c_53 => ?_)
          · skip
            refine pw_iconst C dX10_facts_87 ?_
            refine pw_istore C dX10_facts_88 (Nat.le_of_ble_eq_true rfl) rfl ?_
            refine pw_iload_n C dX10_facts_90 rfl ?_
            refine pw_iload C dX10_facts_91 rfl ?_
            refine pw_ifL_eq (tgt := 100) C dX10_facts_93 (by decide) rfl ?_
            refine pw_iconst C dX10_facts_100 ?_
            refine pw_iadd C dX10_facts_101 ?_
            refine pw_istore_n C dX10_facts_102 (Nat.le_of_ble_eq_true rfl) rfl ?_
            refine pw_iinc C dX10_facts_103 rfl (Nat.le_of_ble_eq_true rfl) rfl ?_
            refine pw_goto (tgt := 18) C dX10_facts_106 (by decide) ?_
            exact pw_locs (by exact ⟨rfl, cat_vR _, rfl, rfl, rfl, rfl, rfl, rfl, rfl, rfl, trivial⟩) (ih_18 (c2 + 0) (f + 1)  (by omega) (fr_go (by omega) hf2 (by (try dsimp only); rw [if_neg (fun q => by have := q.1; omega)]; omega)) (by omega))
          · skip
            refine pw_aload_n C dX10_facts_56 rfl ?_
            refine pw_aload C dX10_facts_57 rfl ?_
            refine pw_cVE C hX dX10_facts_59 ml_X10_96 mc_X10_truth (m_truth hM hA (hM.fa (s * 4 + f) (by omega) (by omega)) (hA.fa (s * 4 + f) (by omega)).f0) kc_13 hM.k rfl rfl ⟨Nat.le_of_ble_eq_true rfl, Nat.le_of_ble_eq_true rfl⟩ (Nat.le_of_ble_eq_true rfl) ⟨Nat.le_of_ble_eq_true rfl, Nat.le_of_ble_eq_true rfl⟩ ?_
            have b_mst17 := mst_bd (S := A 10) (F := A (100 + (s * 4 + f))) (z := 1)
            refine pw_iconst C dX10_facts_62 ?_
            refine pw_icmp_eq (tgt := 70) C dX10_facts_63 (by decide) (by omega) (fun c_63 => ?_) (fun c_63 => ?_)
            · skip
              refine pw_iconst C dX10_facts_70 ?_
              refine pw_iload_n C dX10_facts_71 rfl ?_
              refine pw_ifL_ne (tgt := 79) C dX10_facts_72 (by decide) rfl ?_
              refine pw_iconst C dX10_facts_79 ?_
              refine pw_icmp_ne (tgt := 87) C dX10_facts_80 (by decide) (by omega) (fun c_80 => ?_) (fun c_80 => ?_)
              · skip
                refine pw_iconst C dX10_facts_87 ?_
                refine pw_istore C dX10_facts_88 (Nat.le_of_ble_eq_true rfl) rfl ?_
                refine pw_iload_n C dX10_facts_90 rfl ?_
                refine pw_iload C dX10_facts_91 rfl ?_
                refine pw_ifL_eq (tgt := 100) C dX10_facts_93 (by decide) rfl ?_
                refine pw_iconst C dX10_facts_100 ?_
                refine pw_iadd C dX10_facts_101 ?_
                refine pw_istore_n C dX10_facts_102 (Nat.le_of_ble_eq_true rfl) rfl ?_
                refine pw_iinc C dX10_facts_103 rfl (Nat.le_of_ble_eq_true rfl) rfl ?_
                refine pw_goto (tgt := 18) C dX10_facts_106 (by decide) ?_
                exact pw_locs (by exact ⟨rfl, cat_vR _, rfl, rfl, rfl, rfl, rfl, rfl, rfl, rfl, trivial⟩) (ih_18 (c2 + 0) (f + 1)  (by omega) (fr_go (by omega) hf2 (by (try dsimp only); first | exact if_pos ⟨by omega, by omega⟩ | (rw [if_neg (fun q => by have := q.2; omega)]; omega))) (by omega))
              · skip
                refine pw_iconst C dX10_facts_83 ?_
                refine pw_goto (tgt := 88) C dX10_facts_84 (by decide) ?_
                refine pw_istore C dX10_facts_88 (Nat.le_of_ble_eq_true rfl) rfl ?_
                refine pw_iload_n C dX10_facts_90 rfl ?_
                refine pw_iload C dX10_facts_91 rfl ?_
                refine pw_ifL_eqn (tgt := 100) C dX10_facts_93 (by decide) rfl ?_
                refine pw_iconst C dX10_facts_96 ?_
                refine pw_goto (tgt := 101) C dX10_facts_97 (by decide) ?_
                refine pw_iadd C dX10_facts_101 ?_
                refine pw_istore_n C dX10_facts_102 (Nat.le_of_ble_eq_true rfl) rfl ?_
                refine pw_iinc C dX10_facts_103 rfl (Nat.le_of_ble_eq_true rfl) rfl ?_
                refine pw_goto (tgt := 18) C dX10_facts_106 (by decide) ?_
                exact pw_locs (by exact ⟨rfl, cat_vR _, rfl, rfl, rfl, rfl, rfl, rfl, rfl, rfl, trivial⟩) (ih_18 (c2 + 1) (f + 1)  (by omega) (fr_go (by omega) hf2 (by (try dsimp only); first | exact if_pos ⟨by omega, by omega⟩ | (rw [if_neg (fun q => by have := q.2; omega)]; omega))) (by omega))
            · skip
              refine pw_iconst C dX10_facts_66 ?_
              refine pw_goto (tgt := 71) C dX10_facts_67 (by decide) ?_
              refine pw_iload_n C dX10_facts_71 rfl ?_
              refine pw_ifL_ne (tgt := 79) C dX10_facts_72 (by decide) rfl ?_
              refine pw_iconst C dX10_facts_79 ?_
              refine pw_icmp_ne (tgt := 87) C dX10_facts_80 (by decide) (by omega) (fun c_80 => ?_) (fun c_80 => ?_)
              · skip
                refine pw_iconst C dX10_facts_87 ?_
                refine pw_istore C dX10_facts_88 (Nat.le_of_ble_eq_true rfl) rfl ?_
                refine pw_iload_n C dX10_facts_90 rfl ?_
                refine pw_iload C dX10_facts_91 rfl ?_
                refine pw_ifL_eq (tgt := 100) C dX10_facts_93 (by decide) rfl ?_
                refine pw_iconst C dX10_facts_100 ?_
                refine pw_iadd C dX10_facts_101 ?_
                refine pw_istore_n C dX10_facts_102 (Nat.le_of_ble_eq_true rfl) rfl ?_
                refine pw_iinc C dX10_facts_103 rfl (Nat.le_of_ble_eq_true rfl) rfl ?_
                refine pw_goto (tgt := 18) C dX10_facts_106 (by decide) ?_
                exact pw_locs (by exact ⟨rfl, cat_vR _, rfl, rfl, rfl, rfl, rfl, rfl, rfl, rfl, trivial⟩) (ih_18 (c2 + 0) (f + 1)  (by omega) (fr_go (by omega) hf2 (by (try dsimp only); first | exact if_pos ⟨by omega, by omega⟩ | (rw [if_neg (fun q => by have := q.2; omega)]; omega))) (by omega))
              · skip
                refine pw_iconst C dX10_facts_83 ?_
                refine pw_goto (tgt := 88) C dX10_facts_84 (by decide) ?_
                refine pw_istore C dX10_facts_88 (Nat.le_of_ble_eq_true rfl) rfl ?_
                refine pw_iload_n C dX10_facts_90 rfl ?_
                refine pw_iload C dX10_facts_91 rfl ?_
                refine pw_ifL_eqn (tgt := 100) C dX10_facts_93 (by decide) rfl ?_
                refine pw_iconst C dX10_facts_96 ?_
                refine pw_goto (tgt := 101) C dX10_facts_97 (by decide) ?_
                refine pw_iadd C dX10_facts_101 ?_
                refine pw_istore_n C dX10_facts_102 (Nat.le_of_ble_eq_true rfl) rfl ?_
                refine pw_iinc C dX10_facts_103 rfl (Nat.le_of_ble_eq_true rfl) rfl ?_
                refine pw_goto (tgt := 18) C dX10_facts_106 (by decide) ?_
                exact pw_locs (by exact ⟨rfl, cat_vR _, rfl, rfl, rfl, rfl, rfl, rfl, rfl, rfl, trivial⟩) (ih_18 (c2 + 1) (f + 1)  (by omega) (fr_go (by omega) hf2 (by (try dsimp only); first | exact if_pos ⟨by omega, by omega⟩ | (rw [if_neg (fun q => by have := q.2; omega)]; omega))) (by omega))

set_option maxHeartbeats 4000000 in
set_option maxRecDepth 100000 in
theorem m_facts2 {X : Xv} {G M : Mm} {Q : Int} {A : An} {D : Fn} {I : Int → Int} (hM : RM G M Q A D I) (hA : AB A) (hW : WF A) : CT X yX10_facts prog_8_method_55_code 7 (some .int) 6 138 ((nWA A).toNat) (4 * (nWA A).toNat) [vR Q, vI 2] G M (PI (fun r G1 M1 => r = cFi A ∧ Kp G M G1 M1)) := by
  refine CT.by (by decide +kernel) [1, 1] ⟨cat_vR _, cat_vI _, trivial⟩ (Nat.le_of_ble_eq_true rfl) (fun E hX C hR hIni => ?_)
  have hn := hA.n
  have hnS := hA.so.c
  have hq9 := hM.q
  have hK0 : Kp G M G M := Kp.rf
  have hw0 := nWA_le (c := 0) hA (show 0 ≤ A 0 0 0 by omega)
  have hw1 : fr (fun s c => fr (fun f c => c + nWt A s f) 0 4 c) 0 (A 0 0 0) 0 = nWA A := rfl
  refine pw_iconst C dX10_facts_0 ?_
  refine pw_istore_n C dX10_facts_1 (Nat.le_of_ble_eq_true rfl) rfl ?_
  refine pw_iconst C dX10_facts_2 ?_
  refine pw_istore_n C dX10_facts_3 (Nat.le_of_ble_eq_true rfl) rfl ?_
  suffices K_4 : ∀ (nn_4 : Nat) (c s : Int) (Gc : Mm) (Mc : Mm) (kc : Nat) (nc : Nat), (Kp G M Gc Mc) → (0 ≤ s ∧ s ≤ A 0 0 0) → (fr (fun s c => fr (fun f c => if isF A s f then c + 1 else c) 0 4 c) s (A 0 0 0) c = cFi A) → (fr (fun s c => fr (fun f c => c + nWt A s f) 0 4 c) s (A 0 0 0) (kc : Int) = nWA A) → (nc = 4 * kc) → A 0 0 0 - s < (nn_4 : Int) → PW E Gc Mc kc nc 4 [(0, 1, vR Q), (1, 1, vI 2), (2, 1, vI c), (3, 1, vI s)] [] from pw_locs (by exact ⟨rfl, cat_vR _, rfl, rfl, rfl, rfl, rfl, rfl, trivial⟩) (K_4 (A 0 0 0 - 0 + 1 : Int).toNat 0 0 G M 0 0 (by first | exact hK0 | omega) (by omega) (by first | exact rfl | omega) (by first | exact rfl | omega) (by omega) (by omega))
  intro nn_4
  induction nn_4 with
  | zero => intro c s Gc Mc kc nc hKc h1 hf hw hnc h_m4; exact absurd h_m4 (by omega)
  | succ nn_4 ih_4 =>
    intro c s Gc Mc kc nc hKc h1 hf hw hnc h_m4
    have hMc := hM.kp hKc
    have hw9 := nWA_le (c := (kc : Int)) hA (show s ≤ A 0 0 0 by omega)
    refine pw_iload_n C dX10_facts_4 rfl ?_
    refine pw_aload_n C dX10_facts_5 rfl ?_
    refine pw_getR C dX10_facts_6 fl_X10_16 hMc.k rfl hMc.r2 ?_
    refine pw_cVE C hX dX10_facts_9 ml_X10_33 mc_Jx4a65c_size_8abf5 (c_size hMc.l2) kc_2 hMc.l2.k rfl rfl ⟨Nat.le_of_ble_eq_true rfl, Nat.le_of_ble_eq_true rfl⟩ (Nat.le_of_ble_eq_true rfl) (show kc + 0 ≤ (nWA A).toNat ∧ nc + 0 ≤ 4 * (nWA A).toNat by omega) ?_
    refine pw_icmp_ge (tgt := 115) C dX10_facts_12 (by decide) (by omega) (fun c_12 => ?_) (fun c_12 => ?_)
    · skip
      refine pw_iload_n C dX10_facts_115 rfl ?_
      exact pw_iret C hR dX10_facts_116 (⟨_, rfl, fr_done (by omega) hf, hKc⟩) (by have := fr_done (by omega) hw; omega) (by have := fr_done (by omega) hw; omega)
    · skip
      refine pw_iconst C dX10_facts_15 ?_
      refine pw_istore C dX10_facts_16 (Nat.le_of_ble_eq_true rfl) rfl ?_
      suffices K_18 : ∀ (nn_18 : Nat) (c2 f : Int) (Gd : Mm) (Md : Mm) (kd : Nat) (nd : Nat), (Kp G M Gd Md) → (0 ≤ f ∧ f ≤ 4) → (fr (fun f c => if isF A s f then c + 1 else c) f 4 c2 = fr (fun f c => if isF A s f then c + 1 else c) 0 4 c) → (fr (fun f c => c + nWt A s f) f 4 (kd : Int) = fr (fun f c => c + nWt A s f) 0 4 (kc : Int)) → (nd = 4 * kd) → 4 - f < (nn_18 : Int) → PW E Gd Md kd nd 18 [(0, 1, vR Q), (1, 1, vI 2), (2, 1, vI c2), (3, 1, vI s), (4, 1, vI f)] [] from pw_locs (by exact ⟨rfl, cat_vR _, rfl, rfl, rfl, rfl, rfl, rfl, rfl, rfl, trivial⟩) (K_18 (4 - 0 + 1 : Int).toNat c 0 Gc Mc kc nc (by first | exact hKc | omega) (by omega) (by first | exact rfl | omega) (by first | exact rfl | omega) (by omega) (by omega))
      intro nn_18
      induction nn_18 with
      | zero => intro c2 f Gd Md kd nd hKd h2 hf2 hw2 hnd h_m18; exact absurd h_m18 (by omega)
      | succ nn_18 ih_18 =>
        intro c2 f Gd Md kd nd hKd h2 hf2 hw2 hnd h_m18
        have hMd := hM.kp hKd
        have hw8 := nW4_le (s := s) (c := (kd : Int)) hA (show f ≤ 4 by omega)
        have hw7 := fun h => nWA_le (lo := s + 1) (c := fr (fun f c => c + nWt A s f) 0 4 (kc : Int)) hA h
        have hw4 := hw7 (by omega)
        have hw3 : fr (fun s c => fr (fun f c => c + nWt A s f) 0 4 c) (s + 1) (A 0 0 0) (fr (fun f c => c + nWt A s f) 0 4 (kc : Int)) = nWA A := fr_go (by omega) hw rfl
        refine pw_iload C dX10_facts_18 rfl ?_
        refine pw_iconst C dX10_facts_20 ?_
        refine pw_icmp_ge (tgt := 109) C dX10_facts_21 (by decide) (by omega) (fun c_21 => ?_) (fun c_21 => ?_)
        · skip
          refine pw_iinc C dX10_facts_109 rfl (Nat.le_of_ble_eq_true rfl) rfl ?_
          refine pw_goto (tgt := 4) C dX10_facts_112 (by decide) ?_
          exact pw_locs (by exact ⟨rfl, cat_vR _, rfl, rfl, rfl, rfl, rfl, rfl, trivial⟩) (ih_4 c2 (s + 1) Gd Md kd nd (hKd) (by omega) (fr_go (by omega) hf (fr_done (by omega) hf2).symm) (fr_go (by omega) hw (fr_done (by omega) hw2).symm) (by omega) (by omega))
        · skip
          refine pw_aload_n C dX10_facts_24 rfl ?_
          refine pw_iload_n C dX10_facts_25 rfl ?_
          refine pw_iload C dX10_facts_26 rfl ?_
          refine pw_cVR C hX dX10_facts_28 ml_X10_123 mc_X10_fact (m_fact hMd hA (s := s) (f := f) (by omega) (by omega)) kc_13 hMd.k rfl rfl ⟨Nat.le_of_ble_eq_true rfl, Nat.le_of_ble_eq_true rfl⟩ (Nat.le_of_ble_eq_true rfl) (show kd + 0 ≤ (nWA A).toNat ∧ nd + 0 ≤ 4 * (nWA A).toNat by omega) ?_
          refine pw_astore C dX10_facts_31 (Nat.le_of_ble_eq_true rfl) rfl ?_
          refine pw_iload_n C dX10_facts_33 rfl ?_
          refine pw_iconst C dX10_facts_34 ?_
          refine pw_icmp_ne (tgt := 48) C dX10_facts_35 (by decide) (by omega) (fun c_35 => ?_) (fun c_35 => ?_)
          · exact absurd c_35 (by omega)
          refine pw_aload_n C dX10_facts_38 rfl ?_
          refine pw_iload_n C dX10_facts_39 rfl ?_
          refine pw_iload C dX10_facts_40 rfl ?_
          have hw6 : fr (fun f c => c + nWt A s f) (f + 1) 4 ((kd : Int) + nWt A s f) = fr (fun f c => c + nWt A s f) 0 4 (kc : Int) := fr_go (by omega) hw2 rfl
          have hw5 := nW4_le (s := s) (lo := f + 1) (c := (kd : Int) + nWt A s f) hA (by omega)
          have hw2a := nWt_nn (s := s) (f := f) hA
          refine pw_cVI C hX dX10_facts_42 ml_X10_222 mc_X10_isFirst (m_isFirst hMd hA hW (s := s) (f := f) (by omega) (by omega)) kc_13 hMd.k rfl rfl ⟨Nat.le_of_ble_eq_true rfl, Nat.le_of_ble_eq_true rfl⟩ (Nat.le_of_ble_eq_true rfl) (show kd + (nWt A s f).toNat ≤ (nWA A).toNat ∧ nd + 4 * (nWt A s f).toNat ≤ 4 * (nWA A).toNat by omega) (fun r_ G1 M2 hq_ => ?_)
          obtain ⟨rfl, hk_⟩ := hq_
          have hK2 := hKd.tr hk_
          have hM2 := hM.kp hK2
          clear hk_
          refine pw_goto (tgt := 88) C dX10_facts_45 (by decide) ?_
          refine pw_istore C dX10_facts_88 (Nat.le_of_ble_eq_true rfl) rfl ?_
          refine pw_iload_n C dX10_facts_90 rfl ?_
          refine pw_iload C dX10_facts_91 rfl ?_
          refine pw_ifB_eq (tgt := 100) C dX10_facts_93 (by decide) (fun c_93 => ?_) (fun c_93 => ?_)
          · skip
            refine pw_iconst C dX10_facts_100 ?_
            refine pw_iadd C dX10_facts_101 ?_
            refine pw_istore_n C dX10_facts_102 (Nat.le_of_ble_eq_true rfl) rfl ?_
            refine pw_iinc C dX10_facts_103 rfl (Nat.le_of_ble_eq_true rfl) rfl ?_
            refine pw_goto (tgt := 18) C dX10_facts_106 (by decide) ?_
            exact pw_locs (by exact ⟨rfl, cat_vR _, rfl, rfl, rfl, rfl, rfl, rfl, rfl, rfl, trivial⟩) (ih_18 (c2 + 0) (f + 1) G1 M2 (kd + (nWt A s f).toNat) (nd + 4 * (nWt A s f).toNat) (hK2) (by omega) (fr_go (by omega) hf2 (by (try dsimp only); rw [if_neg c_93]; omega)) (fr_go (by omega) hw2 (by (try dsimp only); omega)) (by omega) (by omega))
          · skip
            refine pw_iconst C dX10_facts_96 ?_
            refine pw_goto (tgt := 101) C dX10_facts_97 (by decide) ?_
            refine pw_iadd C dX10_facts_101 ?_
            refine pw_istore_n C dX10_facts_102 (Nat.le_of_ble_eq_true rfl) rfl ?_
            refine pw_iinc C dX10_facts_103 rfl (Nat.le_of_ble_eq_true rfl) rfl ?_
            refine pw_goto (tgt := 18) C dX10_facts_106 (by decide) ?_
            exact pw_locs (by exact ⟨rfl, cat_vR _, rfl, rfl, rfl, rfl, rfl, rfl, rfl, rfl, trivial⟩) (ih_18 (c2 + 1) (f + 1) G1 M2 (kd + (nWt A s f).toNat) (nd + 4 * (nWt A s f).toNat) (hK2) (by omega) (fr_go (by omega) hf2 (by (try dsimp only); rw [if_pos c_93])) (fr_go (by omega) hw2 (by (try dsimp only); omega)) (by omega) (by omega))

