set_option maxHeartbeats 4000000 in
set_option maxRecDepth 100000 in
theorem c_isInSet {X : Xv} {G M : Mm} {set f : Int} (hset : 0 ≤ set ∧ set < 16) (hf9 : 0 ≤ f ∧ f < 4) : CT X yX5_isInSet prog_1_method_41_code 2 (some .boolean) 0 0 0 0 [vI set, vI f] G M (PE G M (bI (ins set f))) := by
  refine CT.by (by decide +kernel) [1, 1] ⟨cat_vI _, cat_vI _, trivial⟩ (Nat.le_of_ble_eq_true rfl) (fun E hX C hR hIni => ?_)
  refine pw_iload_n C dX5_isInSet_0 rfl ?_
  refine pw_iload_n C dX5_isInSet_1 rfl ?_
  refine pw_ishr C dX5_isInSet_2 ?_
  refine pw_iconst C dX5_isInSet_3 ?_
  refine pw_iand C dX5_isInSet_4 ?_
  refine pw_top (v' := vI (bI (ins set f))) (congrArg Value.int (ins_eq hset hf9)) ?_
  refine pw_iconst C dX5_isInSet_5 ?_
  refine pw_icmp_ne (tgt := 13) C dX5_isInSet_6 (by decide) (by have := bI_01 (ins set f); omega) (fun c_6 => ?_) (fun c_6 => ?_)
  · skip
    refine pw_iconst C dX5_isInSet_13 ?_
    exact pw_zretE C hR dX5_isInSet_14 (by omega) rfl rfl (by first | exact (bI_t (bI_1.mp (by assumption))).symm | exact (bI_f (fun z => absurd (bI_t z) (by assumption))).symm) (Nat.zero_le _) (Nat.zero_le _)
  · skip
    refine pw_iconst C dX5_isInSet_9 ?_
    refine pw_goto (tgt := 14) C dX5_isInSet_10 (by decide) ?_
    exact pw_zretE C hR dX5_isInSet_14 (by omega) rfl rfl (by first | exact (bI_t (bI_1.mp (by assumption))).symm | exact (bI_f (fun z => absurd (bI_t z) (by assumption))).symm) (Nat.zero_le _) (Nat.zero_le _)

set_option maxHeartbeats 4000000 in
set_option maxRecDepth 100000 in
theorem c_wordsFor {X : Xv} {G M : Mm} {k set : Int} (hset : 0 ≤ set ∧ set < 16) (hk : 0 ≤ k ∧ k ≤ 4) : CT X yX5_wordsFor prog_1_method_50_code 2 (some .int) 1 20 0 0 [vI k, vI set] G M (PE G M (wdf k (bc set))) := by
  refine CT.by (by decide +kernel) [1, 1] ⟨cat_vI _, cat_vI _, trivial⟩ (Nat.le_of_ble_eq_true rfl) (fun E hX C hR hIni => ?_)
  refine pw_iload_n C dX5_wordsFor_0 rfl ?_
  by_cases c_1 : 0 ≤ k ∧ k ≤ 3
  · rcases (show k = 0 ∨ k = 1 ∨ k = 2 ∨ k = 3 from by omega) with c_1 | c_1 | c_1 | c_1
    · refine pw_swin (tgt := 32) (off := 31) C dX5_wordsFor_1 (by omega) (by omega) (by omega) (by rw [c_1]; rfl) (by decide) ?_
      refine pw_bipush C dX5_wordsFor_32 rfl ?_
      exact pw_iretE C hR dX5_wordsFor_34 rfl rfl (by subst c_1; rfl) (Nat.zero_le _) (Nat.zero_le _)
    · refine pw_swin (tgt := 35) (off := 34) C dX5_wordsFor_1 (by omega) (by omega) (by omega) (by rw [c_1]; rfl) (by decide) ?_
      refine pw_iconst C dX5_wordsFor_35 ?_
      exact pw_iretE C hR dX5_wordsFor_36 rfl rfl (by subst c_1; rfl) (Nat.zero_le _) (Nat.zero_le _)
    · refine pw_swin (tgt := 37) (off := 36) C dX5_wordsFor_1 (by omega) (by omega) (by omega) (by rw [c_1]; rfl) (by decide) ?_
      refine pw_bipush C dX5_wordsFor_37 rfl ?_
      exact pw_iretE C hR dX5_wordsFor_39 rfl rfl (by subst c_1; rfl) (Nat.zero_le _) (Nat.zero_le _)
    · refine pw_swin (tgt := 40) (off := 39) C dX5_wordsFor_1 (by omega) (by omega) (by omega) (by rw [c_1]; rfl) (by decide) ?_
      refine pw_bipush C dX5_wordsFor_40 rfl ?_
      refine pw_bipush C dX5_wordsFor_42 rfl ?_
      refine pw_iload_n C dX5_wordsFor_44 rfl ?_
      refine pw_cSE C hX dX5_wordsFor_45 ml_X5_146 mc_J6_bitCount_0f7a4 (c_bitCount (x := set) (by omega)) rfl rfl ⟨Nat.le_of_ble_eq_true rfl, Nat.le_of_ble_eq_true rfl⟩ (Nat.le_of_ble_eq_true rfl) ⟨Nat.le_of_ble_eq_true rfl, Nat.le_of_ble_eq_true rfl⟩ ?_
      refine pw_imul C dX5_wordsFor_48 ?_
      refine pw_iadd C dX5_wordsFor_49 ?_
      exact pw_iretE C hR dX5_wordsFor_50 rfl rfl (by subst c_1; rfl) (Nat.zero_le _) (Nat.zero_le _)
  · refine pw_swout (tgt := 51) C dX5_wordsFor_1 (by omega) (by omega) (by decide) ?_
    refine pw_bipush C dX5_wordsFor_51 rfl ?_
    refine pw_bipush C dX5_wordsFor_53 rfl ?_
    refine pw_iload_n C dX5_wordsFor_55 rfl ?_
    refine pw_cSE C hX dX5_wordsFor_56 ml_X5_146 mc_J6_bitCount_0f7a4 (c_bitCount (x := set) (by omega)) rfl rfl ⟨Nat.le_of_ble_eq_true rfl, Nat.le_of_ble_eq_true rfl⟩ (Nat.le_of_ble_eq_true rfl) ⟨Nat.le_of_ble_eq_true rfl, Nat.le_of_ble_eq_true rfl⟩ ?_
    refine pw_imul C dX5_wordsFor_59 ?_
    refine pw_iadd C dX5_wordsFor_60 ?_
    exact pw_iretE C hR dX5_wordsFor_61 rfl rfl (by unfold wdf; rw [if_neg (by omega), if_neg (by omega), if_neg (by omega), if_neg (by omega)]) (Nat.zero_le _) (Nat.zero_le _)

set_option maxHeartbeats 4000000 in
set_option maxRecDepth 100000 in
theorem c_factAt {X : Xv} {G M : Mm} {B : Int} {A : An} (hR0 : RC G M B A) {s f : Int} (hs9 : 0 ≤ s ∧ s < 6) (hf9 : 0 ≤ f ∧ f < 4) : CT X yX5_factAt prog_1_method_40_code 3 (some (FieldType.object "Slugwire$Fact")) 0 0 0 0 [vR B, vI s, vI f] G M (PR G M (B + 7 + 2 * (s * 4 + f))) := by
  refine CT.by (by decide +kernel) [1, 1, 1] ⟨cat_vR _, cat_vI _, cat_vI _, trivial⟩ (Nat.le_of_ble_eq_true rfl) (fun E hX C hR hIni => ?_)
  refine pw_aload_n C dX5_factAt_0 rfl ?_
  refine pw_getR C dX5_factAt_1 fl_X5_25 hR0.k rfl hR0.r2 ?_
  refine pw_iload_n C dX5_factAt_4 rfl ?_
  refine pw_iconst C dX5_factAt_5 ?_
  refine pw_imul C dX5_factAt_6 ?_
  refine pw_iload_n C dX5_factAt_7 rfl ?_
  refine pw_iadd C dX5_factAt_8 ?_
  refine pw_aaldE C dX5_factAt_9 hR0.a2 (by omega) (by omega) (hR0.e2 ((s * 4) + f) (by omega)) ?_
  exact pw_aretE C hR dX5_factAt_10 (Or.inl ⟨_, rfl⟩) rfl rfl (rfl) (Nat.zero_le _) (Nat.zero_le _)

set_option maxHeartbeats 4000000 in
set_option maxRecDepth 100000 in
theorem c_hasValues {X : Xv} {G M : Mm} {B : Int} {A : An} (hR0 : RC G M B A) (hA : AB A) {s set z : Int} (hs9 : 0 ≤ s ∧ s < A 0 0 0) (hset : 0 ≤ set ∧ set < 16) (hz : z = 0 ∨ z = 1) : CT X yX5_hasValues prog_1_method_42_code 5 (some .boolean) 1 22 0 0 [vR B, vI s, vI set, vI z] G M (PE G M (bI (hv A s set z = 4))) := by
  refine CT.by (by decide +kernel) [1, 1, 1, 1] ⟨cat_vR _, cat_vI _, cat_vI _, cat_vI _, trivial⟩ (Nat.le_of_ble_eq_true rfl) (fun E hX C hR hIni => ?_)
  have hn := hA.n
  refine pw_iconst C dX5_hasValues_0 ?_
  refine pw_istore C dX5_hasValues_1 (Nat.le_of_ble_eq_true rfl) rfl ?_
  suffices K_3 : ∀ (nn_3 : Nat) (f : Int) , (0 ≤ f ∧ f ≤ 4) → (fnd (fun f => ins set f ∧ vtf A z (s * 4 + f) = -1) f 4 = hv A s set z) → 4 - f < (nn_3 : Int) → PW E G M 0 0 3 [(0, 1, vR B), (1, 1, vI s), (2, 1, vI set), (3, 1, vI z), (4, 1, vI f)] [] from pw_locs (by exact ⟨rfl, cat_vR _, rfl, rfl, rfl, rfl, rfl, rfl, rfl, rfl, trivial⟩) (K_3 (4 - 0 + 1 : Int).toNat 0  (by omega) (by first | exact rfl | omega) (by omega))
  intro nn_3
  induction nn_3 with
  | zero => intro f h1 hf h_m3; exact absurd h_m3 (by omega)
  | succ nn_3 ih_3 =>
    intro f h1 hf h_m3
    refine pw_iload C dX5_hasValues_3 rfl ?_
    refine pw_iconst C dX5_hasValues_5 ?_
    refine pw_icmp_ge (tgt := 41) C dX5_hasValues_6 (by decide) (by omega) (fun c_6 => ?_) (fun c_6 => ?_)
    · skip
      refine pw_iconst C dX5_hasValues_41 ?_
      exact pw_zretE C hR dX5_hasValues_42 (by omega) rfl rfl ((bI_t (by rw [← fnd_no (by omega) hf]; omega)).symm) (Nat.zero_le _) (Nat.zero_le _)
    · skip
      refine pw_iload_n C dX5_hasValues_9 rfl ?_
      refine pw_iload C dX5_hasValues_10 rfl ?_
      refine pw_cSE C hX dX5_hasValues_12 ml_X5_405 mc_X5_isInSet (c_isInSet (set := set) (f := f) (by omega) (by omega)) rfl rfl ⟨Nat.le_of_ble_eq_true rfl, Nat.le_of_ble_eq_true rfl⟩ (Nat.le_of_ble_eq_true rfl) ⟨Nat.le_of_ble_eq_true rfl, Nat.le_of_ble_eq_true rfl⟩ ?_
      refine pw_ifB_eq (tgt := 35) C dX5_hasValues_15 (by decide) (fun c_15 => ?_) (fun c_15 => ?_)
      · skip
        refine pw_iinc C dX5_hasValues_35 rfl (Nat.le_of_ble_eq_true rfl) rfl ?_
        refine pw_goto (tgt := 3) C dX5_hasValues_38 (by decide) ?_
        exact pw_locs (by exact ⟨rfl, cat_vR _, rfl, rfl, rfl, rfl, rfl, rfl, rfl, rfl, trivial⟩) (ih_3 (f + 1)  (by omega) (fnd_go (by omega) hf (fun q => c_15 q.1)) (by omega))
      · skip
        refine pw_aload_n C dX5_hasValues_18 rfl ?_
        refine pw_iload_n C dX5_hasValues_19 rfl ?_
        refine pw_iload C dX5_hasValues_20 rfl ?_
        refine pw_cVR C hX dX5_hasValues_22 ml_X5_98 mc_X5_factAt (c_factAt hR0 (s := s) (f := f) (by omega) (by omega)) kc_8 hR0.k rfl rfl ⟨Nat.le_of_ble_eq_true rfl, Nat.le_of_ble_eq_true rfl⟩ (Nat.le_of_ble_eq_true rfl) ⟨Nat.le_of_ble_eq_true rfl, Nat.le_of_ble_eq_true rfl⟩ ?_
        refine pw_iload_n C dX5_hasValues_25 rfl ?_
        refine pw_cVE C hX dX5_hasValues_26 ml_X5_408 mc_X0_valueToFile (c_X0_valueToFile (hR0.fa (s * 4 + f) (by omega)) (z := z) (by first | assumption | omega)) kc_3 (hR0.fa (s * 4 + f) (by omega)).k rfl rfl ⟨Nat.le_of_ble_eq_true rfl, Nat.le_of_ble_eq_true rfl⟩ (Nat.le_of_ble_eq_true rfl) ⟨Nat.le_of_ble_eq_true rfl, Nat.le_of_ble_eq_true rfl⟩ ?_
        have b_26 := (hA.fa (s * 4 + f) (by omega)).s0
        have c_26 := (hA.fa (s * 4 + f) (by omega)).s2
        refine pw_iconst C dX5_hasValues_29 ?_
        refine pw_icmp_ne (tgt := 35) C dX5_hasValues_30 (by decide) (by split <;> omega) (fun c_30 => ?_) (fun c_30 => ?_)
        · skip
          refine pw_iinc C dX5_hasValues_35 rfl (Nat.le_of_ble_eq_true rfl) rfl ?_
          refine pw_goto (tgt := 3) C dX5_hasValues_38 (by decide) ?_
          exact pw_locs (by exact ⟨rfl, cat_vR _, rfl, rfl, rfl, rfl, rfl, rfl, rfl, rfl, trivial⟩) (ih_3 (f + 1)  (by omega) (fnd_go (by omega) hf (fun q => c_30 q.2)) (by omega))
        · skip
          refine pw_iconst C dX5_hasValues_33 ?_
          exact pw_zretE C hR dX5_hasValues_34 (by omega) rfl rfl ((bI_f (by rw [← fnd_at (by omega) hf ⟨c_15, c_30⟩]; omega)).symm) (Nat.zero_le _) (Nat.zero_le _)

set_option maxHeartbeats 4000000 in
set_option maxRecDepth 100000 in
theorem c_forceOf {X : Xv} {G M : Mm} {B : Int} {A : An} (hR0 : RC G M B A) (hA : AB A) {s set : Int} (hs9 : 0 ≤ s ∧ s < A 0 0 0) (hset : 0 ≤ set ∧ set < 16) : CT X yX5_forceOf prog_1_method_43_code 5 (some .int) 1 22 0 0 [vR B, vI s, vI set] G M (PE G M (fo A s set)) := by
  refine CT.by (by decide +kernel) [1, 1, 1] ⟨cat_vR _, cat_vI _, cat_vI _, trivial⟩ (Nat.le_of_ble_eq_true rfl) (fun E hX C hR hIni => ?_)
  have hn := hA.n
  refine pw_iconst C dX5_forceOf_0 ?_
  refine pw_istore_n C dX5_forceOf_1 (Nat.le_of_ble_eq_true rfl) rfl ?_
  refine pw_iconst C dX5_forceOf_2 ?_
  refine pw_istore C dX5_forceOf_3 (Nat.le_of_ble_eq_true rfl) rfl ?_
  suffices K_5 : ∀ (nn_5 : Nat) (c f : Int) , (0 ≤ f ∧ f ≤ 4) → (fr (fun f c => if ins set f then c + A (100 + (s * 4 + f)) 1 1 else c) f 4 c = fo A s set) → 4 - f < (nn_5 : Int) → PW E G M 0 0 5 [(0, 1, vR B), (1, 1, vI s), (2, 1, vI set), (3, 1, vI c), (4, 1, vI f)] [] from pw_locs (by exact ⟨rfl, cat_vR _, rfl, rfl, rfl, rfl, rfl, rfl, rfl, rfl, trivial⟩) (K_5 (4 - 0 + 1 : Int).toNat 0 0  (by omega) (by first | exact rfl | omega) (by omega))
  intro nn_5
  induction nn_5 with
  | zero => intro c f h1 hf h_m5; exact absurd h_m5 (by omega)
  | succ nn_5 ih_5 =>
    intro c f h1 hf h_m5
    refine pw_iload C dX5_forceOf_5 rfl ?_
    refine pw_iconst C dX5_forceOf_7 ?_
    refine pw_icmp_ge (tgt := 39) C dX5_forceOf_8 (by decide) (by omega) (fun c_8 => ?_) (fun c_8 => ?_)
    · skip
      refine pw_iload_n C dX5_forceOf_39 rfl ?_
      exact pw_iretE C hR dX5_forceOf_40 rfl rfl (fr_done (by omega) hf) (Nat.zero_le _) (Nat.zero_le _)
    · skip
      refine pw_iload_n C dX5_forceOf_11 rfl ?_
      refine pw_iload C dX5_forceOf_12 rfl ?_
      refine pw_cSE C hX dX5_forceOf_14 ml_X5_405 mc_X5_isInSet (c_isInSet (set := set) (f := f) (by omega) (by omega)) rfl rfl ⟨Nat.le_of_ble_eq_true rfl, Nat.le_of_ble_eq_true rfl⟩ (Nat.le_of_ble_eq_true rfl) ⟨Nat.le_of_ble_eq_true rfl, Nat.le_of_ble_eq_true rfl⟩ ?_
      refine pw_ifB_eq (tgt := 33) C dX5_forceOf_17 (by decide) (fun c_17 => ?_) (fun c_17 => ?_)
      · skip
        refine pw_iinc C dX5_forceOf_33 rfl (Nat.le_of_ble_eq_true rfl) rfl ?_
        refine pw_goto (tgt := 5) C dX5_forceOf_36 (by decide) ?_
        exact pw_locs (by exact ⟨rfl, cat_vR _, rfl, rfl, rfl, rfl, rfl, rfl, rfl, rfl, trivial⟩) (ih_5 c (f + 1)  (by omega) (fr_go (by omega) hf (if_neg c_17)) (by omega))
      · skip
        refine pw_iload_n C dX5_forceOf_20 rfl ?_
        refine pw_aload_n C dX5_forceOf_21 rfl ?_
        refine pw_iload_n C dX5_forceOf_22 rfl ?_
        refine pw_iload C dX5_forceOf_23 rfl ?_
        refine pw_cVR C hX dX5_forceOf_25 ml_X5_98 mc_X5_factAt (c_factAt hR0 (s := s) (f := f) (by omega) (by omega)) kc_8 hR0.k rfl rfl ⟨Nat.le_of_ble_eq_true rfl, Nat.le_of_ble_eq_true rfl⟩ (Nat.le_of_ble_eq_true rfl) ⟨Nat.le_of_ble_eq_true rfl, Nat.le_of_ble_eq_true rfl⟩ ?_
        refine pw_getE C dX5_forceOf_28 fl_X5_412 rfl (hR0.fa (s * 4 + f) (by omega)).k ((hR0.fa (s * 4 + f) (by omega)).s 1 (by omega)) ?_
        have b_28 := (hA.fa (s * 4 + f) (by omega)).s1
        refine pw_iadd C dX5_forceOf_31 ?_
        refine pw_istore_n C dX5_forceOf_32 (Nat.le_of_ble_eq_true rfl) rfl ?_
        refine pw_iinc C dX5_forceOf_33 rfl (Nat.le_of_ble_eq_true rfl) rfl ?_
        refine pw_goto (tgt := 5) C dX5_forceOf_36 (by decide) ?_
        exact pw_locs (by exact ⟨rfl, cat_vR _, rfl, rfl, rfl, rfl, rfl, rfl, rfl, rfl, trivial⟩) (ih_5 (c + ((A (100 + (s * 4 + f))) 1 1)) (f + 1)  (by omega) (fr_go (by omega) hf (if_pos c_17)) (by omega))

set_option maxHeartbeats 4000000 in
set_option maxRecDepth 100000 in
theorem c_firstHadAnywhere {X : Xv} {G M : Mm} {B : Int} {A : An} (hR0 : RC G M B A) (hA : AB A) {t : Int} (ht9 : 0 ≤ t ∧ t < A 0 0 1) : CT X yX5_firstHadAnywhere prog_1_method_45_code 5 (some .int) 1 22 0 0 [vR B, vI t] G M (PE G M (fhT A t)) := by
  refine CT.by (by decide +kernel) [1, 1] ⟨cat_vR _, cat_vI _, trivial⟩ (Nat.le_of_ble_eq_true rfl) (fun E hX C hR hIni => ?_)
  have hn := hA.n
  refine pw_iconst C dX5_firstHadAnywhere_0 ?_
  refine pw_istore_n C dX5_firstHadAnywhere_1 (Nat.le_of_ble_eq_true rfl) rfl ?_
  refine pw_iconst C dX5_firstHadAnywhere_2 ?_
  refine pw_istore_n C dX5_firstHadAnywhere_3 (Nat.le_of_ble_eq_true rfl) rfl ?_
  suffices K_4 : ∀ (nn_4 : Nat) (first l : Int) , (0 ≤ l ∧ l ≤ A 0 0 2) → (-1 ≤ first ∧ first ≤ 9999) → (fr (fhS A t) l (A 0 0 2) first = fhT A t) → A 0 0 2 - l < (nn_4 : Int) → PW E G M 0 0 4 [(0, 1, vR B), (1, 1, vI t), (2, 1, vI first), (3, 1, vI l)] [] from pw_locs (by exact ⟨rfl, cat_vR _, rfl, rfl, rfl, rfl, rfl, rfl, trivial⟩) (K_4 (A 0 0 2 - 0 + 1 : Int).toNat (-1) 0  (by omega) (by omega) (by first | exact rfl | omega) (by omega))
  intro nn_4
  induction nn_4 with
  | zero => intro first l h1 h2 hf h_m4; exact absurd h_m4 (by omega)
  | succ nn_4 ih_4 =>
    intro first l h1 h2 hf h_m4
    refine pw_iload_n C dX5_firstHadAnywhere_4 rfl ?_
    refine pw_aload_n C dX5_firstHadAnywhere_5 rfl ?_
    refine pw_getE C dX5_firstHadAnywhere_6 fl_X5_80 rfl hR0.k (hR0.n 2 (by omega)) ?_
    refine pw_icmp_ge (tgt := 72) C dX5_firstHadAnywhere_9 (by decide) (by omega) (fun c_9 => ?_) (fun c_9 => ?_)
    · skip
      refine pw_iload_n C dX5_firstHadAnywhere_72 rfl ?_
      exact pw_iretE C hR dX5_firstHadAnywhere_73 rfl rfl (fr_done (by omega) hf) (Nat.zero_le _) (Nat.zero_le _)
    · skip
      refine pw_aload_n C dX5_firstHadAnywhere_12 rfl ?_
      refine pw_getR C dX5_firstHadAnywhere_13 fl_X5_39 hR0.k rfl hR0.r4 ?_
      refine pw_iload_n C dX5_firstHadAnywhere_16 rfl ?_
      refine pw_aaldE C dX5_firstHadAnywhere_17 hR0.a4 (by omega) (by omega) (hR0.e4 l (by omega)) ?_
      refine pw_iload_n C dX5_firstHadAnywhere_18 rfl ?_
      refine pw_aload_n C dX5_firstHadAnywhere_19 rfl ?_
      refine pw_getE C dX5_firstHadAnywhere_20 fl_X5_123 rfl hR0.k (hR0.n 3 (by omega)) ?_
      refine pw_cVE C hX dX5_firstHadAnywhere_23 ml_X5_257 mc_X1_hasAtDesk (c_X1_hasAtDesk (hR0.li l (by omega)) (hA.li l (by omega)) (t := t) (m := (A 0 0 3)) (by omega) (by omega)) kc_4 (hR0.li l (by omega)).k rfl rfl ⟨Nat.le_of_ble_eq_true rfl, Nat.le_of_ble_eq_true rfl⟩ (Nat.le_of_ble_eq_true rfl) ⟨Nat.le_of_ble_eq_true rfl, Nat.le_of_ble_eq_true rfl⟩ ?_
      refine pw_ifB_eq (tgt := 66) C dX5_firstHadAnywhere_26 (by decide) (fun c_26 => ?_) (fun c_26 => ?_)
      · skip
        refine pw_iinc C dX5_firstHadAnywhere_66 rfl (Nat.le_of_ble_eq_true rfl) rfl ?_
        refine pw_goto (tgt := 4) C dX5_firstHadAnywhere_69 (by decide) ?_
        exact pw_locs (by exact ⟨rfl, cat_vR _, rfl, rfl, rfl, rfl, rfl, rfl, trivial⟩) (ih_4 first (l + 1)  (by omega) (by omega) (fr_go (by omega) hf (by unfold fhS; exact if_neg (fun q => c_26 q.1))) (by omega))
      · skip
        have c26b := c_26.2
        refine pw_aload_n C dX5_firstHadAnywhere_29 rfl ?_
        refine pw_getR C dX5_firstHadAnywhere_30 fl_X5_39 hR0.k rfl hR0.r4 ?_
        refine pw_iload_n C dX5_firstHadAnywhere_33 rfl ?_
        refine pw_aaldE C dX5_firstHadAnywhere_34 hR0.a4 (by omega) (by omega) (hR0.e4 l (by omega)) ?_
        refine pw_getR C dX5_firstHadAnywhere_35 fl_X5_307 (hR0.li l (by omega)).k rfl ((hR0.li l (by omega)).r (b := ((B + 177 + 5 * l) + 4)) 3 (by omega)) ?_
        refine pw_iload_n C dX5_firstHadAnywhere_38 rfl ?_
        refine pw_ialdE C dX5_firstHadAnywhere_39 ((hR0.li l (by omega)).ai 3 (by omega)) (by omega) ((hR0.li l (by omega)).v 3 (by omega)) ?_
        have b_39 := (hA.li l (by omega)).v3 t (by omega) (by omega)
        refine pw_aload_n C dX5_firstHadAnywhere_40 rfl ?_
        refine pw_getR C dX5_firstHadAnywhere_41 fl_X5_39 hR0.k rfl hR0.r4 ?_
        refine pw_iload_n C dX5_firstHadAnywhere_44 rfl ?_
        refine pw_aaldE C dX5_firstHadAnywhere_45 hR0.a4 (by omega) (by omega) (hR0.e4 l (by omega)) ?_
        refine pw_getE C dX5_firstHadAnywhere_46 fl_X5_88 rfl (hR0.li l (by omega)).k ((hR0.li l (by omega)).s 1 (by omega)) ?_
        have b_46 := (hA.li l (by omega)).s1
        refine pw_iadd C dX5_firstHadAnywhere_49 ?_
        refine pw_istore C dX5_firstHadAnywhere_50 (Nat.le_of_ble_eq_true rfl) rfl ?_
        refine pw_iload_n C dX5_firstHadAnywhere_52 rfl ?_
        refine pw_iconst C dX5_firstHadAnywhere_53 ?_
        refine pw_icmp_eq (tgt := 63) C dX5_firstHadAnywhere_54 (by decide) (by omega) (fun c_54 => ?_) (fun c_54 => ?_)
        · skip
          refine pw_iload C dX5_firstHadAnywhere_63 rfl ?_
          refine pw_istore_n C dX5_firstHadAnywhere_65 (Nat.le_of_ble_eq_true rfl) rfl ?_
          refine pw_iinc C dX5_firstHadAnywhere_66 rfl (Nat.le_of_ble_eq_true rfl) rfl ?_
          refine pw_goto (tgt := 4) C dX5_firstHadAnywhere_69 (by decide) ?_
          exact pw_locs (by exact ⟨rfl, cat_vR _, rfl, rfl, rfl, rfl, rfl, rfl, trivial⟩) (ih_4 (((A (20 + l)) 3 t) + ((A (20 + l)) 4 1)) (l + 1)  (by omega) (by omega) (fr_go (by omega) hf (by unfold fhS; first | exact if_pos ⟨c_26, by omega⟩ | exact if_neg (fun q => by have := q.2; omega))) (by omega))
        · skip
          refine pw_iload C dX5_firstHadAnywhere_57 rfl ?_
          refine pw_iload_n C dX5_firstHadAnywhere_59 rfl ?_
          refine pw_icmp_ge (tgt := 66) C dX5_firstHadAnywhere_60 (by decide) (by omega) (fun c_60 => ?_) (fun c_60 => ?_)
          · skip
            refine pw_iinc C dX5_firstHadAnywhere_66 rfl (Nat.le_of_ble_eq_true rfl) rfl ?_
            refine pw_goto (tgt := 4) C dX5_firstHadAnywhere_69 (by decide) ?_
            exact pw_locs (by exact ⟨rfl, cat_vR _, rfl, rfl, rfl, rfl, rfl, rfl, trivial⟩) (ih_4 first (l + 1)  (by omega) (by omega) (fr_go (by omega) hf (by unfold fhS; first | exact if_pos ⟨c_26, by omega⟩ | exact if_neg (fun q => by have := q.2; omega))) (by omega))
          · skip
            refine pw_iload C dX5_firstHadAnywhere_63 rfl ?_
            refine pw_istore_n C dX5_firstHadAnywhere_65 (Nat.le_of_ble_eq_true rfl) rfl ?_
            refine pw_iinc C dX5_firstHadAnywhere_66 rfl (Nat.le_of_ble_eq_true rfl) rfl ?_
            refine pw_goto (tgt := 4) C dX5_firstHadAnywhere_69 (by decide) ?_
            exact pw_locs (by exact ⟨rfl, cat_vR _, rfl, rfl, rfl, rfl, rfl, rfl, trivial⟩) (ih_4 (((A (20 + l)) 3 t) + ((A (20 + l)) 4 1)) (l + 1)  (by omega) (by omega) (fr_go (by omega) hf (by unfold fhS; first | exact if_pos ⟨c_26, by omega⟩ | exact if_neg (fun q => by have := q.2; omega))) (by omega))

set_option maxHeartbeats 4000000 in
set_option maxRecDepth 100000 in
theorem c_firstHad {X : Xv} {G M : Mm} {B : Int} {A : An} (hR0 : RC G M B A) (hA : AB A) {s f : Int} (hs9 : 0 ≤ s ∧ s < A 0 0 0) (hf9 : 0 ≤ f ∧ f < 4) : CT X yX5_firstHad prog_1_method_44_code 6 (some .int) 2 46 0 0 [vR B, vI s, vI f] G M (PE G M (fh A s f)) := by
  refine CT.by (by decide +kernel) [1, 1, 1] ⟨cat_vR _, cat_vI _, cat_vI _, trivial⟩ (Nat.le_of_ble_eq_true rfl) (fun E hX C hR hIni => ?_)
  have hn := hA.n
  refine pw_iconst C dX5_firstHad_0 ?_
  refine pw_istore_n C dX5_firstHad_1 (Nat.le_of_ble_eq_true rfl) rfl ?_
  refine pw_iconst C dX5_firstHad_2 ?_
  refine pw_istore C dX5_firstHad_3 (Nat.le_of_ble_eq_true rfl) rfl ?_
  suffices K_5 : ∀ (nn_5 : Nat) (first t : Int) , (0 ≤ t ∧ t ≤ A 0 0 1) → (-1 ≤ first ∧ first ≤ 9999) → (fr (fhF A s f) t (A 0 0 1) first = fh A s f) → A 0 0 1 - t < (nn_5 : Int) → PW E G M 0 0 5 [(0, 1, vR B), (1, 1, vI s), (2, 1, vI f), (3, 1, vI first), (4, 1, vI t)] [] from pw_locs (by exact ⟨rfl, cat_vR _, rfl, rfl, rfl, rfl, rfl, rfl, rfl, rfl, trivial⟩) (K_5 (A 0 0 1 - 0 + 1 : Int).toNat (-1) 0  (by omega) (by omega) (by first | exact rfl | omega) (by omega))
  intro nn_5
  induction nn_5 with
  | zero => intro first t h1 h2 hf h_m5; exact absurd h_m5 (by omega)
  | succ nn_5 ih_5 =>
    intro first t h1 h2 hf h_m5
    refine pw_iload C dX5_firstHad_5 rfl ?_
    refine pw_aload_n C dX5_firstHad_7 rfl ?_
    refine pw_getE C dX5_firstHad_8 fl_X5_284 rfl hR0.k (hR0.n 1 (by omega)) ?_
    refine pw_icmp_ge (tgt := 78) C dX5_firstHad_11 (by decide) (by omega) (fun c_11 => ?_) (fun c_11 => ?_)
    · skip
      refine pw_iload_n C dX5_firstHad_78 rfl ?_
      exact pw_iretE C hR dX5_firstHad_79 rfl rfl (fr_done (by omega) hf) (Nat.zero_le _) (Nat.zero_le _)
    · skip
      refine pw_aload_n C dX5_firstHad_14 rfl ?_
      refine pw_getR C dX5_firstHad_15 fl_X5_32 hR0.k rfl hR0.r3 ?_
      refine pw_iload C dX5_firstHad_18 rfl ?_
      refine pw_aaldE C dX5_firstHad_20 hR0.a3 (by omega) (by omega) (hR0.e3 t (by omega)) ?_
      refine pw_getE C dX5_firstHad_21 fl_X5_172 rfl (hR0.ta t (by omega)).k ((hR0.ta t (by omega)).s 0 (by omega)) ?_
      have b_21 := (hA.ta t (by omega)).s0
      refine pw_iload_n C dX5_firstHad_24 rfl ?_
      refine pw_icmp_ne (tgt := 72) C dX5_firstHad_25 (by decide) (by omega) (fun c_25 => ?_) (fun c_25 => ?_)
      · skip
        refine pw_iinc C dX5_firstHad_72 rfl (Nat.le_of_ble_eq_true rfl) rfl ?_
        refine pw_goto (tgt := 5) C dX5_firstHad_75 (by decide) ?_
        exact pw_locs (by exact ⟨rfl, cat_vR _, rfl, rfl, rfl, rfl, rfl, rfl, rfl, rfl, trivial⟩) (ih_5 first (t + 1)  (by omega) (by omega) (fr_go (by omega) hf (by unfold fhF; first | exact if_pos (by omega) | exact if_neg (by omega))) (by omega))
      · skip
        refine pw_aload_n C dX5_firstHad_28 rfl ?_
        refine pw_getR C dX5_firstHad_29 fl_X5_32 hR0.k rfl hR0.r3 ?_
        refine pw_iload C dX5_firstHad_32 rfl ?_
        refine pw_aaldE C dX5_firstHad_34 hR0.a3 (by omega) (by omega) (hR0.e3 t (by omega)) ?_
        refine pw_getR C dX5_firstHad_35 fl_X5_162 (hR0.ta t (by omega)).k rfl ((hR0.ta t (by omega)).r (b := ((B + 56 + 2 * t) + 1)) 0 (by omega)) ?_
        refine pw_iload_n C dX5_firstHad_38 rfl ?_
        refine pw_ialdE C dX5_firstHad_39 ((hR0.ta t (by omega)).ai 0 (by omega)) (by omega) ((hR0.ta t (by omega)).v 0 (by omega)) ?_
        have b_39 := (hA.ta t (by omega)).v0 f (by omega) (by omega)
        refine pw_iconst C dX5_firstHad_40 ?_
        refine pw_icmp_eq (tgt := 72) C dX5_firstHad_41 (by decide) (by omega) (fun c_41 => ?_) (fun c_41 => ?_)
        · skip
          refine pw_iinc C dX5_firstHad_72 rfl (Nat.le_of_ble_eq_true rfl) rfl ?_
          refine pw_goto (tgt := 5) C dX5_firstHad_75 (by decide) ?_
          exact pw_locs (by exact ⟨rfl, cat_vR _, rfl, rfl, rfl, rfl, rfl, rfl, rfl, rfl, trivial⟩) (ih_5 first (t + 1)  (by omega) (by omega) (fr_go (by omega) hf (by unfold fhF; first | exact if_pos (by omega) | exact if_neg (by omega))) (by omega))
        · skip
          refine pw_aload_n C dX5_firstHad_44 rfl ?_
          refine pw_iload C dX5_firstHad_45 rfl ?_
          refine pw_cVE C hX dX5_firstHad_47 ml_X5_415 mc_X5_firstHadAnywhere (c_firstHadAnywhere hR0 hA (t := t) (by omega)) kc_8 hR0.k rfl rfl ⟨Nat.le_of_ble_eq_true rfl, Nat.le_of_ble_eq_true rfl⟩ (Nat.le_of_ble_eq_true rfl) ⟨Nat.le_of_ble_eq_true rfl, Nat.le_of_ble_eq_true rfl⟩ ?_
          have b_fhT := fhT_bd (t := t) hA (by omega)
          refine pw_istore C dX5_firstHad_50 (Nat.le_of_ble_eq_true rfl) rfl ?_
          refine pw_iload C dX5_firstHad_52 rfl ?_
          refine pw_iconst C dX5_firstHad_54 ?_
          refine pw_icmp_eq (tgt := 72) C dX5_firstHad_55 (by decide) (by omega) (fun c_55 => ?_) (fun c_55 => ?_)
          · skip
            refine pw_iinc C dX5_firstHad_72 rfl (Nat.le_of_ble_eq_true rfl) rfl ?_
            refine pw_goto (tgt := 5) C dX5_firstHad_75 (by decide) ?_
            exact pw_locs (by exact ⟨rfl, cat_vR _, rfl, rfl, rfl, rfl, rfl, rfl, rfl, rfl, trivial⟩) (ih_5 first (t + 1)  (by omega) (by omega) (fr_go (by omega) hf (by unfold fhF; first | exact if_pos (by omega) | exact if_neg (by omega))) (by omega))
          · skip
            refine pw_iload_n C dX5_firstHad_58 rfl ?_
            refine pw_iconst C dX5_firstHad_59 ?_
            refine pw_icmp_eq (tgt := 69) C dX5_firstHad_60 (by decide) (by omega) (fun c_60 => ?_) (fun c_60 => ?_)
            · skip
              refine pw_iload C dX5_firstHad_69 rfl ?_
              refine pw_istore_n C dX5_firstHad_71 (Nat.le_of_ble_eq_true rfl) rfl ?_
              refine pw_iinc C dX5_firstHad_72 rfl (Nat.le_of_ble_eq_true rfl) rfl ?_
              refine pw_goto (tgt := 5) C dX5_firstHad_75 (by decide) ?_
              exact pw_locs (by exact ⟨rfl, cat_vR _, rfl, rfl, rfl, rfl, rfl, rfl, rfl, rfl, trivial⟩) (ih_5 (fhT A t) (t + 1)  (by omega) (by omega) (fr_go (by omega) hf (by unfold fhF; first | exact if_pos (by omega) | exact if_neg (by omega))) (by omega))
            · skip
              refine pw_iload C dX5_firstHad_63 rfl ?_
              refine pw_iload_n C dX5_firstHad_65 rfl ?_
              refine pw_icmp_ge (tgt := 72) C dX5_firstHad_66 (by decide) (by omega) (fun c_66 => ?_) (fun c_66 => ?_)
              · skip
                refine pw_iinc C dX5_firstHad_72 rfl (Nat.le_of_ble_eq_true rfl) rfl ?_
                refine pw_goto (tgt := 5) C dX5_firstHad_75 (by decide) ?_
                exact pw_locs (by exact ⟨rfl, cat_vR _, rfl, rfl, rfl, rfl, rfl, rfl, rfl, rfl, trivial⟩) (ih_5 first (t + 1)  (by omega) (by omega) (fr_go (by omega) hf (by unfold fhF; first | exact if_pos (by omega) | exact if_neg (by omega))) (by omega))
              · skip
                refine pw_iload C dX5_firstHad_69 rfl ?_
                refine pw_istore_n C dX5_firstHad_71 (Nat.le_of_ble_eq_true rfl) rfl ?_
                refine pw_iinc C dX5_firstHad_72 rfl (Nat.le_of_ble_eq_true rfl) rfl ?_
                refine pw_goto (tgt := 5) C dX5_firstHad_75 (by decide) ?_
                exact pw_locs (by exact ⟨rfl, cat_vR _, rfl, rfl, rfl, rfl, rfl, rfl, rfl, rfl, trivial⟩) (ih_5 (fhT A t) (t + 1)  (by omega) (by omega) (fr_go (by omega) hf (by unfold fhF; first | exact if_pos (by omega) | exact if_neg (by omega))) (by omega))

set_option maxHeartbeats 4000000 in
set_option maxRecDepth 100000 in
theorem c_isFirst {X : Xv} {G M : Mm} {B : Int} {A : An} (hR0 : RC G M B A) (hA : AB A) {s f : Int} (hs9 : 0 ≤ s ∧ s < A 0 0 0) (hf9 : 0 ≤ f ∧ f < 4) : CT X yX5_isFirst prog_1_method_46_code 5 (some .boolean) 3 71 0 0 [vR B, vI s, vI f] G M (PE G M (bI (isF A s f))) := by
  refine CT.by (by decide +kernel) [1, 1, 1] ⟨cat_vR _, cat_vI _, cat_vI _, trivial⟩ (Nat.le_of_ble_eq_true rfl) (fun E hX C hR hIni => ?_)
  have hn := hA.n
  refine pw_aload_n C dX5_isFirst_0 rfl ?_
  refine pw_iload_n C dX5_isFirst_1 rfl ?_
  refine pw_iload_n C dX5_isFirst_2 rfl ?_
  refine pw_cVE C hX dX5_isFirst_3 ml_X5_213 mc_X5_firstHad (c_firstHad hR0 hA (s := s) (f := f) (by omega) (by omega)) kc_8 hR0.k rfl rfl ⟨Nat.le_of_ble_eq_true rfl, Nat.le_of_ble_eq_true rfl⟩ (Nat.le_of_ble_eq_true rfl) ⟨Nat.le_of_ble_eq_true rfl, Nat.le_of_ble_eq_true rfl⟩ ?_
  have b_fh := fh_bd (s := s) (f := f) hA
  refine pw_istore_n C dX5_isFirst_6 (Nat.le_of_ble_eq_true rfl) rfl ?_
  refine pw_aload_n C dX5_isFirst_7 rfl ?_
  refine pw_iload_n C dX5_isFirst_8 rfl ?_
  refine pw_iload_n C dX5_isFirst_9 rfl ?_
  refine pw_cVR C hX dX5_isFirst_10 ml_X5_98 mc_X5_factAt (c_factAt hR0 (s := s) (f := f) (by omega) (by omega)) kc_8 hR0.k rfl rfl ⟨Nat.le_of_ble_eq_true rfl, Nat.le_of_ble_eq_true rfl⟩ (Nat.le_of_ble_eq_true rfl) ⟨Nat.le_of_ble_eq_true rfl, Nat.le_of_ble_eq_true rfl⟩ ?_
  refine pw_getE C dX5_isFirst_13 fl_X5_120 rfl (hR0.fa (s * 4 + f) (by omega)).k ((hR0.fa (s * 4 + f) (by omega)).s 3 (by omega)) ?_
  have b_13 := (hA.fa (s * 4 + f) (by omega)).s3
  refine pw_istore C dX5_isFirst_16 (Nat.le_of_ble_eq_true rfl) rfl ?_
  refine pw_iload_n C dX5_isFirst_18 rfl ?_
  refine pw_iconst C dX5_isFirst_19 ?_
  refine pw_icmp_eq (tgt := 39) C dX5_isFirst_20 (by decide) (by omega) (fun c_20 => ?_) (fun c_20 => ?_)
  · skip
    refine pw_iconst C dX5_isFirst_39 ?_
    exact pw_zretE C hR dX5_isFirst_40 (by omega) rfl rfl (by first | exact (bI_t (by omega)).symm | exact (bI_f (by omega)).symm) (Nat.zero_le _) (Nat.zero_le _)
  · skip
    refine pw_iload C dX5_isFirst_23 rfl ?_
    refine pw_iconst C dX5_isFirst_25 ?_
    refine pw_icmp_eq (tgt := 35) C dX5_isFirst_26 (by decide) (by omega) (fun c_26 => ?_) (fun c_26 => ?_)
    · skip
      refine pw_iconst C dX5_isFirst_35 ?_
      refine pw_goto (tgt := 40) C dX5_isFirst_36 (by decide) ?_
      exact pw_zretE C hR dX5_isFirst_40 (by omega) rfl rfl (by first | exact (bI_t (by omega)).symm | exact (bI_f (by omega)).symm) (Nat.zero_le _) (Nat.zero_le _)
    · skip
      refine pw_iload_n C dX5_isFirst_29 rfl ?_
      refine pw_iload C dX5_isFirst_30 rfl ?_
      refine pw_icmp_ge (tgt := 39) C dX5_isFirst_32 (by decide) (by omega) (fun c_32 => ?_) (fun c_32 => ?_)
      · skip
        refine pw_iconst C dX5_isFirst_39 ?_
        exact pw_zretE C hR dX5_isFirst_40 (by omega) rfl rfl (by first | exact (bI_t (by omega)).symm | exact (bI_f (by omega)).symm) (Nat.zero_le _) (Nat.zero_le _)
      · skip
        refine pw_iconst C dX5_isFirst_35 ?_
        refine pw_goto (tgt := 40) C dX5_isFirst_36 (by decide) ?_
        exact pw_zretE C hR dX5_isFirst_40 (by omega) rfl rfl (by first | exact (bI_t (by omega)).symm | exact (bI_f (by omega)).symm) (Nat.zero_le _) (Nat.zero_le _)

set_option maxHeartbeats 4000000 in
set_option maxRecDepth 100000 in
theorem c_countTruths {X : Xv} {G M : Mm} {B : Int} {A : An} (hR0 : RC G M B A) (hA : AB A) : CT X yX5_countTruths prog_1_method_47_code 3 (some .int) 0 0 0 0 [vR B] G M (PE G M (cTr A)) := by
  refine CT.by (by decide +kernel) [1] ⟨cat_vR _, trivial⟩ (Nat.le_of_ble_eq_true rfl) (fun E hX C hR hIni => ?_)
  have hn := hA.n
  refine pw_iconst C dX5_countTruths_0 ?_
  refine pw_istore_n C dX5_countTruths_1 (Nat.le_of_ble_eq_true rfl) rfl ?_
  refine pw_iconst C dX5_countTruths_2 ?_
  refine pw_istore_n C dX5_countTruths_3 (Nat.le_of_ble_eq_true rfl) rfl ?_
  suffices K_4 : ∀ (nn_4 : Nat) (c i : Int) , (0 ≤ i ∧ i ≤ A 0 0 0 * 4) → (fr (fun i c => if ¬ A (100 + i) 1 0 = -1 then c + 1 else c) i (A 0 0 0 * 4) c = cTr A) → A 0 0 0 * 4 - i < (nn_4 : Int) → PW E G M 0 0 4 [(0, 1, vR B), (1, 1, vI c), (2, 1, vI i)] [] from pw_locs (by exact ⟨rfl, cat_vR _, rfl, rfl, rfl, rfl, trivial⟩) (K_4 (A 0 0 0 * 4 - 0 + 1 : Int).toNat 0 0  (by omega) (by first | exact rfl | omega) (by omega))
  intro nn_4
  induction nn_4 with
  | zero => intro c i h1 hf h_m4; exact absurd h_m4 (by omega)
  | succ nn_4 ih_4 =>
    intro c i h1 hf h_m4
    refine pw_iload_n C dX5_countTruths_4 rfl ?_
    refine pw_aload_n C dX5_countTruths_5 rfl ?_
    refine pw_getE C dX5_countTruths_6 fl_X5_70 rfl hR0.k (hR0.n 0 (by omega)) ?_
    refine pw_iconst C dX5_countTruths_9 ?_
    refine pw_imul C dX5_countTruths_10 ?_
    refine pw_icmp_ge (tgt := 36) C dX5_countTruths_11 (by decide) (by omega) (fun c_11 => ?_) (fun c_11 => ?_)
    · skip
      refine pw_iload_n C dX5_countTruths_36 rfl ?_
      exact pw_iretE C hR dX5_countTruths_37 rfl rfl (fr_done (by omega) hf) (Nat.zero_le _) (Nat.zero_le _)
    · skip
      refine pw_aload_n C dX5_countTruths_14 rfl ?_
      refine pw_getR C dX5_countTruths_15 fl_X5_25 hR0.k rfl hR0.r2 ?_
      refine pw_iload_n C dX5_countTruths_18 rfl ?_
      refine pw_aaldE C dX5_countTruths_19 hR0.a2 (by omega) (by omega) (hR0.e2 i (by omega)) ?_
      refine pw_getE C dX5_countTruths_20 fl_X5_175 rfl (hR0.fa i (by omega)).k ((hR0.fa i (by omega)).s 0 (by omega)) ?_
      have b_20 := (hA.fa i (by omega)).s0
      refine pw_iconst C dX5_countTruths_23 ?_
      refine pw_icmp_eq (tgt := 30) C dX5_countTruths_24 (by decide) (by omega) (fun c_24 => ?_) (fun c_24 => ?_)
      · skip
        refine pw_iinc C dX5_countTruths_30 rfl (Nat.le_of_ble_eq_true rfl) rfl ?_
        refine pw_goto (tgt := 4) C dX5_countTruths_33 (by decide) ?_
        exact pw_locs (by exact ⟨rfl, cat_vR _, rfl, rfl, rfl, rfl, trivial⟩) (ih_4 c (i + 1)  (by omega) (fr_go (by omega) hf (by (try dsimp only); first | exact if_pos (by omega) | exact if_neg (by omega))) (by omega))
      · skip
        refine pw_iinc C dX5_countTruths_27 rfl (Nat.le_of_ble_eq_true rfl) rfl ?_
        refine pw_iinc C dX5_countTruths_30 rfl (Nat.le_of_ble_eq_true rfl) rfl ?_
        refine pw_goto (tgt := 4) C dX5_countTruths_33 (by decide) ?_
        exact pw_locs (by exact ⟨rfl, cat_vR _, rfl, rfl, rfl, rfl, trivial⟩) (ih_4 (c + 1) (i + 1)  (by omega) (fr_go (by omega) hf (by (try dsimp only); first | exact if_pos (by omega) | exact if_neg (by omega))) (by omega))

set_option maxHeartbeats 4000000 in
set_option maxRecDepth 100000 in
theorem c_countUnproven {X : Xv} {G M : Mm} {B : Int} {A : An} (hR0 : RC G M B A) (hA : AB A) : CT X yX5_countUnproven prog_1_method_48_code 3 (some .int) 0 0 0 0 [vR B] G M (PE G M (cUn A)) := by
  refine CT.by (by decide +kernel) [1] ⟨cat_vR _, trivial⟩ (Nat.le_of_ble_eq_true rfl) (fun E hX C hR hIni => ?_)
  have hn := hA.n
  refine pw_iconst C dX5_countUnproven_0 ?_
  refine pw_istore_n C dX5_countUnproven_1 (Nat.le_of_ble_eq_true rfl) rfl ?_
  refine pw_iconst C dX5_countUnproven_2 ?_
  refine pw_istore_n C dX5_countUnproven_3 (Nat.le_of_ble_eq_true rfl) rfl ?_
  suffices K_4 : ∀ (nn_4 : Nat) (c i : Int) , (0 ≤ i ∧ i ≤ A 0 0 0 * 4) → (fr (fun i c => if A (100 + i) 1 0 = -1 ∧ ¬ A (100 + i) 1 2 = -1 then c + 1 else c) i (A 0 0 0 * 4) c = cUn A) → A 0 0 0 * 4 - i < (nn_4 : Int) → PW E G M 0 0 4 [(0, 1, vR B), (1, 1, vI c), (2, 1, vI i)] [] from pw_locs (by exact ⟨rfl, cat_vR _, rfl, rfl, rfl, rfl, trivial⟩) (K_4 (A 0 0 0 * 4 - 0 + 1 : Int).toNat 0 0  (by omega) (by first | exact rfl | omega) (by omega))
  intro nn_4
  induction nn_4 with
  | zero => intro c i h1 hf h_m4; exact absurd h_m4 (by omega)
  | succ nn_4 ih_4 =>
    intro c i h1 hf h_m4
    refine pw_iload_n C dX5_countUnproven_4 rfl ?_
    refine pw_aload_n C dX5_countUnproven_5 rfl ?_
    refine pw_getE C dX5_countUnproven_6 fl_X5_70 rfl hR0.k (hR0.n 0 (by omega)) ?_
    refine pw_iconst C dX5_countUnproven_9 ?_
    refine pw_imul C dX5_countUnproven_10 ?_
    refine pw_icmp_ge (tgt := 49) C dX5_countUnproven_11 (by decide) (by omega) (fun c_11 => ?_) (fun c_11 => ?_)
    · skip
      refine pw_iload_n C dX5_countUnproven_49 rfl ?_
      exact pw_iretE C hR dX5_countUnproven_50 rfl rfl (fr_done (by omega) hf) (Nat.zero_le _) (Nat.zero_le _)
    · skip
      refine pw_aload_n C dX5_countUnproven_14 rfl ?_
      refine pw_getR C dX5_countUnproven_15 fl_X5_25 hR0.k rfl hR0.r2 ?_
      refine pw_iload_n C dX5_countUnproven_18 rfl ?_
      refine pw_aaldE C dX5_countUnproven_19 hR0.a2 (by omega) (by omega) (hR0.e2 i (by omega)) ?_
      refine pw_getE C dX5_countUnproven_20 fl_X5_175 rfl (hR0.fa i (by omega)).k ((hR0.fa i (by omega)).s 0 (by omega)) ?_
      have b_20 := (hA.fa i (by omega)).s0
      refine pw_iconst C dX5_countUnproven_23 ?_
      refine pw_icmp_ne (tgt := 43) C dX5_countUnproven_24 (by decide) (by omega) (fun c_24 => ?_) (fun c_24 => ?_)
      · skip
        refine pw_iinc C dX5_countUnproven_43 rfl (Nat.le_of_ble_eq_true rfl) rfl ?_
        refine pw_goto (tgt := 4) C dX5_countUnproven_46 (by decide) ?_
        exact pw_locs (by exact ⟨rfl, cat_vR _, rfl, rfl, rfl, rfl, trivial⟩) (ih_4 c (i + 1)  (by omega) (fr_go (by omega) hf (by (try dsimp only); first | exact if_pos (by omega) | exact if_neg (by omega))) (by omega))
      · skip
        refine pw_aload_n C dX5_countUnproven_27 rfl ?_
        refine pw_getR C dX5_countUnproven_28 fl_X5_25 hR0.k rfl hR0.r2 ?_
        refine pw_iload_n C dX5_countUnproven_31 rfl ?_
        refine pw_aaldE C dX5_countUnproven_32 hR0.a2 (by omega) (by omega) (hR0.e2 i (by omega)) ?_
        refine pw_getE C dX5_countUnproven_33 fl_X5_204 rfl (hR0.fa i (by omega)).k ((hR0.fa i (by omega)).s 2 (by omega)) ?_
        have b_33 := (hA.fa i (by omega)).s2
        refine pw_iconst C dX5_countUnproven_36 ?_
        refine pw_icmp_eq (tgt := 43) C dX5_countUnproven_37 (by decide) (by omega) (fun c_37 => ?_) (fun c_37 => ?_)
        · skip
          refine pw_iinc C dX5_countUnproven_43 rfl (Nat.le_of_ble_eq_true rfl) rfl ?_
          refine pw_goto (tgt := 4) C dX5_countUnproven_46 (by decide) ?_
          exact pw_locs (by exact ⟨rfl, cat_vR _, rfl, rfl, rfl, rfl, trivial⟩) (ih_4 c (i + 1)  (by omega) (fr_go (by omega) hf (by (try dsimp only); first | exact if_pos (by omega) | exact if_neg (by omega))) (by omega))
        · skip
          refine pw_iinc C dX5_countUnproven_40 rfl (Nat.le_of_ble_eq_true rfl) rfl ?_
          refine pw_iinc C dX5_countUnproven_43 rfl (Nat.le_of_ble_eq_true rfl) rfl ?_
          refine pw_goto (tgt := 4) C dX5_countUnproven_46 (by decide) ?_
          exact pw_locs (by exact ⟨rfl, cat_vR _, rfl, rfl, rfl, rfl, trivial⟩) (ih_4 (c + 1) (i + 1)  (by omega) (fr_go (by omega) hf (by (try dsimp only); first | exact if_pos (by omega) | exact if_neg (by omega))) (by omega))

set_option maxHeartbeats 4000000 in
set_option maxRecDepth 100000 in
theorem c_countKilled {X : Xv} {G M : Mm} {B : Int} {A : An} (hR0 : RC G M B A) (hA : AB A) : CT X yX5_countKilled prog_1_method_53_code 3 (some .int) 0 0 0 0 [vR B] G M (PE G M (cKi A)) := by
  refine CT.by (by decide +kernel) [1] ⟨cat_vR _, trivial⟩ (Nat.le_of_ble_eq_true rfl) (fun E hX C hR hIni => ?_)
  have hn := hA.n
  refine pw_iconst C dX5_countKilled_0 ?_
  refine pw_istore_n C dX5_countKilled_1 (Nat.le_of_ble_eq_true rfl) rfl ?_
  refine pw_iconst C dX5_countKilled_2 ?_
  refine pw_istore_n C dX5_countKilled_3 (Nat.le_of_ble_eq_true rfl) rfl ?_
  suffices K_4 : ∀ (nn_4 : Nat) (c t : Int) , (0 ≤ t ∧ t ≤ A 0 0 1) → (fr (fun t c => if ¬ A (200 + t) 1 7 = -1 then c + 1 else c) t (A 0 0 1) c = cKi A) → A 0 0 1 - t < (nn_4 : Int) → PW E G M 0 0 4 [(0, 1, vR B), (1, 1, vI c), (2, 1, vI t)] [] from pw_locs (by exact ⟨rfl, cat_vR _, rfl, rfl, rfl, rfl, trivial⟩) (K_4 (A 0 0 1 - 0 + 1 : Int).toNat 0 0  (by omega) (by first | exact rfl | omega) (by omega))
  intro nn_4
  induction nn_4 with
  | zero => intro c t h1 hf h_m4; exact absurd h_m4 (by omega)
  | succ nn_4 ih_4 =>
    intro c t h1 hf h_m4
    refine pw_iload_n C dX5_countKilled_4 rfl ?_
    refine pw_aload_n C dX5_countKilled_5 rfl ?_
    refine pw_getE C dX5_countKilled_6 fl_X5_284 rfl hR0.k (hR0.n 1 (by omega)) ?_
    refine pw_icmp_ge (tgt := 34) C dX5_countKilled_9 (by decide) (by omega) (fun c_9 => ?_) (fun c_9 => ?_)
    · skip
      refine pw_iload_n C dX5_countKilled_34 rfl ?_
      exact pw_iretE C hR dX5_countKilled_35 rfl rfl (fr_done (by omega) hf) (Nat.zero_le _) (Nat.zero_le _)
    · skip
      refine pw_aload_n C dX5_countKilled_12 rfl ?_
      refine pw_getR C dX5_countKilled_13 fl_X5_32 hR0.k rfl hR0.r3 ?_
      refine pw_iload_n C dX5_countKilled_16 rfl ?_
      refine pw_aaldE C dX5_countKilled_17 hR0.a3 (by omega) (by omega) (hR0.e3 t (by omega)) ?_
      refine pw_getE C dX5_countKilled_18 fl_X5_167 rfl (hR0.ta t (by omega)).k ((hR0.ta t (by omega)).s 7 (by omega)) ?_
      have b_18 := (hA.ta t (by omega)).s7
      refine pw_iconst C dX5_countKilled_21 ?_
      refine pw_icmp_eq (tgt := 28) C dX5_countKilled_22 (by decide) (by omega) (fun c_22 => ?_) (fun c_22 => ?_)
      · skip
        refine pw_iinc C dX5_countKilled_28 rfl (Nat.le_of_ble_eq_true rfl) rfl ?_
        refine pw_goto (tgt := 4) C dX5_countKilled_31 (by decide) ?_
        exact pw_locs (by exact ⟨rfl, cat_vR _, rfl, rfl, rfl, rfl, trivial⟩) (ih_4 c (t + 1)  (by omega) (fr_go (by omega) hf (by (try dsimp only); first | exact if_pos (by omega) | exact if_neg (by omega))) (by omega))
      · skip
        refine pw_iinc C dX5_countKilled_25 rfl (Nat.le_of_ble_eq_true rfl) rfl ?_
        refine pw_iinc C dX5_countKilled_28 rfl (Nat.le_of_ble_eq_true rfl) rfl ?_
        refine pw_goto (tgt := 4) C dX5_countKilled_31 (by decide) ?_
        exact pw_locs (by exact ⟨rfl, cat_vR _, rfl, rfl, rfl, rfl, trivial⟩) (ih_4 (c + 1) (t + 1)  (by omega) (fr_go (by omega) hf (by (try dsimp only); first | exact if_pos (by omega) | exact if_neg (by omega))) (by omega))

set_option maxHeartbeats 4000000 in
set_option maxRecDepth 100000 in
theorem c_countCorrections {X : Xv} {G M : Mm} {B : Int} {A : An} (hR0 : RC G M B A) (hA : AB A) : CT X yX5_countCorrections prog_1_method_54_code 3 (some .int) 0 0 0 0 [vR B] G M (PE G M (cCo A)) := by
  refine CT.by (by decide +kernel) [1] ⟨cat_vR _, trivial⟩ (Nat.le_of_ble_eq_true rfl) (fun E hX C hR hIni => ?_)
  have hn := hA.n
  refine pw_iconst C dX5_countCorrections_0 ?_
  refine pw_istore_n C dX5_countCorrections_1 (Nat.le_of_ble_eq_true rfl) rfl ?_
  refine pw_iconst C dX5_countCorrections_2 ?_
  refine pw_istore_n C dX5_countCorrections_3 (Nat.le_of_ble_eq_true rfl) rfl ?_
  suffices K_4 : ∀ (nn_4 : Nat) (c t : Int) , (0 ≤ t ∧ t ≤ A 0 0 1) → (fr (fun t c => if A (200 + t) 1 1 = 2 then c + 1 else c) t (A 0 0 1) c = cCo A) → A 0 0 1 - t < (nn_4 : Int) → PW E G M 0 0 4 [(0, 1, vR B), (1, 1, vI c), (2, 1, vI t)] [] from pw_locs (by exact ⟨rfl, cat_vR _, rfl, rfl, rfl, rfl, trivial⟩) (K_4 (A 0 0 1 - 0 + 1 : Int).toNat 0 0  (by omega) (by first | exact rfl | omega) (by omega))
  intro nn_4
  induction nn_4 with
  | zero => intro c t h1 hf h_m4; exact absurd h_m4 (by omega)
  | succ nn_4 ih_4 =>
    intro c t h1 hf h_m4
    refine pw_iload_n C dX5_countCorrections_4 rfl ?_
    refine pw_aload_n C dX5_countCorrections_5 rfl ?_
    refine pw_getE C dX5_countCorrections_6 fl_X5_284 rfl hR0.k (hR0.n 1 (by omega)) ?_
    refine pw_icmp_ge (tgt := 34) C dX5_countCorrections_9 (by decide) (by omega) (fun c_9 => ?_) (fun c_9 => ?_)
    · skip
      refine pw_iload_n C dX5_countCorrections_34 rfl ?_
      exact pw_iretE C hR dX5_countCorrections_35 rfl rfl (fr_done (by omega) hf) (Nat.zero_le _) (Nat.zero_le _)
    · skip
      refine pw_aload_n C dX5_countCorrections_12 rfl ?_
      refine pw_getR C dX5_countCorrections_13 fl_X5_32 hR0.k rfl hR0.r3 ?_
      refine pw_iload_n C dX5_countCorrections_16 rfl ?_
      refine pw_aaldE C dX5_countCorrections_17 hR0.a3 (by omega) (by omega) (hR0.e3 t (by omega)) ?_
      refine pw_getE C dX5_countCorrections_18 fl_X5_178 rfl (hR0.ta t (by omega)).k ((hR0.ta t (by omega)).s 1 (by omega)) ?_
      have b_18 := (hA.ta t (by omega)).s1
      refine pw_iconst C dX5_countCorrections_21 ?_
      refine pw_icmp_ne (tgt := 28) C dX5_countCorrections_22 (by decide) (by omega) (fun c_22 => ?_) (fun c_22 => ?_)
      · skip
        refine pw_iinc C dX5_countCorrections_28 rfl (Nat.le_of_ble_eq_true rfl) rfl ?_
        refine pw_goto (tgt := 4) C dX5_countCorrections_31 (by decide) ?_
        exact pw_locs (by exact ⟨rfl, cat_vR _, rfl, rfl, rfl, rfl, trivial⟩) (ih_4 c (t + 1)  (by omega) (fr_go (by omega) hf (by (try dsimp only); first | exact if_pos (by omega) | exact if_neg (by omega))) (by omega))
      · skip
        refine pw_iinc C dX5_countCorrections_25 rfl (Nat.le_of_ble_eq_true rfl) rfl ?_
        refine pw_iinc C dX5_countCorrections_28 rfl (Nat.le_of_ble_eq_true rfl) rfl ?_
        refine pw_goto (tgt := 4) C dX5_countCorrections_31 (by decide) ?_
        exact pw_locs (by exact ⟨rfl, cat_vR _, rfl, rfl, rfl, rfl, trivial⟩) (ih_4 (c + 1) (t + 1)  (by omega) (fr_go (by omega) hf (by (try dsimp only); first | exact if_pos (by omega) | exact if_neg (by omega))) (by omega))

set_option maxHeartbeats 4000000 in
set_option maxRecDepth 100000 in
theorem c_countFirsts {X : Xv} {G M : Mm} {B : Int} {A : An} (hR0 : RC G M B A) (hA : AB A) : CT X yX5_countFirsts prog_1_method_49_code 4 (some .int) 4 95 0 0 [vR B] G M (PE G M (cFi A)) := by
  refine CT.by (by decide +kernel) [1] ⟨cat_vR _, trivial⟩ (Nat.le_of_ble_eq_true rfl) (fun E hX C hR hIni => ?_)
  have hn := hA.n
  refine pw_iconst C dX5_countFirsts_0 ?_
  refine pw_istore_n C dX5_countFirsts_1 (Nat.le_of_ble_eq_true rfl) rfl ?_
  refine pw_iconst C dX5_countFirsts_2 ?_
  refine pw_istore_n C dX5_countFirsts_3 (Nat.le_of_ble_eq_true rfl) rfl ?_
  suffices K_4 : ∀ (nn_4 : Nat) (c s : Int) , (0 ≤ s ∧ s ≤ A 0 0 0) → (fr (fun s c => fr (fun f c => if isF A s f then c + 1 else c) 0 4 c) s (A 0 0 0) c = cFi A) → A 0 0 0 - s < (nn_4 : Int) → PW E G M 0 0 4 [(0, 1, vR B), (1, 1, vI c), (2, 1, vI s)] [] from pw_locs (by exact ⟨rfl, cat_vR _, rfl, rfl, rfl, rfl, trivial⟩) (K_4 (A 0 0 0 - 0 + 1 : Int).toNat 0 0  (by omega) (by first | exact rfl | omega) (by omega))
  intro nn_4
  induction nn_4 with
  | zero => intro c s h1 hf h_m4; exact absurd h_m4 (by omega)
  | succ nn_4 ih_4 =>
    intro c s h1 hf h_m4
    refine pw_iload_n C dX5_countFirsts_4 rfl ?_
    refine pw_aload_n C dX5_countFirsts_5 rfl ?_
    refine pw_getE C dX5_countFirsts_6 fl_X5_70 rfl hR0.k (hR0.n 0 (by omega)) ?_
    refine pw_icmp_ge (tgt := 43) C dX5_countFirsts_9 (by decide) (by omega) (fun c_9 => ?_) (fun c_9 => ?_)
    · skip
      refine pw_iload_n C dX5_countFirsts_43 rfl ?_
      exact pw_iretE C hR dX5_countFirsts_44 rfl rfl (fr_done (by omega) hf) (Nat.zero_le _) (Nat.zero_le _)
    · skip
      refine pw_iconst C dX5_countFirsts_12 ?_
      refine pw_istore_n C dX5_countFirsts_13 (Nat.le_of_ble_eq_true rfl) rfl ?_
      suffices K_14 : ∀ (nn_14 : Nat) (c2 f : Int) , (0 ≤ f ∧ f ≤ 4) → (fr (fun f c => if isF A s f then c + 1 else c) f 4 c2 = fr (fun f c => if isF A s f then c + 1 else c) 0 4 c) → 4 - f < (nn_14 : Int) → PW E G M 0 0 14 [(0, 1, vR B), (1, 1, vI c2), (2, 1, vI s), (3, 1, vI f)] [] from pw_locs (by exact ⟨rfl, cat_vR _, rfl, rfl, rfl, rfl, rfl, rfl, trivial⟩) (K_14 (4 - 0 + 1 : Int).toNat c 0  (by omega) (by first | exact rfl | omega) (by omega))
      intro nn_14
      induction nn_14 with
      | zero => intro c2 f h2 hf2 h_m14; exact absurd h_m14 (by omega)
      | succ nn_14 ih_14 =>
        intro c2 f h2 hf2 h_m14
        refine pw_iload_n C dX5_countFirsts_14 rfl ?_
        refine pw_iconst C dX5_countFirsts_15 ?_
        refine pw_icmp_ge (tgt := 37) C dX5_countFirsts_16 (by decide) (by omega) (fun c_16 => ?_) (fun c_16 => ?_)
        · skip
          refine pw_iinc C dX5_countFirsts_37 rfl (Nat.le_of_ble_eq_true rfl) rfl ?_
          refine pw_goto (tgt := 4) C dX5_countFirsts_40 (by decide) ?_
          exact pw_locs (by exact ⟨rfl, cat_vR _, rfl, rfl, rfl, rfl, trivial⟩) (ih_4 c2 (s + 1)  (by omega) (fr_go (by omega) hf (fr_done (by omega) hf2).symm) (by omega))
        · skip
          refine pw_aload_n C dX5_countFirsts_19 rfl ?_
          refine pw_iload_n C dX5_countFirsts_20 rfl ?_
          refine pw_iload_n C dX5_countFirsts_21 rfl ?_
          refine pw_cVE C hX dX5_countFirsts_22 ml_X5_216 mc_X5_isFirst (c_isFirst hR0 hA (s := s) (f := f) (by omega) (by omega)) kc_8 hR0.k rfl rfl ⟨Nat.le_of_ble_eq_true rfl, Nat.le_of_ble_eq_true rfl⟩ (Nat.le_of_ble_eq_true rfl) ⟨Nat.le_of_ble_eq_true rfl, Nat.le_of_ble_eq_true rfl⟩ ?_
          refine pw_ifB_eq (tgt := 31) C dX5_countFirsts_25 (by decide) (fun c_25 => ?_) (fun c_25 => ?_)
          · skip
            refine pw_iinc C dX5_countFirsts_31 rfl (Nat.le_of_ble_eq_true rfl) rfl ?_
            refine pw_goto (tgt := 14) C dX5_countFirsts_34 (by decide) ?_
            exact pw_locs (by exact ⟨rfl, cat_vR _, rfl, rfl, rfl, rfl, rfl, rfl, trivial⟩) (ih_14 c2 (f + 1)  (by omega) (fr_go (by omega) hf2 (if_neg c_25)) (by omega))
          · skip
            refine pw_iinc C dX5_countFirsts_28 rfl (Nat.le_of_ble_eq_true rfl) rfl ?_
            refine pw_iinc C dX5_countFirsts_31 rfl (Nat.le_of_ble_eq_true rfl) rfl ?_
            refine pw_goto (tgt := 14) C dX5_countFirsts_34 (by decide) ?_
            exact pw_locs (by exact ⟨rfl, cat_vR _, rfl, rfl, rfl, rfl, rfl, rfl, trivial⟩) (ih_14 (c2 + 1) (f + 1)  (by omega) (fr_go (by omega) hf2 (if_pos c_25)) (by omega))

set_option maxHeartbeats 4000000 in
set_option maxRecDepth 100000 in
theorem c_isDropped {X : Xv} {G M : Mm} {B : Int} {A : An} (hR0 : RC G M B A) (hA : AB A) {l t : Int} (hl9 : 0 ≤ l ∧ l < A 0 0 2) (ht9 : 0 ≤ t ∧ t < A 0 0 1) : CT X yX5_isDropped prog_1_method_55_code 4 (some .boolean) 1 22 0 0 [vR B, vI l, vI t] G M (PE G M (bI (dr A l t))) := by
  refine CT.by (by decide +kernel) [1, 1, 1] ⟨cat_vR _, cat_vI _, cat_vI _, trivial⟩ (Nat.le_of_ble_eq_true rfl) (fun E hX C hR hIni => ?_)
  have hn := hA.n
  refine pw_aload_n C dX5_isDropped_0 rfl ?_
  refine pw_getR C dX5_isDropped_1 fl_X5_32 hR0.k rfl hR0.r3 ?_
  refine pw_iload_n C dX5_isDropped_4 rfl ?_
  refine pw_aaldE C dX5_isDropped_5 hR0.a3 (by omega) (by omega) (hR0.e3 t (by omega)) ?_
  refine pw_getE C dX5_isDropped_6 fl_X5_167 rfl (hR0.ta t (by omega)).k ((hR0.ta t (by omega)).s 7 (by omega)) ?_
  have b_6 := (hA.ta t (by omega)).s7
  refine pw_istore_n C dX5_isDropped_9 (Nat.le_of_ble_eq_true rfl) rfl ?_
  refine pw_iload_n C dX5_isDropped_10 rfl ?_
  refine pw_iconst C dX5_isDropped_11 ?_
  refine pw_icmp_eq (tgt := 36) C dX5_isDropped_12 (by decide) (by omega) (fun c_12 => ?_) (fun c_12 => ?_)
  · skip
    refine pw_iconst C dX5_isDropped_36 ?_
    exact pw_zretE C hR dX5_isDropped_37 (by omega) rfl rfl ((bI_f (fun q => q.1 c_12)).symm) (Nat.zero_le _) (Nat.zero_le _)
  · skip
    refine pw_aload_n C dX5_isDropped_15 rfl ?_
    refine pw_getR C dX5_isDropped_16 fl_X5_39 hR0.k rfl hR0.r4 ?_
    refine pw_iload_n C dX5_isDropped_19 rfl ?_
    refine pw_aaldE C dX5_isDropped_20 hR0.a4 (by omega) (by omega) (hR0.e4 l (by omega)) ?_
    refine pw_iload_n C dX5_isDropped_21 rfl ?_
    refine pw_aload_n C dX5_isDropped_22 rfl ?_
    refine pw_getE C dX5_isDropped_23 fl_X5_123 rfl hR0.k (hR0.n 3 (by omega)) ?_
    refine pw_cVE C hX dX5_isDropped_26 ml_X5_257 mc_X1_hasAtDesk (c_X1_hasAtDesk (hR0.li l (by omega)) (hA.li l (by omega)) (t := ((A (200 + t)) 1 7)) (m := (A 0 0 3)) (by omega) (by omega)) kc_4 (hR0.li l (by omega)).k rfl rfl ⟨Nat.le_of_ble_eq_true rfl, Nat.le_of_ble_eq_true rfl⟩ (Nat.le_of_ble_eq_true rfl) ⟨Nat.le_of_ble_eq_true rfl, Nat.le_of_ble_eq_true rfl⟩ ?_
    refine pw_ifB_eq (tgt := 36) C dX5_isDropped_29 (by decide) (fun c_29 => ?_) (fun c_29 => ?_)
    · skip
      refine pw_iconst C dX5_isDropped_36 ?_
      exact pw_zretE C hR dX5_isDropped_37 (by omega) rfl rfl ((bI_f (fun q => c_29 q.2)).symm) (Nat.zero_le _) (Nat.zero_le _)
    · skip
      refine pw_iconst C dX5_isDropped_32 ?_
      refine pw_goto (tgt := 37) C dX5_isDropped_33 (by decide) ?_
      exact pw_zretE C hR dX5_isDropped_37 (by omega) rfl rfl ((bI_t ⟨c_12, c_29⟩).symm) (Nat.zero_le _) (Nat.zero_le _)

set_option maxHeartbeats 4000000 in
set_option maxRecDepth 100000 in
theorem c_toldAtDesk {X : Xv} {G M : Mm} {B : Int} {A : An} (hR0 : RC G M B A) (hA : AB A) {l s f : Int} (hl9 : 0 ≤ l ∧ l < A 0 0 2) (hs9 : 0 ≤ s ∧ s < A 0 0 0) (hf9 : 0 ≤ f ∧ f < 4) : CT X yX5_toldAtDesk prog_1_method_56_code 6 (some .int) 2 45 0 0 [vR B, vI l, vI s, vI f] G M (PE G M (tld A l s f)) := by
  refine CT.by (by decide +kernel) [1, 1, 1, 1] ⟨cat_vR _, cat_vI _, cat_vI _, cat_vI _, trivial⟩ (Nat.le_of_ble_eq_true rfl) (fun E hX C hR hIni => ?_)
  have hn := hA.n
  refine pw_aload_n C dX5_toldAtDesk_0 rfl ?_
  refine pw_getE C dX5_toldAtDesk_1 fl_X5_284 rfl hR0.k (hR0.n 1 (by omega)) ?_
  refine pw_iconst C dX5_toldAtDesk_4 ?_
  refine pw_isub C dX5_toldAtDesk_5 ?_
  refine pw_istore C dX5_toldAtDesk_6 (Nat.le_of_ble_eq_true rfl) rfl ?_
  suffices K_8 : ∀ (nn_8 : Nat) (t : Int) , (-1 ≤ t ∧ t < A 0 0 1) → (fnd (fun j => tp A l s f (A 0 0 1 - 1 - j)) (A 0 0 1 - 1 - t) (A 0 0 1) = tlI A l s f) → t + 1 < (nn_8 : Int) → PW E G M 0 0 8 [(0, 1, vR B), (1, 1, vI l), (2, 1, vI s), (3, 1, vI f), (4, 1, vI t)] [] from pw_locs (by exact ⟨rfl, cat_vR _, rfl, rfl, rfl, rfl, rfl, rfl, rfl, rfl, trivial⟩) (K_8 (((A 0 0 1) - 1) + 1 + 1 : Int).toNat ((A 0 0 1) - 1)  (by omega) (by first | exact by rw [show A 0 0 1 - 1 - (A 0 0 1 - 1) = 0 by omega]; rfl | omega) (by omega))
  intro nn_8
  induction nn_8 with
  | zero => intro t h1 hf h_m8; exact absurd h_m8 (by omega)
  | succ nn_8 ih_8 =>
    intro t h1 hf h_m8
    refine pw_iload C dX5_toldAtDesk_8 rfl ?_
    refine pw_if_lt (tgt := 102) C dX5_toldAtDesk_10 (by decide) (by omega) (fun c_10 => ?_) (fun c_10 => ?_)
    · skip
      refine pw_iconst C dX5_toldAtDesk_102 ?_
      exact pw_iretE C hR dX5_toldAtDesk_103 rfl rfl (by have hg := fnd_no (by omega) hf; unfold tld; rw [if_neg (by omega)]) (Nat.zero_le _) (Nat.zero_le _)
    · skip
      refine pw_aload_n C dX5_toldAtDesk_13 rfl ?_
      refine pw_getR C dX5_toldAtDesk_14 fl_X5_32 hR0.k rfl hR0.r3 ?_
      refine pw_iload C dX5_toldAtDesk_17 rfl ?_
      refine pw_aaldE C dX5_toldAtDesk_19 hR0.a3 (by omega) (by omega) (hR0.e3 t (by omega)) ?_
      refine pw_getE C dX5_toldAtDesk_20 fl_X5_172 rfl (hR0.ta t (by omega)).k ((hR0.ta t (by omega)).s 0 (by omega)) ?_
      have b_20 := (hA.ta t (by omega)).s0
      refine pw_iload_n C dX5_toldAtDesk_23 rfl ?_
      refine pw_icmp_ne (tgt := 47) C dX5_toldAtDesk_24 (by decide) (by omega) (fun c_24 => ?_) (fun c_24 => ?_)
      · skip
        refine pw_iconst C dX5_toldAtDesk_47 ?_
        refine pw_istore C dX5_toldAtDesk_48 (Nat.le_of_ble_eq_true rfl) rfl ?_
        refine pw_iload C dX5_toldAtDesk_50 rfl ?_
        refine pw_ifL_eq (tgt := 96) C dX5_toldAtDesk_52 (by decide) rfl ?_
        refine pw_iinc C dX5_toldAtDesk_96 rfl (Nat.le_of_ble_eq_true rfl) rfl ?_
        refine pw_goto (tgt := 8) C dX5_toldAtDesk_99 (by decide) ?_
        exact pw_locs (by exact ⟨rfl, cat_vR _, rfl, rfl, rfl, rfl, rfl, rfl, rfl, rfl, trivial⟩) (ih_8 (t + (-1))  (by omega) (by have hg := fnd_go (by omega) hf (by (try dsimp only); rw [show A 0 0 1 - 1 - (A 0 0 1 - 1 - t) = t by omega]; exact (fun q => c_24 q.1.1)); rw [show A 0 0 1 - 1 - t + 1 = A 0 0 1 - 1 - (t + (-1)) by omega] at hg; exact hg) (by omega))
      · skip
        refine pw_aload_n C dX5_toldAtDesk_27 rfl ?_
        refine pw_getR C dX5_toldAtDesk_28 fl_X5_32 hR0.k rfl hR0.r3 ?_
        refine pw_iload C dX5_toldAtDesk_31 rfl ?_
        refine pw_aaldE C dX5_toldAtDesk_33 hR0.a3 (by omega) (by omega) (hR0.e3 t (by omega)) ?_
        refine pw_getR C dX5_toldAtDesk_34 fl_X5_162 (hR0.ta t (by omega)).k rfl ((hR0.ta t (by omega)).r (b := ((B + 56 + 2 * t) + 1)) 0 (by omega)) ?_
        refine pw_iload_n C dX5_toldAtDesk_37 rfl ?_
        refine pw_ialdE C dX5_toldAtDesk_38 ((hR0.ta t (by omega)).ai 0 (by omega)) (by omega) ((hR0.ta t (by omega)).v 0 (by omega)) ?_
        have b_38 := (hA.ta t (by omega)).v0 f (by omega) (by omega)
        refine pw_iconst C dX5_toldAtDesk_39 ?_
        refine pw_icmp_eq (tgt := 47) C dX5_toldAtDesk_40 (by decide) (by omega) (fun c_40 => ?_) (fun c_40 => ?_)
        · skip
          refine pw_iconst C dX5_toldAtDesk_47 ?_
          refine pw_istore C dX5_toldAtDesk_48 (Nat.le_of_ble_eq_true rfl) rfl ?_
          refine pw_iload C dX5_toldAtDesk_50 rfl ?_
          refine pw_ifL_eq (tgt := 96) C dX5_toldAtDesk_52 (by decide) rfl ?_
          refine pw_iinc C dX5_toldAtDesk_96 rfl (Nat.le_of_ble_eq_true rfl) rfl ?_
          refine pw_goto (tgt := 8) C dX5_toldAtDesk_99 (by decide) ?_
          exact pw_locs (by exact ⟨rfl, cat_vR _, rfl, rfl, rfl, rfl, rfl, rfl, rfl, rfl, trivial⟩) (ih_8 (t + (-1))  (by omega) (by have hg := fnd_go (by omega) hf (by (try dsimp only); rw [show A 0 0 1 - 1 - (A 0 0 1 - 1 - t) = t by omega]; exact (fun q => q.1.2 c_40)); rw [show A 0 0 1 - 1 - t + 1 = A 0 0 1 - 1 - (t + (-1)) by omega] at hg; exact hg) (by omega))
        · skip
          refine pw_iconst C dX5_toldAtDesk_43 ?_
          refine pw_goto (tgt := 48) C dX5_toldAtDesk_44 (by decide) ?_
          refine pw_istore C dX5_toldAtDesk_48 (Nat.le_of_ble_eq_true rfl) rfl ?_
          refine pw_iload C dX5_toldAtDesk_50 rfl ?_
          refine pw_ifL_eqn (tgt := 96) C dX5_toldAtDesk_52 (by decide) rfl ?_
          refine pw_aload_n C dX5_toldAtDesk_55 rfl ?_
          refine pw_getR C dX5_toldAtDesk_56 fl_X5_39 hR0.k rfl hR0.r4 ?_
          refine pw_iload_n C dX5_toldAtDesk_59 rfl ?_
          refine pw_aaldE C dX5_toldAtDesk_60 hR0.a4 (by omega) (by omega) (hR0.e4 l (by omega)) ?_
          refine pw_iload C dX5_toldAtDesk_61 rfl ?_
          refine pw_aload_n C dX5_toldAtDesk_63 rfl ?_
          refine pw_getE C dX5_toldAtDesk_64 fl_X5_123 rfl hR0.k (hR0.n 3 (by omega)) ?_
          refine pw_cVE C hX dX5_toldAtDesk_67 ml_X5_257 mc_X1_hasAtDesk (c_X1_hasAtDesk (hR0.li l (by omega)) (hA.li l (by omega)) (t := t) (m := (A 0 0 3)) (by omega) (by omega)) kc_4 (hR0.li l (by omega)).k rfl rfl ⟨Nat.le_of_ble_eq_true rfl, Nat.le_of_ble_eq_true rfl⟩ (Nat.le_of_ble_eq_true rfl) ⟨Nat.le_of_ble_eq_true rfl, Nat.le_of_ble_eq_true rfl⟩ ?_
          refine pw_ifB_eq (tgt := 96) C dX5_toldAtDesk_70 (by decide) (fun c_70 => ?_) (fun c_70 => ?_)
          · skip
            refine pw_iinc C dX5_toldAtDesk_96 rfl (Nat.le_of_ble_eq_true rfl) rfl ?_
            refine pw_goto (tgt := 8) C dX5_toldAtDesk_99 (by decide) ?_
            exact pw_locs (by exact ⟨rfl, cat_vR _, rfl, rfl, rfl, rfl, rfl, rfl, rfl, rfl, trivial⟩) (ih_8 (t + (-1))  (by omega) (by have hg := fnd_go (by omega) hf (by (try dsimp only); rw [show A 0 0 1 - 1 - (A 0 0 1 - 1 - t) = t by omega]; exact (fun q => c_70 q.2.1)); rw [show A 0 0 1 - 1 - t + 1 = A 0 0 1 - 1 - (t + (-1)) by omega] at hg; exact hg) (by omega))
          · skip
            refine pw_aload_n C dX5_toldAtDesk_73 rfl ?_
            refine pw_iload_n C dX5_toldAtDesk_74 rfl ?_
            refine pw_iload C dX5_toldAtDesk_75 rfl ?_
            refine pw_cVE C hX dX5_toldAtDesk_77 ml_X5_260 mc_X5_isDropped (c_isDropped hR0 hA (l := l) (t := t) (by omega) (by omega)) kc_8 hR0.k rfl rfl ⟨Nat.le_of_ble_eq_true rfl, Nat.le_of_ble_eq_true rfl⟩ (Nat.le_of_ble_eq_true rfl) ⟨Nat.le_of_ble_eq_true rfl, Nat.le_of_ble_eq_true rfl⟩ ?_
            refine pw_ifB_ne (tgt := 96) C dX5_toldAtDesk_80 (by decide) (fun c_80 => ?_) (fun c_80 => ?_)
            · skip
              refine pw_iinc C dX5_toldAtDesk_96 rfl (Nat.le_of_ble_eq_true rfl) rfl ?_
              refine pw_goto (tgt := 8) C dX5_toldAtDesk_99 (by decide) ?_
              exact pw_locs (by exact ⟨rfl, cat_vR _, rfl, rfl, rfl, rfl, rfl, rfl, rfl, rfl, trivial⟩) (ih_8 (t + (-1))  (by omega) (by have hg := fnd_go (by omega) hf (by (try dsimp only); rw [show A 0 0 1 - 1 - (A 0 0 1 - 1 - t) = t by omega]; exact (fun q => q.2.2 c_80)); rw [show A 0 0 1 - 1 - t + 1 = A 0 0 1 - 1 - (t + (-1)) by omega] at hg; exact hg) (by omega))
            · skip
              refine pw_aload_n C dX5_toldAtDesk_83 rfl ?_
              refine pw_getR C dX5_toldAtDesk_84 fl_X5_32 hR0.k rfl hR0.r3 ?_
              refine pw_iload C dX5_toldAtDesk_87 rfl ?_
              refine pw_aaldE C dX5_toldAtDesk_89 hR0.a3 (by omega) (by omega) (hR0.e3 t (by omega)) ?_
              refine pw_getR C dX5_toldAtDesk_90 fl_X5_162 (hR0.ta t (by omega)).k rfl ((hR0.ta t (by omega)).r (b := ((B + 56 + 2 * t) + 1)) 0 (by omega)) ?_
              refine pw_iload_n C dX5_toldAtDesk_93 rfl ?_
              refine pw_ialdE C dX5_toldAtDesk_94 ((hR0.ta t (by omega)).ai 0 (by omega)) (by omega) ((hR0.ta t (by omega)).v 0 (by omega)) ?_
              have b_94 := (hA.ta t (by omega)).v0 f (by omega) (by omega)
              exact pw_iretE C hR dX5_toldAtDesk_95 rfl rfl (by have hg := fnd_at (by omega) hf (by (try dsimp only); rw [show A 0 0 1 - 1 - (A 0 0 1 - 1 - t) = t by omega]; exact ⟨⟨c_24, c_40⟩, c_70, c_80⟩); unfold tld; rw [if_pos (by omega), ← hg, show A 0 0 1 - 1 - (A 0 0 1 - 1 - t) = t by omega]) (Nat.zero_le _) (Nat.zero_le _)

set_option maxHeartbeats 4000000 in
set_option maxRecDepth 100000 in
theorem c_countTold {X : Xv} {G M : Mm} {B : Int} {A : An} (hR0 : RC G M B A) (hA : AB A) {l : Int} (hl9 : 0 ≤ l ∧ l < A 0 0 2) : CT X yX5_countTold prog_1_method_57_code 5 (some .int) 3 70 0 0 [vR B, vI l] G M (PE G M (cTo A l)) := by
  refine CT.by (by decide +kernel) [1, 1] ⟨cat_vR _, cat_vI _, trivial⟩ (Nat.le_of_ble_eq_true rfl) (fun E hX C hR hIni => ?_)
  have hn := hA.n
  refine pw_iconst C dX5_countTold_0 ?_
  refine pw_istore_n C dX5_countTold_1 (Nat.le_of_ble_eq_true rfl) rfl ?_
  refine pw_iconst C dX5_countTold_2 ?_
  refine pw_istore_n C dX5_countTold_3 (Nat.le_of_ble_eq_true rfl) rfl ?_
  suffices K_4 : ∀ (nn_4 : Nat) (c s : Int) , (0 ≤ s ∧ s ≤ A 0 0 0) → (fr (fun s c => fr (fun f c => if ¬ tld A l s f = -1 then c + 1 else c) 0 4 c) s (A 0 0 0) c = cTo A l) → A 0 0 0 - s < (nn_4 : Int) → PW E G M 0 0 4 [(0, 1, vR B), (1, 1, vI l), (2, 1, vI c), (3, 1, vI s)] [] from pw_locs (by exact ⟨rfl, cat_vR _, rfl, rfl, rfl, rfl, rfl, rfl, trivial⟩) (K_4 (A 0 0 0 - 0 + 1 : Int).toNat 0 0  (by omega) (by first | exact rfl | omega) (by omega))
  intro nn_4
  induction nn_4 with
  | zero => intro c s h1 hf h_m4; exact absurd h_m4 (by omega)
  | succ nn_4 ih_4 =>
    intro c s h1 hf h_m4
    refine pw_iload_n C dX5_countTold_4 rfl ?_
    refine pw_aload_n C dX5_countTold_5 rfl ?_
    refine pw_getE C dX5_countTold_6 fl_X5_70 rfl hR0.k (hR0.n 0 (by omega)) ?_
    refine pw_icmp_ge (tgt := 48) C dX5_countTold_9 (by decide) (by omega) (fun c_9 => ?_) (fun c_9 => ?_)
    · skip
      refine pw_iload_n C dX5_countTold_48 rfl ?_
      exact pw_iretE C hR dX5_countTold_49 rfl rfl (fr_done (by omega) hf) (Nat.zero_le _) (Nat.zero_le _)
    · skip
      refine pw_iconst C dX5_countTold_12 ?_
      refine pw_istore C dX5_countTold_13 (Nat.le_of_ble_eq_true rfl) rfl ?_
      suffices K_15 : ∀ (nn_15 : Nat) (c2 f : Int) , (0 ≤ f ∧ f ≤ 4) → (fr (fun f c => if ¬ tld A l s f = -1 then c + 1 else c) f 4 c2 = fr (fun f c => if ¬ tld A l s f = -1 then c + 1 else c) 0 4 c) → 4 - f < (nn_15 : Int) → PW E G M 0 0 15 [(0, 1, vR B), (1, 1, vI l), (2, 1, vI c2), (3, 1, vI s), (4, 1, vI f)] [] from pw_locs (by exact ⟨rfl, cat_vR _, rfl, rfl, rfl, rfl, rfl, rfl, rfl, rfl, trivial⟩) (K_15 (4 - 0 + 1 : Int).toNat c 0  (by omega) (by first | exact rfl | omega) (by omega))
      intro nn_15
      induction nn_15 with
      | zero => intro c2 f h2 hf2 h_m15; exact absurd h_m15 (by omega)
      | succ nn_15 ih_15 =>
        intro c2 f h2 hf2 h_m15
        refine pw_iload C dX5_countTold_15 rfl ?_
        refine pw_iconst C dX5_countTold_17 ?_
        refine pw_icmp_ge (tgt := 42) C dX5_countTold_18 (by decide) (by omega) (fun c_18 => ?_) (fun c_18 => ?_)
        · skip
          refine pw_iinc C dX5_countTold_42 rfl (Nat.le_of_ble_eq_true rfl) rfl ?_
          refine pw_goto (tgt := 4) C dX5_countTold_45 (by decide) ?_
          exact pw_locs (by exact ⟨rfl, cat_vR _, rfl, rfl, rfl, rfl, rfl, rfl, trivial⟩) (ih_4 c2 (s + 1)  (by omega) (fr_go (by omega) hf (fr_done (by omega) hf2).symm) (by omega))
        · skip
          refine pw_aload_n C dX5_countTold_21 rfl ?_
          refine pw_iload_n C dX5_countTold_22 rfl ?_
          refine pw_iload_n C dX5_countTold_23 rfl ?_
          refine pw_iload C dX5_countTold_24 rfl ?_
          refine pw_cVE C hX dX5_countTold_26 ml_X5_263 mc_X5_toldAtDesk (c_toldAtDesk hR0 hA (l := l) (s := s) (f := f) (by omega) (by omega) (by omega)) kc_8 hR0.k rfl rfl ⟨Nat.le_of_ble_eq_true rfl, Nat.le_of_ble_eq_true rfl⟩ (Nat.le_of_ble_eq_true rfl) ⟨Nat.le_of_ble_eq_true rfl, Nat.le_of_ble_eq_true rfl⟩ ?_
          have b_tld := tld_bd (l := l) (s := s) (f := f) hA (by omega)
          refine pw_iconst C dX5_countTold_29 ?_
          refine pw_icmp_eq (tgt := 36) C dX5_countTold_30 (by decide) (by omega) (fun c_30 => ?_) (fun c_30 => ?_)
          · skip
            refine pw_iinc C dX5_countTold_36 rfl (Nat.le_of_ble_eq_true rfl) rfl ?_
            refine pw_goto (tgt := 15) C dX5_countTold_39 (by decide) ?_
            exact pw_locs (by exact ⟨rfl, cat_vR _, rfl, rfl, rfl, rfl, rfl, rfl, rfl, rfl, trivial⟩) (ih_15 c2 (f + 1)  (by omega) (fr_go (by omega) hf2 (by (try dsimp only); first | exact if_pos (by omega) | exact if_neg (by omega))) (by omega))
          · skip
            refine pw_iinc C dX5_countTold_33 rfl (Nat.le_of_ble_eq_true rfl) rfl ?_
            refine pw_iinc C dX5_countTold_36 rfl (Nat.le_of_ble_eq_true rfl) rfl ?_
            refine pw_goto (tgt := 15) C dX5_countTold_39 (by decide) ?_
            exact pw_locs (by exact ⟨rfl, cat_vR _, rfl, rfl, rfl, rfl, rfl, rfl, rfl, rfl, trivial⟩) (ih_15 (c2 + 1) (f + 1)  (by omega) (fr_go (by omega) hf2 (by (try dsimp only); first | exact if_pos (by omega) | exact if_neg (by omega))) (by omega))

set_option maxHeartbeats 4000000 in
set_option maxRecDepth 100000 in
theorem c_countWrong {X : Xv} {G M : Mm} {B : Int} {A : An} (hR0 : RC G M B A) (hA : AB A) {l : Int} (hl9 : 0 ≤ l ∧ l < A 0 0 2) : CT X yX5_countWrong prog_1_method_58_code 7 (some .int) 3 70 0 0 [vR B, vI l] G M (PE G M (cWr A l)) := by
  refine CT.by (by decide +kernel) [1, 1] ⟨cat_vR _, cat_vI _, trivial⟩ (Nat.le_of_ble_eq_true rfl) (fun E hX C hR hIni => ?_)
  have hn := hA.n
  refine pw_iconst C dX5_countWrong_0 ?_
  refine pw_istore_n C dX5_countWrong_1 (Nat.le_of_ble_eq_true rfl) rfl ?_
  refine pw_iconst C dX5_countWrong_2 ?_
  refine pw_istore_n C dX5_countWrong_3 (Nat.le_of_ble_eq_true rfl) rfl ?_
  suffices K_4 : ∀ (nn_4 : Nat) (c s : Int) , (0 ≤ s ∧ s ≤ A 0 0 0) → (fr (fun s c => fr (fun f c => if wrg A l s f then c + 1 else c) 0 4 c) s (A 0 0 0) c = cWr A l) → A 0 0 0 - s < (nn_4 : Int) → PW E G M 0 0 4 [(0, 1, vR B), (1, 1, vI l), (2, 1, vI c), (3, 1, vI s)] [] from pw_locs (by exact ⟨rfl, cat_vR _, rfl, rfl, rfl, rfl, rfl, rfl, trivial⟩) (K_4 (A 0 0 0 - 0 + 1 : Int).toNat 0 0  (by omega) (by first | exact rfl | omega) (by omega))
  intro nn_4
  induction nn_4 with
  | zero => intro c s h1 hf h_m4; exact absurd h_m4 (by omega)
  | succ nn_4 ih_4 =>
    intro c s h1 hf h_m4
    refine pw_iload_n C dX5_countWrong_4 rfl ?_
    refine pw_aload_n C dX5_countWrong_5 rfl ?_
    refine pw_getE C dX5_countWrong_6 fl_X5_70 rfl hR0.k (hR0.n 0 (by omega)) ?_
    refine pw_icmp_ge (tgt := 77) C dX5_countWrong_9 (by decide) (by omega) (fun c_9 => ?_) (fun c_9 => ?_)
    · skip
      refine pw_iload_n C dX5_countWrong_77 rfl ?_
      exact pw_iretE C hR dX5_countWrong_78 rfl rfl (fr_done (by omega) hf) (Nat.zero_le _) (Nat.zero_le _)
    · skip
      refine pw_iconst C dX5_countWrong_12 ?_
      refine pw_istore C dX5_countWrong_13 (Nat.le_of_ble_eq_true rfl) rfl ?_
      suffices K_15 : ∀ (nn_15 : Nat) (c2 f : Int) , (0 ≤ f ∧ f ≤ 4) → (fr (fun f c => if wrg A l s f then c + 1 else c) f 4 c2 = fr (fun f c => if wrg A l s f then c + 1 else c) 0 4 c) → 4 - f < (nn_15 : Int) → PW E G M 0 0 15 [(0, 1, vR B), (1, 1, vI l), (2, 1, vI c2), (3, 1, vI s), (4, 1, vI f)] [] from pw_locs (by exact ⟨rfl, cat_vR _, rfl, rfl, rfl, rfl, rfl, rfl, rfl, rfl, trivial⟩) (K_15 (4 - 0 + 1 : Int).toNat c 0  (by omega) (by first | exact rfl | omega) (by omega))
      intro nn_15
      induction nn_15 with
      | zero => intro c2 f h2 hf2 h_m15; exact absurd h_m15 (by omega)
      | succ nn_15 ih_15 =>
        intro c2 f h2 hf2 h_m15
        refine pw_iload C dX5_countWrong_15 rfl ?_
        refine pw_iconst C dX5_countWrong_17 ?_
        refine pw_icmp_ge (tgt := 71) C dX5_countWrong_18 (by decide) (by omega) (fun c_18 => ?_) (fun c_18 => ?_)
        · skip
          refine pw_iinc C dX5_countWrong_71 rfl (Nat.le_of_ble_eq_true rfl) rfl ?_
          refine pw_goto (tgt := 4) C dX5_countWrong_74 (by decide) ?_
          exact pw_locs (by exact ⟨rfl, cat_vR _, rfl, rfl, rfl, rfl, rfl, rfl, trivial⟩) (ih_4 c2 (s + 1)  (by omega) (fr_go (by omega) hf (fr_done (by omega) hf2).symm) (by omega))
        · skip
          refine pw_aload_n C dX5_countWrong_21 rfl ?_
          refine pw_iload_n C dX5_countWrong_22 rfl ?_
          refine pw_iload_n C dX5_countWrong_23 rfl ?_
          refine pw_iload C dX5_countWrong_24 rfl ?_
          refine pw_cVE C hX dX5_countWrong_26 ml_X5_263 mc_X5_toldAtDesk (c_toldAtDesk hR0 hA (l := l) (s := s) (f := f) (by omega) (by omega) (by omega)) kc_8 hR0.k rfl rfl ⟨Nat.le_of_ble_eq_true rfl, Nat.le_of_ble_eq_true rfl⟩ (Nat.le_of_ble_eq_true rfl) ⟨Nat.le_of_ble_eq_true rfl, Nat.le_of_ble_eq_true rfl⟩ ?_
          have b_tld := tld_bd (l := l) (s := s) (f := f) hA (by omega)
          refine pw_istore C dX5_countWrong_29 (Nat.le_of_ble_eq_true rfl) rfl ?_
          refine pw_aload_n C dX5_countWrong_31 rfl ?_
          refine pw_iload_n C dX5_countWrong_32 rfl ?_
          refine pw_iload C dX5_countWrong_33 rfl ?_
          refine pw_cVR C hX dX5_countWrong_35 ml_X5_98 mc_X5_factAt (c_factAt hR0 (s := s) (f := f) (by omega) (by omega)) kc_8 hR0.k rfl rfl ⟨Nat.le_of_ble_eq_true rfl, Nat.le_of_ble_eq_true rfl⟩ (Nat.le_of_ble_eq_true rfl) ⟨Nat.le_of_ble_eq_true rfl, Nat.le_of_ble_eq_true rfl⟩ ?_
          refine pw_getE C dX5_countWrong_38 fl_X5_175 rfl (hR0.fa (s * 4 + f) (by omega)).k ((hR0.fa (s * 4 + f) (by omega)).s 0 (by omega)) ?_
          have b_38 := (hA.fa (s * 4 + f) (by omega)).s0
          refine pw_istore C dX5_countWrong_41 (Nat.le_of_ble_eq_true rfl) rfl ?_
          refine pw_iload C dX5_countWrong_43 rfl ?_
          refine pw_iconst C dX5_countWrong_45 ?_
          refine pw_icmp_eq (tgt := 65) C dX5_countWrong_46 (by decide) (by omega) (fun c_46 => ?_) (fun c_46 => ?_)
          · skip
            refine pw_iinc C dX5_countWrong_65 rfl (Nat.le_of_ble_eq_true rfl) rfl ?_
            refine pw_goto (tgt := 15) C dX5_countWrong_68 (by decide) ?_
            exact pw_locs (by exact ⟨rfl, cat_vR _, rfl, rfl, rfl, rfl, rfl, rfl, rfl, rfl, trivial⟩) (ih_15 c2 (f + 1)  (by omega) (fr_go (by omega) hf2 (by (try dsimp only); first | exact if_pos (by omega) | exact if_neg (by omega))) (by omega))
          · skip
            refine pw_iload C dX5_countWrong_49 rfl ?_
            refine pw_iconst C dX5_countWrong_51 ?_
            refine pw_icmp_eq (tgt := 65) C dX5_countWrong_52 (by decide) (by omega) (fun c_52 => ?_) (fun c_52 => ?_)
            · skip
              refine pw_iinc C dX5_countWrong_65 rfl (Nat.le_of_ble_eq_true rfl) rfl ?_
              refine pw_goto (tgt := 15) C dX5_countWrong_68 (by decide) ?_
              exact pw_locs (by exact ⟨rfl, cat_vR _, rfl, rfl, rfl, rfl, rfl, rfl, rfl, rfl, trivial⟩) (ih_15 c2 (f + 1)  (by omega) (fr_go (by omega) hf2 (by (try dsimp only); first | exact if_pos (by omega) | exact if_neg (by omega))) (by omega))
            · skip
              refine pw_iload C dX5_countWrong_55 rfl ?_
              refine pw_iload C dX5_countWrong_57 rfl ?_
              refine pw_icmp_eq (tgt := 65) C dX5_countWrong_59 (by decide) (by omega) (fun c_59 => ?_) (fun c_59 => ?_)
              · skip
                refine pw_iinc C dX5_countWrong_65 rfl (Nat.le_of_ble_eq_true rfl) rfl ?_
                refine pw_goto (tgt := 15) C dX5_countWrong_68 (by decide) ?_
                exact pw_locs (by exact ⟨rfl, cat_vR _, rfl, rfl, rfl, rfl, rfl, rfl, rfl, rfl, trivial⟩) (ih_15 c2 (f + 1)  (by omega) (fr_go (by omega) hf2 (by (try dsimp only); first | exact if_pos (by omega) | exact if_neg (by omega))) (by omega))
              · skip
                refine pw_iinc C dX5_countWrong_62 rfl (Nat.le_of_ble_eq_true rfl) rfl ?_
                refine pw_iinc C dX5_countWrong_65 rfl (Nat.le_of_ble_eq_true rfl) rfl ?_
                refine pw_goto (tgt := 15) C dX5_countWrong_68 (by decide) ?_
                exact pw_locs (by exact ⟨rfl, cat_vR _, rfl, rfl, rfl, rfl, rfl, rfl, rfl, rfl, trivial⟩) (ih_15 (c2 + 1) (f + 1)  (by omega) (fr_go (by omega) hf2 (by (try dsimp only); first | exact if_pos (by omega) | exact if_neg (by omega))) (by omega))

set_option maxHeartbeats 4000000 in
set_option maxRecDepth 100000 in
theorem c_countWrongAnywhere {X : Xv} {G M : Mm} {B : Int} {A : An} (hR0 : RC G M B A) (hA : AB A) : CT X yX5_countWrongAnywhere prog_1_method_59_code 3 (some .int) 4 96 0 0 [vR B] G M (PE G M (cWA A)) := by
  refine CT.by (by decide +kernel) [1] ⟨cat_vR _, trivial⟩ (Nat.le_of_ble_eq_true rfl) (fun E hX C hR hIni => ?_)
  have hn := hA.n
  refine pw_iconst C dX5_countWrongAnywhere_0 ?_
  refine pw_istore_n C dX5_countWrongAnywhere_1 (Nat.le_of_ble_eq_true rfl) rfl ?_
  refine pw_iconst C dX5_countWrongAnywhere_2 ?_
  refine pw_istore_n C dX5_countWrongAnywhere_3 (Nat.le_of_ble_eq_true rfl) rfl ?_
  suffices K_4 : ∀ (nn_4 : Nat) (c l : Int) , (0 ≤ l ∧ l ≤ A 0 0 2) → (fr (fun l c => c + cWr A l) l (A 0 0 2) c = cWA A) → A 0 0 2 - l < (nn_4 : Int) → PW E G M 0 0 4 [(0, 1, vR B), (1, 1, vI c), (2, 1, vI l)] [] from pw_locs (by exact ⟨rfl, cat_vR _, rfl, rfl, rfl, rfl, trivial⟩) (K_4 (A 0 0 2 - 0 + 1 : Int).toNat 0 0  (by omega) (by first | exact rfl | omega) (by omega))
  intro nn_4
  induction nn_4 with
  | zero => intro c l h1 hf h_m4; exact absurd h_m4 (by omega)
  | succ nn_4 ih_4 =>
    intro c l h1 hf h_m4
    refine pw_iload_n C dX5_countWrongAnywhere_4 rfl ?_
    refine pw_aload_n C dX5_countWrongAnywhere_5 rfl ?_
    refine pw_getE C dX5_countWrongAnywhere_6 fl_X5_80 rfl hR0.k (hR0.n 2 (by omega)) ?_
    refine pw_icmp_ge (tgt := 26) C dX5_countWrongAnywhere_9 (by decide) (by omega) (fun c_9 => ?_) (fun c_9 => ?_)
    · skip
      refine pw_iload_n C dX5_countWrongAnywhere_26 rfl ?_
      exact pw_iretE C hR dX5_countWrongAnywhere_27 rfl rfl (fr_done (by omega) hf) (Nat.zero_le _) (Nat.zero_le _)
    · skip
      refine pw_iload_n C dX5_countWrongAnywhere_12 rfl ?_
      refine pw_aload_n C dX5_countWrongAnywhere_13 rfl ?_
      refine pw_iload_n C dX5_countWrongAnywhere_14 rfl ?_
      refine pw_cVE C hX dX5_countWrongAnywhere_15 ml_X5_279 mc_X5_countWrong (c_countWrong hR0 hA (l := l) (by omega)) kc_8 hR0.k rfl rfl ⟨Nat.le_of_ble_eq_true rfl, Nat.le_of_ble_eq_true rfl⟩ (Nat.le_of_ble_eq_true rfl) ⟨Nat.le_of_ble_eq_true rfl, Nat.le_of_ble_eq_true rfl⟩ ?_
      refine pw_iadd C dX5_countWrongAnywhere_18 ?_
      refine pw_istore_n C dX5_countWrongAnywhere_19 (Nat.le_of_ble_eq_true rfl) rfl ?_
      refine pw_iinc C dX5_countWrongAnywhere_20 rfl (Nat.le_of_ble_eq_true rfl) rfl ?_
      refine pw_goto (tgt := 4) C dX5_countWrongAnywhere_23 (by decide) ?_
      exact pw_locs (by exact ⟨rfl, cat_vR _, rfl, rfl, rfl, rfl, trivial⟩) (ih_4 (c + (cWr A l)) (l + 1)  (by omega) (fr_go (by omega) hf rfl) (by omega))

