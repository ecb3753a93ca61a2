set_option maxHeartbeats 4000000 in
set_option maxRecDepth 100000 in
theorem c_story {X : Xv} {G M : Mm} {B : Int} {A : An} (hR0 : RC G M B A) (hA : AB A) (hok : (A 0 0 0 < 6)) : CT X yX5_story prog_1_method_3_code 1 (some .int) 0 0 0 0 [vR B] G M (PI (fun r G1 M1 => G1 = G ∧ r = A 0 0 0 ∧ RC G M1 B (aSty A) ∧ Ot B (B + 201) M M1)) := by
  refine CT.by (by decide +kernel) [1] ⟨cat_vR _, trivial⟩ (Nat.le_of_ble_eq_true rfl) (fun E hX C hR hIni => ?_)
  have hn := hA.n
  have hnS := hA.so.c
  have hO0 : Ot B (B + 201) M M := Ot.rf
  refine pw_aload_n C dX5_story_0 rfl ?_
  refine pw_getE C dX5_story_1 fl_X5_70 rfl hR0.k (hR0.n 0 (by omega)) ?_
  refine pw_bipush C dX5_story_4 rfl ?_
  refine pw_icmp_lt (tgt := 19) C dX5_story_6 (by decide) (by omega) (fun c_6 => ?_) (fun c_6 => ?_)
  · skip
    refine pw_aload_n C dX5_story_19 rfl ?_
    refine pw_dup C dX5_story_20 (cat_vR _) ?_
    refine pw_getE C dX5_story_21 fl_X5_70 rfl hR0.k (hR0.n 0 (by omega)) ?_
    refine pw_iconst C dX5_story_24 ?_
    refine pw_iadd C dX5_story_25 ?_
    refine pw_putIG C dX5_story_26 fl_X5_70 (fun h => by cases h) rfl hR0.k (fun M2 eM2 => ?_)
    have o3 : Ot B B M M2 := by rw [eM2]; exact Ot.rf.u0 (by omega)
    have hR4 := hR0.wn 0 (by omega) eM2
    have hO5 := hO0.tr (o3.mono (by omega) (by omega))
    clear eM2
    refine pw_aload_n C dX5_story_29 rfl ?_
    refine pw_getE C dX5_story_30 fl_X5_70 rfl hR4.k ((hR4.n 0 (by omega)).trans (by rw [aup_s, lup_s])) ?_
    refine pw_iconst C dX5_story_33 ?_
    refine pw_isub C dX5_story_34 ?_
    exact pw_iret C hR dX5_story_35 (⟨_, rfl, rfl, by omega, hR4, hO5⟩) (by omega) (by omega)
  · skip
    exfalso; omega

set_option maxHeartbeats 4000000 in
set_option maxRecDepth 100000 in
theorem c_source {X : Xv} {G M : Mm} {B : Int} {A : An} (hR0 : RC G M B A) (hA : AB A) {wt of_ : Int} (r_wt : -2147483648 ≤ wt ∧ wt ≤ 2147483647) (r_of_ : -2147483648 ≤ of_ ∧ of_ ≤ 2147483647) (hok : (of_ = -1 ∨ (0 ≤ of_ ∧ of_ < A 10 2 0)) ∧ (1 ≤ wt ∧ wt ≤ 3) ∧ (A 10 2 0 < 10)) : CT X yX5_source prog_1_method_2_code 3 (some .int) 1 23 0 0 [vR B, vI wt, vI of_] G M (PI (fun r G1 M1 => G1 = G ∧ r = A 10 2 0 ∧ RC G M1 B (aSrc A wt of_) ∧ Ot B (B + 201) M M1)) := by
  refine CT.by (by decide +kernel) [1, 1, 1] ⟨cat_vR _, cat_vI _, cat_vI _, trivial⟩ (Nat.le_of_ble_eq_true rfl) (fun E hX C hR hIni => ?_)
  have hn := hA.n
  have hnS := hA.so.c
  have hO0 : Ot B (B + 201) M M := Ot.rf
  refine pw_iload_n C dX5_source_0 rfl ?_
  refine pw_iconst C dX5_source_1 ?_
  refine pw_icmp_eq (tgt := 10) C dX5_source_2 (by decide) (by omega) (fun c_2 => ?_) (fun c_2 => ?_)
  · skip
    refine pw_iload_n C dX5_source_10 rfl ?_
    refine pw_cSV C hX dX5_source_11 ml_X5_52 mc_X5_checkWeight (c_checkWeight (w := wt) (by omega) (by omega)) rfl rfl ⟨Nat.le_of_ble_eq_true rfl, Nat.le_of_ble_eq_true rfl⟩ (Nat.le_of_ble_eq_true rfl) ⟨Nat.le_of_ble_eq_true rfl, Nat.le_of_ble_eq_true rfl⟩ ?_
    refine pw_aload_n C dX5_source_14 rfl ?_
    refine pw_getR C dX5_source_15 fl_X5_10 hR0.k rfl hR0.r0 ?_
    refine pw_getE C dX5_source_18 fl_X5_55 rfl hR0.so.k (hR0.so.s 0 (by omega)) ?_
    refine pw_bipush C dX5_source_21 rfl ?_
    refine pw_icmp_lt (tgt := 36) C dX5_source_23 (by decide) (by omega) (fun c_23 => ?_) (fun c_23 => ?_)
    · skip
      refine pw_aload_n C dX5_source_36 rfl ?_
      refine pw_getR C dX5_source_37 fl_X5_10 hR0.k rfl hR0.r0 ?_
      refine pw_iload_n C dX5_source_40 rfl ?_
      refine pw_iload_n C dX5_source_41 rfl ?_
      refine pw_cVI C hX dX5_source_42 ml_X5_66 mc_X2_add (c_X2_add hR0.so hA.so (wt := wt) (of_ := of_) (by omega) (by omega)) kc_5 hR0.so.k rfl rfl ⟨Nat.le_of_ble_eq_true rfl, Nat.le_of_ble_eq_true rfl⟩ (Nat.le_of_ble_eq_true rfl) ⟨Nat.le_of_ble_eq_true rfl, Nat.le_of_ble_eq_true rfl⟩ (fun r_ G M1 hq_ => ?_)
      obtain ⟨rfl, rfl, hS2, o3⟩ := hq_
      have hR4 := hR0.uS hS2 (o3.mono (by omega) (by omega))
      have hO5 := hO0.tr (o3.mono (by omega) (by omega))
      exact pw_iret C hR dX5_source_45 (⟨_, rfl, rfl, rfl, hR4, hO5⟩) (by omega) (by omega)
    · skip
      exfalso; omega
  · skip
    refine pw_aload_n C dX5_source_5 rfl ?_
    refine pw_iload_n C dX5_source_6 rfl ?_
    refine pw_cVV C hX dX5_source_7 ml_X5_48 mc_X5_checkSource (c_checkSource hR0 hA (s := of_) (by omega) (by omega)) kc_8 hR0.k rfl rfl ⟨Nat.le_of_ble_eq_true rfl, Nat.le_of_ble_eq_true rfl⟩ (Nat.le_of_ble_eq_true rfl) ⟨Nat.le_of_ble_eq_true rfl, Nat.le_of_ble_eq_true rfl⟩ ?_
    refine pw_iload_n C dX5_source_10 rfl ?_
    refine pw_cSV C hX dX5_source_11 ml_X5_52 mc_X5_checkWeight (c_checkWeight (w := wt) (by omega) (by omega)) rfl rfl ⟨Nat.le_of_ble_eq_true rfl, Nat.le_of_ble_eq_true rfl⟩ (Nat.le_of_ble_eq_true rfl) ⟨Nat.le_of_ble_eq_true rfl, Nat.le_of_ble_eq_true rfl⟩ ?_
    refine pw_aload_n C dX5_source_14 rfl ?_
    refine pw_getR C dX5_source_15 fl_X5_10 hR0.k rfl hR0.r0 ?_
    refine pw_getE C dX5_source_18 fl_X5_55 rfl hR0.so.k (hR0.so.s 0 (by omega)) ?_
    refine pw_bipush C dX5_source_21 rfl ?_
    refine pw_icmp_lt (tgt := 36) C dX5_source_23 (by decide) (by omega) (fun c_23 => ?_) (fun c_23 => ?_)
    · skip
      refine pw_aload_n C dX5_source_36 rfl ?_
      refine pw_getR C dX5_source_37 fl_X5_10 hR0.k rfl hR0.r0 ?_
      refine pw_iload_n C dX5_source_40 rfl ?_
      refine pw_iload_n C dX5_source_41 rfl ?_
      refine pw_cVI C hX dX5_source_42 ml_X5_66 mc_X2_add (c_X2_add hR0.so hA.so (wt := wt) (of_ := of_) (by omega) (by omega)) kc_5 hR0.so.k rfl rfl ⟨Nat.le_of_ble_eq_true rfl, Nat.le_of_ble_eq_true rfl⟩ (Nat.le_of_ble_eq_true rfl) ⟨Nat.le_of_ble_eq_true rfl, Nat.le_of_ble_eq_true rfl⟩ (fun r_ G M6 hq_ => ?_)
      obtain ⟨rfl, rfl, hS7, o8⟩ := hq_
      have hR9 := hR0.uS hS7 (o8.mono (by omega) (by omega))
      have hO10 := hO0.tr (o8.mono (by omega) (by omega))
      exact pw_iret C hR dX5_source_45 (⟨_, rfl, rfl, rfl, hR9, hO10⟩) (by omega) (by omega)
    · skip
      exfalso; omega

set_option maxHeartbeats 4000000 in
set_option maxRecDepth 100000 in
theorem c_line {X : Xv} {G M : Mm} {B : Int} {A : An} (hR0 : RC G M B A) (hA : AB A) {sp lg : Int} (r_sp : -2147483648 ≤ sp ∧ sp ≤ 2147483647) (r_lg : -2147483648 ≤ lg ∧ lg ≤ 2147483647) (hok : ((1 ≤ sp ∧ sp ≤ 60) ∧ 0 ≤ lg ∧ lg ≤ 9) ∧ (A 0 0 2 < 4)) : CT X yX5_line prog_1_method_4_code 3 (some .int) 0 0 0 0 [vR B, vI sp, vI lg] G M (PI (fun r G1 M1 => G1 = G ∧ r = A 0 0 2 ∧ RC G M1 B (aLin A sp lg) ∧ Ot B (B + 201) M M1)) := by
  refine CT.by (by decide +kernel) [1, 1, 1] ⟨cat_vR _, cat_vI _, cat_vI _, trivial⟩ (Nat.le_of_ble_eq_true rfl) (fun E hX C hR hIni => ?_)
  have hn := hA.n
  have hnS := hA.so.c
  have hO0 : Ot B (B + 201) M M := Ot.rf
  refine pw_iload_n C dX5_line_0 rfl ?_
  refine pw_iconst C dX5_line_1 ?_
  refine pw_icmp_lt (tgt := 21) C dX5_line_2 (by decide) (by omega) (fun c_2 => ?_) (fun c_2 => ?_)
  · skip
    exfalso; omega
  · skip
    refine pw_iload_n C dX5_line_5 rfl ?_
    refine pw_bipush C dX5_line_6 rfl ?_
    refine pw_icmp_gt (tgt := 21) C dX5_line_8 (by decide) (by omega) (fun c_8 => ?_) (fun c_8 => ?_)
    · skip
      exfalso; omega
    · skip
      refine pw_iload_n C dX5_line_11 rfl ?_
      refine pw_if_lt (tgt := 21) C dX5_line_12 (by decide) (by omega) (fun c_12 => ?_) (fun c_12 => ?_)
      · skip
        exfalso; omega
      · skip
        refine pw_iload_n C dX5_line_15 rfl ?_
        refine pw_bipush C dX5_line_16 rfl ?_
        refine pw_icmp_le (tgt := 31) C dX5_line_18 (by decide) (by omega) (fun c_18 => ?_) (fun c_18 => ?_)
        · skip
          refine pw_aload_n C dX5_line_31 rfl ?_
          refine pw_getE C dX5_line_32 fl_X5_80 rfl hR0.k (hR0.n 2 (by omega)) ?_
          refine pw_iconst C dX5_line_35 ?_
          refine pw_icmp_lt (tgt := 49) C dX5_line_36 (by decide) (by omega) (fun c_36 => ?_) (fun c_36 => ?_)
          · skip
            refine pw_aload_n C dX5_line_49 rfl ?_
            refine pw_getR C dX5_line_50 fl_X5_39 hR0.k rfl hR0.r4 ?_
            refine pw_aload_n C dX5_line_53 rfl ?_
            refine pw_getE C dX5_line_54 fl_X5_80 rfl hR0.k (hR0.n 2 (by omega)) ?_
            refine pw_aaldE C dX5_line_57 hR0.a4 (by omega) (by omega) (hR0.e4 (A 0 0 2) (by omega)) ?_
            refine pw_iload_n C dX5_line_58 rfl ?_
            refine pw_putIG C dX5_line_59 fl_X5_85 (fun h => by cases h) rfl (hR0.li (A 0 0 2) (by omega)).k (fun M1 eM1 => ?_)
            have hX2 := (hR0.li (A 0 0 2) (by omega)).ws 0 (by omega) eM1
            have o3 : Ot (B + 177 + 5 * (A 0 0 2)) (B + 177 + 5 * (A 0 0 2)) M M1 := by rw [eM1]; exact Ot.rf.u0 (by omega)
            have hR4 := hR0.uL (A 0 0 2) (by omega) hX2 (o3.mono (by omega) (by omega))
            have hO5 := hO0.tr (o3.mono (by omega) (by omega))
            clear eM1
            refine pw_aload_n C dX5_line_62 rfl ?_
            refine pw_getR C dX5_line_63 fl_X5_39 hR4.k rfl hR4.r4 ?_
            refine pw_aload_n C dX5_line_66 rfl ?_
            refine pw_getE C dX5_line_67 fl_X5_80 rfl hR4.k ((hR4.n 2 (by omega)).trans (by rw [aup_n (by omega)])) ?_
            refine pw_aaldE C dX5_line_70 hR4.a4 (by omega) (by omega) (hR4.e4 (A 0 0 2) (by omega)) ?_
            refine pw_iload_n C dX5_line_71 rfl ?_
            refine pw_putIG C dX5_line_72 fl_X5_88 (fun h => by cases h) rfl (show OR 4 4 5 61 _ _ _ (lup (A (20 + (A 0 0 2))) 4 0 sp) by have q := (hR4.li (A 0 0 2) (by omega)); rw [aup_s] at q; exact q).k (fun M6 eM6 => ?_)
            have hX7 := (show OR 4 4 5 61 _ _ _ (lup (A (20 + (A 0 0 2))) 4 0 sp) by have q := (hR4.li (A 0 0 2) (by omega)); rw [aup_s] at q; exact q).ws 1 (by omega) eM6
            have o8 : Ot (B + 177 + 5 * (A 0 0 2)) (B + 177 + 5 * (A 0 0 2)) M1 M6 := by rw [eM6]; exact Ot.rf.u0 (by omega)
            have hR9 := hR4.uL (A 0 0 2) (by omega) hX7 (o8.mono (by omega) (by omega))
            have hO10 := hO5.tr (o8.mono (by omega) (by omega))
            clear eM6
            have hR11 : RC G M6 B (aup A (20 + (A 0 0 2)) (lup (lup (A (20 + (A 0 0 2))) 4 0 sp) 4 1 lg)) := by have q := hR9; rw [aup_2] at q; exact q
            refine pw_aload_n C dX5_line_75 rfl ?_
            refine pw_dup C dX5_line_76 (cat_vR _) ?_
            refine pw_getE C dX5_line_77 fl_X5_80 rfl hR11.k ((hR11.n 2 (by omega)).trans (by rw [aup_n (by omega)])) ?_
            refine pw_iconst C dX5_line_80 ?_
            refine pw_iadd C dX5_line_81 ?_
            refine pw_putIG C dX5_line_82 fl_X5_80 (fun h => by cases h) rfl hR11.k (fun M13 eM13 => ?_)
            have o14 : Ot B B M6 M13 := by rw [eM13]; exact Ot.rf.u0 (by omega)
            have hR15 := (show RC G M13 B (aup (aup A (20 + (A 0 0 2)) (lup (lup (A (20 + (A 0 0 2))) 4 0 sp) 4 1 lg)) 0 (lup (A 0) 0 2 ((A 0 0 2) + 1))) by have q := hR11.wn 2 (by omega) eM13; rw [show ((aup A (20 + (A 0 0 2)) (lup (lup (A (20 + (A 0 0 2))) 4 0 sp) 4 1 lg)) 0) = (A 0) from by rw [aup_n (by omega)]] at q; exact q)
            have hO16 := hO10.tr (o14.mono (by omega) (by omega))
            clear eM13
            refine pw_aload_n C dX5_line_85 rfl ?_
            refine pw_getE C dX5_line_86 fl_X5_80 rfl hR15.k ((hR15.n 2 (by omega)).trans (by rw [aup_s, lup_s])) ?_
            refine pw_iconst C dX5_line_89 ?_
            refine pw_isub C dX5_line_90 ?_
            exact pw_iret C hR dX5_line_91 (⟨_, rfl, rfl, by omega, by have q := hR15; exact q, hO16⟩) (by omega) (by omega)
          · skip
            exfalso; omega
        · skip
          exfalso; omega

set_option maxHeartbeats 4000000 in
set_option maxRecDepth 100000 in
theorem c_rival {X : Xv} {G M : Mm} {B : Int} {A : An} (hR0 : RC G M B A) (hA : AB A) {s f : Int} (r_s : -2147483648 ≤ s ∧ s ≤ 2147483647) (r_f : -2147483648 ≤ f ∧ f ≤ 2147483647) (hok : (((0 ≤ s ∧ s < A 0 0 0) ∧ 0 ≤ f ∧ f < 4))) : CT X yX5_rival prog_1_method_7_code 4 (some .boolean) 2 43 0 0 [vR B, vI s, vI f] G M (PI (fun r G1 M1 => G1 = G ∧ r = bI (A (100 + (s * 4 + f)) 1 3 = -1) ∧ RC G M1 B (if A (100 + (s * 4 + f)) 1 3 = -1 then aRiv A (s * 4 + f) else A) ∧ Ot B (B + 201) M M1)) := by
  refine CT.by (by decide +kernel) [1, 1, 1] ⟨cat_vR _, cat_vI _, cat_vI _, trivial⟩ (Nat.le_of_ble_eq_true rfl) (fun E hX C hR hIni => ?_)
  have hn := hA.n
  have hnS := hA.so.c
  have hO0 : Ot B (B + 201) M M := Ot.rf
  refine pw_aload_n C dX5_rival_0 rfl ?_
  refine pw_iload_n C dX5_rival_1 rfl ?_
  refine pw_iload_n C dX5_rival_2 rfl ?_
  refine pw_cVV C hX dX5_rival_3 ml_X5_91 mc_X5_checkFact (c_checkFact hR0 hA (s := s) (f := f) (by omega) (by omega) (by omega)) kc_8 hR0.k rfl rfl ⟨Nat.le_of_ble_eq_true rfl, Nat.le_of_ble_eq_true rfl⟩ (Nat.le_of_ble_eq_true rfl) ⟨Nat.le_of_ble_eq_true rfl, Nat.le_of_ble_eq_true rfl⟩ ?_
  refine pw_aload_n C dX5_rival_6 rfl ?_
  refine pw_iload_n C dX5_rival_7 rfl ?_
  refine pw_iload_n C dX5_rival_8 rfl ?_
  refine pw_cVR C hX dX5_rival_9 ml_X5_98 mc_X5_factAt (c_factAt hR0 (s := s) (f := f) (by omega) (by omega)) kc_8 hR0.k rfl rfl ⟨Nat.le_of_ble_eq_true rfl, Nat.le_of_ble_eq_true rfl⟩ (Nat.le_of_ble_eq_true rfl) ⟨Nat.le_of_ble_eq_true rfl, Nat.le_of_ble_eq_true rfl⟩ ?_
  refine pw_astore_n C dX5_rival_12 (Nat.le_of_ble_eq_true rfl) rfl ?_
  refine pw_aload_n C dX5_rival_13 rfl ?_
  refine pw_getE C dX5_rival_14 fl_X5_120 rfl (hR0.fa (s * 4 + f) (by omega)).k ((hR0.fa (s * 4 + f) (by omega)).s 3 (by omega)) ?_
  have b_14 := (hA.fa (s * 4 + f) (by omega)).s3
  refine pw_iconst C dX5_rival_17 ?_
  refine pw_icmp_eq (tgt := 23) C dX5_rival_18 (by decide) (by omega) (fun c_18 => ?_) (fun c_18 => ?_)
  · skip
    refine pw_aload_n C dX5_rival_23 rfl ?_
    refine pw_aload_n C dX5_rival_24 rfl ?_
    refine pw_getE C dX5_rival_25 fl_X5_123 rfl hR0.k (hR0.n 3 (by omega)) ?_
    refine pw_putIG C dX5_rival_28 fl_X5_120 (fun h => by cases h) rfl (hR0.fa (s * 4 + f) (by omega)).k (fun M1 eM1 => ?_)
    have hX2 := (hR0.fa (s * 4 + f) (by omega)).ws 3 (by omega) eM1
    have o3 : Ot (B + 7 + 2 * (s * 4 + f)) (B + 7 + 2 * (s * 4 + f)) M M1 := by rw [eM1]; exact Ot.rf.u0 (by omega)
    have hR4 := hR0.uF (s * 4 + f) (by omega) hX2 (o3.mono (by omega) (by omega))
    have hO5 := hO0.tr (o3.mono (by omega) (by omega))
    clear eM1
    refine pw_iconst C dX5_rival_31 ?_
    exact pw_zret C hR dX5_rival_32 (by omega) (⟨_, rfl, rfl, (bI_t c_18).symm, by rw [if_pos c_18]; exact hR4, hO5⟩) (by omega) (by omega)
  · skip
    refine pw_iconst C dX5_rival_21 ?_
    exact pw_zret C hR dX5_rival_22 (by omega) (⟨_, rfl, rfl, (bI_f c_18).symm, by rw [if_neg c_18]; exact hR0, hO0⟩) (by omega) (by omega)

set_option maxHeartbeats 4000000 in
set_option maxRecDepth 100000 in
theorem c_down {X : Xv} {G M : Mm} {B : Int} {A : An} (hR0 : RC G M B A) (hA : AB A) {l m : Int} (r_l : -2147483648 ≤ l ∧ l ≤ 2147483647) (r_m : -2147483648 ≤ m ∧ m ≤ 2147483647) (hok : (0 ≤ l ∧ l < A 0 0 2) ∧ (0 ≤ m ∧ m ≤ 99)) : CT X yX5_down prog_1_method_8_code 4 (some .int) 1 21 0 0 [vR B, vI l, vI m] G M (PI (fun r G1 M1 => G1 = G ∧ r = A (20 + l) 4 2 ∧ RC G M1 B (aDwn A l m) ∧ Ot B (B + 201) M M1)) := by
  refine CT.by (by decide +kernel) [1, 1, 1] ⟨cat_vR _, cat_vI _, cat_vI _, trivial⟩ (Nat.le_of_ble_eq_true rfl) (fun E hX C hR hIni => ?_)
  have hn := hA.n
  have hnS := hA.so.c
  have hO0 : Ot B (B + 201) M M := Ot.rf
  refine pw_aload_n C dX5_down_0 rfl ?_
  refine pw_iload_n C dX5_down_1 rfl ?_
  refine pw_cVV C hX dX5_down_2 ml_X5_126 mc_X5_checkLine (c_checkLine hR0 hA (l := l) (by omega) (by omega)) kc_8 hR0.k rfl rfl ⟨Nat.le_of_ble_eq_true rfl, Nat.le_of_ble_eq_true rfl⟩ (Nat.le_of_ble_eq_true rfl) ⟨Nat.le_of_ble_eq_true rfl, Nat.le_of_ble_eq_true rfl⟩ ?_
  refine pw_iload_n C dX5_down_5 rfl ?_
  refine pw_if_lt (tgt := 15) C dX5_down_6 (by decide) (by omega) (fun c_6 => ?_) (fun c_6 => ?_)
  · skip
    exfalso; omega
  · skip
    refine pw_iload_n C dX5_down_9 rfl ?_
    refine pw_bipush C dX5_down_10 rfl ?_
    refine pw_icmp_le (tgt := 25) C dX5_down_12 (by decide) (by omega) (fun c_12 => ?_) (fun c_12 => ?_)
    · skip
      refine pw_aload_n C dX5_down_25 rfl ?_
      refine pw_getR C dX5_down_26 fl_X5_39 hR0.k rfl hR0.r4 ?_
      refine pw_iload_n C dX5_down_29 rfl ?_
      refine pw_aaldE C dX5_down_30 hR0.a4 (by omega) (by omega) (hR0.e4 l (by omega)) ?_
      refine pw_getE C dX5_down_31 fl_X5_131 rfl (hR0.li l (by omega)).k ((hR0.li l (by omega)).s 2 (by omega)) ?_
      have b_31 := (hA.li l (by omega)).s2
      refine pw_istore_n C dX5_down_34 (Nat.le_of_ble_eq_true rfl) rfl ?_
      refine pw_aload_n C dX5_down_35 rfl ?_
      refine pw_getR C dX5_down_36 fl_X5_39 hR0.k rfl hR0.r4 ?_
      refine pw_iload_n C dX5_down_39 rfl ?_
      refine pw_aaldE C dX5_down_40 hR0.a4 (by omega) (by omega) (hR0.e4 l (by omega)) ?_
      refine pw_iload_n C dX5_down_41 rfl ?_
      refine pw_putIG C dX5_down_42 fl_X5_131 (fun h => by cases h) rfl (hR0.li l (by omega)).k (fun M1 eM1 => ?_)
      have hX2 := (hR0.li l (by omega)).ws 2 (by omega) eM1
      have o3 : Ot (B + 177 + 5 * l) (B + 177 + 5 * l) M M1 := by rw [eM1]; exact Ot.rf.u0 (by omega)
      have hR4 := hR0.uL l (by omega) hX2 (o3.mono (by omega) (by omega))
      have hO5 := hO0.tr (o3.mono (by omega) (by omega))
      clear eM1
      refine pw_iload_n C dX5_down_45 rfl ?_
      exact pw_iret C hR dX5_down_46 (⟨_, rfl, rfl, rfl, hR4, hO5⟩) (by omega) (by omega)
    · skip
      exfalso; omega

set_option maxHeartbeats 4000000 in
set_option maxRecDepth 100000 in
theorem c_report {X : Xv} {G M : Mm} {B : Int} {A : An} (hR0 : RC G M B A) (hA : AB A) {so s f v : Int} (r_so : -2147483648 ≤ so ∧ so ≤ 2147483647) (r_s : -2147483648 ≤ s ∧ s ≤ 2147483647) (r_f : -2147483648 ≤ f ∧ f ≤ 2147483647) (r_v : -2147483648 ≤ v ∧ v ≤ 2147483647) (hok : (((0 ≤ so ∧ so < A 10 2 0) ∧ (0 ≤ s ∧ s < A 0 0 0) ∧ 0 ≤ f ∧ f < 4)) ∧ (0 ≤ v ∧ v ≤ 99)) : CT X yX5_report prog_1_method_5_code 6 (some .int) 4 99 0 0 [vR B, vI so, vI s, vI f, vI v] G M (PI (fun r G1 M1 => G1 = G ∧ r = pG (A 10) (lup (A (100 + (s * 4 + f))) 0 so v) v ∧ RC G M1 B (aSay A so (s * 4 + f) v) ∧ Ot B (B + 201) M M1)) := by
  refine CT.by (by decide +kernel) [1, 1, 1, 1, 1] ⟨cat_vR _, cat_vI _, cat_vI _, cat_vI _, cat_vI _, trivial⟩ (Nat.le_of_ble_eq_true rfl) (fun E hX C hR hIni => ?_)
  have hn := hA.n
  have hnS := hA.so.c
  have hO0 : Ot B (B + 201) M M := Ot.rf
  refine pw_aload_n C dX5_report_0 rfl ?_
  refine pw_iload_n C dX5_report_1 rfl ?_
  refine pw_cVV C hX dX5_report_2 ml_X5_48 mc_X5_checkSource (c_checkSource hR0 hA (s := so) (by omega) (by omega)) kc_8 hR0.k rfl rfl ⟨Nat.le_of_ble_eq_true rfl, Nat.le_of_ble_eq_true rfl⟩ (Nat.le_of_ble_eq_true rfl) ⟨Nat.le_of_ble_eq_true rfl, Nat.le_of_ble_eq_true rfl⟩ ?_
  refine pw_aload_n C dX5_report_5 rfl ?_
  refine pw_iload_n C dX5_report_6 rfl ?_
  refine pw_iload_n C dX5_report_7 rfl ?_
  refine pw_cVV C hX dX5_report_8 ml_X5_91 mc_X5_checkFact (c_checkFact hR0 hA (s := s) (f := f) (by omega) (by omega) (by omega)) kc_8 hR0.k rfl rfl ⟨Nat.le_of_ble_eq_true rfl, Nat.le_of_ble_eq_true rfl⟩ (Nat.le_of_ble_eq_true rfl) ⟨Nat.le_of_ble_eq_true rfl, Nat.le_of_ble_eq_true rfl⟩ ?_
  refine pw_iload C dX5_report_11 rfl ?_
  refine pw_cSV C hX dX5_report_13 ml_X5_95 mc_X5_checkValue (c_checkValue (v := v) (by omega) (by omega)) rfl rfl ⟨Nat.le_of_ble_eq_true rfl, Nat.le_of_ble_eq_true rfl⟩ (Nat.le_of_ble_eq_true rfl) ⟨Nat.le_of_ble_eq_true rfl, Nat.le_of_ble_eq_true rfl⟩ ?_
  refine pw_aload_n C dX5_report_16 rfl ?_
  refine pw_iload_n C dX5_report_17 rfl ?_
  refine pw_iload_n C dX5_report_18 rfl ?_
  refine pw_cVR C hX dX5_report_19 ml_X5_98 mc_X5_factAt (c_factAt hR0 (s := s) (f := f) (by omega) (by omega)) kc_8 hR0.k rfl rfl ⟨Nat.le_of_ble_eq_true rfl, Nat.le_of_ble_eq_true rfl⟩ (Nat.le_of_ble_eq_true rfl) ⟨Nat.le_of_ble_eq_true rfl, Nat.le_of_ble_eq_true rfl⟩ ?_
  refine pw_astore C dX5_report_22 (Nat.le_of_ble_eq_true rfl) rfl ?_
  refine pw_aload C dX5_report_24 rfl ?_
  refine pw_getR C dX5_report_26 fl_X5_102 (hR0.fa (s * 4 + f) (by omega)).k rfl ((hR0.fa (s * 4 + f) (by omega)).r (b := ((B + 7 + 2 * (s * 4 + f)) + 1)) 0 (by omega)) ?_
  refine pw_iload_n C dX5_report_29 rfl ?_
  refine pw_iload C dX5_report_30 rfl ?_
  refine pw_iastG C dX5_report_32 ((hR0.fa (s * 4 + f) (by omega)).ai 0 (by omega)) (by omega) (fun M1 eM1 => ?_)
  have hX2 := (hR0.fa (s * 4 + f) (by omega)).wv 0 (by omega) eM1
  have o3 : Ot ((B + 7 + 2 * (s * 4 + f)) + 1) ((B + 7 + 2 * (s * 4 + f)) + 1) M M1 := by rw [eM1]; exact Ot.rf.u1 (by omega)
  have hR1 := hR0.uF (s * 4 + f) (by omega) hX2 (o3.mono (by omega) (by omega))
  have hOs := hO0.tr (o3.mono (by omega) (by omega))
  clear eM1
  have hf0 : FB0 (lup (A (100 + (s * 4 + f))) 0 so v) := fun j q1 q2 => by have q := (hA.fa (s * 4 + f) (by omega)).v0 j q1 q2; rw [lup_c]; split <;> omega
  refine pw_aload C dX5_report_33 rfl ?_
  refine pw_aload_n C dX5_report_35 rfl ?_
  refine pw_getR C dX5_report_36 fl_X5_10 hR1.k rfl hR1.r0 ?_
  refine pw_aload_n C dX5_report_39 rfl ?_
  refine pw_getR C dX5_report_40 fl_X5_19 hR1.k rfl hR1.r1 ?_
  obtain ⟨Y1, hY1⟩ := hR1.ty
  have hfb : FB (lup (A (100 + (s * 4 + f))) 0 so v) := ⟨hf0, by have q := (hA.fa (s * 4 + f) (by omega)).2; simp only [lup_n (show ¬ ((1 : Int) = 0 ∧ (0 : Int) = so) by omega), lup_n (show ¬ ((1 : Int) = 0 ∧ (1 : Int) = so) by omega), lup_n (show ¬ ((1 : Int) = 0 ∧ (2 : Int) = so) by omega), lup_n (show ¬ ((1 : Int) = 0 ∧ (3 : Int) = so) by omega)]; exact q⟩
  refine pw_cVU C hX dX5_report_43 ml_X5_106 mc_X0_settle (c_X0_settle hY1 (show OR 5 2 1 10 _ _ _ (A 10) by have q := hR1.so; rw [aup_n (by omega)] at q; exact q) hA.so hX2 hfb (by omega) (by omega) (by omega)) kc_3 hX2.k rfl rfl ⟨Nat.le_of_ble_eq_true rfl, Nat.le_of_ble_eq_true rfl⟩ (Nat.le_of_ble_eq_true rfl) ⟨Nat.le_of_ble_eq_true rfl, Nat.le_of_ble_eq_true rfl⟩ (fun G M4 hq_ => ?_)
  obtain ⟨rfl, hF2, ⟨Y2, hY2⟩, hS2, o5⟩ := hq_
  have hR2 : RC G M4 B (aSay A so (s * 4 + f) v) := by have q := hR1.uFY (s * 4 + f) (by omega) hF2 ⟨Y2, hY2⟩ (fun b h1 h2 => o5 b (by omega) (by omega)); rw [aup_2] at q; exact q
  have hOt : Ot B (B + 201) M M4 := hOs.tr (fun b hb => o5 b (by omega) (by omega))
  refine pw_aload_n C dX5_report_46 rfl ?_
  refine pw_getR C dX5_report_47 fl_X5_19 hR2.k rfl hR2.r1 ?_
  refine pw_aload_n C dX5_report_50 rfl ?_
  refine pw_getR C dX5_report_51 fl_X5_10 hR2.k rfl hR2.r0 ?_
  refine pw_aload C dX5_report_54 rfl ?_
  refine pw_getR C dX5_report_56 fl_X5_102 (hR2.fa (s * 4 + f) (by omega)).k rfl ((hR2.fa (s * 4 + f) (by omega)).r (b := ((B + 7 + 2 * (s * 4 + f)) + 1)) 0 (by omega)) ?_
  refine pw_iload C dX5_report_59 rfl ?_
  have hf2 : FB0 (setl (A 10) (lup (A (100 + (s * 4 + f))) 0 so v)) := fun j q1 q2 => by have q := hf0 j q1 q2; unfold setl; rw [lup_n (by omega), lup_n (by omega), lup_n (by omega)]; exact q
  refine pw_cVU C hX dX5_report_61 ml_X5_110 mc_X4_weigh (c_X4_weigh hY2 hS2 hA.so hF2 hf2 (v := v) (by omega) (by omega) (by omega)) kc_7 hY2.k rfl rfl ⟨Nat.le_of_ble_eq_true rfl, Nat.le_of_ble_eq_true rfl⟩ (Nat.le_of_ble_eq_true rfl) ⟨Nat.le_of_ble_eq_true rfl, Nat.le_of_ble_eq_true rfl⟩ (fun G M6 hq_ => ?_)
  obtain ⟨rfl, Y3, hY3, o7, ew0, ew1, ew2, ew3⟩ := hq_
  have bt := t_bd (F := setl (A 10) (lup (A (100 + (s * 4 + f))) 0 so v)) (v := v) hA.so
  have bt0 := ew0 ▸ bt.1
  have bt1 := ew1 ▸ bt.2.1
  have bt2 := ew2 ▸ bt.2.2.1
  have hR8 := hR2.uY hY3 (o7.mono (by omega) (by omega))
  have hO9 := hOt.tr (o7.mono (by omega) (by omega))
  refine pw_aload_n C dX5_report_64 rfl ?_
  refine pw_getR C dX5_report_65 fl_X5_19 hR8.k rfl hR8.r1 ?_
  refine pw_cVE C hX dX5_report_68 ml_X5_114 mc_X4_proofGrade (c_X4_proofGrade hY3 (by omega) (by omega) (by omega)) kc_7 hY3.k rfl rfl ⟨Nat.le_of_ble_eq_true rfl, Nat.le_of_ble_eq_true rfl⟩ (Nat.le_of_ble_eq_true rfl) ⟨Nat.le_of_ble_eq_true rfl, Nat.le_of_ble_eq_true rfl⟩ ?_
  refine pw_top (v' := vI (pG (A 10) (lup (A (100 + (s * 4 + f))) 0 so v) v)) (congrArg vI (by rw [← pG_up (F' := setl (A 10) (lup (A (100 + (s * 4 + f))) 0 so v)) (F := (lup (A (100 + (s * 4 + f))) 0 so v)) (fun t => by unfold setl; rw [lup_n (by omega), lup_n (by omega), lup_n (by omega)])]; unfold pG; rw [ew0, ew1, ew2]; rfl)) ?_
  exact pw_iret C hR dX5_report_71 (⟨_, rfl, rfl, rfl, hR8, hO9⟩) (by omega) (by omega)

set_option maxHeartbeats 4000000 in
set_option maxRecDepth 100000 in
theorem c_retract {X : Xv} {G M : Mm} {B : Int} {A : An} (hR0 : RC G M B A) (hA : AB A) {so s f : Int} (r_so : -2147483648 ≤ so ∧ so ≤ 2147483647) (r_s : -2147483648 ≤ s ∧ s ≤ 2147483647) (r_f : -2147483648 ≤ f ∧ f ≤ 2147483647) (hok : (((0 ≤ so ∧ so < A 10 2 0) ∧ (0 ≤ s ∧ s < A 0 0 0) ∧ 0 ≤ f ∧ f < 4)) ∧ (¬ A (100 + (s * 4 + f)) 0 so = -1)) : CT X yX5_retract prog_1_method_6_code 6 (some .int) 4 99 0 0 [vR B, vI so, vI s, vI f] G M (PI (fun r G1 M1 => G1 = G ∧ r = A (100 + (s * 4 + f)) 0 so ∧ RC G M1 B (aSay A so (s * 4 + f) (-1)) ∧ Ot B (B + 201) M M1)) := by
  refine CT.by (by decide +kernel) [1, 1, 1, 1] ⟨cat_vR _, cat_vI _, cat_vI _, cat_vI _, trivial⟩ (Nat.le_of_ble_eq_true rfl) (fun E hX C hR hIni => ?_)
  have hn := hA.n
  have hnS := hA.so.c
  have hO0 : Ot B (B + 201) M M := Ot.rf
  refine pw_aload_n C dX5_retract_0 rfl ?_
  refine pw_iload_n C dX5_retract_1 rfl ?_
  refine pw_cVV C hX dX5_retract_2 ml_X5_48 mc_X5_checkSource (c_checkSource hR0 hA (s := so) (by omega) (by omega)) kc_8 hR0.k rfl rfl ⟨Nat.le_of_ble_eq_true rfl, Nat.le_of_ble_eq_true rfl⟩ (Nat.le_of_ble_eq_true rfl) ⟨Nat.le_of_ble_eq_true rfl, Nat.le_of_ble_eq_true rfl⟩ ?_
  refine pw_aload_n C dX5_retract_5 rfl ?_
  refine pw_iload_n C dX5_retract_6 rfl ?_
  refine pw_iload_n C dX5_retract_7 rfl ?_
  refine pw_cVV C hX dX5_retract_8 ml_X5_91 mc_X5_checkFact (c_checkFact hR0 hA (s := s) (f := f) (by omega) (by omega) (by omega)) kc_8 hR0.k rfl rfl ⟨Nat.le_of_ble_eq_true rfl, Nat.le_of_ble_eq_true rfl⟩ (Nat.le_of_ble_eq_true rfl) ⟨Nat.le_of_ble_eq_true rfl, Nat.le_of_ble_eq_true rfl⟩ ?_
  refine pw_aload_n C dX5_retract_11 rfl ?_
  refine pw_iload_n C dX5_retract_12 rfl ?_
  refine pw_iload_n C dX5_retract_13 rfl ?_
  refine pw_cVR C hX dX5_retract_14 ml_X5_98 mc_X5_factAt (c_factAt hR0 (s := s) (f := f) (by omega) (by omega)) kc_8 hR0.k rfl rfl ⟨Nat.le_of_ble_eq_true rfl, Nat.le_of_ble_eq_true rfl⟩ (Nat.le_of_ble_eq_true rfl) ⟨Nat.le_of_ble_eq_true rfl, Nat.le_of_ble_eq_true rfl⟩ ?_
  refine pw_astore C dX5_retract_17 (Nat.le_of_ble_eq_true rfl) rfl ?_
  refine pw_aload C dX5_retract_19 rfl ?_
  refine pw_getR C dX5_retract_21 fl_X5_102 (hR0.fa (s * 4 + f) (by omega)).k rfl ((hR0.fa (s * 4 + f) (by omega)).r (b := ((B + 7 + 2 * (s * 4 + f)) + 1)) 0 (by omega)) ?_
  refine pw_iload_n C dX5_retract_24 rfl ?_
  refine pw_ialdE C dX5_retract_25 ((hR0.fa (s * 4 + f) (by omega)).ai 0 (by omega)) (by omega) ((hR0.fa (s * 4 + f) (by omega)).v 0 (by omega)) ?_
  have b_25 := (hA.fa (s * 4 + f) (by omega)).v0 so (by omega) (by omega)
  refine pw_istore C dX5_retract_26 (Nat.le_of_ble_eq_true rfl) rfl ?_
  refine pw_iload C dX5_retract_28 rfl ?_
  refine pw_iconst C dX5_retract_30 ?_
  refine pw_icmp_ne (tgt := 44) C dX5_retract_31 (by decide) (by omega) (fun c_31 => ?_) (fun c_31 => ?_)
  · skip
    refine pw_aload C dX5_retract_44 rfl ?_
    refine pw_getR C dX5_retract_46 fl_X5_102 (hR0.fa (s * 4 + f) (by omega)).k rfl ((hR0.fa (s * 4 + f) (by omega)).r (b := ((B + 7 + 2 * (s * 4 + f)) + 1)) 0 (by omega)) ?_
    refine pw_iload_n C dX5_retract_49 rfl ?_
    refine pw_iconst C dX5_retract_50 ?_
    refine pw_iastG C dX5_retract_51 ((hR0.fa (s * 4 + f) (by omega)).ai 0 (by omega)) (by omega) (fun M1 eM1 => ?_)
    have hX2 := (hR0.fa (s * 4 + f) (by omega)).wv 0 (by omega) eM1
    have o3 : Ot ((B + 7 + 2 * (s * 4 + f)) + 1) ((B + 7 + 2 * (s * 4 + f)) + 1) M M1 := by rw [eM1]; exact Ot.rf.u1 (by omega)
    have hR1 := hR0.uF (s * 4 + f) (by omega) hX2 (o3.mono (by omega) (by omega))
    have hOs := hO0.tr (o3.mono (by omega) (by omega))
    clear eM1
    have hf0 : FB0 (lup (A (100 + (s * 4 + f))) 0 so (-1)) := fun j q1 q2 => by have q := (hA.fa (s * 4 + f) (by omega)).v0 j q1 q2; rw [lup_c]; split <;> omega
    refine pw_aload C dX5_retract_52 rfl ?_
    refine pw_aload_n C dX5_retract_54 rfl ?_
    refine pw_getR C dX5_retract_55 fl_X5_10 hR1.k rfl hR1.r0 ?_
    refine pw_aload_n C dX5_retract_58 rfl ?_
    refine pw_getR C dX5_retract_59 fl_X5_19 hR1.k rfl hR1.r1 ?_
    obtain ⟨Y1, hY1⟩ := hR1.ty
    have hfb : FB (lup (A (100 + (s * 4 + f))) 0 so (-1)) := ⟨hf0, by have q := (hA.fa (s * 4 + f) (by omega)).2; simp only [lup_n (show ¬ ((1 : Int) = 0 ∧ (0 : Int) = so) by omega), lup_n (show ¬ ((1 : Int) = 0 ∧ (1 : Int) = so) by omega), lup_n (show ¬ ((1 : Int) = 0 ∧ (2 : Int) = so) by omega), lup_n (show ¬ ((1 : Int) = 0 ∧ (3 : Int) = so) by omega)]; exact q⟩
    refine pw_cVU C hX dX5_retract_62 ml_X5_106 mc_X0_settle (c_X0_settle hY1 (show OR 5 2 1 10 _ _ _ (A 10) by have q := hR1.so; rw [aup_n (by omega)] at q; exact q) hA.so hX2 hfb (by omega) (by omega) (by omega)) kc_3 hX2.k rfl rfl ⟨Nat.le_of_ble_eq_true rfl, Nat.le_of_ble_eq_true rfl⟩ (Nat.le_of_ble_eq_true rfl) ⟨Nat.le_of_ble_eq_true rfl, Nat.le_of_ble_eq_true rfl⟩ (fun G M4 hq_ => ?_)
    obtain ⟨rfl, hF2, ⟨Y2, hY2⟩, hS2, o5⟩ := hq_
    have hR2 : RC G M4 B (aSay A so (s * 4 + f) (-1)) := by have q := hR1.uFY (s * 4 + f) (by omega) hF2 ⟨Y2, hY2⟩ (fun b h1 h2 => o5 b (by omega) (by omega)); rw [aup_2] at q; exact q
    have hOt : Ot B (B + 201) M M4 := hOs.tr (fun b hb => o5 b (by omega) (by omega))
    refine pw_iload C dX5_retract_65 rfl ?_
    exact pw_iret C hR dX5_retract_67 (⟨_, rfl, rfl, rfl, hR2, hOt⟩) (by omega) (by omega)
  · skip
    exfalso; omega

