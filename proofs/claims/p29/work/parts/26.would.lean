set_option maxHeartbeats 4000000 in
set_option maxRecDepth 100000 in
theorem c_proof {X : Xv} {G M : Mm} {B : Int} {A : An} (hR0 : RC G M B A) (hA : AB A) {s f v z : Int} (r_s : -2147483648 ≤ s ∧ s ≤ 2147483647) (r_f : -2147483648 ≤ f ∧ f ≤ 2147483647) (r_v : -2147483648 ≤ v ∧ v ≤ 2147483647) (r_z : -2147483648 ≤ z ∧ z ≤ 2147483647) (hok : (((0 ≤ s ∧ s < A 0 0 0) ∧ 0 ≤ f ∧ f < 4)) ∧ (0 ≤ v ∧ v ≤ 99)) : CT X yX5_proof prog_1_method_15_code 5 (some .int) 2 48 0 0 [vR B, vI s, vI f, vI v, vI z] G M (PI (fun r G1 M1 => G1 = G ∧ r = (if z = 0 then pG (A 10) (A (100 + (s * 4 + f))) v else tF (A 10) (A (100 + (s * 4 + f))) v) ∧ RC G M1 B A ∧ Ot B (B + 201) M M1)) := by
  refine CT.by (by decide +kernel) [1, 1, 1, 1, 1] ⟨cat_vR _, cat_vI _, cat_vI _, cat_vI _, cat_vI _, trivial⟩ (Nat.le_of_ble_eq_true rfl) (fun E hX C hR hIni => ?_)
  have hn := hA.n
  have hnS := hA.so.c
  obtain ⟨Y0, hY0⟩ := hR0.ty
  have hO0 : Ot B (B + 201) M M := Ot.rf
  refine pw_aload_n C dX5_proof_0 rfl ?_
  refine pw_iload_n C dX5_proof_1 rfl ?_
  refine pw_iload_n C dX5_proof_2 rfl ?_
  refine pw_cVV C hX dX5_proof_3 ml_X5_91 mc_X5_checkFact (c_checkFact hR0 hA (s := s) (f := f) (by omega) (by omega) (by omega)) kc_8 hR0.k rfl rfl ⟨Nat.le_of_ble_eq_true rfl, Nat.le_of_ble_eq_true rfl⟩ (Nat.le_of_ble_eq_true rfl) ⟨Nat.le_of_ble_eq_true rfl, Nat.le_of_ble_eq_true rfl⟩ ?_
  refine pw_iload_n C dX5_proof_6 rfl ?_
  refine pw_cSV C hX dX5_proof_7 ml_X5_95 mc_X5_checkValue (c_checkValue (v := v) (by omega) (by omega)) rfl rfl ⟨Nat.le_of_ble_eq_true rfl, Nat.le_of_ble_eq_true rfl⟩ (Nat.le_of_ble_eq_true rfl) ⟨Nat.le_of_ble_eq_true rfl, Nat.le_of_ble_eq_true rfl⟩ ?_
  refine pw_aload_n C dX5_proof_10 rfl ?_
  refine pw_getR C dX5_proof_11 fl_X5_19 hR0.k rfl hR0.r1 ?_
  refine pw_aload_n C dX5_proof_14 rfl ?_
  refine pw_getR C dX5_proof_15 fl_X5_10 hR0.k rfl hR0.r0 ?_
  refine pw_aload_n C dX5_proof_18 rfl ?_
  refine pw_iload_n C dX5_proof_19 rfl ?_
  refine pw_iload_n C dX5_proof_20 rfl ?_
  refine pw_cVR C hX dX5_proof_21 ml_X5_98 mc_X5_factAt (c_factAt hR0 (s := s) (f := f) (by omega) (by omega)) kc_8 hR0.k rfl rfl ⟨Nat.le_of_ble_eq_true rfl, Nat.le_of_ble_eq_true rfl⟩ (Nat.le_of_ble_eq_true rfl) ⟨Nat.le_of_ble_eq_true rfl, Nat.le_of_ble_eq_true rfl⟩ ?_
  refine pw_getR C dX5_proof_24 fl_X5_102 (hR0.fa (s * 4 + f) (by omega)).k rfl ((hR0.fa (s * 4 + f) (by omega)).r (b := ((B + 7 + 2 * (s * 4 + f)) + 1)) 0 (by omega)) ?_
  refine pw_iload_n C dX5_proof_27 rfl ?_
  refine pw_cVU C hX dX5_proof_28 ml_X5_110 mc_X4_weigh (c_X4_weigh hY0 hR0.so hA.so (hR0.fa (s * 4 + f) (by omega)) (hA.fa (s * 4 + f) (by omega)).f0 (v := v) (by omega) (by omega) (by omega)) kc_7 hY0.k rfl rfl ⟨Nat.le_of_ble_eq_true rfl, Nat.le_of_ble_eq_true rfl⟩ (Nat.le_of_ble_eq_true rfl) ⟨Nat.le_of_ble_eq_true rfl, Nat.le_of_ble_eq_true rfl⟩ (fun G M1 hq_ => ?_)
  obtain ⟨rfl, Y2, hY3, o4, ew5, ew6, ew7, ew8⟩ := hq_
  have bt := t_bd (F := (A (100 + (s * 4 + f)))) (v := v) hA.so
  have hR9 := hR0.uY hY3 (o4.mono (by omega) (by omega))
  have hO10 := hO0.tr (o4.mono (by omega) (by omega))
  refine pw_iload C dX5_proof_31 rfl ?_
  refine pw_if_eq (tgt := 46) C dX5_proof_33 (by decide) (by omega) (fun c_33 => ?_) (fun c_33 => ?_)
  · skip
    refine pw_aload_n C dX5_proof_46 rfl ?_
    refine pw_getR C dX5_proof_47 fl_X5_19 hR9.k rfl hR9.r1 ?_
    refine pw_cVE C hX dX5_proof_50 ml_X5_114 mc_X4_proofGrade (c_X4_proofGrade hY3 (by omega) (by omega) (by omega)) kc_7 hY3.k rfl rfl ⟨Nat.le_of_ble_eq_true rfl, Nat.le_of_ble_eq_true rfl⟩ (Nat.le_of_ble_eq_true rfl) ⟨Nat.le_of_ble_eq_true rfl, Nat.le_of_ble_eq_true rfl⟩ ?_
    rw [show (if 0 < Y2 1 2 then (3 : Int) else if 2 ≤ Y2 1 1 then 2 else if 3 ≤ Y2 1 0 then 1 else 0) = pG (A 10) (A (100 + (s * 4 + f))) v from by unfold pG; rw [ew5, ew6, ew7]]
    exact pw_iret C hR dX5_proof_53 (⟨_, rfl, rfl, (if_pos c_33).symm, hR9, hO10⟩) (by omega) (by omega)
  · skip
    refine pw_aload_n C dX5_proof_36 rfl ?_
    refine pw_getR C dX5_proof_37 fl_X5_19 hR9.k rfl hR9.r1 ?_
    refine pw_getE C dX5_proof_40 fl_X5_222 rfl hY3.k ((hY3.s 3 (by omega)).trans ew8) ?_
    refine pw_goto (tgt := 53) C dX5_proof_43 (by decide) ?_
    exact pw_iret C hR dX5_proof_53 (⟨_, rfl, rfl, (if_neg c_33).symm, hR9, hO10⟩) (by omega) (by omega)

set_option maxHeartbeats 4000000 in
set_option maxRecDepth 100000 in
theorem c_lead {X : Xv} {G M : Mm} {B : Int} {A : An} (hR0 : RC G M B A) (hA : AB A) {s wd : Int} (r_s : -2147483648 ≤ s ∧ s ≤ 2147483647) (r_wd : -2147483648 ≤ wd ∧ wd ≤ 2147483647) (hok : (0 ≤ s ∧ s < A 0 0 0) ∧ (0 ≤ wd ∧ wd ≤ 99)) : CT X yX5_lead prog_1_method_26_code 7 (some .int) 2 46 0 0 [vR B, vI s, vI wd] G M (PE G M (lea A s wd)) := by
  refine CT.by (by decide +kernel) [1, 1, 1] ⟨cat_vR _, cat_vI _, cat_vI _, trivial⟩ (Nat.le_of_ble_eq_true rfl) (fun E hX C hR hIni => ?_)
  have hn := hA.n
  have hnS := hA.so.c
  refine pw_aload_n C dX5_lead_0 rfl ?_
  refine pw_iload_n C dX5_lead_1 rfl ?_
  refine pw_cVV C hX dX5_lead_2 ml_X5_134 mc_X5_checkStory (c_checkStory hR0 hA (s := s) (by omega) (by omega)) kc_8 hR0.k rfl rfl ⟨Nat.le_of_ble_eq_true rfl, Nat.le_of_ble_eq_true rfl⟩ (Nat.le_of_ble_eq_true rfl) ⟨Nat.le_of_ble_eq_true rfl, Nat.le_of_ble_eq_true rfl⟩ ?_
  refine pw_iload_n C dX5_lead_5 rfl ?_
  refine pw_if_lt (tgt := 15) C dX5_lead_6 (by decide) (by omega) (fun c_6 => ?_) (fun c_6 => ?_)
  · skip
    exfalso; omega
  · skip
    refine pw_iload_n C dX5_lead_9 rfl ?_
    refine pw_bipush C dX5_lead_10 rfl ?_
    refine pw_icmp_le (tgt := 26) C dX5_lead_12 (by decide) (by omega) (fun c_12 => ?_) (fun c_12 => ?_)
    · skip
      refine pw_iconst C dX5_lead_26 ?_
      refine pw_istore_n C dX5_lead_27 (Nat.le_of_ble_eq_true rfl) rfl ?_
      refine pw_iconst C dX5_lead_28 ?_
      refine pw_istore C dX5_lead_29 (Nat.le_of_ble_eq_true rfl) rfl ?_
      refine pw_iconst C dX5_lead_31 ?_
      refine pw_istore C dX5_lead_32 (Nat.le_of_ble_eq_true rfl) rfl ?_
      suffices K_34 : ∀ (nn_34 : Nat) (best bf set : Int) , (1 ≤ set ∧ set ≤ 16) → (0 ≤ bf ∧ bf ≤ 120) → (fr (leS A s wd) set 16 (best, bf) = fr (leS A s wd) 1 16 (0, 0)) → 16 - set < (nn_34 : Int) → PW E G M 0 0 34 [(0, 1, vR B), (1, 1, vI s), (2, 1, vI wd), (3, 1, vI best), (4, 1, vI bf), (5, 1, vI set)] [] from pw_locs (by exact ⟨rfl, cat_vR _, rfl, rfl, rfl, rfl, rfl, rfl, rfl, rfl, rfl, rfl, trivial⟩) (K_34 (16 - 1 + 1 : Int).toNat 0 0 1  (by omega) (by omega) (by first | exact rfl | omega) (by omega))
      intro nn_34
      induction nn_34 with
      | zero => intro best bf set h1 h3 hf h_m34; exact absurd h_m34 (by omega)
      | succ nn_34 ih_34 =>
        intro best bf set h1 h3 hf h_m34
        refine pw_iload C dX5_lead_34 rfl ?_
        refine pw_bipush C dX5_lead_36 rfl ?_
        refine pw_icmp_gt (tgt := 91) C dX5_lead_38 (by decide) (by omega) (fun c_38 => ?_) (fun c_38 => ?_)
        · skip
          refine pw_iload_n C dX5_lead_91 rfl ?_
          exact pw_iretE C hR dX5_lead_92 rfl rfl (by unfold lea; rw [← fr_done (by omega) hf]) (Nat.zero_le _) (Nat.zero_le _)
        · skip
          refine pw_aload_n C dX5_lead_41 rfl ?_
          refine pw_iload_n C dX5_lead_42 rfl ?_
          refine pw_iload C dX5_lead_43 rfl ?_
          refine pw_iconst C dX5_lead_45 ?_
          refine pw_cVE C hX dX5_lead_46 ml_X5_142 mc_X5_hasValues (c_hasValues hR0 hA (s := s) (set := set) (z := 0) (by omega) (by omega) (by omega)) kc_8 hR0.k rfl rfl ⟨Nat.le_of_ble_eq_true rfl, Nat.le_of_ble_eq_true rfl⟩ (Nat.le_of_ble_eq_true rfl) ⟨Nat.le_of_ble_eq_true rfl, Nat.le_of_ble_eq_true rfl⟩ ?_
          refine pw_ifB_eq (tgt := 85) C dX5_lead_49 (by decide) (fun c_49 => ?_) (fun c_49 => ?_)
          · skip
            refine pw_iinc C dX5_lead_85 rfl (Nat.le_of_ble_eq_true rfl) rfl ?_
            refine pw_goto (tgt := 34) C dX5_lead_88 (by decide) ?_
            exact pw_locs (by exact ⟨rfl, cat_vR _, rfl, rfl, rfl, rfl, rfl, rfl, rfl, rfl, rfl, rfl, trivial⟩) (ih_34 best bf (set + 1)  (by omega) (by omega) (fr_go (by omega) hf (by unfold leS; dsimp only; exact if_neg (fun q => c_49 q.1))) (by omega))
          · skip
            refine pw_iconst C dX5_lead_52 ?_
            refine pw_iload C dX5_lead_53 rfl ?_
            refine pw_cSE C hX dX5_lead_55 ml_X5_337 mc_X5_wordsFor (c_wordsFor (k := 3) (set := set) (by omega) (by omega)) rfl rfl ⟨Nat.le_of_ble_eq_true rfl, Nat.le_of_ble_eq_true rfl⟩ (Nat.le_of_ble_eq_true rfl) ⟨Nat.le_of_ble_eq_true rfl, Nat.le_of_ble_eq_true rfl⟩ ?_
            have bbc := bc_bd set
            have bwd : 20 ≤ wdf 3 (bc set) ∧ wdf 3 (bc set) ≤ 200 := by unfold wdf; omega
            refine pw_iload_n C dX5_lead_58 rfl ?_
            refine pw_icmp_gt (tgt := 85) C dX5_lead_59 (by decide) (by omega) (fun c_59 => ?_) (fun c_59 => ?_)
            · skip
              refine pw_iinc C dX5_lead_85 rfl (Nat.le_of_ble_eq_true rfl) rfl ?_
              refine pw_goto (tgt := 34) C dX5_lead_88 (by decide) ?_
              exact pw_locs (by exact ⟨rfl, cat_vR _, rfl, rfl, rfl, rfl, rfl, rfl, rfl, rfl, rfl, rfl, trivial⟩) (ih_34 best bf (set + 1)  (by omega) (by omega) (fr_go (by omega) hf (by unfold leS; dsimp only; exact if_neg (fun q => by have := q.2.1; omega))) (by omega))
            · skip
              refine pw_aload_n C dX5_lead_62 rfl ?_
              refine pw_iload_n C dX5_lead_63 rfl ?_
              refine pw_iload C dX5_lead_64 rfl ?_
              refine pw_cVE C hX dX5_lead_66 ml_X5_340 mc_X5_forceOf (c_forceOf hR0 hA (s := s) (set := set) (by omega) (by omega)) kc_8 hR0.k rfl rfl ⟨Nat.le_of_ble_eq_true rfl, Nat.le_of_ble_eq_true rfl⟩ (Nat.le_of_ble_eq_true rfl) ⟨Nat.le_of_ble_eq_true rfl, Nat.le_of_ble_eq_true rfl⟩ ?_
              have bfo := fo_bd (s := s) (set := set) hA (by omega)
              refine pw_istore C dX5_lead_69 (Nat.le_of_ble_eq_true rfl) rfl ?_
              refine pw_iload C dX5_lead_71 rfl ?_
              refine pw_iload C dX5_lead_73 rfl ?_
              refine pw_icmp_le (tgt := 85) C dX5_lead_75 (by decide) (by omega) (fun c_75 => ?_) (fun c_75 => ?_)
              · skip
                refine pw_iinc C dX5_lead_85 rfl (Nat.le_of_ble_eq_true rfl) rfl ?_
                refine pw_goto (tgt := 34) C dX5_lead_88 (by decide) ?_
                exact pw_locs (by exact ⟨rfl, cat_vR _, rfl, rfl, rfl, rfl, rfl, rfl, rfl, rfl, rfl, rfl, trivial⟩) (ih_34 best bf (set + 1)  (by omega) (by omega) (fr_go (by omega) hf (by unfold leS; dsimp only; exact if_neg (fun q => by have := q.2.2; omega))) (by omega))
              · skip
                refine pw_iload C dX5_lead_78 rfl ?_
                refine pw_istore_n C dX5_lead_80 (Nat.le_of_ble_eq_true rfl) rfl ?_
                refine pw_iload C dX5_lead_81 rfl ?_
                refine pw_istore C dX5_lead_83 (Nat.le_of_ble_eq_true rfl) rfl ?_
                refine pw_iinc C dX5_lead_85 rfl (Nat.le_of_ble_eq_true rfl) rfl ?_
                refine pw_goto (tgt := 34) C dX5_lead_88 (by decide) ?_
                exact pw_locs (by exact ⟨rfl, cat_vR _, rfl, rfl, rfl, rfl, rfl, rfl, rfl, rfl, rfl, rfl, trivial⟩) (ih_34 set (fo A s set) (set + 1)  (by omega) (by omega) (fr_go (by omega) hf (by unfold leS; dsimp only; exact if_pos ⟨c_49, by omega, by omega⟩)) (by omega))
    · skip
      exfalso; omega

set_option maxHeartbeats 4000000 in
set_option maxRecDepth 100000 in
theorem c_needs {X : Xv} {G M : Mm} {B : Int} {A : An} (hR0 : RC G M B A) (hA : AB A) {s f v w : Int} (r_s : -2147483648 ≤ s ∧ s ≤ 2147483647) (r_f : -2147483648 ≤ f ∧ f ≤ 2147483647) (r_v : -2147483648 ≤ v ∧ v ≤ 2147483647) (r_w : -2147483648 ≤ w ∧ w ≤ 2147483647) (hok : (((0 ≤ s ∧ s < A 0 0 0) ∧ 0 ≤ f ∧ f < 4)) ∧ ((0 ≤ v ∧ v ≤ 99) ∧ 1 ≤ w ∧ w ≤ 3)) : CT X yX5_needs prog_1_method_25_code 10 (some .int) 3 77 0 0 [vR B, vI s, vI f, vI v, vI w] G M (PI (fun r G1 M1 => G1 = G ∧ r = nee (A 10) (A (100 + (s * 4 + f))) v w ∧ RC G M1 B A ∧ Ot B (B + 201) M M1)) := by
  refine CT.by (by decide +kernel) [1, 1, 1, 1, 1] ⟨cat_vR _, cat_vI _, cat_vI _, cat_vI _, cat_vI _, trivial⟩ (Nat.le_of_ble_eq_true rfl) (fun E hX C hR hIni => ?_)
  have hn := hA.n
  have hnS := hA.so.c
  obtain ⟨Y0, hY0⟩ := hR0.ty
  have hO0 : Ot B (B + 201) M M := Ot.rf
  refine pw_aload_n C dX5_needs_0 rfl ?_
  refine pw_iload_n C dX5_needs_1 rfl ?_
  refine pw_iload_n C dX5_needs_2 rfl ?_
  refine pw_cVV C hX dX5_needs_3 ml_X5_91 mc_X5_checkFact (c_checkFact hR0 hA (s := s) (f := f) (by omega) (by omega) (by omega)) kc_8 hR0.k rfl rfl ⟨Nat.le_of_ble_eq_true rfl, Nat.le_of_ble_eq_true rfl⟩ (Nat.le_of_ble_eq_true rfl) ⟨Nat.le_of_ble_eq_true rfl, Nat.le_of_ble_eq_true rfl⟩ ?_
  refine pw_iload_n C dX5_needs_6 rfl ?_
  refine pw_cSV C hX dX5_needs_7 ml_X5_95 mc_X5_checkValue (c_checkValue (v := v) (by omega) (by omega)) rfl rfl ⟨Nat.le_of_ble_eq_true rfl, Nat.le_of_ble_eq_true rfl⟩ (Nat.le_of_ble_eq_true rfl) ⟨Nat.le_of_ble_eq_true rfl, Nat.le_of_ble_eq_true rfl⟩ ?_
  refine pw_iload C dX5_needs_10 rfl ?_
  refine pw_cSV C hX dX5_needs_12 ml_X5_52 mc_X5_checkWeight (c_checkWeight (w := w) (by omega) (by omega)) rfl rfl ⟨Nat.le_of_ble_eq_true rfl, Nat.le_of_ble_eq_true rfl⟩ (Nat.le_of_ble_eq_true rfl) ⟨Nat.le_of_ble_eq_true rfl, Nat.le_of_ble_eq_true rfl⟩ ?_
  refine pw_aload_n C dX5_needs_15 rfl ?_
  refine pw_iload_n C dX5_needs_16 rfl ?_
  refine pw_iload_n C dX5_needs_17 rfl ?_
  refine pw_cVR C hX dX5_needs_18 ml_X5_98 mc_X5_factAt (c_factAt hR0 (s := s) (f := f) (by omega) (by omega)) kc_8 hR0.k rfl rfl ⟨Nat.le_of_ble_eq_true rfl, Nat.le_of_ble_eq_true rfl⟩ (Nat.le_of_ble_eq_true rfl) ⟨Nat.le_of_ble_eq_true rfl, Nat.le_of_ble_eq_true rfl⟩ ?_
  refine pw_astore C dX5_needs_21 (Nat.le_of_ble_eq_true rfl) rfl ?_
  refine pw_aload C dX5_needs_23 rfl ?_
  refine pw_aload_n C dX5_needs_25 rfl ?_
  refine pw_getR C dX5_needs_26 fl_X5_10 hR0.k rfl hR0.r0 ?_
  refine pw_aload_n C dX5_needs_29 rfl ?_
  refine pw_getR C dX5_needs_30 fl_X5_19 hR0.k rfl hR0.r1 ?_
  refine pw_iconst C dX5_needs_33 ?_
  refine pw_iload_n C dX5_needs_34 rfl ?_
  refine pw_cVI C hX dX5_needs_35 ml_X5_328 mc_X0_strongest (c_X0_strongest hY0 hR0.so hA.so (hR0.fa (s * 4 + f) (by omega)) (hA.fa (s * 4 + f) (by omega)).f0 (z := 1) (lo := v) (by omega) (by omega) (by omega) (by omega) (by omega)) kc_3 (hR0.fa (s * 4 + f) (by omega)).k rfl rfl ⟨Nat.le_of_ble_eq_true rfl, Nat.le_of_ble_eq_true rfl⟩ (Nat.le_of_ble_eq_true rfl) ⟨Nat.le_of_ble_eq_true rfl, Nat.le_of_ble_eq_true rfl⟩ (fun r_ G M1 hq_ => ?_)
  obtain ⟨rfl, rfl, ⟨Y2, hY3⟩, o4⟩ := hq_
  have bst := st_bd0 (F := (A (100 + (s * 4 + f)))) (z := 1) (lo := v) hA.so (hA.fa (s * 4 + f) (by omega)).f0
  have hR5 := hR0.uY hY3 (o4.mono (by omega) (by omega))
  have hO6 := hO0.tr (o4.mono (by omega) (by omega))
  refine pw_istore C dX5_needs_38 (Nat.le_of_ble_eq_true rfl) rfl ?_
  refine pw_iconst C dX5_needs_40 ?_
  refine pw_istore C dX5_needs_41 (Nat.le_of_ble_eq_true rfl) rfl ?_
  refine pw_iload C dX5_needs_43 rfl ?_
  refine pw_iconst C dX5_needs_45 ?_
  refine pw_icmp_eq (tgt := 76) C dX5_needs_46 (by decide) (by omega) (fun c_46 => ?_) (fun c_46 => ?_)
  · skip
    refine pw_aload_n C dX5_needs_76 rfl ?_
    refine pw_getR C dX5_needs_77 fl_X5_19 hR5.k rfl hR5.r1 ?_
    refine pw_aload_n C dX5_needs_80 rfl ?_
    refine pw_getR C dX5_needs_81 fl_X5_10 hR5.k rfl hR5.r0 ?_
    refine pw_aload C dX5_needs_84 rfl ?_
    refine pw_getR C dX5_needs_86 fl_X5_102 (hR5.fa (s * 4 + f) (by omega)).k rfl ((hR5.fa (s * 4 + f) (by omega)).r (b := ((B + 7 + 2 * (s * 4 + f)) + 1)) 0 (by omega)) ?_
    refine pw_iload_n C dX5_needs_89 rfl ?_
    refine pw_cVU C hX dX5_needs_90 ml_X5_110 mc_X4_weigh (c_X4_weigh hY3 hR5.so hA.so (hR5.fa (s * 4 + f) (by omega)) (hA.fa (s * 4 + f) (by omega)).f0 (v := v) (by omega) (by omega) (by omega)) kc_7 hY3.k rfl rfl ⟨Nat.le_of_ble_eq_true rfl, Nat.le_of_ble_eq_true rfl⟩ (Nat.le_of_ble_eq_true rfl) ⟨Nat.le_of_ble_eq_true rfl, Nat.le_of_ble_eq_true rfl⟩ (fun G M7 hq_ => ?_)
    obtain ⟨rfl, Y8, hY9, o10, ew11, ew12, ew13, ew14⟩ := hq_
    have bt := t_bd (F := (A (100 + (s * 4 + f)))) (v := v) hA.so
    have hR15 := hR5.uY hY9 (o10.mono (by omega) (by omega))
    have hO16 := hO6.tr (o10.mono (by omega) (by omega))
    refine pw_iconst C dX5_needs_93 ?_
    refine pw_istore C dX5_needs_94 (Nat.le_of_ble_eq_true rfl) rfl ?_
    suffices K_96 : ∀ (nn_96 : Nat) (k of_ : Int) (Yc : Fn) (Mc : Mm), (0 ≤ k ∧ k ≤ 11) → (of_ = (if stC (A 10) (A (100 + (s * 4 + f))) 1 v = -1 then 0 else tF (A 10) (A (100 + (s * 4 + f))) (stC (A 10) (A (100 + (s * 4 + f))) 1 v))) → (0 ≤ of_ ∧ of_ ≤ 30) → (YR G Mc (B + 4) Yc) → (RC G Mc B A) → (Ot B (B + 201) M Mc) → (Yc 1 0 = tR (A 10) (A (100 + (s * 4 + f))) v + k) → (Yc 1 1 = tN (A 10) (A (100 + (s * 4 + f))) v + (if w = 2 then k else 0)) → (Yc 1 2 = tO (A 10) (A (100 + (s * 4 + f))) v + (if w = 3 then k else 0)) → (Yc 1 3 = tF (A 10) (A (100 + (s * 4 + f))) v + w * k) → (fnd (neP (A 10) (A (100 + (s * 4 + f))) v w) k 11 = fnd (neP (A 10) (A (100 + (s * 4 + f))) v w) 0 11) → 11 - k < (nn_96 : Int) → PW E G Mc 0 0 96 [(0, 1, vR B), (1, 1, vI s), (2, 1, vI f), (3, 1, vI v), (4, 1, vI w), (5, 1, vR (B + 7 + 2 * (s * 4 + f))), (6, 1, vI (stC (A 10) (A (100 + (s * 4 + f))) 1 v)), (7, 1, vI of_), (8, 1, vI k)] [] from pw_locs (by exact ⟨rfl, cat_vR _, rfl, rfl, rfl, rfl, rfl, rfl, rfl, rfl, rfl, cat_vR _, rfl, rfl, rfl, rfl, rfl, rfl, trivial⟩) (K_96 (11 - 0 + 1 : Int).toNat 0 0 Y8 M7 (by omega) (by first | exact (if_pos c_46).symm | omega) (by omega) (by first | exact hY9 | omega) (by first | exact hR15 | omega) (by first | exact hO16 | omega) (by first | exact by rw [ew11]; omega | omega) (by first | exact by rw [ew12]; split <;> omega | omega) (by first | exact by rw [ew13]; split <;> omega | omega) (by first | exact by rw [ew14, Int.mul_zero]; omega | omega) (by first | exact rfl | omega) (by omega))
    intro nn_96
    induction nn_96 with
    | zero => intro k of_ Yc Mc h1 hof bof hYc hRc hO y0 y1 y2 y3 hf h_m96; exact absurd h_m96 (by omega)
    | succ nn_96 ih_96 =>
      intro k of_ Yc Mc h1 hof bof hYc hRc hO y0 y1 y2 y3 hf h_m96
      have bt := t_bd (F := A (100 + (s * 4 + f))) (v := v) hA.so
      have bwk : 0 ≤ w * k ∧ w * k ≤ 33 := by rcases (show w = 1 ∨ w = 2 ∨ w = 3 by omega) with rfl | rfl | rfl <;> omega
      have b2 : 0 ≤ (if w = 2 then k else 0) ∧ (if w = 2 then k else 0) ≤ 11 := by split <;> omega
      have b3 : 0 ≤ (if w = 3 then k else 0) ∧ (if w = 3 then k else 0) ≤ 11 := by split <;> omega
      refine pw_iload C dX5_needs_96 rfl ?_
      refine pw_bipush C dX5_needs_98 rfl ?_
      refine pw_icmp_gt (tgt := 173) C dX5_needs_100 (by decide) (by omega) (fun c_100 => ?_) (fun c_100 => ?_)
      · skip
        refine pw_iconst C dX5_needs_173 ?_
        exact pw_iret C hR dX5_needs_174 (⟨_, rfl, rfl, by unfold nee; rw [← fnd_no (by omega) hf, if_neg (by omega)], hRc, hO⟩) (by omega) (by omega)
      · skip
        refine pw_aload_n C dX5_needs_103 rfl ?_
        refine pw_getR C dX5_needs_104 fl_X5_19 hRc.k rfl hRc.r1 ?_
        refine pw_getE C dX5_needs_107 fl_X5_222 rfl hYc.k (hYc.s 3 (by omega)) ?_
        refine pw_iload C dX5_needs_110 rfl ?_
        refine pw_icmp_gt (tgt := 133) C dX5_needs_112 (by decide) (by omega) (fun c_112 => ?_) (fun c_112 => ?_)
        · skip
          refine pw_iconst C dX5_needs_133 ?_
          refine pw_goto (tgt := 138) C dX5_needs_134 (by decide) ?_
          refine pw_istore C dX5_needs_138 (Nat.le_of_ble_eq_true rfl) rfl ?_
          refine pw_iload C dX5_needs_140 rfl ?_
          refine pw_ifL_eqn (tgt := 158) C dX5_needs_142 (by decide) rfl ?_
          refine pw_aload_n C dX5_needs_145 rfl ?_
          refine pw_getR C dX5_needs_146 fl_X5_19 hRc.k rfl hRc.r1 ?_
          refine pw_cVE C hX dX5_needs_149 ml_X5_114 mc_X4_proofGrade (c_X4_proofGrade hYc (by omega) (by omega) (by omega)) kc_7 hYc.k rfl rfl ⟨Nat.le_of_ble_eq_true rfl, Nat.le_of_ble_eq_true rfl⟩ (Nat.le_of_ble_eq_true rfl) ⟨Nat.le_of_ble_eq_true rfl, Nat.le_of_ble_eq_true rfl⟩ ?_
          obtain ⟨gv, eg⟩ : ∃ g, g = grd (Yc 1 2) (Yc 1 1) (Yc 1 0) := ⟨_, rfl⟩
          refine pw_top (v' := vI gv) (by rw [eg]) ?_
          have bg : 0 ≤ gv ∧ gv ≤ 3 := by rw [eg]; unfold grd; (repeat' split) <;> omega
          rw [y2, y1, y0] at eg
          refine pw_if_le (tgt := 158) C dX5_needs_152 (by decide) (by omega) (fun c_152 => ?_) (fun c_152 => ?_)
          · skip
            refine pw_aload_n C dX5_needs_158 rfl ?_
            refine pw_getR C dX5_needs_159 fl_X5_19 hRc.k rfl hRc.r1 ?_
            refine pw_iload C dX5_needs_162 rfl ?_
            have hnp : ¬ neP (A 10) (A (100 + (s * 4 + f))) v w k := by unfold neP; rw [← hof]; rw [← eg]; intro q; omega
            refine pw_cVU C hX dX5_needs_164 ml_X5_332 mc_X4_addRoot (c_X4_addRoot hYc (x := w) (by omega)) kc_7 hYc.k rfl rfl ⟨Nat.le_of_ble_eq_true rfl, Nat.le_of_ble_eq_true rfl⟩ (Nat.le_of_ble_eq_true rfl) ⟨Nat.le_of_ble_eq_true rfl, Nat.le_of_ble_eq_true rfl⟩ (fun G M17 hq_ => ?_)
            obtain ⟨rfl, Y18, hY19, o20, ey0, ey1, ey2, ey3, ey4⟩ := hq_
            have hR21 := hRc.uY hY19 (o20.mono (by omega) (by omega))
            have hO22 := hO.tr (o20.mono (by omega) (by omega))
            refine pw_iinc C dX5_needs_167 rfl (Nat.le_of_ble_eq_true rfl) rfl ?_
            refine pw_goto (tgt := 96) C dX5_needs_170 (by decide) ?_
            exact pw_locs (by exact ⟨rfl, cat_vR _, rfl, rfl, rfl, rfl, rfl, rfl, rfl, rfl, rfl, cat_vR _, rfl, rfl, rfl, rfl, rfl, rfl, trivial⟩) (ih_96 (k + 1) of_ Y18 M17 (by omega) (hof) (by omega) (hY19) (hR21) (hO22) (by rw [ey1]; omega) (by rw [ey2]; (repeat' split) <;> omega) (by rw [ey3]; (repeat' split) <;> omega) (by rw [ey4, y3, Int.mul_add, Int.mul_one]; omega) (fnd_go (by omega) hf hnp) (by omega))
          · skip
            refine pw_iload C dX5_needs_155 rfl ?_
            exact pw_iret C hR dX5_needs_157 (⟨_, rfl, rfl, by unfold nee; rw [← fnd_at (by omega) hf (by unfold neP; rw [← hof, ← eg]; omega), if_pos (by omega)], hRc, hO⟩) (by omega) (by omega)
        · skip
          refine pw_aload_n C dX5_needs_115 rfl ?_
          refine pw_getR C dX5_needs_116 fl_X5_19 hRc.k rfl hRc.r1 ?_
          refine pw_getE C dX5_needs_119 fl_X5_222 rfl hYc.k (hYc.s 3 (by omega)) ?_
          refine pw_iload C dX5_needs_122 rfl ?_
          refine pw_icmp_ne (tgt := 137) C dX5_needs_124 (by decide) (by omega) (fun c_124 => ?_) (fun c_124 => ?_)
          · skip
            refine pw_iconst C dX5_needs_137 ?_
            refine pw_istore C dX5_needs_138 (Nat.le_of_ble_eq_true rfl) rfl ?_
            refine pw_iload C dX5_needs_140 rfl ?_
            refine pw_ifL_eq (tgt := 158) C dX5_needs_142 (by decide) rfl ?_
            refine pw_aload_n C dX5_needs_158 rfl ?_
            refine pw_getR C dX5_needs_159 fl_X5_19 hRc.k rfl hRc.r1 ?_
            refine pw_iload C dX5_needs_162 rfl ?_
            have hnp : ¬ neP (A 10) (A (100 + (s * 4 + f))) v w k := by unfold neP; rw [← hof]; intro q; omega
            refine pw_cVU C hX dX5_needs_164 ml_X5_332 mc_X4_addRoot (c_X4_addRoot hYc (x := w) (by omega)) kc_7 hYc.k rfl rfl ⟨Nat.le_of_ble_eq_true rfl, Nat.le_of_ble_eq_true rfl⟩ (Nat.le_of_ble_eq_true rfl) ⟨Nat.le_of_ble_eq_true rfl, Nat.le_of_ble_eq_true rfl⟩ (fun G M23 hq_ => ?_)
            obtain ⟨rfl, Y24, hY25, o26, ey0, ey1, ey2, ey3, ey4⟩ := hq_
            have hR27 := hRc.uY hY25 (o26.mono (by omega) (by omega))
            have hO28 := hO.tr (o26.mono (by omega) (by omega))
            refine pw_iinc C dX5_needs_167 rfl (Nat.le_of_ble_eq_true rfl) rfl ?_
            refine pw_goto (tgt := 96) C dX5_needs_170 (by decide) ?_
            exact pw_locs (by exact ⟨rfl, cat_vR _, rfl, rfl, rfl, rfl, rfl, rfl, rfl, rfl, rfl, cat_vR _, rfl, rfl, rfl, rfl, rfl, rfl, trivial⟩) (ih_96 (k + 1) of_ Y24 M23 (by omega) (hof) (by omega) (hY25) (hR27) (hO28) (by rw [ey1]; omega) (by rw [ey2]; (repeat' split) <;> omega) (by rw [ey3]; (repeat' split) <;> omega) (by rw [ey4, y3, Int.mul_add, Int.mul_one]; omega) (fnd_go (by omega) hf hnp) (by omega))
          · skip
            refine pw_iload_n C dX5_needs_127 rfl ?_
            refine pw_iload C dX5_needs_128 rfl ?_
            refine pw_icmp_ge (tgt := 137) C dX5_needs_130 (by decide) (by omega) (fun c_130 => ?_) (fun c_130 => ?_)
            · skip
              refine pw_iconst C dX5_needs_137 ?_
              refine pw_istore C dX5_needs_138 (Nat.le_of_ble_eq_true rfl) rfl ?_
              refine pw_iload C dX5_needs_140 rfl ?_
              refine pw_ifL_eq (tgt := 158) C dX5_needs_142 (by decide) rfl ?_
              refine pw_aload_n C dX5_needs_158 rfl ?_
              refine pw_getR C dX5_needs_159 fl_X5_19 hRc.k rfl hRc.r1 ?_
              refine pw_iload C dX5_needs_162 rfl ?_
              have hnp : ¬ neP (A 10) (A (100 + (s * 4 + f))) v w k := by unfold neP; rw [← hof]; intro q; omega
              refine pw_cVU C hX dX5_needs_164 ml_X5_332 mc_X4_addRoot (c_X4_addRoot hYc (x := w) (by omega)) kc_7 hYc.k rfl rfl ⟨Nat.le_of_ble_eq_true rfl, Nat.le_of_ble_eq_true rfl⟩ (Nat.le_of_ble_eq_true rfl) ⟨Nat.le_of_ble_eq_true rfl, Nat.le_of_ble_eq_true rfl⟩ (fun G M29 hq_ => ?_)
              obtain ⟨rfl, Y30, hY31, o32, ey0, ey1, ey2, ey3, ey4⟩ := hq_
              have hR33 := hRc.uY hY31 (o32.mono (by omega) (by omega))
              have hO34 := hO.tr (o32.mono (by omega) (by omega))
              refine pw_iinc C dX5_needs_167 rfl (Nat.le_of_ble_eq_true rfl) rfl ?_
              refine pw_goto (tgt := 96) C dX5_needs_170 (by decide) ?_
              exact pw_locs (by exact ⟨rfl, cat_vR _, rfl, rfl, rfl, rfl, rfl, rfl, rfl, rfl, rfl, cat_vR _, rfl, rfl, rfl, rfl, rfl, rfl, trivial⟩) (ih_96 (k + 1) of_ Y30 M29 (by omega) (hof) (by omega) (hY31) (hR33) (hO34) (by rw [ey1]; omega) (by rw [ey2]; (repeat' split) <;> omega) (by rw [ey3]; (repeat' split) <;> omega) (by rw [ey4, y3, Int.mul_add, Int.mul_one]; omega) (fnd_go (by omega) hf hnp) (by omega))
            · skip
              refine pw_iconst C dX5_needs_133 ?_
              refine pw_goto (tgt := 138) C dX5_needs_134 (by decide) ?_
              refine pw_istore C dX5_needs_138 (Nat.le_of_ble_eq_true rfl) rfl ?_
              refine pw_iload C dX5_needs_140 rfl ?_
              refine pw_ifL_eqn (tgt := 158) C dX5_needs_142 (by decide) rfl ?_
              refine pw_aload_n C dX5_needs_145 rfl ?_
              refine pw_getR C dX5_needs_146 fl_X5_19 hRc.k rfl hRc.r1 ?_
              refine pw_cVE C hX dX5_needs_149 ml_X5_114 mc_X4_proofGrade (c_X4_proofGrade hYc (by omega) (by omega) (by omega)) kc_7 hYc.k rfl rfl ⟨Nat.le_of_ble_eq_true rfl, Nat.le_of_ble_eq_true rfl⟩ (Nat.le_of_ble_eq_true rfl) ⟨Nat.le_of_ble_eq_true rfl, Nat.le_of_ble_eq_true rfl⟩ ?_
              obtain ⟨gv, eg⟩ : ∃ g, g = grd (Yc 1 2) (Yc 1 1) (Yc 1 0) := ⟨_, rfl⟩
              refine pw_top (v' := vI gv) (by rw [eg]) ?_
              have bg : 0 ≤ gv ∧ gv ≤ 3 := by rw [eg]; unfold grd; (repeat' split) <;> omega
              rw [y2, y1, y0] at eg
              refine pw_if_le (tgt := 158) C dX5_needs_152 (by decide) (by omega) (fun c_152 => ?_) (fun c_152 => ?_)
              · skip
                refine pw_aload_n C dX5_needs_158 rfl ?_
                refine pw_getR C dX5_needs_159 fl_X5_19 hRc.k rfl hRc.r1 ?_
                refine pw_iload C dX5_needs_162 rfl ?_
                have hnp : ¬ neP (A 10) (A (100 + (s * 4 + f))) v w k := by unfold neP; rw [← hof]; rw [← eg]; intro q; omega
                refine pw_cVU C hX dX5_needs_164 ml_X5_332 mc_X4_addRoot (c_X4_addRoot hYc (x := w) (by omega)) kc_7 hYc.k rfl rfl ⟨Nat.le_of_ble_eq_true rfl, Nat.le_of_ble_eq_true rfl⟩ (Nat.le_of_ble_eq_true rfl) ⟨Nat.le_of_ble_eq_true rfl, Nat.le_of_ble_eq_true rfl⟩ (fun G M35 hq_ => ?_)
                obtain ⟨rfl, Y36, hY37, o38, ey0, ey1, ey2, ey3, ey4⟩ := hq_
                have hR39 := hRc.uY hY37 (o38.mono (by omega) (by omega))
                have hO40 := hO.tr (o38.mono (by omega) (by omega))
                refine pw_iinc C dX5_needs_167 rfl (Nat.le_of_ble_eq_true rfl) rfl ?_
                refine pw_goto (tgt := 96) C dX5_needs_170 (by decide) ?_
                exact pw_locs (by exact ⟨rfl, cat_vR _, rfl, rfl, rfl, rfl, rfl, rfl, rfl, rfl, rfl, cat_vR _, rfl, rfl, rfl, rfl, rfl, rfl, trivial⟩) (ih_96 (k + 1) of_ Y36 M35 (by omega) (hof) (by omega) (hY37) (hR39) (hO40) (by rw [ey1]; omega) (by rw [ey2]; (repeat' split) <;> omega) (by rw [ey3]; (repeat' split) <;> omega) (by rw [ey4, y3, Int.mul_add, Int.mul_one]; omega) (fnd_go (by omega) hf hnp) (by omega))
              · skip
                refine pw_iload C dX5_needs_155 rfl ?_
                exact pw_iret C hR dX5_needs_157 (⟨_, rfl, rfl, by unfold nee; rw [← fnd_at (by omega) hf (by unfold neP; rw [← hof, ← eg]; omega), if_pos (by omega)], hRc, hO⟩) (by omega) (by omega)
  · skip
    refine pw_aload_n C dX5_needs_49 rfl ?_
    refine pw_getR C dX5_needs_50 fl_X5_19 hR5.k rfl hR5.r1 ?_
    refine pw_aload_n C dX5_needs_53 rfl ?_
    refine pw_getR C dX5_needs_54 fl_X5_10 hR5.k rfl hR5.r0 ?_
    refine pw_aload C dX5_needs_57 rfl ?_
    refine pw_getR C dX5_needs_59 fl_X5_102 (hR5.fa (s * 4 + f) (by omega)).k rfl ((hR5.fa (s * 4 + f) (by omega)).r (b := ((B + 7 + 2 * (s * 4 + f)) + 1)) 0 (by omega)) ?_
    refine pw_iload C dX5_needs_62 rfl ?_
    refine pw_cVU C hX dX5_needs_64 ml_X5_110 mc_X4_weigh (c_X4_weigh hY3 hR5.so hA.so (hR5.fa (s * 4 + f) (by omega)) (hA.fa (s * 4 + f) (by omega)).f0 (v := (stC (A 10) (A (100 + (s * 4 + f))) 1 v)) (by omega) (by omega) (by omega)) kc_7 hY3.k rfl rfl ⟨Nat.le_of_ble_eq_true rfl, Nat.le_of_ble_eq_true rfl⟩ (Nat.le_of_ble_eq_true rfl) ⟨Nat.le_of_ble_eq_true rfl, Nat.le_of_ble_eq_true rfl⟩ (fun G M41 hq_ => ?_)
    obtain ⟨rfl, Y42, hY43, o44, ew45, ew46, ew47, ew48⟩ := hq_
    have bt := t_bd (F := (A (100 + (s * 4 + f)))) (v := (stC (A 10) (A (100 + (s * 4 + f))) 1 v)) hA.so
    have hR49 := hR5.uY hY43 (o44.mono (by omega) (by omega))
    have hO50 := hO6.tr (o44.mono (by omega) (by omega))
    refine pw_aload_n C dX5_needs_67 rfl ?_
    refine pw_getR C dX5_needs_68 fl_X5_19 hR49.k rfl hR49.r1 ?_
    refine pw_getE C dX5_needs_71 fl_X5_222 rfl hY43.k ((hY43.s 3 (by omega)).trans ew48) ?_
    refine pw_istore C dX5_needs_74 (Nat.le_of_ble_eq_true rfl) rfl ?_
    refine pw_aload_n C dX5_needs_76 rfl ?_
    refine pw_getR C dX5_needs_77 fl_X5_19 hR49.k rfl hR49.r1 ?_
    refine pw_aload_n C dX5_needs_80 rfl ?_
    refine pw_getR C dX5_needs_81 fl_X5_10 hR49.k rfl hR49.r0 ?_
    refine pw_aload C dX5_needs_84 rfl ?_
    refine pw_getR C dX5_needs_86 fl_X5_102 (hR49.fa (s * 4 + f) (by omega)).k rfl ((hR49.fa (s * 4 + f) (by omega)).r (b := ((B + 7 + 2 * (s * 4 + f)) + 1)) 0 (by omega)) ?_
    refine pw_iload_n C dX5_needs_89 rfl ?_
    refine pw_cVU C hX dX5_needs_90 ml_X5_110 mc_X4_weigh (c_X4_weigh hY43 hR49.so hA.so (hR49.fa (s * 4 + f) (by omega)) (hA.fa (s * 4 + f) (by omega)).f0 (v := v) (by omega) (by omega) (by omega)) kc_7 hY43.k rfl rfl ⟨Nat.le_of_ble_eq_true rfl, Nat.le_of_ble_eq_true rfl⟩ (Nat.le_of_ble_eq_true rfl) ⟨Nat.le_of_ble_eq_true rfl, Nat.le_of_ble_eq_true rfl⟩ (fun G M51 hq_ => ?_)
    obtain ⟨rfl, Y52, hY53, o54, ew55, ew56, ew57, ew58⟩ := hq_
    have bt := t_bd (F := (A (100 + (s * 4 + f)))) (v := v) hA.so
    have hR59 := hR49.uY hY53 (o54.mono (by omega) (by omega))
    have hO60 := hO50.tr (o54.mono (by omega) (by omega))
    refine pw_iconst C dX5_needs_93 ?_
    refine pw_istore C dX5_needs_94 (Nat.le_of_ble_eq_true rfl) rfl ?_
    suffices K_96 : ∀ (nn_96 : Nat) (k of_ : Int) (Yc : Fn) (Mc : Mm), (0 ≤ k ∧ k ≤ 11) → (of_ = (if stC (A 10) (A (100 + (s * 4 + f))) 1 v = -1 then 0 else tF (A 10) (A (100 + (s * 4 + f))) (stC (A 10) (A (100 + (s * 4 + f))) 1 v))) → (0 ≤ of_ ∧ of_ ≤ 30) → (YR G Mc (B + 4) Yc) → (RC G Mc B A) → (Ot B (B + 201) M Mc) → (Yc 1 0 = tR (A 10) (A (100 + (s * 4 + f))) v + k) → (Yc 1 1 = tN (A 10) (A (100 + (s * 4 + f))) v + (if w = 2 then k else 0)) → (Yc 1 2 = tO (A 10) (A (100 + (s * 4 + f))) v + (if w = 3 then k else 0)) → (Yc 1 3 = tF (A 10) (A (100 + (s * 4 + f))) v + w * k) → (fnd (neP (A 10) (A (100 + (s * 4 + f))) v w) k 11 = fnd (neP (A 10) (A (100 + (s * 4 + f))) v w) 0 11) → 11 - k < (nn_96 : Int) → PW E G Mc 0 0 96 [(0, 1, vR B), (1, 1, vI s), (2, 1, vI f), (3, 1, vI v), (4, 1, vI w), (5, 1, vR (B + 7 + 2 * (s * 4 + f))), (6, 1, vI (stC (A 10) (A (100 + (s * 4 + f))) 1 v)), (7, 1, vI of_), (8, 1, vI k)] [] from pw_locs (by exact ⟨rfl, cat_vR _, rfl, rfl, rfl, rfl, rfl, rfl, rfl, rfl, rfl, cat_vR _, rfl, rfl, rfl, rfl, rfl, rfl, trivial⟩) (K_96 (11 - 0 + 1 : Int).toNat 0 (tF (A 10) (A (100 + (s * 4 + f))) (stC (A 10) (A (100 + (s * 4 + f))) 1 v)) Y52 M51 (by omega) (by first | exact (if_neg c_46).symm | omega) (by omega) (by first | exact hY53 | omega) (by first | exact hR59 | omega) (by first | exact hO60 | omega) (by first | exact by rw [ew55]; omega | omega) (by first | exact by rw [ew56]; split <;> omega | omega) (by first | exact by rw [ew57]; split <;> omega | omega) (by first | exact by rw [ew58, Int.mul_zero]; omega | omega) (by first | exact rfl | omega) (by omega))
    intro nn_96
    induction nn_96 with
    | zero => intro k of_ Yc Mc h1 hof bof hYc hRc hO y0 y1 y2 y3 hf h_m96; exact absurd h_m96 (by omega)
    | succ nn_96 ih_96 =>
      intro k of_ Yc Mc h1 hof bof hYc hRc hO y0 y1 y2 y3 hf h_m96
      have bt := t_bd (F := A (100 + (s * 4 + f))) (v := v) hA.so
      have bwk : 0 ≤ w * k ∧ w * k ≤ 33 := by rcases (show w = 1 ∨ w = 2 ∨ w = 3 by omega) with rfl | rfl | rfl <;> omega
      have b2 : 0 ≤ (if w = 2 then k else 0) ∧ (if w = 2 then k else 0) ≤ 11 := by split <;> omega
      have b3 : 0 ≤ (if w = 3 then k else 0) ∧ (if w = 3 then k else 0) ≤ 11 := by split <;> omega
      refine pw_iload C dX5_needs_96 rfl ?_
      refine pw_bipush C dX5_needs_98 rfl ?_
      refine pw_icmp_gt (tgt := 173) C dX5_needs_100 (by decide) (by omega) (fun c_100 => ?_) (fun c_100 => ?_)
      · skip
        refine pw_iconst C dX5_needs_173 ?_
        exact pw_iret C hR dX5_needs_174 (⟨_, rfl, rfl, by unfold nee; rw [← fnd_no (by omega) hf, if_neg (by omega)], hRc, hO⟩) (by omega) (by omega)
      · skip
        refine pw_aload_n C dX5_needs_103 rfl ?_
        refine pw_getR C dX5_needs_104 fl_X5_19 hRc.k rfl hRc.r1 ?_
        refine pw_getE C dX5_needs_107 fl_X5_222 rfl hYc.k (hYc.s 3 (by omega)) ?_
        refine pw_iload C dX5_needs_110 rfl ?_
        refine pw_icmp_gt (tgt := 133) C dX5_needs_112 (by decide) (by omega) (fun c_112 => ?_) (fun c_112 => ?_)
        · skip
          refine pw_iconst C dX5_needs_133 ?_
          refine pw_goto (tgt := 138) C dX5_needs_134 (by decide) ?_
          refine pw_istore C dX5_needs_138 (Nat.le_of_ble_eq_true rfl) rfl ?_
          refine pw_iload C dX5_needs_140 rfl ?_
          refine pw_ifL_eqn (tgt := 158) C dX5_needs_142 (by decide) rfl ?_
          refine pw_aload_n C dX5_needs_145 rfl ?_
          refine pw_getR C dX5_needs_146 fl_X5_19 hRc.k rfl hRc.r1 ?_
          refine pw_cVE C hX dX5_needs_149 ml_X5_114 mc_X4_proofGrade (c_X4_proofGrade hYc (by omega) (by omega) (by omega)) kc_7 hYc.k rfl rfl ⟨Nat.le_of_ble_eq_true rfl, Nat.le_of_ble_eq_true rfl⟩ (Nat.le_of_ble_eq_true rfl) ⟨Nat.le_of_ble_eq_true rfl, Nat.le_of_ble_eq_true rfl⟩ ?_
          obtain ⟨gv, eg⟩ : ∃ g, g = grd (Yc 1 2) (Yc 1 1) (Yc 1 0) := ⟨_, rfl⟩
          refine pw_top (v' := vI gv) (by rw [eg]) ?_
          have bg : 0 ≤ gv ∧ gv ≤ 3 := by rw [eg]; unfold grd; (repeat' split) <;> omega
          rw [y2, y1, y0] at eg
          refine pw_if_le (tgt := 158) C dX5_needs_152 (by decide) (by omega) (fun c_152 => ?_) (fun c_152 => ?_)
          · skip
            refine pw_aload_n C dX5_needs_158 rfl ?_
            refine pw_getR C dX5_needs_159 fl_X5_19 hRc.k rfl hRc.r1 ?_
            refine pw_iload C dX5_needs_162 rfl ?_
            have hnp : ¬ neP (A 10) (A (100 + (s * 4 + f))) v w k := by unfold neP; rw [← hof]; rw [← eg]; intro q; omega
            refine pw_cVU C hX dX5_needs_164 ml_X5_332 mc_X4_addRoot (c_X4_addRoot hYc (x := w) (by omega)) kc_7 hYc.k rfl rfl ⟨Nat.le_of_ble_eq_true rfl, Nat.le_of_ble_eq_true rfl⟩ (Nat.le_of_ble_eq_true rfl) ⟨Nat.le_of_ble_eq_true rfl, Nat.le_of_ble_eq_true rfl⟩ (fun G M61 hq_ => ?_)
            obtain ⟨rfl, Y62, hY63, o64, ey0, ey1, ey2, ey3, ey4⟩ := hq_
            have hR65 := hRc.uY hY63 (o64.mono (by omega) (by omega))
            have hO66 := hO.tr (o64.mono (by omega) (by omega))
            refine pw_iinc C dX5_needs_167 rfl (Nat.le_of_ble_eq_true rfl) rfl ?_
            refine pw_goto (tgt := 96) C dX5_needs_170 (by decide) ?_
            exact pw_locs (by exact ⟨rfl, cat_vR _, rfl, rfl, rfl, rfl, rfl, rfl, rfl, rfl, rfl, cat_vR _, rfl, rfl, rfl, rfl, rfl, rfl, trivial⟩) (ih_96 (k + 1) of_ Y62 M61 (by omega) (hof) (by omega) (hY63) (hR65) (hO66) (by rw [ey1]; omega) (by rw [ey2]; (repeat' split) <;> omega) (by rw [ey3]; (repeat' split) <;> omega) (by rw [ey4, y3, Int.mul_add, Int.mul_one]; omega) (fnd_go (by omega) hf hnp) (by omega))
          · skip
            refine pw_iload C dX5_needs_155 rfl ?_
            exact pw_iret C hR dX5_needs_157 (⟨_, rfl, rfl, by unfold nee; rw [← fnd_at (by omega) hf (by unfold neP; rw [← hof, ← eg]; omega), if_pos (by omega)], hRc, hO⟩) (by omega) (by omega)
        · skip
          refine pw_aload_n C dX5_needs_115 rfl ?_
          refine pw_getR C dX5_needs_116 fl_X5_19 hRc.k rfl hRc.r1 ?_
          refine pw_getE C dX5_needs_119 fl_X5_222 rfl hYc.k (hYc.s 3 (by omega)) ?_
          refine pw_iload C dX5_needs_122 rfl ?_
          refine pw_icmp_ne (tgt := 137) C dX5_needs_124 (by decide) (by omega) (fun c_124 => ?_) (fun c_124 => ?_)
          · skip
            refine pw_iconst C dX5_needs_137 ?_
            refine pw_istore C dX5_needs_138 (Nat.le_of_ble_eq_true rfl) rfl ?_
            refine pw_iload C dX5_needs_140 rfl ?_
            refine pw_ifL_eq (tgt := 158) C dX5_needs_142 (by decide) rfl ?_
            refine pw_aload_n C dX5_needs_158 rfl ?_
            refine pw_getR C dX5_needs_159 fl_X5_19 hRc.k rfl hRc.r1 ?_
            refine pw_iload C dX5_needs_162 rfl ?_
            have hnp : ¬ neP (A 10) (A (100 + (s * 4 + f))) v w k := by unfold neP; rw [← hof]; intro q; omega
            refine pw_cVU C hX dX5_needs_164 ml_X5_332 mc_X4_addRoot (c_X4_addRoot hYc (x := w) (by omega)) kc_7 hYc.k rfl rfl ⟨Nat.le_of_ble_eq_true rfl, Nat.le_of_ble_eq_true rfl⟩ (Nat.le_of_ble_eq_true rfl) ⟨Nat.le_of_ble_eq_true rfl, Nat.le_of_ble_eq_true rfl⟩ (fun G M67 hq_ => ?_)
            obtain ⟨rfl, Y68, hY69, o70, ey0, ey1, ey2, ey3, ey4⟩ := hq_
            have hR71 := hRc.uY hY69 (o70.mono (by omega) (by omega))
            have hO72 := hO.tr (o70.mono (by omega) (by omega))
            refine pw_iinc C dX5_needs_167 rfl (Nat.le_of_ble_eq_true rfl) rfl ?_
            refine pw_goto (tgt := 96) C dX5_needs_170 (by decide) ?_
            exact pw_locs (by exact ⟨rfl, cat_vR _, rfl, rfl, rfl, rfl, rfl, rfl, rfl, rfl, rfl, cat_vR _, rfl, rfl, rfl, rfl, rfl, rfl, trivial⟩) (ih_96 (k + 1) of_ Y68 M67 (by omega) (hof) (by omega) (hY69) (hR71) (hO72) (by rw [ey1]; omega) (by rw [ey2]; (repeat' split) <;> omega) (by rw [ey3]; (repeat' split) <;> omega) (by rw [ey4, y3, Int.mul_add, Int.mul_one]; omega) (fnd_go (by omega) hf hnp) (by omega))
          · skip
            refine pw_iload_n C dX5_needs_127 rfl ?_
            refine pw_iload C dX5_needs_128 rfl ?_
            refine pw_icmp_ge (tgt := 137) C dX5_needs_130 (by decide) (by omega) (fun c_130 => ?_) (fun c_130 => ?_)
            · skip
              refine pw_iconst C dX5_needs_137 ?_
              refine pw_istore C dX5_needs_138 (Nat.le_of_ble_eq_true rfl) rfl ?_
              refine pw_iload C dX5_needs_140 rfl ?_
              refine pw_ifL_eq (tgt := 158) C dX5_needs_142 (by decide) rfl ?_
              refine pw_aload_n C dX5_needs_158 rfl ?_
              refine pw_getR C dX5_needs_159 fl_X5_19 hRc.k rfl hRc.r1 ?_
              refine pw_iload C dX5_needs_162 rfl ?_
              have hnp : ¬ neP (A 10) (A (100 + (s * 4 + f))) v w k := by unfold neP; rw [← hof]; intro q; omega
              refine pw_cVU C hX dX5_needs_164 ml_X5_332 mc_X4_addRoot (c_X4_addRoot hYc (x := w) (by omega)) kc_7 hYc.k rfl rfl ⟨Nat.le_of_ble_eq_true rfl, Nat.le_of_ble_eq_true rfl⟩ (Nat.le_of_ble_eq_true rfl) ⟨Nat.le_of_ble_eq_true rfl, Nat.le_of_ble_eq_true rfl⟩ (fun G M73 hq_ => ?_)
              obtain ⟨rfl, Y74, hY75, o76, ey0, ey1, ey2, ey3, ey4⟩ := hq_
              have hR77 := hRc.uY hY75 (o76.mono (by omega) (by omega))
              have hO78 := hO.tr (o76.mono (by omega) (by omega))
              refine pw_iinc C dX5_needs_167 rfl (Nat.le_of_ble_eq_true rfl) rfl ?_
              refine pw_goto (tgt := 96) C dX5_needs_170 (by decide) ?_
              exact pw_locs (by exact ⟨rfl, cat_vR _, rfl, rfl, rfl, rfl, rfl, rfl, rfl, rfl, rfl, cat_vR _, rfl, rfl, rfl, rfl, rfl, rfl, trivial⟩) (ih_96 (k + 1) of_ Y74 M73 (by omega) (hof) (by omega) (hY75) (hR77) (hO78) (by rw [ey1]; omega) (by rw [ey2]; (repeat' split) <;> omega) (by rw [ey3]; (repeat' split) <;> omega) (by rw [ey4, y3, Int.mul_add, Int.mul_one]; omega) (fnd_go (by omega) hf hnp) (by omega))
            · skip
              refine pw_iconst C dX5_needs_133 ?_
              refine pw_goto (tgt := 138) C dX5_needs_134 (by decide) ?_
              refine pw_istore C dX5_needs_138 (Nat.le_of_ble_eq_true rfl) rfl ?_
              refine pw_iload C dX5_needs_140 rfl ?_
              refine pw_ifL_eqn (tgt := 158) C dX5_needs_142 (by decide) rfl ?_
              refine pw_aload_n C dX5_needs_145 rfl ?_
              refine pw_getR C dX5_needs_146 fl_X5_19 hRc.k rfl hRc.r1 ?_
              refine pw_cVE C hX dX5_needs_149 ml_X5_114 mc_X4_proofGrade (c_X4_proofGrade hYc (by omega) (by omega) (by omega)) kc_7 hYc.k rfl rfl ⟨Nat.le_of_ble_eq_true rfl, Nat.le_of_ble_eq_true rfl⟩ (Nat.le_of_ble_eq_true rfl) ⟨Nat.le_of_ble_eq_true rfl, Nat.le_of_ble_eq_true rfl⟩ ?_
              obtain ⟨gv, eg⟩ : ∃ g, g = grd (Yc 1 2) (Yc 1 1) (Yc 1 0) := ⟨_, rfl⟩
              refine pw_top (v' := vI gv) (by rw [eg]) ?_
              have bg : 0 ≤ gv ∧ gv ≤ 3 := by rw [eg]; unfold grd; (repeat' split) <;> omega
              rw [y2, y1, y0] at eg
              refine pw_if_le (tgt := 158) C dX5_needs_152 (by decide) (by omega) (fun c_152 => ?_) (fun c_152 => ?_)
              · skip
                refine pw_aload_n C dX5_needs_158 rfl ?_
                refine pw_getR C dX5_needs_159 fl_X5_19 hRc.k rfl hRc.r1 ?_
                refine pw_iload C dX5_needs_162 rfl ?_
                have hnp : ¬ neP (A 10) (A (100 + (s * 4 + f))) v w k := by unfold neP; rw [← hof]; rw [← eg]; intro q; omega
                refine pw_cVU C hX dX5_needs_164 ml_X5_332 mc_X4_addRoot (c_X4_addRoot hYc (x := w) (by omega)) kc_7 hYc.k rfl rfl ⟨Nat.le_of_ble_eq_true rfl, Nat.le_of_ble_eq_true rfl⟩ (Nat.le_of_ble_eq_true rfl) ⟨Nat.le_of_ble_eq_true rfl, Nat.le_of_ble_eq_true rfl⟩ (fun G M79 hq_ => ?_)
                obtain ⟨rfl, Y80, hY81, o82, ey0, ey1, ey2, ey3, ey4⟩ := hq_
                have hR83 := hRc.uY hY81 (o82.mono (by omega) (by omega))
                have hO84 := hO.tr (o82.mono (by omega) (by omega))
                refine pw_iinc C dX5_needs_167 rfl (Nat.le_of_ble_eq_true rfl) rfl ?_
                refine pw_goto (tgt := 96) C dX5_needs_170 (by decide) ?_
                exact pw_locs (by exact ⟨rfl, cat_vR _, rfl, rfl, rfl, rfl, rfl, rfl, rfl, rfl, rfl, cat_vR _, rfl, rfl, rfl, rfl, rfl, rfl, trivial⟩) (ih_96 (k + 1) of_ Y80 M79 (by omega) (hof) (by omega) (hY81) (hR83) (hO84) (by rw [ey1]; omega) (by rw [ey2]; (repeat' split) <;> omega) (by rw [ey3]; (repeat' split) <;> omega) (by rw [ey4, y3, Int.mul_add, Int.mul_one]; omega) (fnd_go (by omega) hf hnp) (by omega))
              · skip
                refine pw_iload C dX5_needs_155 rfl ?_
                exact pw_iret C hR dX5_needs_157 (⟨_, rfl, rfl, by unfold nee; rw [← fnd_at (by omega) hf (by unfold neP; rw [← hof, ← eg]; omega), if_pos (by omega)], hRc, hO⟩) (by omega) (by omega)

set_option maxHeartbeats 4000000 in
set_option maxRecDepth 100000 in
theorem c_arrives {X : Xv} {G M : Mm} {B : Int} {A : An} (hR0 : RC G M B A) (hA : AB A) {l t : Int} (r_l : -2147483648 ≤ l ∧ l ≤ 2147483647) (r_t : -2147483648 ≤ t ∧ t ≤ 2147483647) (hok : ((0 ≤ l ∧ l < A 0 0 2) ∧ 0 ≤ t ∧ t < A 0 0 1)) : CT X yX5_arrives prog_1_method_23_code 4 (some .int) 3 73 0 0 [vR B, vI l, vI t] G M (PI (fun r G1 M1 => G1 = G ∧ r = arr A l t ∧ RC G M1 B A ∧ Ot B (B + 201) M M1)) := by
  refine CT.by (by decide +kernel) [1, 1, 1] ⟨cat_vR _, cat_vI _, cat_vI _, trivial⟩ (Nat.le_of_ble_eq_true rfl) (fun E hX C hR hIni => ?_)
  have hn := hA.n
  have hnS := hA.so.c
  obtain ⟨Z0, hZ0⟩ := hR0.tr
  have hO0 : Ot B (B + 201) M M := Ot.rf
  refine pw_aload_n C dX5_arrives_0 rfl ?_
  refine pw_iload_n C dX5_arrives_1 rfl ?_
  refine pw_cVV C hX dX5_arrives_2 ml_X5_126 mc_X5_checkLine (c_checkLine hR0 hA (l := l) (by omega) (by omega)) kc_8 hR0.k rfl rfl ⟨Nat.le_of_ble_eq_true rfl, Nat.le_of_ble_eq_true rfl⟩ (Nat.le_of_ble_eq_true rfl) ⟨Nat.le_of_ble_eq_true rfl, Nat.le_of_ble_eq_true rfl⟩ ?_
  refine pw_aload_n C dX5_arrives_5 rfl ?_
  refine pw_iload_n C dX5_arrives_6 rfl ?_
  refine pw_cVV C hX dX5_arrives_7 ml_X5_159 mc_X5_checkTake (c_checkTake hR0 hA (t := t) (by omega) (by omega)) kc_8 hR0.k rfl rfl ⟨Nat.le_of_ble_eq_true rfl, Nat.le_of_ble_eq_true rfl⟩ (Nat.le_of_ble_eq_true rfl) ⟨Nat.le_of_ble_eq_true rfl, Nat.le_of_ble_eq_true rfl⟩ ?_
  refine pw_aload_n C dX5_arrives_10 rfl ?_
  refine pw_getR C dX5_arrives_11 fl_X5_39 hR0.k rfl hR0.r4 ?_
  refine pw_iload_n C dX5_arrives_14 rfl ?_
  refine pw_aaldE C dX5_arrives_15 hR0.a4 (by omega) (by omega) (hR0.e4 l (by omega)) ?_
  refine pw_astore_n C dX5_arrives_16 (Nat.le_of_ble_eq_true rfl) rfl ?_
  refine pw_aload_n C dX5_arrives_17 rfl ?_
  refine pw_iload_n C dX5_arrives_18 rfl ?_
  refine pw_cVE C hX dX5_arrives_19 ml_X5_251 mc_X1_isRunning (c_X1_isRunning (hR0.li l (by omega)) (hA.li l (by omega)) (t := t) (by omega)) kc_4 (hR0.li l (by omega)).k rfl rfl ⟨Nat.le_of_ble_eq_true rfl, Nat.le_of_ble_eq_true rfl⟩ (Nat.le_of_ble_eq_true rfl) ⟨Nat.le_of_ble_eq_true rfl, Nat.le_of_ble_eq_true rfl⟩ ?_
  refine pw_ifB_ne (tgt := 27) C dX5_arrives_22 (by decide) (fun c_22 => ?_) (fun c_22 => ?_)
  · skip
    refine pw_aload_n C dX5_arrives_27 rfl ?_
    refine pw_iload_n C dX5_arrives_28 rfl ?_
    refine pw_cVE C hX dX5_arrives_29 ml_X5_183 mc_X1_isSent (c_X1_isSent (hR0.li l (by omega)) (hA.li l (by omega)) (t := t) (by omega)) kc_4 (hR0.li l (by omega)).k rfl rfl ⟨Nat.le_of_ble_eq_true rfl, Nat.le_of_ble_eq_true rfl⟩ (Nat.le_of_ble_eq_true rfl) ⟨Nat.le_of_ble_eq_true rfl, Nat.le_of_ble_eq_true rfl⟩ ?_
    refine pw_ifB_eq (tgt := 56) C dX5_arrives_32 (by decide) (fun c_32 => ?_) (fun c_32 => ?_)
    · skip
      refine pw_aload_n C dX5_arrives_56 rfl ?_
      refine pw_getR C dX5_arrives_57 fl_X5_44 hR0.k rfl hR0.r5 ?_
      refine pw_aload_n C dX5_arrives_60 rfl ?_
      refine pw_cVU C hX dX5_arrives_61 ml_X5_315 mc_X1_copyFrom (c_X1_copyFrom hZ0 (hR0.li l (by omega)) (by omega)) kc_4 hZ0.k rfl rfl ⟨Nat.le_of_ble_eq_true rfl, Nat.le_of_ble_eq_true rfl⟩ (Nat.le_of_ble_eq_true rfl) ⟨Nat.le_of_ble_eq_true rfl, Nat.le_of_ble_eq_true rfl⟩ (fun G M1 hq_ => ?_)
      obtain ⟨rfl, hZ2, o3⟩ := hq_
      have hR4 := hR0.uZ hZ2 (o3.mono (by omega) (by omega))
      have hO5 := hO0.tr (o3.mono (by omega) (by omega))
      refine pw_aload_n C dX5_arrives_64 rfl ?_
      refine pw_getR C dX5_arrives_65 fl_X5_44 hR4.k rfl hR4.r5 ?_
      refine pw_iload_n C dX5_arrives_68 rfl ?_
      refine pw_aload_n C dX5_arrives_69 rfl ?_
      refine pw_getE C dX5_arrives_70 fl_X5_123 rfl hR4.k (hR4.n 3 (by omega)) ?_
      refine pw_cVI C hX dX5_arrives_73 ml_X5_319 mc_X1_runUntilHad (c_X1_runUntilHad hZ2 (hA.li l (by omega)) (t := t) (u := (A 0 0 3)) (by omega) (by omega)) kc_4 hZ2.k rfl rfl ⟨Nat.le_of_ble_eq_true rfl, Nat.le_of_ble_eq_true rfl⟩ (Nat.le_of_ble_eq_true rfl) ⟨Nat.le_of_ble_eq_true rfl, Nat.le_of_ble_eq_true rfl⟩ (fun r_ G M6 hq_ => ?_)
      obtain ⟨rfl, rfl, o8, Z9, hZ7⟩ := hq_
      have hR10 := hR4.uZ hZ7 (o8.mono (by omega) (by omega))
      have hO11 := hO5.tr (o8.mono (by omega) (by omega))
      exact pw_iret C hR dX5_arrives_76 (⟨_, rfl, rfl, by unfold arr; rw [if_neg c_22, if_neg c_32], hR10, hO11⟩) (by omega) (by omega)
    · skip
      refine pw_iconst C dX5_arrives_35 ?_
      refine pw_aload_n C dX5_arrives_36 rfl ?_
      refine pw_getR C dX5_arrives_37 fl_X5_307 (hR0.li l (by omega)).k rfl ((hR0.li l (by omega)).r (b := ((B + 177 + 5 * l) + 4)) 3 (by omega)) ?_
      refine pw_iload_n C dX5_arrives_40 rfl ?_
      refine pw_ialdE C dX5_arrives_41 ((hR0.li l (by omega)).ai 3 (by omega)) (by omega) ((hR0.li l (by omega)).v 3 (by omega)) ?_
      have b_41 := (hA.li l (by omega)).v3 t (by omega) (by omega)
      refine pw_aload_n C dX5_arrives_42 rfl ?_
      refine pw_getE C dX5_arrives_43 fl_X5_88 rfl (hR0.li l (by omega)).k ((hR0.li l (by omega)).s 1 (by omega)) ?_
      have b_43 := (hA.li l (by omega)).s1
      refine pw_iadd C dX5_arrives_46 ?_
      refine pw_aload_n C dX5_arrives_47 rfl ?_
      refine pw_getE C dX5_arrives_48 fl_X5_123 rfl hR0.k (hR0.n 3 (by omega)) ?_
      refine pw_isub C dX5_arrives_51 ?_
      refine pw_max C dX5_arrives_52 (List.mem_of_getElem? (i := 646) (by decide +kernel)) (by omega) (by omega) ⟨Nat.le_of_ble_eq_true rfl, Nat.le_of_ble_eq_true rfl⟩ ⟨Nat.le_of_ble_eq_true rfl, Nat.le_of_ble_eq_true rfl⟩ ?_
      exact pw_iret C hR dX5_arrives_55 (⟨_, rfl, rfl, by unfold arr; rw [if_neg c_22, if_pos c_32], hR0, hO0⟩) (by omega) (by omega)
  · skip
    refine pw_iconst C dX5_arrives_25 ?_
    exact pw_iret C hR dX5_arrives_26 (⟨_, rfl, rfl, by unfold arr; rw [if_pos (Decidable.not_not.mp c_22)], hR0, hO0⟩) (by omega) (by omega)

set_option maxHeartbeats 4000000 in
set_option maxRecDepth 100000 in
theorem c_wouldArrive {X : Xv} {G M : Mm} {B : Int} {A : An} (hR0 : RC G M B A) (hA : AB A) {l k w : Int} (r_l : -2147483648 ≤ l ∧ l ≤ 2147483647) (r_k : -2147483648 ≤ k ∧ k ≤ 2147483647) (r_w : -2147483648 ≤ w ∧ w ≤ 2147483647) (hok : (0 ≤ l ∧ l < A 0 0 2) ∧ ((0 ≤ k ∧ k ≤ 4) ∧ 1 ≤ w ∧ w ≤ 200)) : CT X yX5_wouldArrive prog_1_method_24_code 4 (some .int) 3 73 0 0 [vR B, vI l, vI k, vI w] G M (PI (fun r G1 M1 => G1 = G ∧ r = wou A l k w ∧ RC G M1 B A ∧ Ot B (B + 201) M M1)) := by
  refine CT.by (by decide +kernel) [1, 1, 1, 1] ⟨cat_vR _, cat_vI _, cat_vI _, cat_vI _, trivial⟩ (Nat.le_of_ble_eq_true rfl) (fun E hX C hR hIni => ?_)
  have hn := hA.n
  have hnS := hA.so.c
  obtain ⟨Z0, hZ0⟩ := hR0.tr
  have hO0 : Ot B (B + 201) M M := Ot.rf
  refine pw_aload_n C dX5_wouldArrive_0 rfl ?_
  refine pw_iload_n C dX5_wouldArrive_1 rfl ?_
  refine pw_cVV C hX dX5_wouldArrive_2 ml_X5_126 mc_X5_checkLine (c_checkLine hR0 hA (l := l) (by omega) (by omega)) kc_8 hR0.k rfl rfl ⟨Nat.le_of_ble_eq_true rfl, Nat.le_of_ble_eq_true rfl⟩ (Nat.le_of_ble_eq_true rfl) ⟨Nat.le_of_ble_eq_true rfl, Nat.le_of_ble_eq_true rfl⟩ ?_
  refine pw_iload_n C dX5_wouldArrive_5 rfl ?_
  refine pw_if_lt (tgt := 26) C dX5_wouldArrive_6 (by decide) (by omega) (fun c_6 => ?_) (fun c_6 => ?_)
  · skip
    exfalso; omega
  · skip
    refine pw_iload_n C dX5_wouldArrive_9 rfl ?_
    refine pw_iconst C dX5_wouldArrive_10 ?_
    refine pw_icmp_gt (tgt := 26) C dX5_wouldArrive_11 (by decide) (by omega) (fun c_11 => ?_) (fun c_11 => ?_)
    · skip
      exfalso; omega
    · skip
      refine pw_iload_n C dX5_wouldArrive_14 rfl ?_
      refine pw_iconst C dX5_wouldArrive_15 ?_
      refine pw_icmp_lt (tgt := 26) C dX5_wouldArrive_16 (by decide) (by omega) (fun c_16 => ?_) (fun c_16 => ?_)
      · skip
        exfalso; omega
      · skip
        refine pw_iload_n C dX5_wouldArrive_19 rfl ?_
        refine pw_sipush C dX5_wouldArrive_20 rfl ?_
        refine pw_icmp_le (tgt := 37) C dX5_wouldArrive_23 (by decide) (by omega) (fun c_23 => ?_) (fun c_23 => ?_)
        · skip
          refine pw_aload_n C dX5_wouldArrive_37 rfl ?_
          refine pw_getR C dX5_wouldArrive_38 fl_X5_44 hR0.k rfl hR0.r5 ?_
          refine pw_aload_n C dX5_wouldArrive_41 rfl ?_
          refine pw_getR C dX5_wouldArrive_42 fl_X5_39 hR0.k rfl hR0.r4 ?_
          refine pw_iload_n C dX5_wouldArrive_45 rfl ?_
          refine pw_aaldE C dX5_wouldArrive_46 hR0.a4 (by omega) (by omega) (hR0.e4 l (by omega)) ?_
          refine pw_cVU C hX dX5_wouldArrive_47 ml_X5_315 mc_X1_copyFrom (c_X1_copyFrom hZ0 (hR0.li l (by omega)) (by omega)) kc_4 hZ0.k rfl rfl ⟨Nat.le_of_ble_eq_true rfl, Nat.le_of_ble_eq_true rfl⟩ (Nat.le_of_ble_eq_true rfl) ⟨Nat.le_of_ble_eq_true rfl, Nat.le_of_ble_eq_true rfl⟩ (fun G M1 hq_ => ?_)
          obtain ⟨rfl, hZ2, o3⟩ := hq_
          have hR4 := hR0.uZ hZ2 (o3.mono (by omega) (by omega))
          have hO5 := hO0.tr (o3.mono (by omega) (by omega))
          refine pw_aload_n C dX5_wouldArrive_50 rfl ?_
          refine pw_getR C dX5_wouldArrive_51 fl_X5_44 hR4.k rfl hR4.r5 ?_
          refine pw_aload_n C dX5_wouldArrive_54 rfl ?_
          refine pw_getE C dX5_wouldArrive_55 fl_X5_284 rfl hR4.k (hR4.n 1 (by omega)) ?_
          refine pw_iload_n C dX5_wouldArrive_58 rfl ?_
          refine pw_iload_n C dX5_wouldArrive_59 rfl ?_
          refine pw_iconst C dX5_wouldArrive_60 ?_
          refine pw_cVU C hX dX5_wouldArrive_61 ml_X5_324 mc_X1_enqueue (c_X1_enqueue hZ2 (hA.li l (by omega)) (t := (A 0 0 1)) (kd := k) (wd := w) (hd := 0) (by omega)) kc_4 hZ2.k rfl rfl ⟨Nat.le_of_ble_eq_true rfl, Nat.le_of_ble_eq_true rfl⟩ (Nat.le_of_ble_eq_true rfl) ⟨Nat.le_of_ble_eq_true rfl, Nat.le_of_ble_eq_true rfl⟩ (fun G M6 hq_ => ?_)
          obtain ⟨rfl, hZ7, o8⟩ := hq_
          have hB9 := enq_LB (t := (A 0 0 1)) (kd := k) (wd := w) (hd := 0) (hA.li l (by omega)) (by omega) (by omega) (by omega) (by omega)
          have hR10 := hR4.uZ hZ7 (o8.mono (by omega) (by omega))
          have hO11 := hO5.tr (o8.mono (by omega) (by omega))
          refine pw_aload_n C dX5_wouldArrive_64 rfl ?_
          refine pw_getR C dX5_wouldArrive_65 fl_X5_44 hR10.k rfl hR10.r5 ?_
          refine pw_aload_n C dX5_wouldArrive_68 rfl ?_
          refine pw_getE C dX5_wouldArrive_69 fl_X5_284 rfl hR10.k (hR10.n 1 (by omega)) ?_
          refine pw_aload_n C dX5_wouldArrive_72 rfl ?_
          refine pw_getE C dX5_wouldArrive_73 fl_X5_123 rfl hR10.k (hR10.n 3 (by omega)) ?_
          refine pw_cVI C hX dX5_wouldArrive_76 ml_X5_319 mc_X1_runUntilHad (c_X1_runUntilHad hZ7 hB9 (t := (A 0 0 1)) (u := (A 0 0 3)) (by omega) (by omega)) kc_4 hZ7.k rfl rfl ⟨Nat.le_of_ble_eq_true rfl, Nat.le_of_ble_eq_true rfl⟩ (Nat.le_of_ble_eq_true rfl) ⟨Nat.le_of_ble_eq_true rfl, Nat.le_of_ble_eq_true rfl⟩ (fun r_ G M12 hq_ => ?_)
          obtain ⟨rfl, rfl, o14, Z15, hZ13⟩ := hq_
          have hR16 := hR10.uZ hZ13 (o14.mono (by omega) (by omega))
          have hO17 := hO11.tr (o14.mono (by omega) (by omega))
          exact pw_iret C hR dX5_wouldArrive_79 (⟨_, rfl, rfl, rfl, hR16, hO17⟩) (by omega) (by omega)
        · skip
          exfalso; omega

