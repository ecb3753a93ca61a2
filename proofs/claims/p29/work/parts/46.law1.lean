set_option maxHeartbeats 4000000 in
set_option maxRecDepth 100000 in
theorem c_below {X : Xv} {G M : Mm} {x n : Int} (hn : 1 ≤ n ∧ n ≤ 100000) : CT X yL_below method_2_code 2 (some .int) 0 0 0 0 [vI x, vI n] G M (PE G M (bw x n)) := by
  refine CT.by (by decide +kernel) [1, 1] ⟨cat_vI _, cat_vI _, trivial⟩ (Nat.le_of_ble_eq_true rfl) (fun E hX C hR hIni => ?_)
  refine pw_iload_n C dL_below_0 rfl ?_
  refine pw_ldc (v := Int32.ofInt 2147483647) C dL_below_1 (List.mem_of_getElem? (i := 614) (by decide +kernel)) ?_
  refine pw_iand C dL_below_3 ?_
  refine pw_iload_n C dL_below_4 rfl ?_
  refine pw_irem C dL_below_5 (i32_ne0 (by omega)) ?_
  refine pw_top (v' := vI (bw x n)) bw_v ?_
  exact pw_iretE C hR dL_below_6 rfl rfl (rfl) (Nat.zero_le _) (Nat.zero_le _)

set_option maxHeartbeats 4000000 in
set_option maxRecDepth 100000 in
theorem c_cell {X : Xv} {G M : Mm} {sb i : Int} (hsb : scB X = sb) (hi : 0 ≤ i ∧ i ≤ 1000) : CT X yL_cell method_3_code 2 (some .int) 0 0 0 0 [vR sb, vI i] G M (PI (fun r G1 M1 => (-2147483648 ≤ r ∧ r ≤ 2147483647) ∧ G1 = G ∧ M1 = M)) := by
  refine CT.by (by decide +kernel) [1, 1] ⟨cat_vR _, cat_vI _, trivial⟩ (Nat.le_of_ble_eq_true rfl) (fun E hX C hR hIni => ?_)
  refine pw_iload_n C dL_cell_0 rfl ?_
  refine pw_aload_n C dL_cell_1 rfl ?_
  refine pw_scl C hX hsb dL_cell_2 (fun hL => ?_)
  refine pw_icmp_ge (tgt := 12) C dL_cell_3 (by decide) (by omega) (fun c_3 => ?_) (fun c_3 => ?_)
  · skip
    refine pw_ldc (v := Int32.ofInt 790386105) C dL_cell_12 (List.mem_of_getElem? (i := 618) (by decide +kernel)) ?_
    refine pw_iload_n C dL_cell_14 rfl ?_
    refine pw_iconst C dL_cell_15 ?_
    refine pw_iadd C dL_cell_16 ?_
    refine pw_imul C dL_cell_17 ?_
    refine pw_top (v' := vI (Int32.ofInt (790386105 * (i + 3))).toInt) (by show Value.int _ = Value.int (Int32.ofInt (Int32.toInt _)); rw [i32_of]) ?_
    exact pw_iret C hR dL_cell_18 (⟨_, rfl, ⟨Int32.le_toInt _, by have := Int32.toInt_lt (Int32.ofInt (790386105 * (i + 3))); omega⟩, rfl, rfl⟩) (by omega) (by omega)
  · skip
    refine pw_aload_n C dL_cell_6 rfl ?_
    refine pw_iload_n C dL_cell_7 rfl ?_
    refine pw_scr C hX hsb dL_cell_8 (by omega) (by omega) (fun r hr => ?_)
    refine pw_goto (tgt := 18) C dL_cell_9 (by decide) ?_
    exact pw_iret C hR dL_cell_18 (⟨_, rfl, hr, rfl, rfl⟩) (by omega) (by omega)

set_option maxHeartbeats 4000000 in
set_option maxRecDepth 100000 in
theorem c_isNeeded {X : Xv} {G M : Mm} {B : Int} {A : An} (hR0 : RC G M B A) (hA : AB A) {f v : Int} (hI : Inv A) (h0 : A 0 0 0 = 2) (hc : A 10 2 0 = 6) (hf9 : 0 ≤ f ∧ f < 4) (hv9 : 0 ≤ v ∧ v < 4) : CT X yL_isNeeded method_8_code 5 (some .boolean) 5 124 0 0 [vR B, vI f, vI v] G M (PI (fun r G1 M1 => r = 1 ∧ G1 = G)) := by
  refine CT.by (by decide +kernel) [1, 1, 1] ⟨cat_vR _, cat_vI _, cat_vI _, trivial⟩ (Nat.le_of_ble_eq_true rfl) (fun E hX C hR hIni => ?_)
  have hn := hA.n
  have hnS := hA.so.c
  refine pw_aload_n C dL_isNeeded_0 rfl ?_
  refine pw_iconst C dL_isNeeded_1 ?_
  refine pw_iload_n C dL_isNeeded_2 rfl ?_
  refine pw_iload_n C dL_isNeeded_3 rfl ?_
  refine pw_iconst C dL_isNeeded_4 ?_
  refine pw_cVI C hX dL_isNeeded_5 ml_L_108 mc_X5_needs (c_needs hR0 hA (s := 0) (f := f) (v := v) (w := 2) (by omega) (by omega) (by omega) (by omega) (by omega)) kc_8 hR0.k rfl rfl ⟨Nat.le_of_ble_eq_true rfl, Nat.le_of_ble_eq_true rfl⟩ (Nat.le_of_ble_eq_true rfl) ⟨Nat.le_of_ble_eq_true rfl, Nat.le_of_ble_eq_true rfl⟩ (fun r_ G M1 hq_ => ?_)
  obtain ⟨rfl, rfl, hR2, o3⟩ := hq_
  obtain ⟨nd, hnd⟩ : ∃ w, w = nee (A 10) (A (100 + (0 * 4 + f))) v 2 := ⟨_, rfl⟩
  rw [← hnd]
  have bnd := nee_bd (S := A 10) (F := A (100 + (0 * 4 + f))) (v := v) (w := 2)
  rw [← hnd] at bnd
  refine pw_istore_n C dL_isNeeded_8 (Nat.le_of_ble_eq_true rfl) rfl ?_
  refine pw_iconst C dL_isNeeded_9 ?_
  refine pw_istore C dL_isNeeded_10 (Nat.le_of_ble_eq_true rfl) rfl ?_
  suffices K_12 : ∀ (nn_12 : Nat) (k : Int) (Ac : An) (Mc : Mm), (0 ≤ k ∧ k ≤ 4) → (RC G Mc B Ac) → (Inv Ac) → (Ac 0 0 0 = 2) → (Ac 10 2 0 = 6 + k) → (∀ j, 0 ≤ j → j < k → ¬ nd = j) → (∀ j, neP (Ac 10) (Ac (100 + (0 * 4 + f))) v 2 j ↔ neP (A 10) (A (100 + (0 * 4 + f))) v 2 (k + j)) → 4 - k < (nn_12 : Int) → PW E G Mc 0 0 12 [(0, 1, vR B), (1, 1, vI f), (2, 1, vI v), (3, 1, vI nd), (4, 1, vI k)] [] from pw_locs (by exact ⟨rfl, cat_vR _, rfl, rfl, rfl, rfl, rfl, rfl, rfl, rfl, trivial⟩) (K_12 (4 - 0 + 1 : Int).toNat 0 A M1 (by omega) (by first | exact hR2 | omega) (by first | exact hI | omega) (by first | exact h0 | omega) (by omega) (by first | exact fun j q1 q2 => by omega | omega) (by first | exact fun j => by rw [Int.zero_add] | omega) (by omega))
  intro nn_12
  induction nn_12 with
  | zero => intro k Ac Mc h1 hRc hIc hc0 hcc hnk hP h_m12; exact absurd h_m12 (by omega)
  | succ nn_12 ih_12 =>
    intro k Ac Mc h1 hRc hIc hc0 hcc hnk hP h_m12
    have hAc := hIc.1
    have hnc := hAc.n
    have hnS := hAc.so.c
    have fs := hIc.2.1.wf hAc (0 * 4 + f) (by omega) (by omega)
    obtain ⟨T, hT⟩ : ∃ T, T = oFa Ac 0 f 0 := ⟨_, rfl⟩
    have bT : -1 ≤ T ∧ T ≤ 99 := by rw [hT]; exact (hAc.fa (0 * 4 + f) (by omega)).s0
    have hk : (T = v ↔ nd = k) := by
      have e1 : oFa Ac 0 f 0 = tru (Ac 10) (Ac (100 + (0 * 4 + f))) := fs.1.1
      rw [hT, e1, ← neP_0 (w := 2) hAc.so (by omega), hP 0, Int.add_zero, hnd]
      exact (nee_eq (by omega) (fun j q1 q2 q3 => hnk j q1 q2 (hnd.trans q3))).symm
    refine pw_iload C dL_isNeeded_12 rfl ?_
    refine pw_iconst C dL_isNeeded_14 ?_
    refine pw_icmp_ge (tgt := 95) C dL_isNeeded_15 (by decide) (by omega) (fun c_15 => ?_) (fun c_15 => ?_)
    · skip
      have n0 := hnk 0 (by omega) (by omega)
      have n1 := hnk 1 (by omega) (by omega)
      have n2 := hnk 2 (by omega) (by omega)
      have n3 := hnk 3 (by omega) (by omega)
      refine pw_iload_n C dL_isNeeded_95 rfl ?_
      refine pw_if_lt (tgt := 104) C dL_isNeeded_96 (by decide) (by omega) (fun c_96 => ?_) (fun c_96 => ?_)
      · skip
        refine pw_iconst C dL_isNeeded_104 ?_
        refine pw_goto (tgt := 109) C dL_isNeeded_105 (by decide) ?_
        exact pw_zret C hR dL_isNeeded_109 (by omega) (⟨_, rfl, rfl, rfl⟩) (by omega) (by omega)
      · skip
        refine pw_iload_n C dL_isNeeded_99 rfl ?_
        refine pw_iconst C dL_isNeeded_100 ?_
        refine pw_icmp_le (tgt := 108) C dL_isNeeded_101 (by decide) (by omega) (fun c_101 => ?_) (fun c_101 => ?_)
        · exact absurd c_101 (by omega)
        refine pw_iconst C dL_isNeeded_104 ?_
        refine pw_goto (tgt := 109) C dL_isNeeded_105 (by decide) ?_
        exact pw_zret C hR dL_isNeeded_109 (by omega) (⟨_, rfl, rfl, rfl⟩) (by omega) (by omega)
    · skip
      refine pw_aload_n C dL_isNeeded_18 rfl ?_
      refine pw_iconst C dL_isNeeded_19 ?_
      refine pw_iload_n C dL_isNeeded_20 rfl ?_
      refine pw_iconst C dL_isNeeded_21 ?_
      refine pw_cVE C hX dL_isNeeded_22 ml_L_42 mc_X5_ofFact (c_ofFact hRc hAc (s := 0) (f := f) (w := 0) (by omega) (by omega) (by omega) (by omega)) kc_8 hRc.k rfl rfl ⟨Nat.le_of_ble_eq_true rfl, Nat.le_of_ble_eq_true rfl⟩ (Nat.le_of_ble_eq_true rfl) ⟨Nat.le_of_ble_eq_true rfl, Nat.le_of_ble_eq_true rfl⟩ ?_
      rw [← hT]
      refine pw_iload_n C dL_isNeeded_25 rfl ?_
      refine pw_icmp_ne (tgt := 33) C dL_isNeeded_26 (by decide) (by omega) (fun c_26 => ?_) (fun c_26 => ?_)
      · skip
        refine pw_iconst C dL_isNeeded_33 ?_
        refine pw_iload_n C dL_isNeeded_34 rfl ?_
        refine pw_iload C dL_isNeeded_35 rfl ?_
        refine pw_icmp_ne (tgt := 44) C dL_isNeeded_37 (by decide) (by omega) (fun c_37 => ?_) (fun c_37 => ?_)
        · skip
          refine pw_iconst C dL_isNeeded_44 ?_
          refine pw_icmp_eq (tgt := 50) C dL_isNeeded_45 (by decide) (by omega) (fun c_45 => ?_) (fun c_45 => ?_)
          rotate_left
          · exact absurd c_45 (by omega)
          refine pw_iload_n C dL_isNeeded_50 rfl ?_
          refine pw_iload C dL_isNeeded_51 rfl ?_
          refine pw_icmp_ne (tgt := 58) C dL_isNeeded_53 (by decide) (by omega) (fun c_53 => ?_) (fun c_53 => ?_)
          · skip
            refine pw_aload_n C dL_isNeeded_58 rfl ?_
            refine pw_iconst C dL_isNeeded_59 ?_
            refine pw_iconst C dL_isNeeded_60 ?_
            refine pw_cVI C hX dL_isNeeded_61 ml_L_22 mc_X5_source (c_source hRc hAc (wt := 2) (of_ := (-1)) (by omega) (by omega)  (by omega)) kc_8 hRc.k rfl rfl ⟨Nat.le_of_ble_eq_true rfl, Nat.le_of_ble_eq_true rfl⟩ (Nat.le_of_ble_eq_true rfl) ⟨Nat.le_of_ble_eq_true rfl, Nat.le_of_ble_eq_true rfl⟩ (fun r_ G M5 hq_ => ?_)
            obtain ⟨rfl, rfl, hR6, o7⟩ := hq_
            obtain ⟨A8, eA9⟩ : ∃ w, w = aSrc Ac 2 (-1) := ⟨_, rfl⟩
            rw [← eA9] at hR6
            have hI1 : Inv A8 := by rw [eA9]; exact hIc.src (by omega) (by omega) (Or.inl rfl)
            have z1 : A8 0 = Ac 0 := by rw [eA9]; exact aup_n (by omega)
            have y1 : A8 10 = sAdd (Ac 10) 2 (-1) := by rw [eA9]; exact aup_s _ _ _
            have c1 : A8 10 2 0 = 6 + k + 1 := by rw [y1, sAdd_2, hcc]
            have f1 : A8 (100 + (0 * 4 + f)) = Ac (100 + (0 * 4 + f)) := by rw [eA9]; exact aup_n (by omega)
            have z10 : A8 0 0 0 = 2 := by rw [z1]; exact hc0
            refine pw_bipush C dL_isNeeded_64 rfl ?_
            refine pw_iload C dL_isNeeded_66 rfl ?_
            refine pw_iadd C dL_isNeeded_68 ?_
            refine pw_icmp_ne (tgt := 87) C dL_isNeeded_69 (by decide) (by omega) (fun c_69 => ?_) (fun c_69 => ?_)
            · exact absurd c_69 (by omega)
            refine pw_aload_n C dL_isNeeded_72 rfl ?_
            refine pw_bipush C dL_isNeeded_73 rfl ?_
            refine pw_iload C dL_isNeeded_75 rfl ?_
            refine pw_iadd C dL_isNeeded_77 ?_
            refine pw_iconst C dL_isNeeded_78 ?_
            refine pw_iload_n C dL_isNeeded_79 rfl ?_
            refine pw_iload_n C dL_isNeeded_80 rfl ?_
            refine pw_cVI C hX dL_isNeeded_81 ml_L_34 mc_X5_report (c_report hR6 hI1.1 (so := (6 + k)) (s := 0) (f := f) (v := v) (by omega) (by omega) (by omega) (by omega)  (by omega)) kc_8 hR6.k rfl rfl ⟨Nat.le_of_ble_eq_true rfl, Nat.le_of_ble_eq_true rfl⟩ (Nat.le_of_ble_eq_true rfl) ⟨Nat.le_of_ble_eq_true rfl, Nat.le_of_ble_eq_true rfl⟩ (fun r_ G M10 hq_ => ?_)
            obtain ⟨rfl, rfl, hR11, o12⟩ := hq_
            obtain ⟨A13, eA14⟩ : ∃ w, w = aSay A8 (6 + k) (0 * 4 + f) v := ⟨_, rfl⟩
            rw [← eA14] at hR11
            have hI2 : Inv A13 := by rw [eA14]; exact hI1.say (by omega) (by omega) (by omega)
            have z2 : A13 0 = A8 0 := by rw [eA14]; exact say_o (by omega)
            have y2 : A13 10 = A8 10 := by rw [eA14]; exact say_o (by omega)
            have f2 : A13 (100 + (0 * 4 + f)) = setl (A8 10) (lup (A8 (100 + (0 * 4 + f))) 0 (6 + k) v) := by rw [eA14]; exact say_i
            have bp := pG_bd (S := A8 10) (F := lup (A8 (100 + (0 * 4 + f))) 0 (6 + k) v) (v := v)
            refine pw_if_ge (tgt := 89) C dL_isNeeded_84 (by decide) (by omega) (fun c_84 => ?_) (fun c_84 => ?_)
            rotate_left
            · exact absurd c_84 (by omega)
            refine pw_iinc C dL_isNeeded_89 rfl (Nat.le_of_ble_eq_true rfl) rfl ?_
            refine pw_goto (tgt := 12) C dL_isNeeded_92 (by decide) ?_
            exact pw_locs (by exact ⟨rfl, cat_vR _, rfl, rfl, rfl, rfl, rfl, rfl, rfl, rfl, trivial⟩) (ih_12 (k + 1) A13 M10 (by omega) (hR11) (hI2) (by rw [z2]; exact z10) (by rw [y2, c1]; omega) (fun j q1 q2 => by (by_cases e : j = k; (rw [e]; exact c_53); exact hnk j q1 (by omega))) (fun j => by rw [y2, f2, y1, f1, m1_neP hAc.so (fun t => by rw [setl_0, lup_c, hcc]; (by_cases e : t = 6 + k; (rw [if_pos ⟨rfl, e⟩, if_pos e]); (rw [if_neg (fun q => e q.2), if_neg e]))) j, hP (j + 1), show k + (j + 1) = k + 1 + j by omega]) (by omega))
          · skip
            refine pw_iconst C dL_isNeeded_56 ?_
            exact pw_zret C hR dL_isNeeded_57 (by omega) (⟨_, rfl, rfl, rfl⟩) (by omega) (by omega)
        · skip
          refine pw_iconst C dL_isNeeded_40 ?_
          refine pw_goto (tgt := 45) C dL_isNeeded_41 (by decide) ?_
          refine pw_icmp_eq (tgt := 50) C dL_isNeeded_45 (by decide) (by omega) (fun c_45 => ?_) (fun c_45 => ?_)
          · exact absurd c_45 (by omega)
          exfalso; omega
      · skip
        refine pw_iconst C dL_isNeeded_29 ?_
        refine pw_goto (tgt := 34) C dL_isNeeded_30 (by decide) ?_
        refine pw_iload_n C dL_isNeeded_34 rfl ?_
        refine pw_iload C dL_isNeeded_35 rfl ?_
        refine pw_icmp_ne (tgt := 44) C dL_isNeeded_37 (by decide) (by omega) (fun c_37 => ?_) (fun c_37 => ?_)
        · skip
          refine pw_iconst C dL_isNeeded_44 ?_
          refine pw_icmp_eq (tgt := 50) C dL_isNeeded_45 (by decide) (by omega) (fun c_45 => ?_) (fun c_45 => ?_)
          · exact absurd c_45 (by omega)
          exfalso; omega
        · skip
          refine pw_iconst C dL_isNeeded_40 ?_
          refine pw_goto (tgt := 45) C dL_isNeeded_41 (by decide) ?_
          refine pw_icmp_eq (tgt := 50) C dL_isNeeded_45 (by decide) (by omega) (fun c_45 => ?_) (fun c_45 => ?_)
          rotate_left
          · exact absurd c_45 (by omega)
          refine pw_iload_n C dL_isNeeded_50 rfl ?_
          refine pw_iload C dL_isNeeded_51 rfl ?_
          refine pw_icmp_ne (tgt := 58) C dL_isNeeded_53 (by decide) (by omega) (fun c_53 => ?_) (fun c_53 => ?_)
          · skip
            refine pw_aload_n C dL_isNeeded_58 rfl ?_
            refine pw_iconst C dL_isNeeded_59 ?_
            refine pw_iconst C dL_isNeeded_60 ?_
            refine pw_cVI C hX dL_isNeeded_61 ml_L_22 mc_X5_source (c_source hRc hAc (wt := 2) (of_ := (-1)) (by omega) (by omega)  (by omega)) kc_8 hRc.k rfl rfl ⟨Nat.le_of_ble_eq_true rfl, Nat.le_of_ble_eq_true rfl⟩ (Nat.le_of_ble_eq_true rfl) ⟨Nat.le_of_ble_eq_true rfl, Nat.le_of_ble_eq_true rfl⟩ (fun r_ G M15 hq_ => ?_)
            obtain ⟨rfl, rfl, hR16, o17⟩ := hq_
            obtain ⟨A18, eA19⟩ : ∃ w, w = aSrc Ac 2 (-1) := ⟨_, rfl⟩
            rw [← eA19] at hR16
            have hI1 : Inv A18 := by rw [eA19]; exact hIc.src (by omega) (by omega) (Or.inl rfl)
            have z1 : A18 0 = Ac 0 := by rw [eA19]; exact aup_n (by omega)
            have y1 : A18 10 = sAdd (Ac 10) 2 (-1) := by rw [eA19]; exact aup_s _ _ _
            have c1 : A18 10 2 0 = 6 + k + 1 := by rw [y1, sAdd_2, hcc]
            have f1 : A18 (100 + (0 * 4 + f)) = Ac (100 + (0 * 4 + f)) := by rw [eA19]; exact aup_n (by omega)
            have z10 : A18 0 0 0 = 2 := by rw [z1]; exact hc0
            refine pw_bipush C dL_isNeeded_64 rfl ?_
            refine pw_iload C dL_isNeeded_66 rfl ?_
            refine pw_iadd C dL_isNeeded_68 ?_
            refine pw_icmp_ne (tgt := 87) C dL_isNeeded_69 (by decide) (by omega) (fun c_69 => ?_) (fun c_69 => ?_)
            · exact absurd c_69 (by omega)
            refine pw_aload_n C dL_isNeeded_72 rfl ?_
            refine pw_bipush C dL_isNeeded_73 rfl ?_
            refine pw_iload C dL_isNeeded_75 rfl ?_
            refine pw_iadd C dL_isNeeded_77 ?_
            refine pw_iconst C dL_isNeeded_78 ?_
            refine pw_iload_n C dL_isNeeded_79 rfl ?_
            refine pw_iload_n C dL_isNeeded_80 rfl ?_
            refine pw_cVI C hX dL_isNeeded_81 ml_L_34 mc_X5_report (c_report hR16 hI1.1 (so := (6 + k)) (s := 0) (f := f) (v := v) (by omega) (by omega) (by omega) (by omega)  (by omega)) kc_8 hR16.k rfl rfl ⟨Nat.le_of_ble_eq_true rfl, Nat.le_of_ble_eq_true rfl⟩ (Nat.le_of_ble_eq_true rfl) ⟨Nat.le_of_ble_eq_true rfl, Nat.le_of_ble_eq_true rfl⟩ (fun r_ G M20 hq_ => ?_)
            obtain ⟨rfl, rfl, hR21, o22⟩ := hq_
            obtain ⟨A23, eA24⟩ : ∃ w, w = aSay A18 (6 + k) (0 * 4 + f) v := ⟨_, rfl⟩
            rw [← eA24] at hR21
            have hI2 : Inv A23 := by rw [eA24]; exact hI1.say (by omega) (by omega) (by omega)
            have z2 : A23 0 = A18 0 := by rw [eA24]; exact say_o (by omega)
            have y2 : A23 10 = A18 10 := by rw [eA24]; exact say_o (by omega)
            have f2 : A23 (100 + (0 * 4 + f)) = setl (A18 10) (lup (A18 (100 + (0 * 4 + f))) 0 (6 + k) v) := by rw [eA24]; exact say_i
            have bp := pG_bd (S := A18 10) (F := lup (A18 (100 + (0 * 4 + f))) 0 (6 + k) v) (v := v)
            refine pw_if_ge (tgt := 89) C dL_isNeeded_84 (by decide) (by omega) (fun c_84 => ?_) (fun c_84 => ?_)
            rotate_left
            · exact absurd c_84 (by omega)
            refine pw_iinc C dL_isNeeded_89 rfl (Nat.le_of_ble_eq_true rfl) rfl ?_
            refine pw_goto (tgt := 12) C dL_isNeeded_92 (by decide) ?_
            exact pw_locs (by exact ⟨rfl, cat_vR _, rfl, rfl, rfl, rfl, rfl, rfl, rfl, rfl, trivial⟩) (ih_12 (k + 1) A23 M20 (by omega) (hR21) (hI2) (by rw [z2]; exact z10) (by rw [y2, c1]; omega) (fun j q1 q2 => by (by_cases e : j = k; (rw [e]; exact c_53); exact hnk j q1 (by omega))) (fun j => by rw [y2, f2, y1, f1, m1_neP hAc.so (fun t => by rw [setl_0, lup_c, hcc]; (by_cases e : t = 6 + k; (rw [if_pos ⟨rfl, e⟩, if_pos e]); (rw [if_neg (fun q => e q.2), if_neg e]))) j, hP (j + 1), show k + (j + 1) = k + 1 + j by omega]) (by omega))
          · skip
            refine pw_iconst C dL_isNeeded_56 ?_
            exact pw_zret C hR dL_isNeeded_57 (by omega) (⟨_, rfl, rfl, rfl⟩) (by omega) (by omega)

