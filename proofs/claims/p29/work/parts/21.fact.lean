set_option maxHeartbeats 4000000 in
set_option maxRecDepth 100000 in
theorem c_X2_add {X : Xv} {G M : Mm} {b : Int} {S : Fn} (hS : SR G M b S) (hSB : SB S) {wt of_ : Int} (hc : S 2 0 < 10) (ho : of_ = -1 ∨ (0 ≤ of_ ∧ of_ < S 2 0)) : CT X yX2_add prog_4_method_2_code 4 (some .int) 0 0 0 0 [vR b, vI wt, vI of_] G M (PI (fun r G1 M1 => G1 = G ∧ r = S 2 0 ∧ SR G M1 b (lup (lup (lup S 2 0 (S 2 0 + 1)) 0 (S 2 0) wt) 1 (S 2 0) (if of_ = -1 then S 2 0 else S 1 of_)) ∧ Ot b (b + 2) M M1)) := by
  refine CT.by (by decide +kernel) [1, 1, 1] ⟨cat_vR _, cat_vI _, cat_vI _, trivial⟩ (Nat.le_of_ble_eq_true rfl) (fun E hX C hR hIni => ?_)
  have hO0 : Ot b (b + 2) M M := Ot.rf
  have bc := hSB.c
  refine pw_aload_n C dX2_add_0 rfl ?_
  refine pw_getE C dX2_add_1 fl_X2_18 rfl hS.k (hS.s 0 (by omega)) ?_
  refine pw_istore_n C dX2_add_4 (Nat.le_of_ble_eq_true rfl) rfl ?_
  refine pw_aload_n C dX2_add_5 rfl ?_
  refine pw_dup C dX2_add_6 (cat_vR _) ?_
  refine pw_getE C dX2_add_7 fl_X2_18 rfl hS.k (hS.s 0 (by omega)) ?_
  refine pw_iconst C dX2_add_10 ?_
  refine pw_iadd C dX2_add_11 ?_
  refine pw_putIG C dX2_add_12 fl_X2_18 (fun h => by cases h) rfl hS.k (fun M1 eM1 => ?_)
  have hS2 := hS.ws 0 (by omega) eM1
  have hO3 : Ot b (b + 2) M M1 := by rw [eM1]; exact hO0.u0 (by omega)
  clear eM1
  refine pw_aload_n C dX2_add_15 rfl ?_
  refine pw_getR C dX2_add_16 fl_X2_9 hS2.k rfl (hS2.r (b := (b + 1)) 0 (by omega)) ?_
  refine pw_iload_n C dX2_add_19 rfl ?_
  refine pw_iload_n C dX2_add_20 rfl ?_
  refine pw_iastG C dX2_add_21 (hS2.ai 0 (by omega)) (by omega) (fun M4 eM4 => ?_)
  have hS5 := hS2.wv 0 (by omega) eM4
  have hO6 : Ot b (b + 2) M M4 := by rw [eM4]; exact hO3.u1 (by omega)
  clear eM4
  refine pw_aload_n C dX2_add_22 rfl ?_
  refine pw_getR C dX2_add_23 fl_X2_15 hS5.k rfl (hS5.r (b := (b + 2)) 1 (by omega)) ?_
  refine pw_iload_n C dX2_add_26 rfl ?_
  refine pw_iload_n C dX2_add_27 rfl ?_
  refine pw_iconst C dX2_add_28 ?_
  refine pw_icmp_ne (tgt := 36) C dX2_add_29 (by decide) (by omega) (fun c_29 => ?_) (fun c_29 => ?_)
  · skip
    refine pw_aload_n C dX2_add_36 rfl ?_
    refine pw_getR C dX2_add_37 fl_X2_15 hS5.k rfl (hS5.r (b := (b + 2)) 1 (by omega)) ?_
    refine pw_iload_n C dX2_add_40 rfl ?_
    refine pw_ialdE C dX2_add_41 (hS5.ai 1 (by omega)) (by omega) ((hS5.v 1 (by omega)).trans (by rw [lup_n (by omega), lup_n (by omega)])) ?_
    refine pw_iastG C dX2_add_42 (hS5.ai 1 (by omega)) (by omega) (fun M7 eM7 => ?_)
    have hS8 := hS5.wv 1 (by omega) eM7
    have hO9 : Ot b (b + 2) M M7 := by rw [eM7]; exact hO6.u1 (by omega)
    clear eM7
    refine pw_iload_n C dX2_add_43 rfl ?_
    exact pw_iret C hR dX2_add_44 (⟨_, rfl, rfl, rfl, by first | (rw [if_pos (by assumption)]; exact hS8) | (rw [if_neg (by assumption)]; exact hS8), hO9⟩) (by omega) (by omega)
  · skip
    refine pw_iload_n C dX2_add_32 rfl ?_
    refine pw_goto (tgt := 42) C dX2_add_33 (by decide) ?_
    refine pw_iastG C dX2_add_42 (hS5.ai 1 (by omega)) (by omega) (fun M10 eM10 => ?_)
    have hS11 := hS5.wv 1 (by omega) eM10
    have hO12 : Ot b (b + 2) M M10 := by rw [eM10]; exact hO6.u1 (by omega)
    clear eM10
    refine pw_iload_n C dX2_add_43 rfl ?_
    exact pw_iret C hR dX2_add_44 (⟨_, rfl, rfl, rfl, by first | (rw [if_pos (by assumption)]; exact hS11) | (rw [if_neg (by assumption)]; exact hS11), hO12⟩) (by omega) (by omega)

set_option maxHeartbeats 4000000 in
set_option maxRecDepth 100000 in
theorem c_X4_addRoot {X : Xv} {G M : Mm} {a x : Int} {Y : Fn} (hY : YR G M a Y) (hx : 0 ≤ x ∧ x ≤ 3) : CT X yX4_addRoot prog_6_method_3_code 2 (none) 0 0 0 0 [vR a, vI x] G M (PU (fun G1 M1 => G1 = G ∧ ∃ Y1, YR G M1 a Y1 ∧ Ot a (a + 1) M M1 ∧ Y1 0 = Y 0 ∧ Y1 1 0 = Y 1 0 + 1 ∧ Y1 1 1 = (if x = 2 then Y 1 1 + 1 else Y 1 1) ∧ Y1 1 2 = (if x = 3 then Y 1 2 + 1 else Y 1 2) ∧ Y1 1 3 = Y 1 3 + x)) := by
  refine CT.by (by decide +kernel) [1, 1] ⟨cat_vR _, cat_vI _, trivial⟩ (Nat.le_of_ble_eq_true rfl) (fun E hX C hR hIni => ?_)
  have hO0 : Ot a (a + 1) M M := Ot.rf
  refine pw_aload_n C dX4_addRoot_0 rfl ?_
  refine pw_dup C dX4_addRoot_1 (cat_vR _) ?_
  refine pw_getE C dX4_addRoot_2 fl_X4_39 rfl hY.k (hY.s 0 (by omega)) ?_
  refine pw_iconst C dX4_addRoot_5 ?_
  refine pw_iadd C dX4_addRoot_6 ?_
  refine pw_putIG C dX4_addRoot_7 fl_X4_39 (fun h => by cases h) rfl hY.k (fun M1 eM1 => ?_)
  have hY2 := hY.ws 0 (by omega) eM1
  have hO3 : Ot a (a + 1) M M1 := by rw [eM1]; exact hO0.u0 (by omega)
  clear eM1
  refine pw_aload_n C dX4_addRoot_10 rfl ?_
  refine pw_dup C dX4_addRoot_11 (cat_vR _) ?_
  refine pw_getE C dX4_addRoot_12 fl_X4_48 rfl hY2.k ((hY2.s 3 (by omega)).trans (by rw [lup_n (by omega)])) ?_
  refine pw_iload_n C dX4_addRoot_15 rfl ?_
  refine pw_iadd C dX4_addRoot_16 ?_
  refine pw_putIG C dX4_addRoot_17 fl_X4_48 (fun h => by cases h) rfl hY2.k (fun M4 eM4 => ?_)
  have hY5 := hY2.ws 3 (by omega) eM4
  have hO6 : Ot a (a + 1) M M4 := by rw [eM4]; exact hO3.u0 (by omega)
  clear eM4
  refine pw_iload_n C dX4_addRoot_20 rfl ?_
  refine pw_iconst C dX4_addRoot_21 ?_
  refine pw_icmp_ne (tgt := 38) C dX4_addRoot_22 (by decide) (by omega) (fun c_22 => ?_) (fun c_22 => ?_)
  · skip
    refine pw_iload_n C dX4_addRoot_38 rfl ?_
    refine pw_iconst C dX4_addRoot_39 ?_
    refine pw_icmp_ne (tgt := 53) C dX4_addRoot_40 (by decide) (by omega) (fun c_40 => ?_) (fun c_40 => ?_)
    · skip
      exact pw_vret C hR dX4_addRoot_53 (⟨rfl, rfl, _, hY5, hO6, by funext t; simp [lup], by simp [lup], by simp [lup]; try omega, by simp [lup]; try omega, by simp [lup]⟩) (by omega) (by omega)
    · skip
      refine pw_aload_n C dX4_addRoot_43 rfl ?_
      refine pw_dup C dX4_addRoot_44 (cat_vR _) ?_
      refine pw_getE C dX4_addRoot_45 fl_X4_42 rfl hY5.k ((hY5.s 1 (by omega)).trans (by rw [lup_n (by omega), lup_n (by omega)])) ?_
      refine pw_iconst C dX4_addRoot_48 ?_
      refine pw_iadd C dX4_addRoot_49 ?_
      refine pw_putIG C dX4_addRoot_50 fl_X4_42 (fun h => by cases h) rfl hY5.k (fun M7 eM7 => ?_)
      have hY8 := hY5.ws 1 (by omega) eM7
      have hO9 : Ot a (a + 1) M M7 := by rw [eM7]; exact hO6.u0 (by omega)
      clear eM7
      exact pw_vret C hR dX4_addRoot_53 (⟨rfl, rfl, _, hY8, hO9, by funext t; simp [lup], by simp [lup], by simp [lup]; try omega, by simp [lup]; try omega, by simp [lup]⟩) (by omega) (by omega)
  · skip
    refine pw_aload_n C dX4_addRoot_25 rfl ?_
    refine pw_dup C dX4_addRoot_26 (cat_vR _) ?_
    refine pw_getE C dX4_addRoot_27 fl_X4_45 rfl hY5.k ((hY5.s 2 (by omega)).trans (by rw [lup_n (by omega), lup_n (by omega)])) ?_
    refine pw_iconst C dX4_addRoot_30 ?_
    refine pw_iadd C dX4_addRoot_31 ?_
    refine pw_putIG C dX4_addRoot_32 fl_X4_45 (fun h => by cases h) rfl hY5.k (fun M10 eM10 => ?_)
    have hY11 := hY5.ws 2 (by omega) eM10
    have hO12 : Ot a (a + 1) M M10 := by rw [eM10]; exact hO6.u0 (by omega)
    clear eM10
    refine pw_goto (tgt := 53) C dX4_addRoot_35 (by decide) ?_
    exact pw_vret C hR dX4_addRoot_53 (⟨rfl, rfl, _, hY11, hO12, by funext t; simp [lup], by simp [lup], by simp [lup]; try omega, by simp [lup]; try omega, by simp [lup]⟩) (by omega) (by omega)

set_option maxHeartbeats 4000000 in
set_option maxRecDepth 100000 in
theorem c_X4_proofGrade {X : Xv} {G M : Mm} {a : Int} {Y : Fn} (hY : YR G M a Y) (h0 : 0 ≤ Y 1 0 ∧ Y 1 0 ≤ 100) (h1 : 0 ≤ Y 1 1 ∧ Y 1 1 ≤ 100) (h2 : 0 ≤ Y 1 2 ∧ Y 1 2 ≤ 100) : CT X yX4_proofGrade prog_6_method_4_code 1 (some .int) 0 0 0 0 [vR a] G M (PE G M (if 0 < Y 1 2 then 3 else if 2 ≤ Y 1 1 then 2 else if 3 ≤ Y 1 0 then 1 else 0)) := by
  refine CT.by (by decide +kernel) [1] ⟨cat_vR _, trivial⟩ (Nat.le_of_ble_eq_true rfl) (fun E hX C hR hIni => ?_)
  refine pw_aload_n C dX4_proofGrade_0 rfl ?_
  refine pw_getE C dX4_proofGrade_1 fl_X4_45 rfl hY.k (hY.s 2 (by omega)) ?_
  refine pw_if_le (tgt := 9) C dX4_proofGrade_4 (by decide) (by omega) (fun c_4 => ?_) (fun c_4 => ?_)
  · skip
    refine pw_aload_n C dX4_proofGrade_9 rfl ?_
    refine pw_getE C dX4_proofGrade_10 fl_X4_42 rfl hY.k (hY.s 1 (by omega)) ?_
    refine pw_iconst C dX4_proofGrade_13 ?_
    refine pw_icmp_lt (tgt := 19) C dX4_proofGrade_14 (by decide) (by omega) (fun c_14 => ?_) (fun c_14 => ?_)
    · skip
      refine pw_aload_n C dX4_proofGrade_19 rfl ?_
      refine pw_getE C dX4_proofGrade_20 fl_X4_39 rfl hY.k (hY.s 0 (by omega)) ?_
      refine pw_iconst C dX4_proofGrade_23 ?_
      refine pw_icmp_lt (tgt := 31) C dX4_proofGrade_24 (by decide) (by omega) (fun c_24 => ?_) (fun c_24 => ?_)
      · skip
        refine pw_iconst C dX4_proofGrade_31 ?_
        exact pw_iretE C hR dX4_proofGrade_32 rfl rfl (by repeat' split <;> omega) (Nat.zero_le _) (Nat.zero_le _)
      · skip
        refine pw_iconst C dX4_proofGrade_27 ?_
        refine pw_goto (tgt := 32) C dX4_proofGrade_28 (by decide) ?_
        exact pw_iretE C hR dX4_proofGrade_32 rfl rfl (by repeat' split <;> omega) (Nat.zero_le _) (Nat.zero_le _)
    · skip
      refine pw_iconst C dX4_proofGrade_17 ?_
      exact pw_iretE C hR dX4_proofGrade_18 rfl rfl (by repeat' split <;> omega) (Nat.zero_le _) (Nat.zero_le _)
  · skip
    refine pw_iconst C dX4_proofGrade_7 ?_
    exact pw_iretE C hR dX4_proofGrade_8 rfl rfl (by repeat' split <;> omega) (Nat.zero_le _) (Nat.zero_le _)

set_option maxHeartbeats 4000000 in
set_option maxRecDepth 100000 in
theorem c_X4_weigh {X : Xv} {G M : Mm} {a b f v : Int} {Y S F : Fn} (hY : YR G M a Y) (hS : SR G M b S) (hSB : SB S) (hF : FR G M f F) (hFB : FB0 F) (hv : -2147483648 ≤ v ∧ v ≤ 2147483647) (d1 : a + 1 < b ∨ b + 2 < a) (d2 : a + 1 < f ∨ f + 1 < a) : CT X yX4_weigh prog_6_method_2_code 6 (none) 1 23 0 0 [vR a, vR b, vR (f + 1), vI v] G M (PU (fun G1 M1 => G1 = G ∧ ∃ Y1, YR G M1 a Y1 ∧ Ot a (a + 1) M M1 ∧ Y1 1 0 = tR S F v ∧ Y1 1 1 = tN S F v ∧ Y1 1 2 = tO S F v ∧ Y1 1 3 = tF S F v)) := by
  refine CT.by (by decide +kernel) [1, 1, 1, 1] ⟨cat_vR _, cat_vR _, cat_vR _, cat_vI _, trivial⟩ (Nat.le_of_ble_eq_true rfl) (fun E hX C hR hIni => ?_)
  have hO0 : Ot a (a + 1) M M := Ot.rf
  have bc := hSB.c
  refine pw_aload_n C dX4_weigh_0 rfl ?_
  refine pw_getR C dX4_weigh_1 fl_X4_9 hY.k rfl (hY.r (b := (a + 1)) 0 (by omega)) ?_
  refine pw_iconst C dX4_weigh_4 ?_
  refine pw_cSU C hX dX4_weigh_5 ml_X4_15 mc_J7_fill_53178 (c_fill (hY.ai (b := a + 1) 0 (by omega)) (by omega)) rfl rfl ⟨Nat.le_of_ble_eq_true rfl, Nat.le_of_ble_eq_true rfl⟩ (Nat.le_of_ble_eq_true rfl) ⟨Nat.le_of_ble_eq_true rfl, Nat.le_of_ble_eq_true rfl⟩ (fun G M1 hq_ => ?_)
  obtain ⟨rfl, eM1⟩ := hq_
  have hYa := hY.wf 0 (by omega) eM1
  have hO1 : Ot a (a + 1) M M1 := by rw [eM1]; exact hO0.fl (by omega)
  clear eM1
  have hS2 := hS.oM hO1 (by omega)
  have hF3 := hF.oM hO1 (by omega)
  refine pw_iconst C dX4_weigh_8 ?_
  refine pw_istore C dX4_weigh_9 (Nat.le_of_ble_eq_true rfl) rfl ?_
  suffices K_11 : ∀ (nn_11 : Nat) (i : Int) (Yc : Fn) (Mc : Mm), (0 ≤ i ∧ i ≤ S 2 0) → (YR G Mc a Yc) → (SR G Mc b S) → (FR G Mc f F) → (Ot a (a + 1) M Mc) → (∀ r, 0 ≤ Yc 0 r ∧ Yc 0 r ≤ 3) → (fr (wgS S F v) i (S 2 0) (Yc 0) = sR S F v) → S 2 0 - i < (nn_11 : Int) → PW E G Mc 0 0 11 [(0, 1, vR a), (1, 1, vR b), (2, 1, vR (f + 1)), (3, 1, vI v), (4, 1, vI i)] [] from pw_locs (by exact ⟨rfl, cat_vR _, rfl, cat_vR _, rfl, cat_vR _, rfl, rfl, rfl, rfl, trivial⟩) (K_11 (S 2 0 - 0 + 1 : Int).toNat 0 (rup Y 0 (fun _ => 0)) M1 (by omega) (by first | exact hYa | omega) (by first | exact hS2 | omega) (by first | exact hF3 | omega) (by first | exact hO1 | omega) (by first | exact fun r => by rw [rup_s]; omega | omega) (by first | exact by rw [show rup Y 0 (fun _ => 0) 0 = (fun _ => 0) from funext (fun t => rup_s _ _ _ _)]; rfl | omega) (by omega))
  intro nn_11
  induction nn_11 with
  | zero => intro i Yc Mc h1 hYc hSc hFc hO hb hf h_m11; exact absurd h_m11 (by omega)
  | succ nn_11 ih_11 =>
    intro i Yc Mc h1 hYc hSc hFc hO hb hf h_m11
    refine pw_iload C dX4_weigh_11 rfl ?_
    refine pw_aload_n C dX4_weigh_13 rfl ?_
    refine pw_getE C dX4_weigh_14 fl_X4_21 rfl hSc.k (hSc.s 0 (by omega)) ?_
    refine pw_icmp_ge (tgt := 67) C dX4_weigh_17 (by decide) (by omega) (fun c_17 => ?_) (fun c_17 => ?_)
    · skip
      refine pw_aload_n C dX4_weigh_67 rfl ?_
      refine pw_iconst C dX4_weigh_68 ?_
      refine pw_putIG C dX4_weigh_69 fl_X4_39 (fun h => by cases h) rfl hYc.k (fun M4 eM4 => ?_)
      have hY5 := hYc.ws 0 (by omega) eM4
      have hO6 : Ot a (a + 1) M M4 := by rw [eM4]; exact hO.u0 (by omega)
      clear eM4
      have hS7 := hS.oM hO6 (by omega)
      have hF8 := hF.oM hO6 (by omega)
      refine pw_aload_n C dX4_weigh_72 rfl ?_
      refine pw_iconst C dX4_weigh_73 ?_
      refine pw_putIG C dX4_weigh_74 fl_X4_42 (fun h => by cases h) rfl hY5.k (fun M9 eM9 => ?_)
      have hY10 := hY5.ws 1 (by omega) eM9
      have hO11 : Ot a (a + 1) M M9 := by rw [eM9]; exact hO6.u0 (by omega)
      clear eM9
      have hS12 := hS.oM hO11 (by omega)
      have hF13 := hF.oM hO11 (by omega)
      refine pw_aload_n C dX4_weigh_77 rfl ?_
      refine pw_iconst C dX4_weigh_78 ?_
      refine pw_putIG C dX4_weigh_79 fl_X4_45 (fun h => by cases h) rfl hY10.k (fun M14 eM14 => ?_)
      have hY15 := hY10.ws 2 (by omega) eM14
      have hO16 : Ot a (a + 1) M M14 := by rw [eM14]; exact hO11.u0 (by omega)
      clear eM14
      have hS17 := hS.oM hO16 (by omega)
      have hF18 := hF.oM hO16 (by omega)
      refine pw_aload_n C dX4_weigh_82 rfl ?_
      refine pw_iconst C dX4_weigh_83 ?_
      refine pw_putIG C dX4_weigh_84 fl_X4_48 (fun h => by cases h) rfl hY15.k (fun M19 eM19 => ?_)
      have hY20 := hY15.ws 3 (by omega) eM19
      have hO21 : Ot a (a + 1) M M19 := by rw [eM19]; exact hO16.u0 (by omega)
      clear eM19
      have hS22 := hS.oM hO21 (by omega)
      have hF23 := hF.oM hO21 (by omega)
      refine pw_iconst C dX4_weigh_87 ?_
      refine pw_istore C dX4_weigh_88 (Nat.le_of_ble_eq_true rfl) rfl ?_
      suffices K_90 : ∀ (nn_90 : Nat) (i : Int) (Yc : Fn) (Mc : Mm), (0 ≤ i ∧ i ≤ S 2 0) → (YR G Mc a Yc) → (SR G Mc b S) → (FR G Mc f F) → (Ot a (a + 1) M Mc) → (Yc 0 = sR S F v) → (fr (fun r c => if 0 < sR S F v r then c + 1 else c) i (S 2 0) (Yc 1 0) = tR S F v) → (fr (fun r c => if sR S F v r = 2 then c + 1 else c) i (S 2 0) (Yc 1 1) = tN S F v) → (fr (fun r c => if sR S F v r = 3 then c + 1 else c) i (S 2 0) (Yc 1 2) = tO S F v) → (fr (fun r c => if 0 < sR S F v r then c + sR S F v r else c) i (S 2 0) (Yc 1 3) = tF S F v) → S 2 0 - i < (nn_90 : Int) → PW E G Mc 0 0 90 [(0, 1, vR a), (1, 1, vR b), (2, 1, vR (f + 1)), (3, 1, vI v), (4, 1, vI i)] [] from pw_locs (by exact ⟨rfl, cat_vR _, rfl, cat_vR _, rfl, cat_vR _, rfl, rfl, rfl, rfl, trivial⟩) (K_90 (S 2 0 - 0 + 1 : Int).toNat 0 (lup (lup (lup (lup Yc 1 0 0) 1 1 0) 1 2 0) 1 3 0) M19 (by omega) (by first | exact hY20 | omega) (by first | exact hS22 | omega) (by first | exact hF23 | omega) (by first | exact hO21 | omega) (by first | exact by rw [← fr_done (by omega) hf]; funext t; simp [lup] | omega) (by first | exact by rw [show ((lup (lup (lup (lup Yc 1 0 0) 1 1 0) 1 2 0) 1 3 0)) 1 0 = 0 by simp [lup]]; rfl | omega) (by first | exact by rw [show ((lup (lup (lup (lup Yc 1 0 0) 1 1 0) 1 2 0) 1 3 0)) 1 1 = 0 by simp [lup]]; rfl | omega) (by first | exact by rw [show ((lup (lup (lup (lup Yc 1 0 0) 1 1 0) 1 2 0) 1 3 0)) 1 2 = 0 by simp [lup]]; rfl | omega) (by first | exact by rw [show ((lup (lup (lup (lup Yc 1 0 0) 1 1 0) 1 2 0) 1 3 0)) 1 3 = 0 by simp [lup]]; rfl | omega) (by omega))
      intro nn_90
      induction nn_90 with
      | zero => intro i Yc Mc h1 hYc hSc hFc hO hz f0 f1 f2 f3 h_m90; exact absurd h_m90 (by omega)
      | succ nn_90 ih_90 =>
        intro i Yc Mc h1 hYc hSc hFc hO hz f0 f1 f2 f3 h_m90
        have hbz := sR_bd (F := F) (v := v) hSB i
        have hz0 := congrFun hz i
        refine pw_iload C dX4_weigh_90 rfl ?_
        refine pw_aload_n C dX4_weigh_92 rfl ?_
        refine pw_getE C dX4_weigh_93 fl_X4_21 rfl hSc.k (hSc.s 0 (by omega)) ?_
        refine pw_icmp_ge (tgt := 126) C dX4_weigh_96 (by decide) (by omega) (fun c_96 => ?_) (fun c_96 => ?_)
        · skip
          exact pw_vret C hR dX4_weigh_126 (⟨rfl, rfl, Yc, hYc, hO, fr_done (by omega) f0, fr_done (by omega) f1, fr_done (by omega) f2, fr_done (by omega) f3⟩) (by omega) (by omega)
        · skip
          refine pw_aload_n C dX4_weigh_99 rfl ?_
          refine pw_getR C dX4_weigh_100 fl_X4_9 hYc.k rfl (hYc.r (b := (a + 1)) 0 (by omega)) ?_
          refine pw_iload C dX4_weigh_103 rfl ?_
          refine pw_ialdE C dX4_weigh_105 (hYc.ai 0 (by omega)) (by omega) (hYc.v 0 (by omega)) ?_
          refine pw_if_le (tgt := 120) C dX4_weigh_106 (by decide) (by omega) (fun c_106 => ?_) (fun c_106 => ?_)
          · skip
            refine pw_iinc C dX4_weigh_120 rfl (Nat.le_of_ble_eq_true rfl) rfl ?_
            refine pw_goto (tgt := 90) C dX4_weigh_123 (by decide) ?_
            exact pw_locs (by exact ⟨rfl, cat_vR _, rfl, cat_vR _, rfl, cat_vR _, rfl, rfl, rfl, rfl, trivial⟩) (ih_90 (i + 1) Yc Mc (by omega) (hYc) (hSc) (hFc) (hO) (hz) (fr_go (by omega) f0 (by (try dsimp only); (try rw [ey1]); repeat' split <;> omega)) (fr_go (by omega) f1 (by (try dsimp only); (try rw [ey2]); repeat' split <;> omega)) (fr_go (by omega) f2 (by (try dsimp only); (try rw [ey3]); repeat' split <;> omega)) (fr_go (by omega) f3 (by (try dsimp only); (try rw [ey4]); repeat' split <;> omega)) (by omega))
          · skip
            refine pw_aload_n C dX4_weigh_109 rfl ?_
            refine pw_aload_n C dX4_weigh_110 rfl ?_
            refine pw_getR C dX4_weigh_111 fl_X4_9 hYc.k rfl (hYc.r (b := (a + 1)) 0 (by omega)) ?_
            refine pw_iload C dX4_weigh_114 rfl ?_
            refine pw_ialdE C dX4_weigh_116 (hYc.ai 0 (by omega)) (by omega) (hYc.v 0 (by omega)) ?_
            refine pw_cVU C hX dX4_weigh_117 ml_X4_51 mc_X4_addRoot (c_X4_addRoot hYc (x := (Yc 0 i)) (by omega)) kc_7 hYc.k rfl rfl ⟨Nat.le_of_ble_eq_true rfl, Nat.le_of_ble_eq_true rfl⟩ (Nat.le_of_ble_eq_true rfl) ⟨Nat.le_of_ble_eq_true rfl, Nat.le_of_ble_eq_true rfl⟩ (fun G M24 hq_ => ?_)
            obtain ⟨rfl, Y28, hY25, o26, ey0, ey1, ey2, ey3, ey4⟩ := hq_
            have hO27 := hO.tr (o26.mono (by omega) (by omega))
            have hS29 := hS.oM hO27 (by omega)
            have hF30 := hF.oM hO27 (by omega)
            refine pw_iinc C dX4_weigh_120 rfl (Nat.le_of_ble_eq_true rfl) rfl ?_
            refine pw_goto (tgt := 90) C dX4_weigh_123 (by decide) ?_
            exact pw_locs (by exact ⟨rfl, cat_vR _, rfl, cat_vR _, rfl, cat_vR _, rfl, rfl, rfl, rfl, trivial⟩) (ih_90 (i + 1) Y28 M24 (by omega) (hY25) (hS29) (hF30) (hO27) (ey0.trans hz) (fr_go (by omega) f0 (by (try dsimp only); (try rw [ey1]); repeat' split <;> omega)) (fr_go (by omega) f1 (by (try dsimp only); (try rw [ey2]); repeat' split <;> omega)) (fr_go (by omega) f2 (by (try dsimp only); (try rw [ey3]); repeat' split <;> omega)) (fr_go (by omega) f3 (by (try dsimp only); (try rw [ey4]); repeat' split <;> omega)) (by omega))
    · skip
      refine pw_aload_n C dX4_weigh_20 rfl ?_
      refine pw_iload C dX4_weigh_21 rfl ?_
      refine pw_ialdE C dX4_weigh_23 (hFc.ai (b := f + 1) 0 (by omega)) (by omega) (hFc.v (b := f + 1) 0 (by omega)) ?_
      have b_23 := hFB.v0 i (by omega) (by omega)
      refine pw_iload_n C dX4_weigh_24 rfl ?_
      refine pw_icmp_ne (tgt := 61) C dX4_weigh_25 (by decide) (by omega) (fun c_25 => ?_) (fun c_25 => ?_)
      · skip
        refine pw_iinc C dX4_weigh_61 rfl (Nat.le_of_ble_eq_true rfl) rfl ?_
        refine pw_goto (tgt := 11) C dX4_weigh_64 (by decide) ?_
        exact pw_locs (by exact ⟨rfl, cat_vR _, rfl, cat_vR _, rfl, cat_vR _, rfl, rfl, rfl, rfl, trivial⟩) (ih_11 (i + 1) Yc Mc (by omega) (hYc) (hSc) (hFc) (hO) (hb) (fr_go (by omega) hf (by unfold wgS; rw [if_neg c_25])) (by omega))
      · skip
        refine pw_aload_n C dX4_weigh_28 rfl ?_
        refine pw_getR C dX4_weigh_29 fl_X4_27 hSc.k rfl (hSc.r (b := (b + 2)) 1 (by omega)) ?_
        refine pw_iload C dX4_weigh_32 rfl ?_
        refine pw_ialdE C dX4_weigh_34 (hSc.ai 1 (by omega)) (by omega) (hSc.v 1 (by omega)) ?_
        have bw := hSB.w i (by omega) (by omega)
        have br := hSB.r i (by omega) (by omega)
        refine pw_istore C dX4_weigh_35 (Nat.le_of_ble_eq_true rfl) rfl ?_
        refine pw_aload_n C dX4_weigh_37 rfl ?_
        refine pw_getR C dX4_weigh_38 fl_X4_9 hYc.k rfl (hYc.r (b := (a + 1)) 0 (by omega)) ?_
        refine pw_iload C dX4_weigh_41 rfl ?_
        refine pw_aload_n C dX4_weigh_43 rfl ?_
        refine pw_getR C dX4_weigh_44 fl_X4_9 hYc.k rfl (hYc.r (b := (a + 1)) 0 (by omega)) ?_
        refine pw_iload C dX4_weigh_47 rfl ?_
        refine pw_ialdE C dX4_weigh_49 (hYc.ai 0 (by omega)) (by omega) (hYc.v 0 (by omega)) ?_
        have bh := hb (S 1 i)
        refine pw_aload_n C dX4_weigh_50 rfl ?_
        refine pw_getR C dX4_weigh_51 fl_X4_30 hSc.k rfl (hSc.r (b := (b + 1)) 0 (by omega)) ?_
        refine pw_iload C dX4_weigh_54 rfl ?_
        refine pw_ialdE C dX4_weigh_56 (hSc.ai 0 (by omega)) (by omega) (hSc.v 0 (by omega)) ?_
        refine pw_max C dX4_weigh_57 (List.mem_of_getElem? (i := 431) (by decide +kernel)) (by omega) (by omega) ⟨Nat.le_of_ble_eq_true rfl, Nat.le_of_ble_eq_true rfl⟩ ⟨Nat.le_of_ble_eq_true rfl, Nat.le_of_ble_eq_true rfl⟩ ?_
        refine pw_iastG C dX4_weigh_60 (hYc.ai 0 (by omega)) (by omega) (fun M31 eM31 => ?_)
        have hY32 := hYc.wv 0 (by omega) eM31
        have hO33 : Ot a (a + 1) M M31 := by rw [eM31]; exact hO.u1 (by omega)
        clear eM31
        have hS34 := hS.oM hO33 (by omega)
        have hF35 := hF.oM hO33 (by omega)
        refine pw_iinc C dX4_weigh_61 rfl (Nat.le_of_ble_eq_true rfl) rfl ?_
        refine pw_goto (tgt := 11) C dX4_weigh_64 (by decide) ?_
        exact pw_locs (by exact ⟨rfl, cat_vR _, rfl, cat_vR _, rfl, cat_vR _, rfl, rfl, rfl, rfl, trivial⟩) (ih_11 (i + 1) (lup Yc 0 (S 1 i) (max (Yc 0 (S 1 i)) (S 0 i))) M31 (by omega) (hY32) (hS34) (hF35) (hO33) (fun r => by have q := hb r; rw [lup_c]; split <;> omega) (fr_go (by omega) hf (by unfold wgS; rw [if_pos c_25]; funext r; rw [lup_c]; by_cases hr : r = S 1 i <;> simp [hr])) (by omega))

set_option maxHeartbeats 4000000 in
set_option maxRecDepth 100000 in
theorem c_X0_strongest {X : Xv} {G M : Mm} {a b f z lo : Int} {Y S F : Fn} (hY : YR G M a Y) (hS : SR G M b S) (hSB : SB S) (hF : FR G M f F) (hFB : FB0 F) (hz : z = 0 ∨ z = 1) (hlo : -1 ≤ lo ∧ lo ≤ 99) (d1 : a + 1 < b ∨ b + 2 < a) (d2 : a + 1 < f ∨ f + 1 < a) (d3 : b + 2 < f ∨ f + 1 < b) : CT X yX0_strongest prog_2_method_3_code 10 (some .int) 2 48 0 0 [vR f, vR b, vR a, vI z, vI lo] G M (PI (fun r G1 M1 => G1 = G ∧ r = stC S F z lo ∧ (∃ Y1, YR G M1 a Y1) ∧ Ot a (a + 1) M M1)) := by
  refine CT.by (by decide +kernel) [1, 1, 1, 1, 1] ⟨cat_vR _, cat_vR _, cat_vR _, cat_vI _, cat_vI _, trivial⟩ (Nat.le_of_ble_eq_true rfl) (fun E hX C hR hIni => ?_)
  have hO0 : Ot a (a + 1) M M := Ot.rf
  have bc := hSB.c
  refine pw_iconst C dX0_strongest_0 ?_
  refine pw_istore C dX0_strongest_1 (Nat.le_of_ble_eq_true rfl) rfl ?_
  refine pw_iconst C dX0_strongest_3 ?_
  refine pw_istore C dX0_strongest_4 (Nat.le_of_ble_eq_true rfl) rfl ?_
  refine pw_iconst C dX0_strongest_6 ?_
  refine pw_istore C dX0_strongest_7 (Nat.le_of_ble_eq_true rfl) rfl ?_
  suffices K_9 : ∀ (nn_9 : Nat) (best bf s : Int) (Yc : Fn) (Mc : Mm), (0 ≤ s ∧ s ≤ S 2 0) → (-1 ≤ best ∧ best ≤ 99) → (0 ≤ bf ∧ bf ≤ 30) → (YR G Mc a Yc) → (SR G Mc b S) → (FR G Mc f F) → (Ot a (a + 1) M Mc) → (fr (stS S F z lo) s (S 2 0) (best, bf) = fr (stS S F z lo) 0 (S 2 0) (-1, 0)) → S 2 0 - s < (nn_9 : Int) → PW E G Mc 0 0 9 [(0, 1, vR f), (1, 1, vR b), (2, 1, vR a), (3, 1, vI z), (4, 1, vI lo), (5, 1, vI best), (6, 1, vI bf), (7, 1, vI s)] [] from pw_locs (by exact ⟨rfl, cat_vR _, rfl, cat_vR _, rfl, cat_vR _, rfl, rfl, rfl, rfl, rfl, rfl, rfl, rfl, rfl, rfl, trivial⟩) (K_9 (S 2 0 - 0 + 1 : Int).toNat (-1) 0 0 Y M (by omega) (by omega) (by omega) (by first | exact hY | omega) (by first | exact hS | omega) (by first | exact hF | omega) (by first | exact Ot.rf | omega) (by first | exact rfl | omega) (by omega))
  intro nn_9
  induction nn_9 with
  | zero => intro best bf s Yc Mc h1 h2 h3 hYc hSc hFc hO hf h_m9; exact absurd h_m9 (by omega)
  | succ nn_9 ih_9 =>
    intro best bf s Yc Mc h1 h2 h3 hYc hSc hFc hO hf h_m9
    refine pw_iload C dX0_strongest_9 rfl ?_
    refine pw_aload_n C dX0_strongest_11 rfl ?_
    refine pw_getE C dX0_strongest_12 fl_X0_47 rfl hSc.k (hSc.s 0 (by omega)) ?_
    refine pw_icmp_ge (tgt := 115) C dX0_strongest_15 (by decide) (by omega) (fun c_15 => ?_) (fun c_15 => ?_)
    · skip
      refine pw_iload C dX0_strongest_115 rfl ?_
      exact pw_iret C hR dX0_strongest_117 (⟨_, rfl, rfl, by unfold stC; rw [← fr_done (by omega) hf], ⟨Yc, hYc⟩, hO⟩) (by omega) (by omega)
    · skip
      refine pw_aload_n C dX0_strongest_18 rfl ?_
      refine pw_getR C dX0_strongest_19 fl_X0_9 hFc.k rfl (hFc.r (b := (f + 1)) 0 (by omega)) ?_
      refine pw_iload C dX0_strongest_22 rfl ?_
      refine pw_ialdE C dX0_strongest_24 (hFc.ai 0 (by omega)) (by omega) (hFc.v 0 (by omega)) ?_
      have b_24 := hFB.v0 s (by omega) (by omega)
      refine pw_istore C dX0_strongest_25 (Nat.le_of_ble_eq_true rfl) rfl ?_
      refine pw_iload C dX0_strongest_27 rfl ?_
      refine pw_iconst C dX0_strongest_29 ?_
      refine pw_icmp_eq (tgt := 109) C dX0_strongest_30 (by decide) (by omega) (fun c_30 => ?_) (fun c_30 => ?_)
      · skip
        refine pw_iinc C dX0_strongest_109 rfl (Nat.le_of_ble_eq_true rfl) rfl ?_
        refine pw_goto (tgt := 9) C dX0_strongest_112 (by decide) ?_
        exact pw_locs (by exact ⟨rfl, cat_vR _, rfl, cat_vR _, rfl, cat_vR _, rfl, rfl, rfl, rfl, rfl, rfl, rfl, rfl, rfl, rfl, trivial⟩) (ih_9 best bf (s + 1) Yc Mc (by omega) (by omega) (by omega) (hYc) (hSc) (hFc) (hO) (fr_go (by omega) hf (by unfold stS; (try dsimp only); first | (rw [if_neg (by omega)]) | (rw [if_pos (by omega)]))) (by omega))
      · skip
        refine pw_iload C dX0_strongest_33 rfl ?_
        refine pw_iload C dX0_strongest_35 rfl ?_
        refine pw_icmp_eq (tgt := 109) C dX0_strongest_37 (by decide) (by omega) (fun c_37 => ?_) (fun c_37 => ?_)
        · skip
          refine pw_iinc C dX0_strongest_109 rfl (Nat.le_of_ble_eq_true rfl) rfl ?_
          refine pw_goto (tgt := 9) C dX0_strongest_112 (by decide) ?_
          exact pw_locs (by exact ⟨rfl, cat_vR _, rfl, cat_vR _, rfl, cat_vR _, rfl, rfl, rfl, rfl, rfl, rfl, rfl, rfl, rfl, rfl, trivial⟩) (ih_9 best bf (s + 1) Yc Mc (by omega) (by omega) (by omega) (hYc) (hSc) (hFc) (hO) (fr_go (by omega) hf (by unfold stS; (try dsimp only); first | (rw [if_neg (by omega)]) | (rw [if_pos (by omega)]))) (by omega))
        · skip
          refine pw_aload_n C dX0_strongest_40 rfl ?_
          refine pw_aload_n C dX0_strongest_41 rfl ?_
          refine pw_aload_n C dX0_strongest_42 rfl ?_
          refine pw_getR C dX0_strongest_43 fl_X0_9 hFc.k rfl (hFc.r (b := (f + 1)) 0 (by omega)) ?_
          refine pw_iload C dX0_strongest_46 rfl ?_
          refine pw_cVU C hX dX0_strongest_48 ml_X0_38 mc_X4_weigh (c_X4_weigh hYc hSc hSB hFc hFB (v := (F 0 s)) (by omega) (by omega) (by omega)) kc_7 hYc.k rfl rfl ⟨Nat.le_of_ble_eq_true rfl, Nat.le_of_ble_eq_true rfl⟩ (Nat.le_of_ble_eq_true rfl) ⟨Nat.le_of_ble_eq_true rfl, Nat.le_of_ble_eq_true rfl⟩ (fun G M1 hq_ => ?_)
          obtain ⟨rfl, Y4, hY2, o3, ew5, ew6, ew7, ew8⟩ := hq_
          have bt := t_bd (F := F) (v := (F 0 s)) hSB
          have hS10 := hSc.oM o3 (by omega)
          have hF11 := hFc.oM o3 (by omega)
          have hO9 := hO.tr (o3.mono (by omega) (by omega))
          have epG : pG S F (F 0 s) = (if 0 < Y4 1 2 then 3 else if 2 ≤ Y4 1 1 then 2 else if 3 ≤ Y4 1 0 then 1 else 0) := by unfold pG; rw [ew5, ew6, ew7]
          have bpG := pG_bd (S := S) (F := F) (v := F 0 s)
          refine pw_aload_n C dX0_strongest_51 rfl ?_
          refine pw_getE C dX0_strongest_52 fl_X0_44 rfl hY2.k ((hY2.s 3 (by omega)).trans ew8) ?_
          refine pw_iload C dX0_strongest_55 rfl ?_
          refine pw_icmp_gt (tgt := 76) C dX0_strongest_57 (by decide) (by omega) (fun c_57 => ?_) (fun c_57 => ?_)
          · skip
            refine pw_iconst C dX0_strongest_76 ?_
            refine pw_goto (tgt := 81) C dX0_strongest_77 (by decide) ?_
            refine pw_istore C dX0_strongest_81 (Nat.le_of_ble_eq_true rfl) rfl ?_
            refine pw_iload C dX0_strongest_83 rfl ?_
            refine pw_ifL_eqn (tgt := 109) C dX0_strongest_85 (by decide) rfl ?_
            refine pw_iload_n C dX0_strongest_88 rfl ?_
            refine pw_if_eq (tgt := 99) C dX0_strongest_89 (by decide) (by omega) (fun c_89 => ?_) (fun c_89 => ?_)
            · skip
              refine pw_iload C dX0_strongest_99 rfl ?_
              refine pw_istore C dX0_strongest_101 (Nat.le_of_ble_eq_true rfl) rfl ?_
              refine pw_aload_n C dX0_strongest_103 rfl ?_
              refine pw_getE C dX0_strongest_104 fl_X0_44 rfl hY2.k ((hY2.s 3 (by omega)).trans ew8) ?_
              refine pw_istore C dX0_strongest_107 (Nat.le_of_ble_eq_true rfl) rfl ?_
              refine pw_iinc C dX0_strongest_109 rfl (Nat.le_of_ble_eq_true rfl) rfl ?_
              refine pw_goto (tgt := 9) C dX0_strongest_112 (by decide) ?_
              exact pw_locs (by exact ⟨rfl, cat_vR _, rfl, cat_vR _, rfl, cat_vR _, rfl, rfl, rfl, rfl, rfl, rfl, rfl, rfl, rfl, rfl, trivial⟩) (ih_9 (F 0 s) (tF S F (F 0 s)) (s + 1) Y4 M1 (by omega) (by omega) (by omega) (hY2) (hS10) (hF11) (hO9) (fr_go (by omega) hf (by unfold stS; (try dsimp only); first | (rw [if_neg (by omega)]) | (rw [if_pos (by omega)]))) (by omega))
            · skip
              refine pw_aload_n C dX0_strongest_92 rfl ?_
              refine pw_cVE C hX dX0_strongest_93 ml_X0_52 mc_X4_proofGrade (c_X4_proofGrade hY2 (by omega) (by omega) (by omega)) kc_7 hY2.k rfl rfl ⟨Nat.le_of_ble_eq_true rfl, Nat.le_of_ble_eq_true rfl⟩ (Nat.le_of_ble_eq_true rfl) ⟨Nat.le_of_ble_eq_true rfl, Nat.le_of_ble_eq_true rfl⟩ ?_
              rw [← epG]
              refine pw_if_le (tgt := 109) C dX0_strongest_96 (by decide) (by omega) (fun c_96 => ?_) (fun c_96 => ?_)
              · skip
                refine pw_iinc C dX0_strongest_109 rfl (Nat.le_of_ble_eq_true rfl) rfl ?_
                refine pw_goto (tgt := 9) C dX0_strongest_112 (by decide) ?_
                exact pw_locs (by exact ⟨rfl, cat_vR _, rfl, cat_vR _, rfl, cat_vR _, rfl, rfl, rfl, rfl, rfl, rfl, rfl, rfl, rfl, rfl, trivial⟩) (ih_9 best bf (s + 1) Y4 M1 (by omega) (by omega) (by omega) (hY2) (hS10) (hF11) (hO9) (fr_go (by omega) hf (by unfold stS; (try dsimp only); first | (rw [if_neg (by omega)]) | (rw [if_pos (by omega)]))) (by omega))
              · skip
                refine pw_iload C dX0_strongest_99 rfl ?_
                refine pw_istore C dX0_strongest_101 (Nat.le_of_ble_eq_true rfl) rfl ?_
                refine pw_aload_n C dX0_strongest_103 rfl ?_
                refine pw_getE C dX0_strongest_104 fl_X0_44 rfl hY2.k ((hY2.s 3 (by omega)).trans ew8) ?_
                refine pw_istore C dX0_strongest_107 (Nat.le_of_ble_eq_true rfl) rfl ?_
                refine pw_iinc C dX0_strongest_109 rfl (Nat.le_of_ble_eq_true rfl) rfl ?_
                refine pw_goto (tgt := 9) C dX0_strongest_112 (by decide) ?_
                exact pw_locs (by exact ⟨rfl, cat_vR _, rfl, cat_vR _, rfl, cat_vR _, rfl, rfl, rfl, rfl, rfl, rfl, rfl, rfl, rfl, rfl, trivial⟩) (ih_9 (F 0 s) (tF S F (F 0 s)) (s + 1) Y4 M1 (by omega) (by omega) (by omega) (hY2) (hS10) (hF11) (hO9) (fr_go (by omega) hf (by unfold stS; (try dsimp only); first | (rw [if_neg (by omega)]) | (rw [if_pos (by omega)]))) (by omega))
          · skip
            refine pw_aload_n C dX0_strongest_60 rfl ?_
            refine pw_getE C dX0_strongest_61 fl_X0_44 rfl hY2.k ((hY2.s 3 (by omega)).trans ew8) ?_
            refine pw_iload C dX0_strongest_64 rfl ?_
            refine pw_icmp_ne (tgt := 80) C dX0_strongest_66 (by decide) (by omega) (fun c_66 => ?_) (fun c_66 => ?_)
            · skip
              refine pw_iconst C dX0_strongest_80 ?_
              refine pw_istore C dX0_strongest_81 (Nat.le_of_ble_eq_true rfl) rfl ?_
              refine pw_iload C dX0_strongest_83 rfl ?_
              refine pw_ifL_eq (tgt := 109) C dX0_strongest_85 (by decide) rfl ?_
              refine pw_iinc C dX0_strongest_109 rfl (Nat.le_of_ble_eq_true rfl) rfl ?_
              refine pw_goto (tgt := 9) C dX0_strongest_112 (by decide) ?_
              exact pw_locs (by exact ⟨rfl, cat_vR _, rfl, cat_vR _, rfl, cat_vR _, rfl, rfl, rfl, rfl, rfl, rfl, rfl, rfl, rfl, rfl, trivial⟩) (ih_9 best bf (s + 1) Y4 M1 (by omega) (by omega) (by omega) (hY2) (hS10) (hF11) (hO9) (fr_go (by omega) hf (by unfold stS; (try dsimp only); first | (rw [if_neg (by omega)]) | (rw [if_pos (by omega)]))) (by omega))
            · skip
              refine pw_iload C dX0_strongest_69 rfl ?_
              refine pw_iload C dX0_strongest_71 rfl ?_
              refine pw_icmp_ge (tgt := 80) C dX0_strongest_73 (by decide) (by omega) (fun c_73 => ?_) (fun c_73 => ?_)
              · skip
                refine pw_iconst C dX0_strongest_80 ?_
                refine pw_istore C dX0_strongest_81 (Nat.le_of_ble_eq_true rfl) rfl ?_
                refine pw_iload C dX0_strongest_83 rfl ?_
                refine pw_ifL_eq (tgt := 109) C dX0_strongest_85 (by decide) rfl ?_
                refine pw_iinc C dX0_strongest_109 rfl (Nat.le_of_ble_eq_true rfl) rfl ?_
                refine pw_goto (tgt := 9) C dX0_strongest_112 (by decide) ?_
                exact pw_locs (by exact ⟨rfl, cat_vR _, rfl, cat_vR _, rfl, cat_vR _, rfl, rfl, rfl, rfl, rfl, rfl, rfl, rfl, rfl, rfl, trivial⟩) (ih_9 best bf (s + 1) Y4 M1 (by omega) (by omega) (by omega) (hY2) (hS10) (hF11) (hO9) (fr_go (by omega) hf (by unfold stS; (try dsimp only); first | (rw [if_neg (by omega)]) | (rw [if_pos (by omega)]))) (by omega))
              · skip
                refine pw_iconst C dX0_strongest_76 ?_
                refine pw_goto (tgt := 81) C dX0_strongest_77 (by decide) ?_
                refine pw_istore C dX0_strongest_81 (Nat.le_of_ble_eq_true rfl) rfl ?_
                refine pw_iload C dX0_strongest_83 rfl ?_
                refine pw_ifL_eqn (tgt := 109) C dX0_strongest_85 (by decide) rfl ?_
                refine pw_iload_n C dX0_strongest_88 rfl ?_
                refine pw_if_eq (tgt := 99) C dX0_strongest_89 (by decide) (by omega) (fun c_89 => ?_) (fun c_89 => ?_)
                · skip
                  refine pw_iload C dX0_strongest_99 rfl ?_
                  refine pw_istore C dX0_strongest_101 (Nat.le_of_ble_eq_true rfl) rfl ?_
                  refine pw_aload_n C dX0_strongest_103 rfl ?_
                  refine pw_getE C dX0_strongest_104 fl_X0_44 rfl hY2.k ((hY2.s 3 (by omega)).trans ew8) ?_
                  refine pw_istore C dX0_strongest_107 (Nat.le_of_ble_eq_true rfl) rfl ?_
                  refine pw_iinc C dX0_strongest_109 rfl (Nat.le_of_ble_eq_true rfl) rfl ?_
                  refine pw_goto (tgt := 9) C dX0_strongest_112 (by decide) ?_
                  exact pw_locs (by exact ⟨rfl, cat_vR _, rfl, cat_vR _, rfl, cat_vR _, rfl, rfl, rfl, rfl, rfl, rfl, rfl, rfl, rfl, rfl, trivial⟩) (ih_9 (F 0 s) (tF S F (F 0 s)) (s + 1) Y4 M1 (by omega) (by omega) (by omega) (hY2) (hS10) (hF11) (hO9) (fr_go (by omega) hf (by unfold stS; (try dsimp only); first | (rw [if_neg (by omega)]) | (rw [if_pos (by omega)]))) (by omega))
                · skip
                  refine pw_aload_n C dX0_strongest_92 rfl ?_
                  refine pw_cVE C hX dX0_strongest_93 ml_X0_52 mc_X4_proofGrade (c_X4_proofGrade hY2 (by omega) (by omega) (by omega)) kc_7 hY2.k rfl rfl ⟨Nat.le_of_ble_eq_true rfl, Nat.le_of_ble_eq_true rfl⟩ (Nat.le_of_ble_eq_true rfl) ⟨Nat.le_of_ble_eq_true rfl, Nat.le_of_ble_eq_true rfl⟩ ?_
                  rw [← epG]
                  refine pw_if_le (tgt := 109) C dX0_strongest_96 (by decide) (by omega) (fun c_96 => ?_) (fun c_96 => ?_)
                  · skip
                    refine pw_iinc C dX0_strongest_109 rfl (Nat.le_of_ble_eq_true rfl) rfl ?_
                    refine pw_goto (tgt := 9) C dX0_strongest_112 (by decide) ?_
                    exact pw_locs (by exact ⟨rfl, cat_vR _, rfl, cat_vR _, rfl, cat_vR _, rfl, rfl, rfl, rfl, rfl, rfl, rfl, rfl, rfl, rfl, trivial⟩) (ih_9 best bf (s + 1) Y4 M1 (by omega) (by omega) (by omega) (hY2) (hS10) (hF11) (hO9) (fr_go (by omega) hf (by unfold stS; (try dsimp only); first | (rw [if_neg (by omega)]) | (rw [if_pos (by omega)]))) (by omega))
                  · skip
                    refine pw_iload C dX0_strongest_99 rfl ?_
                    refine pw_istore C dX0_strongest_101 (Nat.le_of_ble_eq_true rfl) rfl ?_
                    refine pw_aload_n C dX0_strongest_103 rfl ?_
                    refine pw_getE C dX0_strongest_104 fl_X0_44 rfl hY2.k ((hY2.s 3 (by omega)).trans ew8) ?_
                    refine pw_istore C dX0_strongest_107 (Nat.le_of_ble_eq_true rfl) rfl ?_
                    refine pw_iinc C dX0_strongest_109 rfl (Nat.le_of_ble_eq_true rfl) rfl ?_
                    refine pw_goto (tgt := 9) C dX0_strongest_112 (by decide) ?_
                    exact pw_locs (by exact ⟨rfl, cat_vR _, rfl, cat_vR _, rfl, cat_vR _, rfl, rfl, rfl, rfl, rfl, rfl, rfl, rfl, rfl, rfl, trivial⟩) (ih_9 (F 0 s) (tF S F (F 0 s)) (s + 1) Y4 M1 (by omega) (by omega) (by omega) (hY2) (hS10) (hF11) (hO9) (fr_go (by omega) hf (by unfold stS; (try dsimp only); first | (rw [if_neg (by omega)]) | (rw [if_pos (by omega)]))) (by omega))

set_option maxHeartbeats 4000000 in
set_option maxRecDepth 100000 in
theorem c_X0_valueToFile {X : Xv} {G M : Mm} {f z : Int} {F : Fn} (hF : FR G M f F) (hz : z = 0 ∨ z = 1) : CT X yX0_valueToFile prog_2_method_4_code 2 (some .int) 0 0 0 0 [vR f, vI z] G M (PE G M (if z = 0 then F 1 0 else F 1 2)) := by
  refine CT.by (by decide +kernel) [1, 1] ⟨cat_vR _, cat_vI _, trivial⟩ (Nat.le_of_ble_eq_true rfl) (fun E hX C hR hIni => ?_)
  refine pw_iload_n C dX0_valueToFile_0 rfl ?_
  refine pw_if_eq (tgt := 11) C dX0_valueToFile_1 (by decide) (by omega) (fun c_1 => ?_) (fun c_1 => ?_)
  · skip
    refine pw_aload_n C dX0_valueToFile_11 rfl ?_
    refine pw_getE C dX0_valueToFile_12 fl_X0_15 rfl hF.k (hF.s 0 (by omega)) ?_
    exact pw_iretE C hR dX0_valueToFile_15 rfl rfl (by first | rw [if_pos (by assumption)] | rw [if_neg (by assumption)]) (Nat.zero_le _) (Nat.zero_le _)
  · skip
    refine pw_aload_n C dX0_valueToFile_4 rfl ?_
    refine pw_getE C dX0_valueToFile_5 fl_X0_19 rfl hF.k (hF.s 2 (by omega)) ?_
    refine pw_goto (tgt := 15) C dX0_valueToFile_8 (by decide) ?_
    exact pw_iretE C hR dX0_valueToFile_15 rfl rfl (by first | rw [if_pos (by assumption)] | rw [if_neg (by assumption)]) (Nat.zero_le _) (Nat.zero_le _)

set_option maxHeartbeats 4000000 in
set_option maxRecDepth 100000 in
theorem c_X0_countSayers {X : Xv} {G M : Mm} {f : Int} {F : Fn} (hF : FR G M f F) (hFB : FB0 F) : CT X yX0_countSayers prog_2_method_5_code 3 (some .int) 0 0 0 0 [vR f] G M (PE G M (cSay F)) := by
  refine CT.by (by decide +kernel) [1] ⟨cat_vR _, trivial⟩ (Nat.le_of_ble_eq_true rfl) (fun E hX C hR hIni => ?_)
  refine pw_iconst C dX0_countSayers_0 ?_
  refine pw_istore_n C dX0_countSayers_1 (Nat.le_of_ble_eq_true rfl) rfl ?_
  refine pw_iconst C dX0_countSayers_2 ?_
  refine pw_istore_n C dX0_countSayers_3 (Nat.le_of_ble_eq_true rfl) rfl ?_
  suffices K_4 : ∀ (nn_4 : Nat) (c s : Int) , (0 ≤ s ∧ s ≤ 10) → (fr (fun s c => if ¬ F 0 s = -1 then c + 1 else c) s 10 c = cSay F) → 10 - s < (nn_4 : Int) → PW E G M 0 0 4 [(0, 1, vR f), (1, 1, vI c), (2, 1, vI s)] [] from pw_locs (by exact ⟨rfl, cat_vR _, rfl, rfl, rfl, rfl, trivial⟩) (K_4 (10 - 0 + 1 : Int).toNat 0 0  (by omega) (by first | exact rfl | omega) (by omega))
  intro nn_4
  induction nn_4 with
  | zero => intro c s h1 hf h_m4; exact absurd h_m4 (by omega)
  | succ nn_4 ih_4 =>
    intro c s h1 hf h_m4
    refine pw_iload_n C dX0_countSayers_4 rfl ?_
    refine pw_aload_n C dX0_countSayers_5 rfl ?_
    refine pw_getR C dX0_countSayers_6 fl_X0_9 hF.k rfl (hF.r (b := (f + 1)) 0 (by omega)) ?_
    refine pw_alenE C dX0_countSayers_9 (hF.ai 0 (by omega)) ?_
    refine pw_icmp_ge (tgt := 32) C dX0_countSayers_10 (by decide) (by omega) (fun c_10 => ?_) (fun c_10 => ?_)
    · skip
      refine pw_iload_n C dX0_countSayers_32 rfl ?_
      exact pw_iretE C hR dX0_countSayers_33 rfl rfl (fr_done (by omega) hf) (Nat.zero_le _) (Nat.zero_le _)
    · skip
      refine pw_aload_n C dX0_countSayers_13 rfl ?_
      refine pw_getR C dX0_countSayers_14 fl_X0_9 hF.k rfl (hF.r (b := (f + 1)) 0 (by omega)) ?_
      refine pw_iload_n C dX0_countSayers_17 rfl ?_
      refine pw_ialdE C dX0_countSayers_18 (hF.ai 0 (by omega)) (by omega) (hF.v 0 (by omega)) ?_
      have b_18 := hFB.v0 s (by omega) (by omega)
      refine pw_iconst C dX0_countSayers_19 ?_
      refine pw_icmp_eq (tgt := 26) C dX0_countSayers_20 (by decide) (by omega) (fun c_20 => ?_) (fun c_20 => ?_)
      · skip
        refine pw_iinc C dX0_countSayers_26 rfl (Nat.le_of_ble_eq_true rfl) rfl ?_
        refine pw_goto (tgt := 4) C dX0_countSayers_29 (by decide) ?_
        exact pw_locs (by exact ⟨rfl, cat_vR _, rfl, rfl, rfl, rfl, trivial⟩) (ih_4 c (s + 1)  (by omega) (fr_go (by omega) hf (by (try dsimp only); repeat' split <;> first | rfl | omega | (exfalso; omega))) (by omega))
      · skip
        refine pw_iinc C dX0_countSayers_23 rfl (Nat.le_of_ble_eq_true rfl) rfl ?_
        refine pw_iinc C dX0_countSayers_26 rfl (Nat.le_of_ble_eq_true rfl) rfl ?_
        refine pw_goto (tgt := 4) C dX0_countSayers_29 (by decide) ?_
        exact pw_locs (by exact ⟨rfl, cat_vR _, rfl, rfl, rfl, rfl, trivial⟩) (ih_4 (c + 1) (s + 1)  (by omega) (fr_go (by omega) hf (by (try dsimp only); repeat' split <;> first | rfl | omega | (exfalso; omega))) (by omega))

set_option maxHeartbeats 4000000 in
set_option maxRecDepth 100000 in
theorem c_X0_isSaidAhead {X : Xv} {G M : Mm} {f : Int} {F : Fn} (hF : FR G M f F) (hFB : FB0 F) {s : Int} (hs : 0 ≤ s ∧ s < 10) : CT X yX0_isSaidAhead prog_2_method_7_code 3 (some .boolean) 0 0 0 0 [vR f, vI s] G M (PE G M (bI (fnd (fun j => F 0 j = F 0 s) 0 s < s))) := by
  refine CT.by (by decide +kernel) [1, 1] ⟨cat_vR _, cat_vI _, trivial⟩ (Nat.le_of_ble_eq_true rfl) (fun E hX C hR hIni => ?_)
  refine pw_iconst C dX0_isSaidAhead_0 ?_
  refine pw_istore_n C dX0_isSaidAhead_1 (Nat.le_of_ble_eq_true rfl) rfl ?_
  suffices K_2 : ∀ (nn_2 : Nat) (j : Int) , (0 ≤ j ∧ j ≤ s) → (fnd (fun j => F 0 j = F 0 s) j s = fnd (fun j => F 0 j = F 0 s) 0 s) → s - j < (nn_2 : Int) → PW E G M 0 0 2 [(0, 1, vR f), (1, 1, vI s), (2, 1, vI j)] [] from pw_locs (by exact ⟨rfl, cat_vR _, rfl, rfl, rfl, rfl, trivial⟩) (K_2 (s - 0 + 1 : Int).toNat 0  (by omega) (by first | exact rfl | omega) (by omega))
  intro nn_2
  induction nn_2 with
  | zero => intro j h1 hf h_m2; exact absurd h_m2 (by omega)
  | succ nn_2 ih_2 =>
    intro j h1 hf h_m2
    refine pw_iload_n C dX0_isSaidAhead_2 rfl ?_
    refine pw_iload_n C dX0_isSaidAhead_3 rfl ?_
    refine pw_icmp_ge (tgt := 30) C dX0_isSaidAhead_4 (by decide) (by omega) (fun c_4 => ?_) (fun c_4 => ?_)
    · skip
      refine pw_iconst C dX0_isSaidAhead_30 ?_
      exact pw_zretE C hR dX0_isSaidAhead_31 (by omega) rfl rfl ((bI_f (by rw [← fnd_no (by omega) hf]; omega)).symm) (Nat.zero_le _) (Nat.zero_le _)
    · skip
      refine pw_aload_n C dX0_isSaidAhead_7 rfl ?_
      refine pw_getR C dX0_isSaidAhead_8 fl_X0_9 hF.k rfl (hF.r (b := (f + 1)) 0 (by omega)) ?_
      refine pw_iload_n C dX0_isSaidAhead_11 rfl ?_
      refine pw_ialdE C dX0_isSaidAhead_12 (hF.ai 0 (by omega)) (by omega) (hF.v 0 (by omega)) ?_
      have b_12 := hFB.v0 j (by omega) (by omega)
      refine pw_aload_n C dX0_isSaidAhead_13 rfl ?_
      refine pw_getR C dX0_isSaidAhead_14 fl_X0_9 hF.k rfl (hF.r (b := (f + 1)) 0 (by omega)) ?_
      refine pw_iload_n C dX0_isSaidAhead_17 rfl ?_
      refine pw_ialdE C dX0_isSaidAhead_18 (hF.ai 0 (by omega)) (by omega) (hF.v 0 (by omega)) ?_
      have b_18 := hFB.v0 s (by omega) (by omega)
      refine pw_icmp_ne (tgt := 24) C dX0_isSaidAhead_19 (by decide) (by omega) (fun c_19 => ?_) (fun c_19 => ?_)
      · skip
        refine pw_iinc C dX0_isSaidAhead_24 rfl (Nat.le_of_ble_eq_true rfl) rfl ?_
        refine pw_goto (tgt := 2) C dX0_isSaidAhead_27 (by decide) ?_
        exact pw_locs (by exact ⟨rfl, cat_vR _, rfl, rfl, rfl, rfl, trivial⟩) (ih_2 (j + 1)  (by omega) (fnd_go (by omega) hf c_19) (by omega))
      · skip
        refine pw_iconst C dX0_isSaidAhead_22 ?_
        exact pw_zretE C hR dX0_isSaidAhead_23 (by omega) rfl rfl ((bI_t (by rw [← fnd_at (by omega) hf c_19]; omega)).symm) (Nat.zero_le _) (Nat.zero_le _)

set_option maxHeartbeats 4000000 in
set_option maxRecDepth 100000 in
theorem c_X0_countValues {X : Xv} {G M : Mm} {f : Int} {F : Fn} (hF : FR G M f F) (hFB : FB0 F) : CT X yX0_countValues prog_2_method_6_code 3 (some .int) 1 22 0 0 [vR f] G M (PE G M (cVal F)) := by
  refine CT.by (by decide +kernel) [1] ⟨cat_vR _, trivial⟩ (Nat.le_of_ble_eq_true rfl) (fun E hX C hR hIni => ?_)
  refine pw_iconst C dX0_countValues_0 ?_
  refine pw_istore_n C dX0_countValues_1 (Nat.le_of_ble_eq_true rfl) rfl ?_
  refine pw_iconst C dX0_countValues_2 ?_
  refine pw_istore_n C dX0_countValues_3 (Nat.le_of_ble_eq_true rfl) rfl ?_
  suffices K_4 : ∀ (nn_4 : Nat) (c s : Int) , (0 ≤ s ∧ s ≤ 10) → (fr (fun s c => if ¬ F 0 s = -1 ∧ ¬ fnd (fun j => F 0 j = F 0 s) 0 s < s then c + 1 else c) s 10 c = cVal F) → 10 - s < (nn_4 : Int) → PW E G M 0 0 4 [(0, 1, vR f), (1, 1, vI c), (2, 1, vI s)] [] from pw_locs (by exact ⟨rfl, cat_vR _, rfl, rfl, rfl, rfl, trivial⟩) (K_4 (10 - 0 + 1 : Int).toNat 0 0  (by omega) (by first | exact rfl | omega) (by omega))
  intro nn_4
  induction nn_4 with
  | zero => intro c s h1 hf h_m4; exact absurd h_m4 (by omega)
  | succ nn_4 ih_4 =>
    intro c s h1 hf h_m4
    refine pw_iload_n C dX0_countValues_4 rfl ?_
    refine pw_aload_n C dX0_countValues_5 rfl ?_
    refine pw_getR C dX0_countValues_6 fl_X0_9 hF.k rfl (hF.r (b := (f + 1)) 0 (by omega)) ?_
    refine pw_alenE C dX0_countValues_9 (hF.ai 0 (by omega)) ?_
    refine pw_icmp_ge (tgt := 40) C dX0_countValues_10 (by decide) (by omega) (fun c_10 => ?_) (fun c_10 => ?_)
    · skip
      refine pw_iload_n C dX0_countValues_40 rfl ?_
      exact pw_iretE C hR dX0_countValues_41 rfl rfl (fr_done (by omega) hf) (Nat.zero_le _) (Nat.zero_le _)
    · skip
      refine pw_aload_n C dX0_countValues_13 rfl ?_
      refine pw_getR C dX0_countValues_14 fl_X0_9 hF.k rfl (hF.r (b := (f + 1)) 0 (by omega)) ?_
      refine pw_iload_n C dX0_countValues_17 rfl ?_
      refine pw_ialdE C dX0_countValues_18 (hF.ai 0 (by omega)) (by omega) (hF.v 0 (by omega)) ?_
      have b_18 := hFB.v0 s (by omega) (by omega)
      refine pw_iconst C dX0_countValues_19 ?_
      refine pw_icmp_eq (tgt := 34) C dX0_countValues_20 (by decide) (by omega) (fun c_20 => ?_) (fun c_20 => ?_)
      · skip
        refine pw_iinc C dX0_countValues_34 rfl (Nat.le_of_ble_eq_true rfl) rfl ?_
        refine pw_goto (tgt := 4) C dX0_countValues_37 (by decide) ?_
        exact pw_locs (by exact ⟨rfl, cat_vR _, rfl, rfl, rfl, rfl, trivial⟩) (ih_4 c (s + 1)  (by omega) (fr_go (by omega) hf (if_neg (fun q => q.1 c_20))) (by omega))
      · skip
        refine pw_aload_n C dX0_countValues_23 rfl ?_
        refine pw_iload_n C dX0_countValues_24 rfl ?_
        refine pw_cVE C hX dX0_countValues_25 ml_X0_56 mc_X0_isSaidAhead (c_X0_isSaidAhead hF hFB (s := s) (by omega)) kc_3 hF.k rfl rfl ⟨Nat.le_of_ble_eq_true rfl, Nat.le_of_ble_eq_true rfl⟩ (Nat.le_of_ble_eq_true rfl) ⟨Nat.le_of_ble_eq_true rfl, Nat.le_of_ble_eq_true rfl⟩ ?_
        refine pw_ifB_ne (tgt := 34) C dX0_countValues_28 (by decide) (fun c_28 => ?_) (fun c_28 => ?_)
        · skip
          refine pw_iinc C dX0_countValues_34 rfl (Nat.le_of_ble_eq_true rfl) rfl ?_
          refine pw_goto (tgt := 4) C dX0_countValues_37 (by decide) ?_
          exact pw_locs (by exact ⟨rfl, cat_vR _, rfl, rfl, rfl, rfl, trivial⟩) (ih_4 c (s + 1)  (by omega) (fr_go (by omega) hf (if_neg (fun q => q.2 c_28))) (by omega))
        · skip
          refine pw_iinc C dX0_countValues_31 rfl (Nat.le_of_ble_eq_true rfl) rfl ?_
          refine pw_iinc C dX0_countValues_34 rfl (Nat.le_of_ble_eq_true rfl) rfl ?_
          refine pw_goto (tgt := 4) C dX0_countValues_37 (by decide) ?_
          exact pw_locs (by exact ⟨rfl, cat_vR _, rfl, rfl, rfl, rfl, trivial⟩) (ih_4 (c + 1) (s + 1)  (by omega) (fr_go (by omega) hf (if_pos ⟨c_20, c_28⟩)) (by omega))

set_option maxHeartbeats 4000000 in
set_option maxRecDepth 100000 in
theorem c_X0_settle {X : Xv} {G M : Mm} {a b f : Int} {Y S F : Fn} (hY : YR G M a Y) (hS : SR G M b S) (hSB : SB S) (hF : FR G M f F) (hFB : FB F) (d1 : a + 1 < b ∨ b + 2 < a) (d2 : a + 1 < f ∨ f + 1 < a) (d3 : b + 2 < f ∨ f + 1 < b) : CT X yX0_settle prog_2_method_2_code 3 (none) 3 77 0 0 [vR f, vR b, vR a] G M (PU (fun G1 M1 => G1 = G ∧ FR G M1 f (lup (lup (lup F 1 0 (tru S F)) 1 1 (trf S F)) 1 2 (hrd S F)) ∧ (∃ Y1, YR G M1 a Y1) ∧ SR G M1 b S ∧ Ot2 f f a (a + 1) M M1)) := by
  refine CT.by (by decide +kernel) [1, 1, 1] ⟨cat_vR _, cat_vR _, cat_vR _, trivial⟩ (Nat.le_of_ble_eq_true rfl) (fun E hX C hR hIni => ?_)
  have hO0 : Ot2 f f a (a + 1) M M := Ot2.rf
  have bc := hSB.c
  refine pw_aload_n C dX0_settle_0 rfl ?_
  refine pw_aload_n C dX0_settle_1 rfl ?_
  refine pw_aload_n C dX0_settle_2 rfl ?_
  refine pw_aload_n C dX0_settle_3 rfl ?_
  refine pw_iconst C dX0_settle_4 ?_
  refine pw_iconst C dX0_settle_5 ?_
  have hFB8 : stC S F 1 (-1) = stC S F 1 (-1) := stC_up (fun t => by simp [lup])
  have bhFB8 : FB0 F := fun j q1 q2 => by have q := hFB.v0 j q1 q2; (try simp only [lup_c]); (try simp); exact q
  refine pw_cVI C hX dX0_settle_6 ml_X0_31 mc_X0_strongest (c_X0_strongest hY hS hSB hF bhFB8 (z := 1) (lo := -1) (by omega) (by omega) d1 d2 d3) kc_3 hF.k rfl rfl ⟨Nat.le_of_ble_eq_true rfl, Nat.le_of_ble_eq_true rfl⟩ (Nat.le_of_ble_eq_true rfl) ⟨Nat.le_of_ble_eq_true rfl, Nat.le_of_ble_eq_true rfl⟩ (fun r_ G M1 hq_ => ?_)
  obtain ⟨rfl, rfl, ⟨Y3, hY2⟩, o4⟩ := hq_
  rw [hFB8]
  have b_6 := st_bd0 (F := F) (z := 1) (lo := -1) hSB hFB.f0
  have hS5 := hS.oM o4 (by omega)
  have hF6 := hF.oM o4 (by omega)
  have hO7 := hO0.t1 o4 (by omega)
  rw [show stC S F 1 (-1) = tru S F from rfl]
  rw [show stC S F 1 (-1) = tru S F from rfl] at b_6
  refine pw_putIG C dX0_settle_9 fl_X0_15 (fun h => by cases h) rfl hF6.k (fun M9 eM9 => ?_)
  have hF10 := hF6.ws 0 (by omega) eM9
  have xM9 : Ot f f M1 M9 := by rw [eM9]; exact Ot.rf.u0 (by omega)
  have hO11 := hO7.t1 xM9 (by omega)
  clear eM9
  have hS12 := hS5.oM xM9 (by omega)
  have hY13 := hY2.oM xM9 (by omega)
  refine pw_aload_n C dX0_settle_12 rfl ?_
  refine pw_iconst C dX0_settle_13 ?_
  refine pw_putIG C dX0_settle_14 fl_X0_35 (fun h => by cases h) rfl hF10.k (fun M15 eM15 => ?_)
  have hF16 := hF10.ws 1 (by omega) eM15
  have xM15 : Ot f f M9 M15 := by rw [eM15]; exact Ot.rf.u0 (by omega)
  have hO17 := hO11.t1 xM15 (by omega)
  clear eM15
  have hS18 := hS12.oM xM15 (by omega)
  have hY19 := hY13.oM xM15 (by omega)
  refine pw_aload_n C dX0_settle_17 rfl ?_
  refine pw_getE C dX0_settle_18 fl_X0_15 rfl hF16.k ((hF16.s 0 (by omega)).trans (by rw [lup_n (by omega), lup_s])) ?_
  refine pw_iconst C dX0_settle_21 ?_
  refine pw_icmp_eq (tgt := 46) C dX0_settle_22 (by decide) (by omega) (fun c_22 => ?_) (fun c_22 => ?_)
  · skip
    have c_52 := c_22
    refine pw_aload_n C dX0_settle_46 rfl ?_
    refine pw_aload_n C dX0_settle_47 rfl ?_
    refine pw_getE C dX0_settle_48 fl_X0_15 rfl hF16.k ((hF16.s 0 (by omega)).trans (by rw [lup_n (by omega), lup_s])) ?_
    refine pw_iconst C dX0_settle_51 ?_
    refine pw_icmp_eq (tgt := 62) C dX0_settle_52 (by decide) (by omega) (fun c_52 => ?_) (fun c_52 => ?_)
    · skip
      refine pw_aload_n C dX0_settle_62 rfl ?_
      refine pw_aload_n C dX0_settle_63 rfl ?_
      refine pw_aload_n C dX0_settle_64 rfl ?_
      refine pw_iconst C dX0_settle_65 ?_
      refine pw_iconst C dX0_settle_66 ?_
      have hFB28 : stC S (lup (lup F 1 0 (tru S F)) 1 1 0) 0 (-1) = stC S F 0 (-1) := stC_up (fun t => by simp [lup])
      have bhFB28 : FB0 (lup (lup F 1 0 (tru S F)) 1 1 0) := fun j q1 q2 => by have q := hFB.v0 j q1 q2; (try simp only [lup_c]); (try simp); exact q
      refine pw_cVI C hX dX0_settle_67 ml_X0_31 mc_X0_strongest (c_X0_strongest hY19 hS18 hSB hF16 bhFB28 (z := 0) (lo := -1) (by omega) (by omega) d1 d2 d3) kc_3 hF16.k rfl rfl ⟨Nat.le_of_ble_eq_true rfl, Nat.le_of_ble_eq_true rfl⟩ (Nat.le_of_ble_eq_true rfl) ⟨Nat.le_of_ble_eq_true rfl, Nat.le_of_ble_eq_true rfl⟩ (fun r_ G M21 hq_ => ?_)
      obtain ⟨rfl, rfl, ⟨Y23, hY22⟩, o24⟩ := hq_
      rw [hFB28]
      have b_67 := st_bd0 (F := F) (z := 0) (lo := -1) hSB hFB.f0
      have hS25 := hS18.oM o24 (by omega)
      have hF26 := hF16.oM o24 (by omega)
      have hO27 := hO17.t1 o24 (by omega)
      refine pw_putIG C dX0_settle_70 fl_X0_19 (fun h => by cases h) rfl hF26.k (fun M29 eM29 => ?_)
      have hF30 := hF26.ws 2 (by omega) eM29
      have xM29 : Ot f f M21 M29 := by rw [eM29]; exact Ot.rf.u0 (by omega)
      have hO31 := hO27.t1 xM29 (by omega)
      clear eM29
      have hS32 := hS25.oM xM29 (by omega)
      have hY33 := hY22.oM xM29 (by omega)
      exact pw_vret C hR dX0_settle_73 (⟨rfl, rfl, OR.ext hF30 (fun i t q1 q2 q3 q4 => by rw [show i = 0 by omega]; simp [lup]) (fun s q1 q2 => by rcases (show s = 0 ∨ s = 1 ∨ s = 2 ∨ s = 3 by omega) with rfl | rfl | rfl | rfl <;> first | (simp [lup, trf, hrd, c_22]; done) | omega), ⟨_, hY33⟩, hS32, hO31⟩) (by omega) (by omega)
    · skip
      refine pw_aload_n C dX0_settle_55 rfl ?_
      refine pw_getE C dX0_settle_56 fl_X0_15 rfl hF16.k ((hF16.s 0 (by omega)).trans (by rw [lup_n (by omega), lup_s])) ?_
      refine pw_goto (tgt := 70) C dX0_settle_59 (by decide) ?_
      refine pw_putIG C dX0_settle_70 fl_X0_19 (fun h => by cases h) rfl hF16.k (fun M35 eM35 => ?_)
      have hF36 := hF16.ws 2 (by omega) eM35
      have xM35 : Ot f f M15 M35 := by rw [eM35]; exact Ot.rf.u0 (by omega)
      have hO37 := hO17.t1 xM35 (by omega)
      clear eM35
      have hS38 := hS18.oM xM35 (by omega)
      have hY39 := hY19.oM xM35 (by omega)
      exact pw_vret C hR dX0_settle_73 (⟨rfl, rfl, OR.ext hF36 (fun i t q1 q2 q3 q4 => by rw [show i = 0 by omega]; simp [lup]) (fun s q1 q2 => by rcases (show s = 0 ∨ s = 1 ∨ s = 2 ∨ s = 3 by omega) with rfl | rfl | rfl | rfl <;> first | (simp [lup, trf, hrd, c_22]; done) | omega), ⟨_, hY39⟩, hS38, hO37⟩) (by omega) (by omega)
  · skip
    have c_52 := c_22
    refine pw_aload_n C dX0_settle_25 rfl ?_
    refine pw_aload_n C dX0_settle_26 rfl ?_
    refine pw_aload_n C dX0_settle_27 rfl ?_
    refine pw_getR C dX0_settle_28 fl_X0_9 hF16.k rfl (hF16.r (b := (f + 1)) 0 (by omega)) ?_
    refine pw_aload_n C dX0_settle_31 rfl ?_
    refine pw_getE C dX0_settle_32 fl_X0_15 rfl hF16.k ((hF16.s 0 (by omega)).trans (by rw [lup_n (by omega), lup_s])) ?_
    have bfb : FB0 (lup (lup F 1 0 (tru S F)) 1 1 0) := fun j q1 q2 => by have q := hFB.v0 j q1 q2; (try simp only [lup_c]); (try simp); exact q
    have e_tF : tF S (lup (lup F 1 0 (tru S F)) 1 1 0) (tru S F) = tF S F (tru S F) := tF_up (fun t => by simp [lup])
    refine pw_cVU C hX dX0_settle_35 ml_X0_38 mc_X4_weigh (c_X4_weigh hY19 hS18 hSB hF16 bfb (v := (tru S F)) (by omega) d1 d2) kc_7 hY19.k rfl rfl ⟨Nat.le_of_ble_eq_true rfl, Nat.le_of_ble_eq_true rfl⟩ (Nat.le_of_ble_eq_true rfl) ⟨Nat.le_of_ble_eq_true rfl, Nat.le_of_ble_eq_true rfl⟩ (fun G M41 hq_ => ?_)
    obtain ⟨rfl, Y43, hY42, o44, ew0, ew1, ew2, ew3⟩ := hq_
    rw [e_tF] at ew3
    have hS45 := hS18.oM o44 (by omega)
    have hF46 := hF16.oM o44 (by omega)
    have hO47 := hO17.t1 o44 (by omega)
    refine pw_aload_n C dX0_settle_38 rfl ?_
    refine pw_aload_n C dX0_settle_39 rfl ?_
    refine pw_getE C dX0_settle_40 fl_X0_44 rfl hY42.k ((hY42.s 3 (by omega)).trans ew3) ?_
    refine pw_putIG C dX0_settle_43 fl_X0_35 (fun h => by cases h) rfl hF46.k (fun M48 eM48 => ?_)
    have hF49 := hF46.ws 1 (by omega) eM48
    have xM48 : Ot f f M41 M48 := by rw [eM48]; exact Ot.rf.u0 (by omega)
    have hO50 := hO47.t1 xM48 (by omega)
    clear eM48
    have hS51 := hS45.oM xM48 (by omega)
    have hY52 := hY42.oM xM48 (by omega)
    refine pw_aload_n C dX0_settle_46 rfl ?_
    refine pw_aload_n C dX0_settle_47 rfl ?_
    refine pw_getE C dX0_settle_48 fl_X0_15 rfl hF49.k ((hF49.s 0 (by omega)).trans (by rw [lup_n (by omega), lup_n (by omega), lup_s])) ?_
    refine pw_iconst C dX0_settle_51 ?_
    refine pw_icmp_eq (tgt := 62) C dX0_settle_52 (by decide) (by omega) (fun c_52 => ?_) (fun c_52 => ?_)
    · skip
      refine pw_aload_n C dX0_settle_62 rfl ?_
      refine pw_aload_n C dX0_settle_63 rfl ?_
      refine pw_aload_n C dX0_settle_64 rfl ?_
      refine pw_iconst C dX0_settle_65 ?_
      refine pw_iconst C dX0_settle_66 ?_
      have hFB61 : stC S (lup (lup (lup F 1 0 (tru S F)) 1 1 0) 1 1 (tF S F (tru S F))) 0 (-1) = stC S F 0 (-1) := stC_up (fun t => by simp [lup])
      have bhFB61 : FB0 (lup (lup (lup F 1 0 (tru S F)) 1 1 0) 1 1 (tF S F (tru S F))) := fun j q1 q2 => by have q := hFB.v0 j q1 q2; (try simp only [lup_c]); (try simp); exact q
      refine pw_cVI C hX dX0_settle_67 ml_X0_31 mc_X0_strongest (c_X0_strongest hY52 hS51 hSB hF49 bhFB61 (z := 0) (lo := -1) (by omega) (by omega) d1 d2 d3) kc_3 hF49.k rfl rfl ⟨Nat.le_of_ble_eq_true rfl, Nat.le_of_ble_eq_true rfl⟩ (Nat.le_of_ble_eq_true rfl) ⟨Nat.le_of_ble_eq_true rfl, Nat.le_of_ble_eq_true rfl⟩ (fun r_ G M54 hq_ => ?_)
      obtain ⟨rfl, rfl, ⟨Y56, hY55⟩, o57⟩ := hq_
      rw [hFB61]
      have b_67 := st_bd0 (F := F) (z := 0) (lo := -1) hSB hFB.f0
      have hS58 := hS51.oM o57 (by omega)
      have hF59 := hF49.oM o57 (by omega)
      have hO60 := hO50.t1 o57 (by omega)
      refine pw_putIG C dX0_settle_70 fl_X0_19 (fun h => by cases h) rfl hF59.k (fun M62 eM62 => ?_)
      have hF63 := hF59.ws 2 (by omega) eM62
      have xM62 : Ot f f M54 M62 := by rw [eM62]; exact Ot.rf.u0 (by omega)
      have hO64 := hO60.t1 xM62 (by omega)
      clear eM62
      have hS65 := hS58.oM xM62 (by omega)
      have hY66 := hY55.oM xM62 (by omega)
      exact pw_vret C hR dX0_settle_73 (⟨rfl, rfl, OR.ext hF63 (fun i t q1 q2 q3 q4 => by rw [show i = 0 by omega]; simp [lup]) (fun s q1 q2 => by rcases (show s = 0 ∨ s = 1 ∨ s = 2 ∨ s = 3 by omega) with rfl | rfl | rfl | rfl <;> first | (simp [lup, trf, hrd, c_22]; done) | omega), ⟨_, hY66⟩, hS65, hO64⟩) (by omega) (by omega)
    · skip
      refine pw_aload_n C dX0_settle_55 rfl ?_
      refine pw_getE C dX0_settle_56 fl_X0_15 rfl hF49.k ((hF49.s 0 (by omega)).trans (by rw [lup_n (by omega), lup_n (by omega), lup_s])) ?_
      refine pw_goto (tgt := 70) C dX0_settle_59 (by decide) ?_
      refine pw_putIG C dX0_settle_70 fl_X0_19 (fun h => by cases h) rfl hF49.k (fun M68 eM68 => ?_)
      have hF69 := hF49.ws 2 (by omega) eM68
      have xM68 : Ot f f M48 M68 := by rw [eM68]; exact Ot.rf.u0 (by omega)
      have hO70 := hO50.t1 xM68 (by omega)
      clear eM68
      have hS71 := hS51.oM xM68 (by omega)
      have hY72 := hY52.oM xM68 (by omega)
      exact pw_vret C hR dX0_settle_73 (⟨rfl, rfl, OR.ext hF69 (fun i t q1 q2 q3 q4 => by rw [show i = 0 by omega]; simp [lup]) (fun s q1 q2 => by rcases (show s = 0 ∨ s = 1 ∨ s = 2 ∨ s = 3 by omega) with rfl | rfl | rfl | rfl <;> first | (simp [lup, trf, hrd, c_22]; done) | omega), ⟨_, hY72⟩, hS71, hO70⟩) (by omega) (by omega)

