set_option maxHeartbeats 4000000 in
set_option maxRecDepth 100000 in
theorem law_file {E : Ev} {tb : List ExceptionTableEntry} {X : Xv} {B sb i tk x y sy fa so li : Int} {k n : Nat} {G M : Mm} {A : An} (C : Cx E code 22 RL tb room_1) (hX : E.1 = X) (hJ : LJ B i tk k n G M A) (hi : 0 ≤ i ∧ i < 64) (hB : 0 ≤ B) (hsy : 0 ≤ sy ∧ sy < 2) (hfa : 0 ≤ fa ∧ fa < 4) (hso : 0 ≤ so ∧ so < 6) (hli : 0 ≤ li ∧ li < 2) (kk : ∀ (G' M' : Mm) (k' n' : Nat) (A' : An) (tk' : Int), LJ B (i + 1) tk' k' n' G' M' A' → PW E G' M' k' n' 994 [(0, 1, vR sb), (1, 1, vR B), (2, 1, vR (B + 202)), (3, 1, vR (B + 263)), (4, 1, vI tk'), (5, 1, vI i)] []) : PW E G M k n 547 [(0, 1, vR sb), (1, 1, vR B), (2, 1, vR (B + 202)), (3, 1, vR (B + 263)), (4, 1, vI tk), (5, 1, vI i), (6, 1, vI x), (7, 1, vI y), (8, 1, vI sy), (9, 1, vI fa), (10, 1, vI so), (11, 1, vI li)] [] := by
  obtain ⟨hR, ⟨⟨hI, hS⟩, hL⟩, ⟨hc6, htk⟩, ht9, hnow, ⟨hMV, hMW⟩, hG4, hVC, hWC, hk9, hn9⟩ := id hJ
  have hA := hI.1
  have hW := hI.2.1
  have hnA := hA.n
  have hnS := hA.so.c
  have h00 := hL.1.1
  have h02 := hL.1.2
  have hO0 : Ot B (B + 201) M M := Ot.rf
  refine pw_iload C dL_law_547 rfl ?_
  refine pw_iconst C dL_law_549 ?_
  refine pw_ishr C dL_law_550 ?_
  refine pw_top (v' := vI (shr y 5)) shr_v ?_
  refine pw_iconst C dL_law_551 ?_
  refine pw_cSE C hX dL_law_552 ml_L_18 mc_L_below (c_below (x := (shr y 5)) (n := 2) (by omega)) rfl rfl ⟨Nat.le_of_ble_eq_true rfl, Nat.le_of_ble_eq_true rfl⟩ (Nat.le_of_ble_eq_true rfl) (by show k + 0 ≤ 916994 ∧ n + 0 ≤ 6350716; omega) ?_
  have bw_552 := bw_bd (x := (shr y 5)) (n := 2) (by omega)
  obtain ⟨zz, hzz⟩ : ∃ w, w = bw (shr y 5) 2 := ⟨_, rfl⟩
  rw [← hzz] at bw_552 ⊢
  refine pw_if_ne (tgt := 562) C dL_law_555 (by decide) (by omega) (fun c_555 => ?_) (fun c_555 => ?_)
  · skip
    refine pw_iconst C dL_law_562 ?_
    refine pw_istore C dL_law_563 (Nat.le_of_ble_eq_true rfl) rfl ?_
    refine pw_iconst C dL_law_565 ?_
    refine pw_iload C dL_law_566 rfl ?_
    refine pw_iconst C dL_law_568 ?_
    refine pw_ishr C dL_law_569 ?_
    refine pw_top (v' := vI (shr x 3)) shr_v ?_
    refine pw_bipush C dL_law_570 rfl ?_
    refine pw_cSE C hX dL_law_572 ml_L_18 mc_L_below (c_below (x := (shr x 3)) (n := 15) (by omega)) rfl rfl ⟨Nat.le_of_ble_eq_true rfl, Nat.le_of_ble_eq_true rfl⟩ (Nat.le_of_ble_eq_true rfl) (by show k + 0 ≤ 916994 ∧ n + 0 ≤ 6350716; omega) ?_
    have bw_572 := bw_bd (x := (shr x 3)) (n := 15) (by omega)
    obtain ⟨fs, hfs⟩ : ∃ w, w = bw (shr x 3) 15 := ⟨_, rfl⟩
    rw [← hfs] at bw_572 ⊢
    refine pw_iadd C dL_law_575 ?_
    refine pw_istore C dL_law_576 (Nat.le_of_ble_eq_true rfl) rfl ?_
    refine pw_iload C dL_law_578 rfl ?_
    refine pw_bipush C dL_law_580 rfl ?_
    refine pw_icmp_le (tgt := 588) C dL_law_582 (by decide) (by omega) (fun c_582 => ?_) (fun c_582 => ?_)
    · skip
      refine pw_aload_n C dL_law_588 rfl ?_
      refine pw_iload C dL_law_589 rfl ?_
      refine pw_iload C dL_law_591 rfl ?_
      refine pw_bipush C dL_law_593 rfl ?_
      refine pw_ishr C dL_law_595 ?_
      refine pw_top (v' := vI (shr x 6)) shr_v ?_
      refine pw_iconst C dL_law_596 ?_
      refine pw_cSE C hX dL_law_597 ml_L_18 mc_L_below (c_below (x := (shr x 6)) (n := 2) (by omega)) rfl rfl ⟨Nat.le_of_ble_eq_true rfl, Nat.le_of_ble_eq_true rfl⟩ (Nat.le_of_ble_eq_true rfl) (by show k + 0 ≤ 916994 ∧ n + 0 ≤ 6350716; omega) ?_
      have bw_597 := bw_bd (x := (shr x 6)) (n := 2) (by omega)
      obtain ⟨kd, hkd⟩ : ∃ w, w = bw (shr x 6) 2 := ⟨_, rfl⟩
      rw [← hkd] at bw_597 ⊢
      refine pw_iconst C dL_law_600 ?_
      refine pw_iadd C dL_law_601 ?_
      refine pw_iload C dL_law_602 rfl ?_
      refine pw_iload C dL_law_604 rfl ?_
      refine pw_iload C dL_law_606 rfl ?_
      refine pw_cSI C hX dL_law_608 ml_L_60 mc_L_isFiled (c_isFiled hR hA (s := sy) (k := kd + 3) (set := 1 + fs) (z := 0) (tk := tk) hI hL (by omega) (by omega) (by omega) (by omega) htk (by omega)) rfl rfl ⟨Nat.le_of_ble_eq_true rfl, Nat.le_of_ble_eq_true rfl⟩ (Nat.le_of_ble_eq_true rfl) (by show k + 0 ≤ 916994 ∧ n + 0 ≤ 6350716; omega) (fun r_ G Mz hq_ => ?_)
      obtain ⟨rfl, rfl, hR1, o1⟩ := hq_
      have hO1 := hO0.tr o1
      by_cases h4 : hv A sy (1 + fs) 0 = 4
      · skip
        rw [if_pos h4] at hR1
        have tf := fil_f (s := sy) (k := (kd + 3)) (set := (1 + fs)) (g := 0) (hd := 0) (tg := -1) hA
        have hI1 : Inv (aFil A sy (kd + 3) (1 + fs) 0 0 (-1)) := hI.fil (by omega) (by omega) (by omega) (by omega) (by omega) (by omega) (by omega) (by omega) h4
        have hS1 : SN (aFil A sy (kd + 3) (1 + fs) 0 0 (-1)) := SN.take (T := nT A sy (kd + 3) (1 + fs) 0 0 (-1)) hS hA
        have w3 : 0 < nT A sy (kd + 3) (1 + fs) 0 0 (-1) 1 3 := by rw [nT_1.2.2.2.1]; exact wdf_pos (by omega) (bc_bd (1 + fs)).1
        have hL1 : LX (aFil A sy (kd + 3) (1 + fs) 0 0 (-1)) := hL.take hA hW (by omega) tf w3 nT_1.2.2.2.2.1 nT_1.2.2.2.2.2.2.2.2
        have hM1 : Mo A (aFil A sy (kd + 3) (1 + fs) 0 0 (-1)) := Mo.take hL hA hW tf
        obtain ⟨A1, eA1⟩ : ∃ w, w = aFil A sy (kd + 3) (1 + fs) 0 0 (-1) := ⟨_, rfl⟩
        rw [← eA1] at hR1 tf hI1 hS1 hL1 hM1
        have n11 : A1 0 0 1 = tk + 1 := by rw [tf.1, if_pos rfl, htk]
        have n13 : A1 0 0 3 = A 0 0 3 := by rw [tf.1, if_neg (by omega)]
        have y1 : A1 10 2 0 = A 10 2 0 := by rw [tf.2.1 10 (by omega) (by omega) (by omega)]
        have ev1 : ∀ t f, 0 ≤ t → t < A 0 0 1 → A1 (200 + t) 0 f = A (200 + t) 0 f := fun t f q1 q2 => by rw [tf.2.1 (200 + t) (by omega) (by omega) (by omega)]
        have e4 : mny A1 4 = tk + 1 := n11
        have hn1 := hI1.1.n
        refine pw_ifL_ne (tgt := 616) C dL_law_611 (by decide) rfl ?_
        refine pw_aload_n C dL_law_616 rfl ?_
        refine pw_iconst C dL_law_617 ?_
        refine pw_cVE C hX dL_law_618 ml_L_53 mc_X5_many (c_many hR1 hI1.1 (w := 4) (by omega) (by omega)) kc_8 hR1.k rfl rfl ⟨Nat.le_of_ble_eq_true rfl, Nat.le_of_ble_eq_true rfl⟩ (Nat.le_of_ble_eq_true rfl) (by show k + 0 ≤ 916994 ∧ n + 0 ≤ 6350716; omega) ?_
        rw [e4]
        refine pw_iload C dL_law_621 rfl ?_
        refine pw_icmp_ne (tgt := 629) C dL_law_623 (by decide) (by omega) (fun c_623 => ?_) (fun c_623 => ?_)
        rotate_left
        · exact absurd c_623 (by omega)
        refine pw_iconst C dL_law_629 ?_
        refine pw_istore C dL_law_630 (Nat.le_of_ble_eq_true rfl) rfl ?_
        suffices K_632 : ∀ (nn_632 : Nat) (f : Int) (Mf : Mm), (0 ≤ f ∧ f ≤ 4) → (RC G Mf B A1) → (∀ j, 0 ≤ j → j < f → Mf 1 (B + 202 + 1 + tk) j = A1 (200 + tk) 0 j) → (∀ b j, ¬ b = (B + 202 + 1 + tk) → Mf 1 b j = Mz 1 b j) → 4 - f < (nn_632 : Int) → PW E G Mf k n 632 [(0, 1, vR sb), (1, 1, vR B), (2, 1, vR (B + 202)), (3, 1, vR (B + 263)), (4, 1, vI tk), (5, 1, vI i), (6, 1, vI x), (7, 1, vI y), (8, 1, vI sy), (9, 1, vI fa), (10, 1, vI so), (11, 1, vI li), (15, 1, vI 0), (16, 1, vI (1 + fs)), (17, 1, vI f)] [] from pw_locs (by exact ⟨rfl, cat_vR _, rfl, cat_vR _, rfl, cat_vR _, rfl, cat_vR _, rfl, rfl, rfl, rfl, rfl, rfl, rfl, rfl, rfl, rfl, rfl, rfl, rfl, rfl, rfl, rfl, rfl, rfl, rfl, rfl, rfl, rfl, trivial⟩) (K_632 (4 - 0 + 1 : Int).toNat 0 Mz (by omega) (by first | exact hR1 | omega) (by first | exact fun j q1 q2 => by omega | omega) (by first | exact fun b j _ => rfl | omega) (by omega))
        intro nn_632
        induction nn_632 with
        | zero => intro f Mf h1 hRf hrw hot h_m632; exact absurd h_m632 (by omega)
        | succ nn_632 ih_632 =>
          intro f Mf h1 hRf hrw hot h_m632
          refine pw_iload C dL_law_632 rfl ?_
          refine pw_iconst C dL_law_634 ?_
          refine pw_icmp_ge (tgt := 659) C dL_law_635 (by decide) (by omega) (fun c_635 => ?_) (fun c_635 => ?_)
          · skip
            refine pw_iinc C dL_law_659 rfl (Nat.le_of_ble_eq_true rfl) rfl ?_
            refine pw_goto (tgt := 994) C dL_law_662 (by decide) ?_
            exact pw_locs (by exact ⟨rfl, cat_vR _, rfl, cat_vR _, rfl, cat_vR _, rfl, cat_vR _, rfl, rfl, rfl, rfl, trivial⟩) (kk _ _ _ _ _ _ (hJ.new hRf hO1 hot (fun f q1 q2 => hrw f q1 (by omega)) ⟨⟨hI1, hS1⟩, hL1⟩ hM1 (by omega) n11 n13 y1 ev1))
          · skip
            refine pw_aload_n C dL_law_638 rfl ?_
            refine pw_iload C dL_law_639 rfl ?_
            refine pw_aaldE C dL_law_641 hMV.1 (by omega) (by omega) (hMV.2 tk (by omega) (by omega)).1 ?_
            refine pw_iload C dL_law_642 rfl ?_
            refine pw_aload_n C dL_law_644 rfl ?_
            refine pw_iload C dL_law_645 rfl ?_
            refine pw_iload C dL_law_647 rfl ?_
            refine pw_cVE C hX dL_law_649 ml_L_64 mc_X5_says (c_says hRf hI1.1 (t := tk) (f := f) (by omega) (by omega) (by omega)) kc_8 hRf.k rfl rfl ⟨Nat.le_of_ble_eq_true rfl, Nat.le_of_ble_eq_true rfl⟩ (Nat.le_of_ble_eq_true rfl) (by show k + 0 ≤ 916994 ∧ n + 0 ≤ 6350716; omega) ?_
            refine pw_iastG C dL_law_652 (hMV.2 tk (by omega) (by omega)).2 (by omega) (fun M1 eM1 => ?_)
            have hR2 := hRf.o (lo := (B + 202 + 1 + tk)) (hi := (B + 202 + 1 + tk)) (M1 := M1) (by rw [eM1]; exact Ot.rf.u1 (by omega)) (by omega)
            have hrw2 : ∀ j, 0 ≤ j → j < f + 1 → M1 1 (B + 202 + 1 + tk) j = A1 (200 + tk) 0 j := fun j q1 q2 => by
              by_cases z : j = f
              · rw [z, eM1, mup_s]
              · rw [eM1, mup_n (by omega)]; exact hrw j q1 (by omega)
            have hot2 : ∀ b j, ¬ b = (B + 202 + 1 + tk) → M1 1 b j = Mz 1 b j := fun b j q => by rw [eM1, mup_n (by omega)]; exact hot b j q
            refine pw_iinc C dL_law_653 rfl (Nat.le_of_ble_eq_true rfl) rfl ?_
            refine pw_goto (tgt := 632) C dL_law_656 (by decide) ?_
            exact pw_locs (by exact ⟨rfl, cat_vR _, rfl, cat_vR _, rfl, cat_vR _, rfl, cat_vR _, rfl, rfl, rfl, rfl, rfl, rfl, rfl, rfl, rfl, rfl, rfl, rfl, rfl, rfl, rfl, rfl, rfl, rfl, rfl, rfl, rfl, rfl, trivial⟩) (ih_632 (f + 1) M1 (by omega) (hR2) (hrw2) (hot2) (by omega))
      · skip
        rw [if_neg h4] at hR1
        have e4 : mny A 4 = tk := htk
        refine pw_ifL_ne (tgt := 616) C dL_law_611 (by decide) rfl ?_
        refine pw_aload_n C dL_law_616 rfl ?_
        refine pw_iconst C dL_law_617 ?_
        refine pw_cVE C hX dL_law_618 ml_L_53 mc_X5_many (c_many hR1 hA (w := 4) (by omega) (by omega)) kc_8 hR1.k rfl rfl ⟨Nat.le_of_ble_eq_true rfl, Nat.le_of_ble_eq_true rfl⟩ (Nat.le_of_ble_eq_true rfl) (by show k + 0 ≤ 916994 ∧ n + 0 ≤ 6350716; omega) ?_
        rw [e4]
        refine pw_iload C dL_law_621 rfl ?_
        refine pw_icmp_ne (tgt := 629) C dL_law_623 (by decide) (by omega) (fun c_623 => ?_) (fun c_623 => ?_)
        · exact absurd c_623 (by omega)
        refine pw_goto (tgt := 994) C dL_law_626 (by decide) ?_
        exact pw_locs (by exact ⟨rfl, cat_vR _, rfl, cat_vR _, rfl, cat_vR _, rfl, cat_vR _, rfl, rfl, rfl, rfl, trivial⟩) (kk _ _ _ _ _ _ (hJ.go hR1 hO1 ⟨⟨hI, hS⟩, hL⟩ Mo.rf rfl rfl rfl (fun t f _ _ => rfl)))
    · skip
      refine pw_goto (tgt := 994) C dL_law_585 (by decide) ?_
      exact pw_locs (by exact ⟨rfl, cat_vR _, rfl, cat_vR _, rfl, cat_vR _, rfl, cat_vR _, rfl, rfl, rfl, rfl, trivial⟩) (kk _ _ _ _ _ _ (hJ.go hR hO0 ⟨⟨hI, hS⟩, hL⟩ Mo.rf rfl rfl rfl (fun t f _ _ => rfl)))
  · skip
    refine pw_iconst C dL_law_558 ?_
    refine pw_goto (tgt := 563) C dL_law_559 (by decide) ?_
    refine pw_istore C dL_law_563 (Nat.le_of_ble_eq_true rfl) rfl ?_
    refine pw_iconst C dL_law_565 ?_
    refine pw_iload C dL_law_566 rfl ?_
    refine pw_iconst C dL_law_568 ?_
    refine pw_ishr C dL_law_569 ?_
    refine pw_top (v' := vI (shr x 3)) shr_v ?_
    refine pw_bipush C dL_law_570 rfl ?_
    refine pw_cSE C hX dL_law_572 ml_L_18 mc_L_below (c_below (x := (shr x 3)) (n := 15) (by omega)) rfl rfl ⟨Nat.le_of_ble_eq_true rfl, Nat.le_of_ble_eq_true rfl⟩ (Nat.le_of_ble_eq_true rfl) (by show k + 0 ≤ 916994 ∧ n + 0 ≤ 6350716; omega) ?_
    have bw_572 := bw_bd (x := (shr x 3)) (n := 15) (by omega)
    obtain ⟨fs, hfs⟩ : ∃ w, w = bw (shr x 3) 15 := ⟨_, rfl⟩
    rw [← hfs] at bw_572 ⊢
    refine pw_iadd C dL_law_575 ?_
    refine pw_istore C dL_law_576 (Nat.le_of_ble_eq_true rfl) rfl ?_
    refine pw_iload C dL_law_578 rfl ?_
    refine pw_bipush C dL_law_580 rfl ?_
    refine pw_icmp_le (tgt := 588) C dL_law_582 (by decide) (by omega) (fun c_582 => ?_) (fun c_582 => ?_)
    · skip
      refine pw_aload_n C dL_law_588 rfl ?_
      refine pw_iload C dL_law_589 rfl ?_
      refine pw_iload C dL_law_591 rfl ?_
      refine pw_bipush C dL_law_593 rfl ?_
      refine pw_ishr C dL_law_595 ?_
      refine pw_top (v' := vI (shr x 6)) shr_v ?_
      refine pw_iconst C dL_law_596 ?_
      refine pw_cSE C hX dL_law_597 ml_L_18 mc_L_below (c_below (x := (shr x 6)) (n := 2) (by omega)) rfl rfl ⟨Nat.le_of_ble_eq_true rfl, Nat.le_of_ble_eq_true rfl⟩ (Nat.le_of_ble_eq_true rfl) (by show k + 0 ≤ 916994 ∧ n + 0 ≤ 6350716; omega) ?_
      have bw_597 := bw_bd (x := (shr x 6)) (n := 2) (by omega)
      obtain ⟨kd, hkd⟩ : ∃ w, w = bw (shr x 6) 2 := ⟨_, rfl⟩
      rw [← hkd] at bw_597 ⊢
      refine pw_iconst C dL_law_600 ?_
      refine pw_iadd C dL_law_601 ?_
      refine pw_iload C dL_law_602 rfl ?_
      refine pw_iload C dL_law_604 rfl ?_
      refine pw_iload C dL_law_606 rfl ?_
      refine pw_cSI C hX dL_law_608 ml_L_60 mc_L_isFiled (c_isFiled hR hA (s := sy) (k := kd + 3) (set := 1 + fs) (z := 1) (tk := tk) hI hL (by omega) (by omega) (by omega) (by omega) htk (by omega)) rfl rfl ⟨Nat.le_of_ble_eq_true rfl, Nat.le_of_ble_eq_true rfl⟩ (Nat.le_of_ble_eq_true rfl) (by show k + 0 ≤ 916994 ∧ n + 0 ≤ 6350716; omega) (fun r_ G Mz hq_ => ?_)
      obtain ⟨rfl, rfl, hR1, o1⟩ := hq_
      have hO1 := hO0.tr o1
      by_cases h4 : hv A sy (1 + fs) 1 = 4
      · skip
        rw [if_pos h4] at hR1
        have tf := fil_f (s := sy) (k := (kd + 3)) (set := (1 + fs)) (g := 1) (hd := 0) (tg := -1) hA
        have hI1 : Inv (aFil A sy (kd + 3) (1 + fs) 1 0 (-1)) := hI.fil (by omega) (by omega) (by omega) (by omega) (by omega) (by omega) (by omega) (by omega) h4
        have hS1 : SN (aFil A sy (kd + 3) (1 + fs) 1 0 (-1)) := SN.take (T := nT A sy (kd + 3) (1 + fs) 1 0 (-1)) hS hA
        have w3 : 0 < nT A sy (kd + 3) (1 + fs) 1 0 (-1) 1 3 := by rw [nT_1.2.2.2.1]; exact wdf_pos (by omega) (bc_bd (1 + fs)).1
        have hL1 : LX (aFil A sy (kd + 3) (1 + fs) 1 0 (-1)) := hL.take hA hW (by omega) tf w3 nT_1.2.2.2.2.1 nT_1.2.2.2.2.2.2.2.2
        have hM1 : Mo A (aFil A sy (kd + 3) (1 + fs) 1 0 (-1)) := Mo.take hL hA hW tf
        obtain ⟨A1, eA1⟩ : ∃ w, w = aFil A sy (kd + 3) (1 + fs) 1 0 (-1) := ⟨_, rfl⟩
        rw [← eA1] at hR1 tf hI1 hS1 hL1 hM1
        have n11 : A1 0 0 1 = tk + 1 := by rw [tf.1, if_pos rfl, htk]
        have n13 : A1 0 0 3 = A 0 0 3 := by rw [tf.1, if_neg (by omega)]
        have y1 : A1 10 2 0 = A 10 2 0 := by rw [tf.2.1 10 (by omega) (by omega) (by omega)]
        have ev1 : ∀ t f, 0 ≤ t → t < A 0 0 1 → A1 (200 + t) 0 f = A (200 + t) 0 f := fun t f q1 q2 => by rw [tf.2.1 (200 + t) (by omega) (by omega) (by omega)]
        have e4 : mny A1 4 = tk + 1 := n11
        have hn1 := hI1.1.n
        refine pw_ifL_ne (tgt := 616) C dL_law_611 (by decide) rfl ?_
        refine pw_aload_n C dL_law_616 rfl ?_
        refine pw_iconst C dL_law_617 ?_
        refine pw_cVE C hX dL_law_618 ml_L_53 mc_X5_many (c_many hR1 hI1.1 (w := 4) (by omega) (by omega)) kc_8 hR1.k rfl rfl ⟨Nat.le_of_ble_eq_true rfl, Nat.le_of_ble_eq_true rfl⟩ (Nat.le_of_ble_eq_true rfl) (by show k + 0 ≤ 916994 ∧ n + 0 ≤ 6350716; omega) ?_
        rw [e4]
        refine pw_iload C dL_law_621 rfl ?_
        refine pw_icmp_ne (tgt := 629) C dL_law_623 (by decide) (by omega) (fun c_623 => ?_) (fun c_623 => ?_)
        rotate_left
        · exact absurd c_623 (by omega)
        refine pw_iconst C dL_law_629 ?_
        refine pw_istore C dL_law_630 (Nat.le_of_ble_eq_true rfl) rfl ?_
        suffices K_632 : ∀ (nn_632 : Nat) (f : Int) (Mf : Mm), (0 ≤ f ∧ f ≤ 4) → (RC G Mf B A1) → (∀ j, 0 ≤ j → j < f → Mf 1 (B + 202 + 1 + tk) j = A1 (200 + tk) 0 j) → (∀ b j, ¬ b = (B + 202 + 1 + tk) → Mf 1 b j = Mz 1 b j) → 4 - f < (nn_632 : Int) → PW E G Mf k n 632 [(0, 1, vR sb), (1, 1, vR B), (2, 1, vR (B + 202)), (3, 1, vR (B + 263)), (4, 1, vI tk), (5, 1, vI i), (6, 1, vI x), (7, 1, vI y), (8, 1, vI sy), (9, 1, vI fa), (10, 1, vI so), (11, 1, vI li), (15, 1, vI 1), (16, 1, vI (1 + fs)), (17, 1, vI f)] [] from pw_locs (by exact ⟨rfl, cat_vR _, rfl, cat_vR _, rfl, cat_vR _, rfl, cat_vR _, rfl, rfl, rfl, rfl, rfl, rfl, rfl, rfl, rfl, rfl, rfl, rfl, rfl, rfl, rfl, rfl, rfl, rfl, rfl, rfl, rfl, rfl, trivial⟩) (K_632 (4 - 0 + 1 : Int).toNat 0 Mz (by omega) (by first | exact hR1 | omega) (by first | exact fun j q1 q2 => by omega | omega) (by first | exact fun b j _ => rfl | omega) (by omega))
        intro nn_632
        induction nn_632 with
        | zero => intro f Mf h1 hRf hrw hot h_m632; exact absurd h_m632 (by omega)
        | succ nn_632 ih_632 =>
          intro f Mf h1 hRf hrw hot h_m632
          refine pw_iload C dL_law_632 rfl ?_
          refine pw_iconst C dL_law_634 ?_
          refine pw_icmp_ge (tgt := 659) C dL_law_635 (by decide) (by omega) (fun c_635 => ?_) (fun c_635 => ?_)
          · skip
            refine pw_iinc C dL_law_659 rfl (Nat.le_of_ble_eq_true rfl) rfl ?_
            refine pw_goto (tgt := 994) C dL_law_662 (by decide) ?_
            exact pw_locs (by exact ⟨rfl, cat_vR _, rfl, cat_vR _, rfl, cat_vR _, rfl, cat_vR _, rfl, rfl, rfl, rfl, trivial⟩) (kk _ _ _ _ _ _ (hJ.new hRf hO1 hot (fun f q1 q2 => hrw f q1 (by omega)) ⟨⟨hI1, hS1⟩, hL1⟩ hM1 (by omega) n11 n13 y1 ev1))
          · skip
            refine pw_aload_n C dL_law_638 rfl ?_
            refine pw_iload C dL_law_639 rfl ?_
            refine pw_aaldE C dL_law_641 hMV.1 (by omega) (by omega) (hMV.2 tk (by omega) (by omega)).1 ?_
            refine pw_iload C dL_law_642 rfl ?_
            refine pw_aload_n C dL_law_644 rfl ?_
            refine pw_iload C dL_law_645 rfl ?_
            refine pw_iload C dL_law_647 rfl ?_
            refine pw_cVE C hX dL_law_649 ml_L_64 mc_X5_says (c_says hRf hI1.1 (t := tk) (f := f) (by omega) (by omega) (by omega)) kc_8 hRf.k rfl rfl ⟨Nat.le_of_ble_eq_true rfl, Nat.le_of_ble_eq_true rfl⟩ (Nat.le_of_ble_eq_true rfl) (by show k + 0 ≤ 916994 ∧ n + 0 ≤ 6350716; omega) ?_
            refine pw_iastG C dL_law_652 (hMV.2 tk (by omega) (by omega)).2 (by omega) (fun M3 eM3 => ?_)
            have hR4 := hRf.o (lo := (B + 202 + 1 + tk)) (hi := (B + 202 + 1 + tk)) (M1 := M3) (by rw [eM3]; exact Ot.rf.u1 (by omega)) (by omega)
            have hrw2 : ∀ j, 0 ≤ j → j < f + 1 → M3 1 (B + 202 + 1 + tk) j = A1 (200 + tk) 0 j := fun j q1 q2 => by
              by_cases z : j = f
              · rw [z, eM3, mup_s]
              · rw [eM3, mup_n (by omega)]; exact hrw j q1 (by omega)
            have hot2 : ∀ b j, ¬ b = (B + 202 + 1 + tk) → M3 1 b j = Mz 1 b j := fun b j q => by rw [eM3, mup_n (by omega)]; exact hot b j q
            refine pw_iinc C dL_law_653 rfl (Nat.le_of_ble_eq_true rfl) rfl ?_
            refine pw_goto (tgt := 632) C dL_law_656 (by decide) ?_
            exact pw_locs (by exact ⟨rfl, cat_vR _, rfl, cat_vR _, rfl, cat_vR _, rfl, cat_vR _, rfl, rfl, rfl, rfl, rfl, rfl, rfl, rfl, rfl, rfl, rfl, rfl, rfl, rfl, rfl, rfl, rfl, rfl, rfl, rfl, rfl, rfl, trivial⟩) (ih_632 (f + 1) M3 (by omega) (hR4) (hrw2) (hot2) (by omega))
      · skip
        rw [if_neg h4] at hR1
        have e4 : mny A 4 = tk := htk
        refine pw_ifL_ne (tgt := 616) C dL_law_611 (by decide) rfl ?_
        refine pw_aload_n C dL_law_616 rfl ?_
        refine pw_iconst C dL_law_617 ?_
        refine pw_cVE C hX dL_law_618 ml_L_53 mc_X5_many (c_many hR1 hA (w := 4) (by omega) (by omega)) kc_8 hR1.k rfl rfl ⟨Nat.le_of_ble_eq_true rfl, Nat.le_of_ble_eq_true rfl⟩ (Nat.le_of_ble_eq_true rfl) (by show k + 0 ≤ 916994 ∧ n + 0 ≤ 6350716; omega) ?_
        rw [e4]
        refine pw_iload C dL_law_621 rfl ?_
        refine pw_icmp_ne (tgt := 629) C dL_law_623 (by decide) (by omega) (fun c_623 => ?_) (fun c_623 => ?_)
        · exact absurd c_623 (by omega)
        refine pw_goto (tgt := 994) C dL_law_626 (by decide) ?_
        exact pw_locs (by exact ⟨rfl, cat_vR _, rfl, cat_vR _, rfl, cat_vR _, rfl, cat_vR _, rfl, rfl, rfl, rfl, trivial⟩) (kk _ _ _ _ _ _ (hJ.go hR1 hO1 ⟨⟨hI, hS⟩, hL⟩ Mo.rf rfl rfl rfl (fun t f _ _ => rfl)))
    · skip
      refine pw_goto (tgt := 994) C dL_law_585 (by decide) ?_
      exact pw_locs (by exact ⟨rfl, cat_vR _, rfl, cat_vR _, rfl, cat_vR _, rfl, cat_vR _, rfl, rfl, rfl, rfl, trivial⟩) (kk _ _ _ _ _ _ (hJ.go hR hO0 ⟨⟨hI, hS⟩, hL⟩ Mo.rf rfl rfl rfl (fun t f _ _ => rfl)))

set_option maxHeartbeats 4000000 in
set_option maxRecDepth 100000 in
theorem law_correct {E : Ev} {tb : List ExceptionTableEntry} {X : Xv} {B sb i tk x y sy fa so li : Int} {k n : Nat} {G M : Mm} {A : An} (C : Cx E code 22 RL tb room_1) (hX : E.1 = X) (hJ : LJ B i tk k n G M A) (hi : 0 ≤ i ∧ i < 64) (hB : 0 ≤ B) (hsy : 0 ≤ sy ∧ sy < 2) (hfa : 0 ≤ fa ∧ fa < 4) (hso : 0 ≤ so ∧ so < 6) (hli : 0 ≤ li ∧ li < 2) (kk : ∀ (G' M' : Mm) (k' n' : Nat) (A' : An) (tk' : Int), LJ B (i + 1) tk' k' n' G' M' A' → PW E G' M' k' n' 994 [(0, 1, vR sb), (1, 1, vR B), (2, 1, vR (B + 202)), (3, 1, vR (B + 263)), (4, 1, vI tk'), (5, 1, vI i)] []) : PW E G M k n 665 [(0, 1, vR sb), (1, 1, vR B), (2, 1, vR (B + 202)), (3, 1, vR (B + 263)), (4, 1, vI tk), (5, 1, vI i), (6, 1, vI x), (7, 1, vI y), (8, 1, vI sy), (9, 1, vI fa), (10, 1, vI so), (11, 1, vI li)] [] := by
  obtain ⟨hR, ⟨⟨hI, hS⟩, hL⟩, ⟨hc6, htk⟩, ht9, hnow, ⟨hMV, hMW⟩, hG4, hVC, hWC, hk9, hn9⟩ := id hJ
  have hA := hI.1
  have hW := hI.2.1
  have hnA := hA.n
  have hnS := hA.so.c
  have h00 := hL.1.1
  have h02 := hL.1.2
  have hO0 : Ot B (B + 201) M M := Ot.rf
  refine pw_iload C dL_law_665 rfl ?_
  refine pw_if_eq (tgt := 994) C dL_law_667 (by decide) (by omega) (fun c_667 => ?_) (fun c_667 => ?_)
  · skip
    exact pw_locs (by exact ⟨rfl, cat_vR _, rfl, cat_vR _, rfl, cat_vR _, rfl, cat_vR _, rfl, rfl, rfl, rfl, trivial⟩) (kk _ _ _ _ _ _ (hJ.go hR hO0 ⟨⟨hI, hS⟩, hL⟩ Mo.rf rfl rfl rfl (fun t f _ _ => rfl)))
  · skip
    refine pw_iload C dL_law_670 rfl ?_
    refine pw_bipush C dL_law_672 rfl ?_
    refine pw_icmp_le (tgt := 680) C dL_law_674 (by decide) (by omega) (fun c_674 => ?_) (fun c_674 => ?_)
    · skip
      refine pw_iload C dL_law_680 rfl ?_
      refine pw_iconst C dL_law_682 ?_
      refine pw_ishr C dL_law_683 ?_
      refine pw_top (v' := vI (shr x 4)) shr_v ?_
      refine pw_iload C dL_law_684 rfl ?_
      refine pw_cSE C hX dL_law_686 ml_L_18 mc_L_below (c_below (x := (shr x 4)) (n := tk) (by omega)) rfl rfl ⟨Nat.le_of_ble_eq_true rfl, Nat.le_of_ble_eq_true rfl⟩ (Nat.le_of_ble_eq_true rfl) (by show k + 0 ≤ 916994 ∧ n + 0 ≤ 6350716; omega) ?_
      have bw_686 := bw_bd (x := (shr x 4)) (n := tk) (by omega)
      obtain ⟨u, hu⟩ : ∃ w, w = bw (shr x 4) tk := ⟨_, rfl⟩
      rw [← hu] at bw_686 ⊢
      refine pw_istore C dL_law_689 (Nat.le_of_ble_eq_true rfl) rfl ?_
      refine pw_aload_n C dL_law_691 rfl ?_
      refine pw_iload C dL_law_692 rfl ?_
      refine pw_bipush C dL_law_694 rfl ?_
      refine pw_cVE C hX dL_law_696 ml_L_67 mc_X5_ofTake (c_ofTake hR hA (t := u) (w := 6) (by omega) (by omega) (by omega)) kc_8 hR.k rfl rfl ⟨Nat.le_of_ble_eq_true rfl, Nat.le_of_ble_eq_true rfl⟩ (Nat.le_of_ble_eq_true rfl) (by show k + 0 ≤ 916994 ∧ n + 0 ≤ 6350716; omega) ?_
      have e6 := oTa_6 (A := A) (t := u)
      have b6 : oTa A u 6 = 0 ∨ oTa A u 6 = 1 := by rw [e6]; split <;> omega
      refine pw_iconst C dL_law_699 ?_
      refine pw_icmp_eq (tgt := 994) C dL_law_700 (by decide) (by omega) (fun c_700 => ?_) (fun c_700 => ?_)
      · skip
        exact pw_locs (by exact ⟨rfl, cat_vR _, rfl, cat_vR _, rfl, cat_vR _, rfl, cat_vR _, rfl, rfl, rfl, rfl, trivial⟩) (kk _ _ _ _ _ _ (hJ.go hR hO0 ⟨⟨hI, hS⟩, hL⟩ Mo.rf rfl rfl rfl (fun t f _ _ => rfl)))
      · skip
        have k7 : A (200 + u) 1 7 = -1 := by (apply Classical.byContradiction; intro q; rw [if_neg q] at e6; omega)
        refine pw_aload_n C dL_law_703 rfl ?_
        refine pw_iload C dL_law_704 rfl ?_
        refine pw_iload C dL_law_706 rfl ?_
        refine pw_cVE C hX dL_law_708 ml_L_64 mc_X5_says (c_says hR hA (t := u) (f := fa) (by omega) (by omega) (by omega)) kc_8 hR.k rfl rfl ⟨Nat.le_of_ble_eq_true rfl, Nat.le_of_ble_eq_true rfl⟩ (Nat.le_of_ble_eq_true rfl) (by show k + 0 ≤ 916994 ∧ n + 0 ≤ 6350716; omega) ?_
        obtain ⟨vl, hvl⟩ : ∃ w, w = A (200 + u) 0 fa := ⟨_, rfl⟩
        rw [← hvl]
        have bvl : -1 ≤ vl ∧ vl ≤ 99 := by rw [hvl]; exact (hA.ta u (by omega)).v0 fa (by omega) (by omega)
        refine pw_if_ge (tgt := 717) C dL_law_711 (by decide) (by omega) (fun c_711 => ?_) (fun c_711 => ?_)
        · skip
          refine pw_aload_n C dL_law_717 rfl ?_
          refine pw_iload C dL_law_718 rfl ?_
          refine pw_iload C dL_law_720 rfl ?_
          obtain ⟨su, hsu⟩ : ∃ w, w = A (200 + u) 1 0 := ⟨_, rfl⟩
          have bsu : 0 ≤ su ∧ su < 2 := by rw [hsu]; exact ⟨(hA.ta u (by omega)).s0.1, by have := hI.2.2.2.2.2 u (by omega) (by omega); omega⟩
          obtain ⟨Tc, hTc⟩ : ∃ w, w = A (100 + (su * 4 + fa)) 1 0 := ⟨_, rfl⟩
          have bTc : -1 ≤ Tc ∧ Tc ≤ 99 := by rw [hTc]; exact (hA.fa (su * 4 + fa) (by omega)).s0
          refine pw_cVI C hX dL_law_722 ml_L_70 mc_X5_correct (c_correct hR hA (t := u) (f := fa) (by omega) (by omega) (by omega)) kc_8 hR.k rfl rfl ⟨Nat.le_of_ble_eq_true rfl, Nat.le_of_ble_eq_true rfl⟩ (Nat.le_of_ble_eq_true rfl) (by show k + 0 ≤ 916994 ∧ n + 0 ≤ 6350716; omega) (fun r_ G Mz hq_ => ?_)
          obtain ⟨rfl, hr, hR1, o1⟩ := hq_
          have hO1 := hO0.tr o1
          rw [← hsu, ← hTc, ← hvl] at hr hR1
          by_cases hc : Tc = -1 ∨ Tc = vl
          · skip
            rw [if_pos hc] at hr hR1
            rw [hr]
            have e60 : oTa A u 0 = su := hsu.symm
            have eT0 : oFa A su fa 0 = Tc := hTc.symm
            refine pw_istore C dL_law_725 (Nat.le_of_ble_eq_true rfl) rfl ?_
            refine pw_aload_n C dL_law_727 rfl ?_
            refine pw_aload_n C dL_law_728 rfl ?_
            refine pw_iload C dL_law_729 rfl ?_
            refine pw_iconst C dL_law_731 ?_
            refine pw_cVE C hX dL_law_732 ml_L_67 mc_X5_ofTake (c_ofTake hR1 hA (t := u) (w := 0) (by omega) (by omega) (by omega)) kc_8 hR1.k rfl rfl ⟨Nat.le_of_ble_eq_true rfl, Nat.le_of_ble_eq_true rfl⟩ (Nat.le_of_ble_eq_true rfl) (by show k + 0 ≤ 916994 ∧ n + 0 ≤ 6350716; omega) ?_
            rw [e60]
            refine pw_iload C dL_law_735 rfl ?_
            refine pw_iconst C dL_law_737 ?_
            refine pw_cVE C hX dL_law_738 ml_L_42 mc_X5_ofFact (c_ofFact hR1 hA (s := su) (f := fa) (w := 0) (by omega) (by omega) (by omega) (by omega)) kc_8 hR1.k rfl rfl ⟨Nat.le_of_ble_eq_true rfl, Nat.le_of_ble_eq_true rfl⟩ (Nat.le_of_ble_eq_true rfl) (by show k + 0 ≤ 916994 ∧ n + 0 ≤ 6350716; omega) ?_
            rw [eT0]
            refine pw_istore C dL_law_741 (Nat.le_of_ble_eq_true rfl) rfl ?_
            refine pw_iload C dL_law_743 rfl ?_
            refine pw_iload C dL_law_745 rfl ?_
            refine pw_if_lt (tgt := 763) C dL_law_747 (by decide) (by omega) (fun c_747 => ?_) (fun c_747 => ?_)
            · skip
              refine pw_bipush C dL_law_763 rfl ?_
              refine pw_goto (tgt := 770) C dL_law_765 (by decide) ?_
              refine pw_icmp_ne (tgt := 805) C dL_law_770 (by decide) (by omega) (fun c_770 => ?_) (fun c_770 => ?_)
              · exact absurd c_770 (by omega)
              refine pw_iload C dL_law_773 rfl ?_
              refine pw_if_lt (tgt := 807) C dL_law_775 (by decide) (by omega) (fun c_775 => ?_) (fun c_775 => ?_)
              rotate_left
              · exact absurd c_775 (by omega)
              refine pw_iload C dL_law_807 rfl ?_
              refine pw_if_ge (tgt := 815) C dL_law_809 (by decide) (by omega) (fun c_809 => ?_) (fun c_809 => ?_)
              · exact absurd c_809 (by omega)
              refine pw_goto (tgt := 994) C dL_law_812 (by decide) ?_
              exact pw_locs (by exact ⟨rfl, cat_vR _, rfl, cat_vR _, rfl, cat_vR _, rfl, cat_vR _, rfl, rfl, rfl, rfl, trivial⟩) (kk _ _ _ _ _ _ (hJ.go hR1 hO1 ⟨⟨hI, hS⟩, hL⟩ Mo.rf rfl rfl rfl (fun t f _ _ => rfl)))
            · skip
              refine pw_iload C dL_law_750 rfl ?_
              refine pw_aload_n C dL_law_752 rfl ?_
              refine pw_iload C dL_law_753 rfl ?_
              refine pw_iload C dL_law_755 rfl ?_
              refine pw_cVE C hX dL_law_757 ml_L_64 mc_X5_says (c_says hR1 hA (t := u) (f := fa) (by omega) (by omega) (by omega)) kc_8 hR1.k rfl rfl ⟨Nat.le_of_ble_eq_true rfl, Nat.le_of_ble_eq_true rfl⟩ (Nat.le_of_ble_eq_true rfl) (by show k + 0 ≤ 916994 ∧ n + 0 ≤ 6350716; omega) ?_
              rw [← hvl]
              refine pw_icmp_ne (tgt := 768) C dL_law_760 (by decide) (by omega) (fun c_760 => ?_) (fun c_760 => ?_)
              · exact absurd c_760 (by omega)
              refine pw_bipush C dL_law_763 rfl ?_
              refine pw_goto (tgt := 770) C dL_law_765 (by decide) ?_
              refine pw_icmp_ne (tgt := 805) C dL_law_770 (by decide) (by omega) (fun c_770 => ?_) (fun c_770 => ?_)
              · exact absurd c_770 (by omega)
              refine pw_iload C dL_law_773 rfl ?_
              refine pw_if_lt (tgt := 807) C dL_law_775 (by decide) (by omega) (fun c_775 => ?_) (fun c_775 => ?_)
              rotate_left
              · exact absurd c_775 (by omega)
              refine pw_iload C dL_law_807 rfl ?_
              refine pw_if_ge (tgt := 815) C dL_law_809 (by decide) (by omega) (fun c_809 => ?_) (fun c_809 => ?_)
              · exact absurd c_809 (by omega)
              refine pw_goto (tgt := 994) C dL_law_812 (by decide) ?_
              exact pw_locs (by exact ⟨rfl, cat_vR _, rfl, cat_vR _, rfl, cat_vR _, rfl, cat_vR _, rfl, rfl, rfl, rfl, trivial⟩) (kk _ _ _ _ _ _ (hJ.go hR1 hO1 ⟨⟨hI, hS⟩, hL⟩ Mo.rf rfl rfl rfl (fun t f _ _ => rfl)))
          · skip
            rw [if_neg hc] at hr hR1
            rw [hr, htk]
            have hb2 := p2_bd hfa
            have tf := fil_f (s := su) (k := 2) (set := p2 fa) (g := 0) (hd := 0) (tg := u) hA
            have h4 : hv A su (p2 fa) 0 = 4 := hv_p2 hfa (by rw [← hTc]; omega)
            have hI1 : Inv (aFil A su 2 (p2 fa) 0 0 u) := hI.fil (by omega) (by omega) (by omega) (by omega) (by omega) (by omega) (by omega) (by omega) h4
            have hS1 : SN (aFil A su 2 (p2 fa) 0 0 u) := SN.take (T := nT A su 2 (p2 fa) 0 0 u) hS hA
            have w3 : 0 < nT A su 2 (p2 fa) 0 0 u 1 3 := by rw [nT_1.2.2.2.1]; exact wdf_pos (by omega) (bc_bd (p2 fa)).1
            have hL1 : LX (aFil A su 2 (p2 fa) 0 0 u) := hL.take hA hW (by omega) tf w3 nT_1.2.2.2.2.1 nT_1.2.2.2.2.2.2.2.2
            have hM1 : Mo A (aFil A su 2 (p2 fa) 0 0 u) := Mo.take hL hA hW tf
            obtain ⟨A1, eA1⟩ : ∃ w, w = aFil A su 2 (p2 fa) 0 0 u := ⟨_, rfl⟩
            rw [← eA1] at hR1 tf hI1 hS1 hL1 hM1
            have n11 : A1 0 0 1 = tk + 1 := by rw [tf.1, if_pos rfl, htk]
            have n13 : A1 0 0 3 = A 0 0 3 := by rw [tf.1, if_neg (by omega)]
            have n10 : A1 0 0 0 = 2 := by rw [tf.1, if_neg (by omega)]; exact h00
            have y1 : A1 10 2 0 = A 10 2 0 := by rw [tf.2.1 10 (by omega) (by omega) (by omega)]
            have ev1 : ∀ t f, 0 ≤ t → t < A 0 0 1 → A1 (200 + t) 0 f = A (200 + t) 0 f := fun t f q1 q2 => by rw [tf.2.1 (200 + t) (by omega) (by omega) (by omega)]
            have tn : A1 (200 + tk) = nT A su 2 (p2 fa) 0 0 u := by rw [← htk]; exact tf.2.2.1
            have e60 : oTa A1 u 0 = su := by show A1 (200 + u) 1 0 = su; rw [tf.2.1 (200 + u) (by omega) (by omega) (by omega), hsu]
            have eT0 : oFa A1 su fa 0 = Tc := by show A1 (100 + (su * 4 + fa)) 1 0 = Tc; rw [tf.2.1 (100 + (su * 4 + fa)) (by omega) (by omega) (by omega), hTc]
            have ev2 : A1 (200 + u) 0 fa = vl := by rw [ev1 u fa (by omega) (by omega), hvl]
            have ev3 : A1 (200 + tk) 0 fa = Tc := by rw [tn, nT_0, if_pos ((ins_p2 hfa hfa).mpr rfl)]; show (if (0 : Int) = 0 then A (100 + (su * 4 + fa)) 1 0 else A (100 + (su * 4 + fa)) 1 2) = Tc; rw [if_pos rfl, hTc]
            have e62 : oTa A1 tk 2 = p2 fa := by show A1 (200 + tk) 1 2 = p2 fa; rw [tn, nT_1.2.2.1]
            have hn1 := hI1.1.n
            refine pw_istore C dL_law_725 (Nat.le_of_ble_eq_true rfl) rfl ?_
            refine pw_aload_n C dL_law_727 rfl ?_
            refine pw_aload_n C dL_law_728 rfl ?_
            refine pw_iload C dL_law_729 rfl ?_
            refine pw_iconst C dL_law_731 ?_
            refine pw_cVE C hX dL_law_732 ml_L_67 mc_X5_ofTake (c_ofTake hR1 hI1.1 (t := u) (w := 0) (by omega) (by omega) (by omega)) kc_8 hR1.k rfl rfl ⟨Nat.le_of_ble_eq_true rfl, Nat.le_of_ble_eq_true rfl⟩ (Nat.le_of_ble_eq_true rfl) (by show k + 0 ≤ 916994 ∧ n + 0 ≤ 6350716; omega) ?_
            rw [e60]
            refine pw_iload C dL_law_735 rfl ?_
            refine pw_iconst C dL_law_737 ?_
            refine pw_cVE C hX dL_law_738 ml_L_42 mc_X5_ofFact (c_ofFact hR1 hI1.1 (s := su) (f := fa) (w := 0) (by omega) (by omega) (by omega) (by omega)) kc_8 hR1.k rfl rfl ⟨Nat.le_of_ble_eq_true rfl, Nat.le_of_ble_eq_true rfl⟩ (Nat.le_of_ble_eq_true rfl) (by show k + 0 ≤ 916994 ∧ n + 0 ≤ 6350716; omega) ?_
            rw [eT0]
            refine pw_istore C dL_law_741 (Nat.le_of_ble_eq_true rfl) rfl ?_
            refine pw_iload C dL_law_743 rfl ?_
            refine pw_iload C dL_law_745 rfl ?_
            refine pw_if_lt (tgt := 763) C dL_law_747 (by decide) (by omega) (fun c_747 => ?_) (fun c_747 => ?_)
            · exact absurd c_747 (by omega)
            refine pw_iload C dL_law_750 rfl ?_
            refine pw_aload_n C dL_law_752 rfl ?_
            refine pw_iload C dL_law_753 rfl ?_
            refine pw_iload C dL_law_755 rfl ?_
            refine pw_cVE C hX dL_law_757 ml_L_64 mc_X5_says (c_says hR1 hI1.1 (t := u) (f := fa) (by omega) (by omega) (by omega)) kc_8 hR1.k rfl rfl ⟨Nat.le_of_ble_eq_true rfl, Nat.le_of_ble_eq_true rfl⟩ (Nat.le_of_ble_eq_true rfl) (by show k + 0 ≤ 916994 ∧ n + 0 ≤ 6350716; omega) ?_
            rw [ev2]
            refine pw_icmp_ne (tgt := 768) C dL_law_760 (by decide) (by omega) (fun c_760 => ?_) (fun c_760 => ?_)
            rotate_left
            · exact absurd c_760 (by omega)
            refine pw_iload C dL_law_768 rfl ?_
            refine pw_icmp_ne (tgt := 805) C dL_law_770 (by decide) (by omega) (fun c_770 => ?_) (fun c_770 => ?_)
            · exact absurd c_770 (by omega)
            refine pw_iload C dL_law_773 rfl ?_
            refine pw_if_lt (tgt := 807) C dL_law_775 (by decide) (by omega) (fun c_775 => ?_) (fun c_775 => ?_)
            · exact absurd c_775 (by omega)
            refine pw_aload_n C dL_law_778 rfl ?_
            refine pw_iload C dL_law_779 rfl ?_
            refine pw_iload C dL_law_781 rfl ?_
            refine pw_cVE C hX dL_law_783 ml_L_64 mc_X5_says (c_says hR1 hI1.1 (t := tk) (f := fa) (by omega) (by omega) (by omega)) kc_8 hR1.k rfl rfl ⟨Nat.le_of_ble_eq_true rfl, Nat.le_of_ble_eq_true rfl⟩ (Nat.le_of_ble_eq_true rfl) (by show k + 0 ≤ 916994 ∧ n + 0 ≤ 6350716; omega) ?_
            rw [ev3]
            refine pw_iload C dL_law_786 rfl ?_
            refine pw_icmp_ne (tgt := 805) C dL_law_788 (by decide) (by omega) (fun c_788 => ?_) (fun c_788 => ?_)
            · exact absurd c_788 (by omega)
            refine pw_aload_n C dL_law_791 rfl ?_
            refine pw_iload C dL_law_792 rfl ?_
            refine pw_iconst C dL_law_794 ?_
            refine pw_cVE C hX dL_law_795 ml_L_67 mc_X5_ofTake (c_ofTake hR1 hI1.1 (t := tk) (w := 2) (by omega) (by omega) (by omega)) kc_8 hR1.k rfl rfl ⟨Nat.le_of_ble_eq_true rfl, Nat.le_of_ble_eq_true rfl⟩ (Nat.le_of_ble_eq_true rfl) (by show k + 0 ≤ 916994 ∧ n + 0 ≤ 6350716; omega) ?_
            rw [e62]
            refine pw_iconst C dL_law_798 ?_
            refine pw_iload C dL_law_799 rfl ?_
            refine pw_ishl C dL_law_801 ?_
            refine pw_top (v' := vI (p2 fa)) (congrArg Value.int (shl_eq (by omega))) ?_
            refine pw_icmp_eq (tgt := 807) C dL_law_802 (by decide) (by omega) (fun c_802 => ?_) (fun c_802 => ?_)
            rotate_left
            · exact absurd c_802 (by omega)
            refine pw_iload C dL_law_807 rfl ?_
            refine pw_if_ge (tgt := 815) C dL_law_809 (by decide) (by omega) (fun c_809 => ?_) (fun c_809 => ?_)
            rotate_left
            · exact absurd c_809 (by omega)
            refine pw_iconst C dL_law_815 ?_
            refine pw_istore C dL_law_816 (Nat.le_of_ble_eq_true rfl) rfl ?_
            suffices K_818 : ∀ (nn_818 : Nat) (f : Int) (Mf : Mm), (0 ≤ f ∧ f ≤ 4) → (RC G Mf B A1) → (∀ j, 0 ≤ j → j < f → Mf 1 (B + 202 + 1 + tk) j = A1 (200 + tk) 0 j) → (∀ b j, ¬ b = (B + 202 + 1 + tk) → Mf 1 b j = Mz 1 b j) → 4 - f < (nn_818 : Int) → PW E G Mf k n 818 [(0, 1, vR sb), (1, 1, vR B), (2, 1, vR (B + 202)), (3, 1, vR (B + 263)), (4, 1, vI tk), (5, 1, vI i), (6, 1, vI x), (7, 1, vI y), (8, 1, vI sy), (9, 1, vI fa), (10, 1, vI so), (11, 1, vI li), (17, 1, vI u), (18, 1, vI tk), (19, 1, vI Tc), (20, 1, vI f)] [] from pw_locs (by exact ⟨rfl, cat_vR _, rfl, cat_vR _, rfl, cat_vR _, rfl, cat_vR _, rfl, rfl, rfl, rfl, rfl, rfl, rfl, rfl, rfl, rfl, rfl, rfl, rfl, rfl, rfl, rfl, rfl, rfl, rfl, rfl, rfl, rfl, rfl, rfl, trivial⟩) (K_818 (4 - 0 + 1 : Int).toNat 0 Mz (by omega) (by first | exact hR1 | omega) (by first | exact fun j q1 q2 => by omega | omega) (by first | exact fun b j _ => rfl | omega) (by omega))
            intro nn_818
            induction nn_818 with
            | zero => intro f Mf h1 hRf hrw hot h_m818; exact absurd h_m818 (by omega)
            | succ nn_818 ih_818 =>
              intro f Mf h1 hRf hrw hot h_m818
              refine pw_iload C dL_law_818 rfl ?_
              refine pw_iconst C dL_law_820 ?_
              refine pw_icmp_ge (tgt := 845) C dL_law_821 (by decide) (by omega) (fun c_821 => ?_) (fun c_821 => ?_)
              · skip
                refine pw_iinc C dL_law_845 rfl (Nat.le_of_ble_eq_true rfl) rfl ?_
                refine pw_goto (tgt := 994) C dL_law_848 (by decide) ?_
                exact pw_locs (by exact ⟨rfl, cat_vR _, rfl, cat_vR _, rfl, cat_vR _, rfl, cat_vR _, rfl, rfl, rfl, rfl, trivial⟩) (kk _ _ _ _ _ _ (hJ.new hRf hO1 hot (fun f q1 q2 => hrw f q1 (by omega)) ⟨⟨hI1, hS1⟩, hL1⟩ hM1 (by omega) n11 n13 y1 ev1))
              · skip
                refine pw_aload_n C dL_law_824 rfl ?_
                refine pw_iload C dL_law_825 rfl ?_
                refine pw_aaldE C dL_law_827 hMV.1 (by omega) (by omega) (hMV.2 tk (by omega) (by omega)).1 ?_
                refine pw_iload C dL_law_828 rfl ?_
                refine pw_aload_n C dL_law_830 rfl ?_
                refine pw_iload C dL_law_831 rfl ?_
                refine pw_iload C dL_law_833 rfl ?_
                refine pw_cVE C hX dL_law_835 ml_L_64 mc_X5_says (c_says hRf hI1.1 (t := tk) (f := f) (by omega) (by omega) (by omega)) kc_8 hRf.k rfl rfl ⟨Nat.le_of_ble_eq_true rfl, Nat.le_of_ble_eq_true rfl⟩ (Nat.le_of_ble_eq_true rfl) (by show k + 0 ≤ 916994 ∧ n + 0 ≤ 6350716; omega) ?_
                refine pw_iastG C dL_law_838 (hMV.2 tk (by omega) (by omega)).2 (by omega) (fun M1 eM1 => ?_)
                have hR2 := hRf.o (lo := (B + 202 + 1 + tk)) (hi := (B + 202 + 1 + tk)) (M1 := M1) (by rw [eM1]; exact Ot.rf.u1 (by omega)) (by omega)
                have hrw2 : ∀ j, 0 ≤ j → j < f + 1 → M1 1 (B + 202 + 1 + tk) j = A1 (200 + tk) 0 j := fun j q1 q2 => by
                  by_cases z : j = f
                  · rw [z, eM1, mup_s]
                  · rw [eM1, mup_n (by omega)]; exact hrw j q1 (by omega)
                have hot2 : ∀ b j, ¬ b = (B + 202 + 1 + tk) → M1 1 b j = Mz 1 b j := fun b j q => by rw [eM1, mup_n (by omega)]; exact hot b j q
                refine pw_iinc C dL_law_839 rfl (Nat.le_of_ble_eq_true rfl) rfl ?_
                refine pw_goto (tgt := 818) C dL_law_842 (by decide) ?_
                exact pw_locs (by exact ⟨rfl, cat_vR _, rfl, cat_vR _, rfl, cat_vR _, rfl, cat_vR _, rfl, rfl, rfl, rfl, rfl, rfl, rfl, rfl, rfl, rfl, rfl, rfl, rfl, rfl, rfl, rfl, rfl, rfl, rfl, rfl, rfl, rfl, rfl, rfl, trivial⟩) (ih_818 (f + 1) M1 (by omega) (hR2) (hrw2) (hot2) (by omega))
        · skip
          refine pw_goto (tgt := 994) C dL_law_714 (by decide) ?_
          exact pw_locs (by exact ⟨rfl, cat_vR _, rfl, cat_vR _, rfl, cat_vR _, rfl, cat_vR _, rfl, rfl, rfl, rfl, trivial⟩) (kk _ _ _ _ _ _ (hJ.go hR hO0 ⟨⟨hI, hS⟩, hL⟩ Mo.rf rfl rfl rfl (fun t f _ _ => rfl)))
    · skip
      refine pw_goto (tgt := 994) C dL_law_677 (by decide) ?_
      exact pw_locs (by exact ⟨rfl, cat_vR _, rfl, cat_vR _, rfl, cat_vR _, rfl, cat_vR _, rfl, rfl, rfl, rfl, trivial⟩) (kk _ _ _ _ _ _ (hJ.go hR hO0 ⟨⟨hI, hS⟩, hL⟩ Mo.rf rfl rfl rfl (fun t f _ _ => rfl)))

set_option maxHeartbeats 4000000 in
set_option maxRecDepth 100000 in
theorem law_kill {E : Ev} {tb : List ExceptionTableEntry} {X : Xv} {B sb i tk x y sy fa so li : Int} {k n : Nat} {G M : Mm} {A : An} (C : Cx E code 22 RL tb room_1) (hX : E.1 = X) (hJ : LJ B i tk k n G M A) (hi : 0 ≤ i ∧ i < 64) (hB : 0 ≤ B) (hsy : 0 ≤ sy ∧ sy < 2) (hfa : 0 ≤ fa ∧ fa < 4) (hso : 0 ≤ so ∧ so < 6) (hli : 0 ≤ li ∧ li < 2) (kk : ∀ (G' M' : Mm) (k' n' : Nat) (A' : An) (tk' : Int), LJ B (i + 1) tk' k' n' G' M' A' → PW E G' M' k' n' 994 [(0, 1, vR sb), (1, 1, vR B), (2, 1, vR (B + 202)), (3, 1, vR (B + 263)), (4, 1, vI tk'), (5, 1, vI i)] []) : PW E G M k n 851 [(0, 1, vR sb), (1, 1, vR B), (2, 1, vR (B + 202)), (3, 1, vR (B + 263)), (4, 1, vI tk), (5, 1, vI i), (6, 1, vI x), (7, 1, vI y), (8, 1, vI sy), (9, 1, vI fa), (10, 1, vI so), (11, 1, vI li)] [] := by
  obtain ⟨hR, ⟨⟨hI, hS⟩, hL⟩, ⟨hc6, htk⟩, ht9, hnow, ⟨hMV, hMW⟩, hG4, hVC, hWC, hk9, hn9⟩ := id hJ
  have hA := hI.1
  have hW := hI.2.1
  have hnA := hA.n
  have hnS := hA.so.c
  have h00 := hL.1.1
  have h02 := hL.1.2
  have hO0 : Ot B (B + 201) M M := Ot.rf
  refine pw_iload C dL_law_851 rfl ?_
  refine pw_if_eq (tgt := 994) C dL_law_853 (by decide) (by omega) (fun c_853 => ?_) (fun c_853 => ?_)
  · skip
    exact pw_locs (by exact ⟨rfl, cat_vR _, rfl, cat_vR _, rfl, cat_vR _, rfl, cat_vR _, rfl, rfl, rfl, rfl, trivial⟩) (kk _ _ _ _ _ _ (hJ.go hR hO0 ⟨⟨hI, hS⟩, hL⟩ Mo.rf rfl rfl rfl (fun t f _ _ => rfl)))
  · skip
    refine pw_iload C dL_law_856 rfl ?_
    refine pw_bipush C dL_law_858 rfl ?_
    refine pw_icmp_gt (tgt := 994) C dL_law_860 (by decide) (by omega) (fun c_860 => ?_) (fun c_860 => ?_)
    · skip
      exact pw_locs (by exact ⟨rfl, cat_vR _, rfl, cat_vR _, rfl, cat_vR _, rfl, cat_vR _, rfl, rfl, rfl, rfl, trivial⟩) (kk _ _ _ _ _ _ (hJ.go hR hO0 ⟨⟨hI, hS⟩, hL⟩ Mo.rf rfl rfl rfl (fun t f _ _ => rfl)))
    · skip
      refine pw_aload_n C dL_law_863 rfl ?_
      refine pw_iload C dL_law_864 rfl ?_
      refine pw_iconst C dL_law_866 ?_
      refine pw_ishr C dL_law_867 ?_
      refine pw_top (v' := vI (shr x 4)) shr_v ?_
      refine pw_iload C dL_law_868 rfl ?_
      refine pw_cSE C hX dL_law_870 ml_L_18 mc_L_below (c_below (x := (shr x 4)) (n := tk) (by omega)) rfl rfl ⟨Nat.le_of_ble_eq_true rfl, Nat.le_of_ble_eq_true rfl⟩ (Nat.le_of_ble_eq_true rfl) (by show k + 0 ≤ 916994 ∧ n + 0 ≤ 6350716; omega) ?_
      have bw_870 := bw_bd (x := (shr x 4)) (n := tk) (by omega)
      obtain ⟨u, hu⟩ : ∃ w, w = bw (shr x 4) tk := ⟨_, rfl⟩
      rw [← hu] at bw_870 ⊢
      refine pw_bipush C dL_law_873 rfl ?_
      refine pw_cVE C hX dL_law_875 ml_L_67 mc_X5_ofTake (c_ofTake hR hA (t := u) (w := 6) (by omega) (by omega) (by omega)) kc_8 hR.k rfl rfl ⟨Nat.le_of_ble_eq_true rfl, Nat.le_of_ble_eq_true rfl⟩ (Nat.le_of_ble_eq_true rfl) (by show k + 0 ≤ 916994 ∧ n + 0 ≤ 6350716; omega) ?_
      have e6 := oTa_6 (A := A) (t := u)
      have b6 : oTa A u 6 = 0 ∨ oTa A u 6 = 1 := by rw [e6]; split <;> omega
      refine pw_iconst C dL_law_878 ?_
      refine pw_icmp_eq (tgt := 994) C dL_law_879 (by decide) (by omega) (fun c_879 => ?_) (fun c_879 => ?_)
      · skip
        exact pw_locs (by exact ⟨rfl, cat_vR _, rfl, cat_vR _, rfl, cat_vR _, rfl, cat_vR _, rfl, rfl, rfl, rfl, trivial⟩) (kk _ _ _ _ _ _ (hJ.go hR hO0 ⟨⟨hI, hS⟩, hL⟩ Mo.rf rfl rfl rfl (fun t f _ _ => rfl)))
      · skip
        have k7 : A (200 + u) 1 7 = -1 := by (apply Classical.byContradiction; intro q; rw [if_neg q] at e6; omega)
        refine pw_aload_n C dL_law_882 rfl ?_
        refine pw_iload C dL_law_883 rfl ?_
        refine pw_iconst C dL_law_885 ?_
        refine pw_ishr C dL_law_886 ?_
        refine pw_top (v' := vI (shr x 4)) shr_v ?_
        refine pw_iload C dL_law_887 rfl ?_
        refine pw_cSE C hX dL_law_889 ml_L_18 mc_L_below (c_below (x := (shr x 4)) (n := tk) (by omega)) rfl rfl ⟨Nat.le_of_ble_eq_true rfl, Nat.le_of_ble_eq_true rfl⟩ (Nat.le_of_ble_eq_true rfl) (by show k + 0 ≤ 916994 ∧ n + 0 ≤ 6350716; omega) ?_
        have bw_889 := bw_bd (x := (shr x 4)) (n := tk) (by omega)
        rw [← hu]
        refine pw_iconst C dL_law_892 ?_
        refine pw_cVE C hX dL_law_893 ml_L_67 mc_X5_ofTake (c_ofTake hR hA (t := u) (w := 1) (by omega) (by omega) (by omega)) kc_8 hR.k rfl rfl ⟨Nat.le_of_ble_eq_true rfl, Nat.le_of_ble_eq_true rfl⟩ (Nat.le_of_ble_eq_true rfl) (by show k + 0 ≤ 916994 ∧ n + 0 ≤ 6350716; omega) ?_
        obtain ⟨kk1, hkk1⟩ : ∃ w, w = oTa A u 1 := ⟨_, rfl⟩
        rw [← hkk1]
        have bk1 : 0 ≤ kk1 ∧ kk1 ≤ 4 := by rw [hkk1]; exact (hA.ta u (by omega)).s1
        refine pw_iconst C dL_law_896 ?_
        refine pw_icmp_ne (tgt := 903) C dL_law_897 (by decide) (by omega) (fun c_897 => ?_) (fun c_897 => ?_)
        · skip
          have k1 : ¬ A (200 + u) 1 1 = 1 := by (intro q; have z : oTa A u 1 = 1 := q; omega)
          refine pw_iload C dL_law_903 rfl ?_
          refine pw_iconst C dL_law_905 ?_
          refine pw_ishr C dL_law_906 ?_
          refine pw_top (v' := vI (shr x 4)) shr_v ?_
          refine pw_iload C dL_law_907 rfl ?_
          refine pw_cSE C hX dL_law_909 ml_L_18 mc_L_below (c_below (x := (shr x 4)) (n := tk) (by omega)) rfl rfl ⟨Nat.le_of_ble_eq_true rfl, Nat.le_of_ble_eq_true rfl⟩ (Nat.le_of_ble_eq_true rfl) (by show k + 0 ≤ 916994 ∧ n + 0 ≤ 6350716; omega) ?_
          have bw_909 := bw_bd (x := (shr x 4)) (n := tk) (by omega)
          rw [← hu]
          refine pw_istore C dL_law_912 (Nat.le_of_ble_eq_true rfl) rfl ?_
          refine pw_aload_n C dL_law_914 rfl ?_
          refine pw_iload C dL_law_915 rfl ?_
          refine pw_cVI C hX dL_law_917 ml_L_73 mc_X5_kill (c_kill hR hA (t := u) (by omega)  (by omega)) kc_8 hR.k rfl rfl ⟨Nat.le_of_ble_eq_true rfl, Nat.le_of_ble_eq_true rfl⟩ (Nat.le_of_ble_eq_true rfl) (by show k + 0 ≤ 916994 ∧ n + 0 ≤ 6350716; omega) (fun r_ G M1 hq_ => ?_)
          obtain ⟨rfl, rfl, hR2, o3⟩ := hq_
          obtain ⟨A4, eA5⟩ : ∃ w, w = aKil A u := ⟨_, rfl⟩
          rw [← eA5] at hR2
          have kf := kl_f hA (t := u) (by omega)
          have hI1 : Inv A4 := by rw [eA5]; exact hI.kil (by omega) (by omega) k7
          have hS1 : SN A4 := by rw [eA5]; exact hS.kil hA (by omega)
          rw [← eA5] at kf
          have hL1 : LX A4 := hL.kil hA hW (by omega) (by omega) kf
          have hM1 : Mo A A4 := Mo.kil hL hA hW (by omega) k1 k7 kf
          have n11 : A4 0 0 1 = tk + 1 := by rw [kf.1, if_pos rfl, htk]
          have n13 : A4 0 0 3 = A 0 0 3 := by rw [kf.1, if_neg (by omega)]
          have y1 : A4 10 2 0 = A 10 2 0 := by rw [kf.2.1 10 (by omega) (by omega) (by omega) (by omega)]
          have tn : A4 (200 + tk) = nT A (A (200 + u) 1 0) 1 0 0 0 u := by rw [← htk]; exact kf.2.2.1
          have ev1 : ∀ t f, 0 ≤ t → t < A 0 0 1 → A4 (200 + t) 0 f = A (200 + t) 0 f := fun t f q1 q2 => by
            by_cases e : t = u
            · rw [e, kf.2.2.2.1, lup_n (by omega)]
            · rw [kf.2.1 (200 + t) (by omega) (by omega) (by omega) (by omega)]
          have hm1 : ∀ f, A4 (200 + tk) 0 f = -1 := fun f => by rw [tn, nT_0, if_neg ins_0]
          have e77 : oTa A4 tk 7 = u := by show A4 (200 + tk) 1 6 = u; rw [tn, nT_1.2.2.2.2.2.2.1]
          have e66 : oTa A4 u 6 = 1 := by rw [oTa_6, kf.2.2.2.1, lup_s, if_neg (by omega)]
          have bnk := kil_bd (A := A) (t := u) h02
          have hn1 := hI1.1.n
          have hOT6 := hO0.tr o3
          refine pw_iconst C dL_law_920 ?_
          refine pw_icmp_gt (tgt := 949) C dL_law_921 (by decide) (by omega) (fun c_921 => ?_) (fun c_921 => ?_)
          · exact absurd c_921 (by omega)
          refine pw_aload_n C dL_law_924 rfl ?_
          refine pw_iload C dL_law_925 rfl ?_
          refine pw_bipush C dL_law_927 rfl ?_
          refine pw_cVE C hX dL_law_929 ml_L_67 mc_X5_ofTake (c_ofTake hR2 hI1.1 (t := tk) (w := 7) (by omega) (by omega) (by omega)) kc_8 hR2.k rfl rfl ⟨Nat.le_of_ble_eq_true rfl, Nat.le_of_ble_eq_true rfl⟩ (Nat.le_of_ble_eq_true rfl) (by show k + 0 ≤ 916994 ∧ n + 0 ≤ 6350716; omega) ?_
          rw [e77]
          refine pw_iload C dL_law_932 rfl ?_
          refine pw_icmp_ne (tgt := 949) C dL_law_934 (by decide) (by omega) (fun c_934 => ?_) (fun c_934 => ?_)
          · exact absurd c_934 (by omega)
          refine pw_aload_n C dL_law_937 rfl ?_
          refine pw_iload C dL_law_938 rfl ?_
          refine pw_bipush C dL_law_940 rfl ?_
          refine pw_cVE C hX dL_law_942 ml_L_67 mc_X5_ofTake (c_ofTake hR2 hI1.1 (t := u) (w := 6) (by omega) (by omega) (by omega)) kc_8 hR2.k rfl rfl ⟨Nat.le_of_ble_eq_true rfl, Nat.le_of_ble_eq_true rfl⟩ (Nat.le_of_ble_eq_true rfl) (by show k + 0 ≤ 916994 ∧ n + 0 ≤ 6350716; omega) ?_
          rw [e66]
          refine pw_iconst C dL_law_945 ?_
          refine pw_icmp_eq (tgt := 951) C dL_law_946 (by decide) (by omega) (fun c_946 => ?_) (fun c_946 => ?_)
          rotate_left
          · exact absurd c_946 (by omega)
          refine pw_iconst C dL_law_951 ?_
          refine pw_istore C dL_law_952 (Nat.le_of_ble_eq_true rfl) rfl ?_
          suffices K_954 : ∀ (nn_954 : Nat) (f : Int) (Mf : Mm), (0 ≤ f ∧ f ≤ 4) → (RC G Mf B A4) → (∀ j, 0 ≤ j → j < f → Mf 1 (B + 202 + 1 + tk) j = A4 (200 + tk) 0 j) → (∀ b j, ¬ b = (B + 202 + 1 + tk) → Mf 1 b j = M1 1 b j) → 4 - f < (nn_954 : Int) → PW E G Mf k n 954 [(0, 1, vR sb), (1, 1, vR B), (2, 1, vR (B + 202)), (3, 1, vR (B + 263)), (4, 1, vI tk), (5, 1, vI i), (6, 1, vI x), (7, 1, vI y), (8, 1, vI sy), (9, 1, vI fa), (10, 1, vI so), (11, 1, vI li), (20, 1, vI u), (21, 1, vI f)] [] from pw_locs (by exact ⟨rfl, cat_vR _, rfl, cat_vR _, rfl, cat_vR _, rfl, cat_vR _, rfl, rfl, rfl, rfl, rfl, rfl, rfl, rfl, rfl, rfl, rfl, rfl, rfl, rfl, rfl, rfl, rfl, rfl, rfl, rfl, trivial⟩) (K_954 (4 - 0 + 1 : Int).toNat 0 M1 (by omega) (by first | exact hR2 | omega) (by first | exact fun j q1 q2 => by omega | omega) (by first | exact fun b j _ => rfl | omega) (by omega))
          intro nn_954
          induction nn_954 with
          | zero => intro f Mf h1 hRf hrw hot h_m954; exact absurd h_m954 (by omega)
          | succ nn_954 ih_954 =>
            intro f Mf h1 hRf hrw hot h_m954
            refine pw_iload C dL_law_954 rfl ?_
            refine pw_iconst C dL_law_956 ?_
            refine pw_icmp_ge (tgt := 974) C dL_law_957 (by decide) (by omega) (fun c_957 => ?_) (fun c_957 => ?_)
            · skip
              refine pw_iinc C dL_law_974 rfl (Nat.le_of_ble_eq_true rfl) rfl ?_
              refine pw_goto (tgt := 994) C dL_law_977 (by decide) ?_
              exact pw_locs (by exact ⟨rfl, cat_vR _, rfl, cat_vR _, rfl, cat_vR _, rfl, cat_vR _, rfl, rfl, rfl, rfl, trivial⟩) (kk _ _ _ _ _ _ (hJ.new hRf hOT6 hot (fun f q1 q2 => hrw f q1 (by omega)) ⟨⟨hI1, hS1⟩, hL1⟩ hM1 (by omega) n11 n13 y1 ev1))
            · skip
              refine pw_aload_n C dL_law_960 rfl ?_
              refine pw_iload C dL_law_961 rfl ?_
              refine pw_aaldE C dL_law_963 hMV.1 (by omega) (by omega) (hMV.2 tk (by omega) (by omega)).1 ?_
              refine pw_iload C dL_law_964 rfl ?_
              refine pw_iconst C dL_law_966 ?_
              refine pw_iastG C dL_law_967 (hMV.2 tk (by omega) (by omega)).2 (by omega) (fun M7 eM7 => ?_)
              have hR8 := hRf.o (lo := (B + 202 + 1 + tk)) (hi := (B + 202 + 1 + tk)) (M1 := M7) (by rw [eM7]; exact Ot.rf.u1 (by omega)) (by omega)
              have hrw2 : ∀ j, 0 ≤ j → j < f + 1 → M7 1 (B + 202 + 1 + tk) j = A4 (200 + tk) 0 j := fun j q1 q2 => by
                by_cases z : j = f
                · rw [z, eM7, mup_s]; exact (hm1 f).symm
                · rw [eM7, mup_n (by omega)]; exact hrw j q1 (by omega)
              have hot2 : ∀ b j, ¬ b = (B + 202 + 1 + tk) → M7 1 b j = M1 1 b j := fun b j q => by rw [eM7, mup_n (by omega)]; exact hot b j q
              refine pw_iinc C dL_law_968 rfl (Nat.le_of_ble_eq_true rfl) rfl ?_
              refine pw_goto (tgt := 954) C dL_law_971 (by decide) ?_
              exact pw_locs (by exact ⟨rfl, cat_vR _, rfl, cat_vR _, rfl, cat_vR _, rfl, cat_vR _, rfl, rfl, rfl, rfl, rfl, rfl, rfl, rfl, rfl, rfl, rfl, rfl, rfl, rfl, rfl, rfl, rfl, rfl, rfl, rfl, trivial⟩) (ih_954 (f + 1) M7 (by omega) (hR8) (hrw2) (hot2) (by omega))
        · skip
          refine pw_goto (tgt := 994) C dL_law_900 (by decide) ?_
          exact pw_locs (by exact ⟨rfl, cat_vR _, rfl, cat_vR _, rfl, cat_vR _, rfl, cat_vR _, rfl, rfl, rfl, rfl, trivial⟩) (kk _ _ _ _ _ _ (hJ.go hR hO0 ⟨⟨hI, hS⟩, hL⟩ Mo.rf rfl rfl rfl (fun t f _ _ => rfl)))

