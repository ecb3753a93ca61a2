section LBs
variable {L : Fn}
theorem LB.v0 (h : LB L) (t : Int) (h1 : 0 ≤ t) (h2 : t < 61) : -1 ≤ L 0 t ∧ L 0 t ≤ 200 := (h.1 t h1 h2).1
theorem LB.v1 (h : LB L) (t : Int) (h1 : 0 ≤ t) (h2 : t < 61) : 0 ≤ L 1 t ∧ L 1 t ≤ 4 := (h.1 t h1 h2).2.1
theorem LB.v2 (h : LB L) (t : Int) (h1 : 0 ≤ t) (h2 : t < 61) : 0 ≤ L 2 t ∧ L 2 t ≤ 9999 := (h.1 t h1 h2).2.2.1
theorem LB.v3 (h : LB L) (t : Int) (h1 : 0 ≤ t) (h2 : t < 61) : -1 ≤ L 3 t ∧ L 3 t ≤ 20000 := (h.1 t h1 h2).2.2.2
theorem LB.s0 (h : LB L) : 0 ≤ L 4 0 ∧ L 4 0 ≤ 60 := h.2.1
theorem LB.s1 (h : LB L) : 0 ≤ L 4 1 ∧ L 4 1 ≤ 9 := h.2.2.1
theorem LB.s2 (h : LB L) : 0 ≤ L 4 2 ∧ L 4 2 ≤ 99 := h.2.2.2.1
theorem LB.s4 (h : LB L) : 0 ≤ L 4 4 ∧ L 4 4 ≤ 61 := h.2.2.2.2
end LBs
set_option maxHeartbeats 4000000 in
set_option maxRecDepth 100000 in
theorem c_X1_isRunning {X : Xv} {G M : Mm} {a : Int} {L : Fn} (hL : LR G M a L) (hB : LB L) {t : Int} (ht : 0 ≤ t ∧ t < 61) : CT X yX1_isRunning prog_3_method_6_code 2 (some .boolean) 0 0 0 0 [vR a, vI t] G M (PE G M (bI (¬ L 0 t = -1))) := by
  refine CT.by (by decide +kernel) [1, 1] ⟨cat_vR _, cat_vI _, trivial⟩ (Nat.le_of_ble_eq_true rfl) (fun E hX C hR hIni => ?_)
  refine pw_aload_n C dX1_isRunning_0 rfl ?_
  refine pw_getR C dX1_isRunning_1 fl_X1_11 hL.k rfl (hL.r (b := (a + 1)) 0 (by omega)) ?_
  refine pw_iload_n C dX1_isRunning_4 rfl ?_
  refine pw_ialdE C dX1_isRunning_5 (hL.ai 0 (by omega)) (by omega) (hL.v 0 (by omega)) ?_
  have b_5 := hB.v0 t (by omega) (by omega)
  refine pw_iconst C dX1_isRunning_6 ?_
  refine pw_icmp_eq (tgt := 14) C dX1_isRunning_7 (by decide) (by omega) (fun c_7 => ?_) (fun c_7 => ?_)
  · skip
    refine pw_iconst C dX1_isRunning_14 ?_
    exact pw_zretE C hR dX1_isRunning_15 (by omega) rfl rfl (by first | exact (bI_t (by assumption)).symm | exact (bI_f (by assumption)).symm | exact (bI_t (by omega)).symm | exact (bI_f (by omega)).symm | (simp only [bI]; split <;> omega)) (Nat.zero_le _) (Nat.zero_le _)
  · skip
    refine pw_iconst C dX1_isRunning_10 ?_
    refine pw_goto (tgt := 15) C dX1_isRunning_11 (by decide) ?_
    exact pw_zretE C hR dX1_isRunning_15 (by omega) rfl rfl (by first | exact (bI_t (by assumption)).symm | exact (bI_f (by assumption)).symm | exact (bI_t (by omega)).symm | exact (bI_f (by omega)).symm | (simp only [bI]; split <;> omega)) (Nat.zero_le _) (Nat.zero_le _)

set_option maxHeartbeats 4000000 in
set_option maxRecDepth 100000 in
theorem c_X1_isSent {X : Xv} {G M : Mm} {a : Int} {L : Fn} (hL : LR G M a L) (hB : LB L) {t : Int} (ht : 0 ≤ t ∧ t < 61) : CT X yX1_isSent prog_3_method_7_code 2 (some .boolean) 0 0 0 0 [vR a, vI t] G M (PE G M (bI (L 0 t = 0))) := by
  refine CT.by (by decide +kernel) [1, 1] ⟨cat_vR _, cat_vI _, trivial⟩ (Nat.le_of_ble_eq_true rfl) (fun E hX C hR hIni => ?_)
  refine pw_aload_n C dX1_isSent_0 rfl ?_
  refine pw_getR C dX1_isSent_1 fl_X1_11 hL.k rfl (hL.r (b := (a + 1)) 0 (by omega)) ?_
  refine pw_iload_n C dX1_isSent_4 rfl ?_
  refine pw_ialdE C dX1_isSent_5 (hL.ai 0 (by omega)) (by omega) (hL.v 0 (by omega)) ?_
  have b_5 := hB.v0 t (by omega) (by omega)
  refine pw_if_ne (tgt := 13) C dX1_isSent_6 (by decide) (by omega) (fun c_6 => ?_) (fun c_6 => ?_)
  · skip
    refine pw_iconst C dX1_isSent_13 ?_
    exact pw_zretE C hR dX1_isSent_14 (by omega) rfl rfl (by first | exact (bI_t (by assumption)).symm | exact (bI_f (by assumption)).symm | exact (bI_t (by omega)).symm | exact (bI_f (by omega)).symm | (simp only [bI]; split <;> omega)) (Nat.zero_le _) (Nat.zero_le _)
  · skip
    refine pw_iconst C dX1_isSent_9 ?_
    refine pw_goto (tgt := 14) C dX1_isSent_10 (by decide) ?_
    exact pw_zretE C hR dX1_isSent_14 (by omega) rfl rfl (by first | exact (bI_t (by assumption)).symm | exact (bI_f (by assumption)).symm | exact (bI_t (by omega)).symm | exact (bI_f (by omega)).symm | (simp only [bI]; split <;> omega)) (Nat.zero_le _) (Nat.zero_le _)

set_option maxHeartbeats 4000000 in
set_option maxRecDepth 100000 in
theorem c_X1_hasAtDesk {X : Xv} {G M : Mm} {a : Int} {L : Fn} (hL : LR G M a L) (hB : LB L) {t m : Int} (ht : 0 ≤ t ∧ t < 61) (hm : 0 ≤ m ∧ m ≤ 20000) : CT X yX1_hasAtDesk prog_3_method_8_code 3 (some .boolean) 0 0 0 0 [vR a, vI t, vI m] G M (PE G M (bI (L 0 t = 0 ∧ L 3 t + L 4 1 ≤ m))) := by
  refine CT.by (by decide +kernel) [1, 1, 1] ⟨cat_vR _, cat_vI _, cat_vI _, trivial⟩ (Nat.le_of_ble_eq_true rfl) (fun E hX C hR hIni => ?_)
  refine pw_aload_n C dX1_hasAtDesk_0 rfl ?_
  refine pw_getR C dX1_hasAtDesk_1 fl_X1_11 hL.k rfl (hL.r (b := (a + 1)) 0 (by omega)) ?_
  refine pw_iload_n C dX1_hasAtDesk_4 rfl ?_
  refine pw_ialdE C dX1_hasAtDesk_5 (hL.ai 0 (by omega)) (by omega) (hL.v 0 (by omega)) ?_
  have b_5 := hB.v0 t (by omega) (by omega)
  refine pw_if_ne (tgt := 28) C dX1_hasAtDesk_6 (by decide) (by omega) (fun c_6 => ?_) (fun c_6 => ?_)
  · skip
    refine pw_iconst C dX1_hasAtDesk_28 ?_
    exact pw_zretE C hR dX1_hasAtDesk_29 (by omega) rfl rfl (by first | exact (bI_t (by assumption)).symm | exact (bI_f (by assumption)).symm | exact (bI_t (by omega)).symm | exact (bI_f (by omega)).symm | (simp only [bI]; split <;> omega)) (Nat.zero_le _) (Nat.zero_le _)
  · skip
    refine pw_aload_n C dX1_hasAtDesk_9 rfl ?_
    refine pw_getR C dX1_hasAtDesk_10 fl_X1_21 hL.k rfl (hL.r (b := (a + 4)) 3 (by omega)) ?_
    refine pw_iload_n C dX1_hasAtDesk_13 rfl ?_
    refine pw_ialdE C dX1_hasAtDesk_14 (hL.ai 3 (by omega)) (by omega) (hL.v 3 (by omega)) ?_
    have b_14 := hB.v3 t (by omega) (by omega)
    refine pw_aload_n C dX1_hasAtDesk_15 rfl ?_
    refine pw_getE C dX1_hasAtDesk_16 fl_X1_40 rfl hL.k (hL.s 1 (by omega)) ?_
    have b_16 := hB.s1
    refine pw_iadd C dX1_hasAtDesk_19 ?_
    refine pw_iload_n C dX1_hasAtDesk_20 rfl ?_
    refine pw_icmp_gt (tgt := 28) C dX1_hasAtDesk_21 (by decide) (by omega) (fun c_21 => ?_) (fun c_21 => ?_)
    · skip
      refine pw_iconst C dX1_hasAtDesk_28 ?_
      exact pw_zretE C hR dX1_hasAtDesk_29 (by omega) rfl rfl (by first | exact (bI_t (by assumption)).symm | exact (bI_f (by assumption)).symm | exact (bI_t (by omega)).symm | exact (bI_f (by omega)).symm | (simp only [bI]; split <;> omega)) (Nat.zero_le _) (Nat.zero_le _)
    · skip
      refine pw_iconst C dX1_hasAtDesk_24 ?_
      refine pw_goto (tgt := 29) C dX1_hasAtDesk_25 (by decide) ?_
      exact pw_zretE C hR dX1_hasAtDesk_29 (by omega) rfl rfl (by first | exact (bI_t (by assumption)).symm | exact (bI_f (by assumption)).symm | exact (bI_t (by omega)).symm | exact (bI_f (by omega)).symm | (simp only [bI]; split <;> omega)) (Nat.zero_le _) (Nat.zero_le _)

set_option maxHeartbeats 4000000 in
set_option maxRecDepth 100000 in
theorem c_X1_mostUrgent {X : Xv} {G M : Mm} {a : Int} {L : Fn} (hL : LR G M a L) (hB : LB L) {m : Int} (hm : 0 ≤ m ∧ m ≤ 20000) : CT X yX1_mostUrgent prog_3_method_10_code 5 (some .int) 0 0 0 0 [vR a, vI m] G M (PE G M (mU L m)) := by
  refine CT.by (by decide +kernel) [1, 1] ⟨cat_vR _, cat_vI _, trivial⟩ (Nat.le_of_ble_eq_true rfl) (fun E hX C hR hIni => ?_)
  have b4 := hB.s4
  refine pw_iconst C dX1_mostUrgent_0 ?_
  refine pw_istore_n C dX1_mostUrgent_1 (Nat.le_of_ble_eq_true rfl) rfl ?_
  refine pw_iconst C dX1_mostUrgent_2 ?_
  refine pw_istore_n C dX1_mostUrgent_3 (Nat.le_of_ble_eq_true rfl) rfl ?_
  suffices K_4 : ∀ (nn_4 : Nat) (best t : Int) , 0 ≤ t ∧ t ≤ L 4 4 → -1 ≤ best ∧ best < t → fr (mUs (L 0) (L 2) (L 1) m) t (L 4 4) best = mU L m → L 4 4 - t < (nn_4 : Int) → PW E G M 0 0 4 [(0, 1, vR a), (1, 1, vI m), (2, 1, vI best), (3, 1, vI t)] [] from pw_locs (by exact ⟨rfl, cat_vR _, rfl, rfl, rfl, rfl, rfl, rfl, trivial⟩) (K_4 (L 4 4 - 0 + 1).toNat (-1) 0  (by omega) (by omega) (by first | exact rfl | omega) (by omega))
  intro nn_4
  induction nn_4 with
  | zero => intro best t h1 h2 hf h_m4; exact absurd h_m4 (by omega)
  | succ nn_4 ih_4 =>
    intro best t h1 h2 hf h_m4
    have b4 := hB.s4
    refine pw_iload_n C dX1_mostUrgent_4 rfl ?_
    refine pw_aload_n C dX1_mostUrgent_5 rfl ?_
    refine pw_getE C dX1_mostUrgent_6 fl_X1_49 rfl hL.k (hL.s 4 (by omega)) ?_
    have b_6 := hB.s4
    refine pw_icmp_ge (tgt := 71) C dX1_mostUrgent_9 (by decide) (by omega) (fun c_9 => ?_) (fun c_9 => ?_)
    · skip
      refine pw_iload_n C dX1_mostUrgent_71 rfl ?_
      exact pw_iretE C hR dX1_mostUrgent_72 rfl rfl (fr_done (by omega) hf) (Nat.zero_le _) (Nat.zero_le _)
    · skip
      refine pw_aload_n C dX1_mostUrgent_12 rfl ?_
      refine pw_getR C dX1_mostUrgent_13 fl_X1_11 hL.k rfl (hL.r (b := (a + 1)) 0 (by omega)) ?_
      refine pw_iload_n C dX1_mostUrgent_16 rfl ?_
      refine pw_ialdE C dX1_mostUrgent_17 (hL.ai 0 (by omega)) (by omega) (hL.v 0 (by omega)) ?_
      have b_17 := hB.v0 t (by omega) (by omega)
      refine pw_if_le (tgt := 35) C dX1_mostUrgent_18 (by decide) (by omega) (fun c_18 => ?_) (fun c_18 => ?_)
      · skip
        refine pw_iconst C dX1_mostUrgent_35 ?_
        refine pw_istore C dX1_mostUrgent_36 (Nat.le_of_ble_eq_true rfl) rfl ?_
        refine pw_iload C dX1_mostUrgent_38 rfl ?_
        refine pw_ifL_eq (tgt := 65) C dX1_mostUrgent_40 (by decide) rfl ?_
        refine pw_iinc C dX1_mostUrgent_65 rfl (Nat.le_of_ble_eq_true rfl) rfl ?_
        refine pw_goto (tgt := 4) C dX1_mostUrgent_68 (by decide) ?_
        exact pw_locs (by exact ⟨rfl, cat_vR _, rfl, rfl, rfl, rfl, rfl, rfl, trivial⟩) (ih_4 best (t + 1)  (by omega) (by omega) (fr_go (by omega) hf (by unfold mUs; repeat' split <;> first | rfl | omega | (exfalso; omega))) (by omega))
      · skip
        refine pw_aload_n C dX1_mostUrgent_21 rfl ?_
        refine pw_getR C dX1_mostUrgent_22 fl_X1_18 hL.k rfl (hL.r (b := (a + 3)) 2 (by omega)) ?_
        refine pw_iload_n C dX1_mostUrgent_25 rfl ?_
        refine pw_ialdE C dX1_mostUrgent_26 (hL.ai 2 (by omega)) (by omega) (hL.v 2 (by omega)) ?_
        have b_26 := hB.v2 t (by omega) (by omega)
        refine pw_iload_n C dX1_mostUrgent_27 rfl ?_
        refine pw_icmp_gt (tgt := 35) C dX1_mostUrgent_28 (by decide) (by omega) (fun c_28 => ?_) (fun c_28 => ?_)
        · skip
          refine pw_iconst C dX1_mostUrgent_35 ?_
          refine pw_istore C dX1_mostUrgent_36 (Nat.le_of_ble_eq_true rfl) rfl ?_
          refine pw_iload C dX1_mostUrgent_38 rfl ?_
          refine pw_ifL_eq (tgt := 65) C dX1_mostUrgent_40 (by decide) rfl ?_
          refine pw_iinc C dX1_mostUrgent_65 rfl (Nat.le_of_ble_eq_true rfl) rfl ?_
          refine pw_goto (tgt := 4) C dX1_mostUrgent_68 (by decide) ?_
          exact pw_locs (by exact ⟨rfl, cat_vR _, rfl, rfl, rfl, rfl, rfl, rfl, trivial⟩) (ih_4 best (t + 1)  (by omega) (by omega) (fr_go (by omega) hf (by unfold mUs; repeat' split <;> first | rfl | omega | (exfalso; omega))) (by omega))
        · skip
          refine pw_iconst C dX1_mostUrgent_31 ?_
          refine pw_goto (tgt := 36) C dX1_mostUrgent_32 (by decide) ?_
          refine pw_istore C dX1_mostUrgent_36 (Nat.le_of_ble_eq_true rfl) rfl ?_
          refine pw_iload C dX1_mostUrgent_38 rfl ?_
          refine pw_ifL_eqn (tgt := 65) C dX1_mostUrgent_40 (by decide) rfl ?_
          refine pw_iload_n C dX1_mostUrgent_43 rfl ?_
          refine pw_iconst C dX1_mostUrgent_44 ?_
          refine pw_icmp_eq (tgt := 63) C dX1_mostUrgent_45 (by decide) (by omega) (fun c_45 => ?_) (fun c_45 => ?_)
          · skip
            refine pw_iload_n C dX1_mostUrgent_63 rfl ?_
            refine pw_istore_n C dX1_mostUrgent_64 (Nat.le_of_ble_eq_true rfl) rfl ?_
            refine pw_iinc C dX1_mostUrgent_65 rfl (Nat.le_of_ble_eq_true rfl) rfl ?_
            refine pw_goto (tgt := 4) C dX1_mostUrgent_68 (by decide) ?_
            exact pw_locs (by exact ⟨rfl, cat_vR _, rfl, rfl, rfl, rfl, rfl, rfl, trivial⟩) (ih_4 t (t + 1)  (by omega) (by omega) (fr_go (by omega) hf (by unfold mUs; repeat' split <;> first | rfl | omega | (exfalso; omega))) (by omega))
          · skip
            refine pw_aload_n C dX1_mostUrgent_48 rfl ?_
            refine pw_getR C dX1_mostUrgent_49 fl_X1_15 hL.k rfl (hL.r (b := (a + 2)) 1 (by omega)) ?_
            refine pw_iload_n C dX1_mostUrgent_52 rfl ?_
            refine pw_ialdE C dX1_mostUrgent_53 (hL.ai 1 (by omega)) (by omega) (hL.v 1 (by omega)) ?_
            have b_53 := hB.v1 t (by omega) (by omega)
            refine pw_aload_n C dX1_mostUrgent_54 rfl ?_
            refine pw_getR C dX1_mostUrgent_55 fl_X1_15 hL.k rfl (hL.r (b := (a + 2)) 1 (by omega)) ?_
            refine pw_iload_n C dX1_mostUrgent_58 rfl ?_
            refine pw_ialdE C dX1_mostUrgent_59 (hL.ai 1 (by omega)) (by omega) (hL.v 1 (by omega)) ?_
            have b_59 := hB.v1 best (by omega) (by omega)
            refine pw_icmp_ge (tgt := 65) C dX1_mostUrgent_60 (by decide) (by omega) (fun c_60 => ?_) (fun c_60 => ?_)
            · skip
              refine pw_iinc C dX1_mostUrgent_65 rfl (Nat.le_of_ble_eq_true rfl) rfl ?_
              refine pw_goto (tgt := 4) C dX1_mostUrgent_68 (by decide) ?_
              exact pw_locs (by exact ⟨rfl, cat_vR _, rfl, rfl, rfl, rfl, rfl, rfl, trivial⟩) (ih_4 best (t + 1)  (by omega) (by omega) (fr_go (by omega) hf (by unfold mUs; repeat' split <;> first | rfl | omega | (exfalso; omega))) (by omega))
            · skip
              refine pw_iload_n C dX1_mostUrgent_63 rfl ?_
              refine pw_istore_n C dX1_mostUrgent_64 (Nat.le_of_ble_eq_true rfl) rfl ?_
              refine pw_iinc C dX1_mostUrgent_65 rfl (Nat.le_of_ble_eq_true rfl) rfl ?_
              refine pw_goto (tgt := 4) C dX1_mostUrgent_68 (by decide) ?_
              exact pw_locs (by exact ⟨rfl, cat_vR _, rfl, rfl, rfl, rfl, rfl, rfl, trivial⟩) (ih_4 t (t + 1)  (by omega) (by omega) (fr_go (by omega) hf (by unfold mUs; repeat' split <;> first | rfl | omega | (exfalso; omega))) (by omega))

set_option maxHeartbeats 4000000 in
set_option maxRecDepth 100000 in
theorem c_X1_countWaiting {X : Xv} {G M : Mm} {a : Int} {L : Fn} (hL : LR G M a L) (hB : LB L) : CT X yX1_countWaiting prog_3_method_12_code 3 (some .int) 0 0 0 0 [vR a] G M (PE G M (cW L)) := by
  refine CT.by (by decide +kernel) [1] ⟨cat_vR _, trivial⟩ (Nat.le_of_ble_eq_true rfl) (fun E hX C hR hIni => ?_)
  have b4 := hB.s4
  refine pw_iconst C dX1_countWaiting_0 ?_
  refine pw_istore_n C dX1_countWaiting_1 (Nat.le_of_ble_eq_true rfl) rfl ?_
  refine pw_iconst C dX1_countWaiting_2 ?_
  refine pw_istore_n C dX1_countWaiting_3 (Nat.le_of_ble_eq_true rfl) rfl ?_
  suffices K_4 : ∀ (nn_4 : Nat) (c t : Int) , 0 ≤ t ∧ t ≤ L 4 4 → fr (fun t c => if 0 < L 0 t then c + 1 else c) t (L 4 4) c = cW L → L 4 4 - t < (nn_4 : Int) → PW E G M 0 0 4 [(0, 1, vR a), (1, 1, vI c), (2, 1, vI t)] [] from pw_locs (by exact ⟨rfl, cat_vR _, rfl, rfl, rfl, rfl, trivial⟩) (K_4 (L 4 4 - 0 + 1).toNat 0 0  (by omega) (by first | exact rfl | omega) (by omega))
  intro nn_4
  induction nn_4 with
  | zero => intro c t h1 hf h_m4; exact absurd h_m4 (by omega)
  | succ nn_4 ih_4 =>
    intro c t h1 hf h_m4
    refine pw_iload_n C dX1_countWaiting_4 rfl ?_
    refine pw_aload_n C dX1_countWaiting_5 rfl ?_
    refine pw_getE C dX1_countWaiting_6 fl_X1_49 rfl hL.k (hL.s 4 (by omega)) ?_
    have b_6 := hB.s4
    refine pw_icmp_ge (tgt := 30) C dX1_countWaiting_9 (by decide) (by omega) (fun c_9 => ?_) (fun c_9 => ?_)
    · skip
      refine pw_iload_n C dX1_countWaiting_30 rfl ?_
      exact pw_iretE C hR dX1_countWaiting_31 rfl rfl (fr_done (by omega) hf) (Nat.zero_le _) (Nat.zero_le _)
    · skip
      refine pw_aload_n C dX1_countWaiting_12 rfl ?_
      refine pw_getR C dX1_countWaiting_13 fl_X1_11 hL.k rfl (hL.r (b := (a + 1)) 0 (by omega)) ?_
      refine pw_iload_n C dX1_countWaiting_16 rfl ?_
      refine pw_ialdE C dX1_countWaiting_17 (hL.ai 0 (by omega)) (by omega) (hL.v 0 (by omega)) ?_
      have b_17 := hB.v0 t (by omega) (by omega)
      refine pw_if_le (tgt := 24) C dX1_countWaiting_18 (by decide) (by omega) (fun c_18 => ?_) (fun c_18 => ?_)
      · skip
        refine pw_iinc C dX1_countWaiting_24 rfl (Nat.le_of_ble_eq_true rfl) rfl ?_
        refine pw_goto (tgt := 4) C dX1_countWaiting_27 (by decide) ?_
        exact pw_locs (by exact ⟨rfl, cat_vR _, rfl, rfl, rfl, rfl, trivial⟩) (ih_4 c (t + 1)  (by omega) (fr_go (by omega) hf (by (try dsimp only); repeat' split <;> first | rfl | omega | (exfalso; omega))) (by omega))
      · skip
        refine pw_iinc C dX1_countWaiting_21 rfl (Nat.le_of_ble_eq_true rfl) rfl ?_
        refine pw_iinc C dX1_countWaiting_24 rfl (Nat.le_of_ble_eq_true rfl) rfl ?_
        refine pw_goto (tgt := 4) C dX1_countWaiting_27 (by decide) ?_
        exact pw_locs (by exact ⟨rfl, cat_vR _, rfl, rfl, rfl, rfl, trivial⟩) (ih_4 (c + 1) (t + 1)  (by omega) (fr_go (by omega) hf (by (try dsimp only); repeat' split <;> first | rfl | omega | (exfalso; omega))) (by omega))

set_option maxHeartbeats 4000000 in
set_option maxRecDepth 100000 in
theorem c_X1_countWordsLeft {X : Xv} {G M : Mm} {a : Int} {L : Fn} (hL : LR G M a L) (hB : LB L) : CT X yX1_countWordsLeft prog_3_method_13_code 3 (some .int) 0 0 0 0 [vR a] G M (PE G M (cL L)) := by
  refine CT.by (by decide +kernel) [1] ⟨cat_vR _, trivial⟩ (Nat.le_of_ble_eq_true rfl) (fun E hX C hR hIni => ?_)
  have b4 := hB.s4
  refine pw_iconst C dX1_countWordsLeft_0 ?_
  refine pw_istore_n C dX1_countWordsLeft_1 (Nat.le_of_ble_eq_true rfl) rfl ?_
  refine pw_iconst C dX1_countWordsLeft_2 ?_
  refine pw_istore_n C dX1_countWordsLeft_3 (Nat.le_of_ble_eq_true rfl) rfl ?_
  suffices K_4 : ∀ (nn_4 : Nat) (c t : Int) , 0 ≤ t ∧ t ≤ L 4 4 → fr (fun t c => if 0 < L 0 t then c + L 0 t else c) t (L 4 4) c = cL L → L 4 4 - t < (nn_4 : Int) → PW E G M 0 0 4 [(0, 1, vR a), (1, 1, vI c), (2, 1, vI t)] [] from pw_locs (by exact ⟨rfl, cat_vR _, rfl, rfl, rfl, rfl, trivial⟩) (K_4 (L 4 4 - 0 + 1).toNat 0 0  (by omega) (by first | exact rfl | omega) (by omega))
  intro nn_4
  induction nn_4 with
  | zero => intro c t h1 hf h_m4; exact absurd h_m4 (by omega)
  | succ nn_4 ih_4 =>
    intro c t h1 hf h_m4
    refine pw_iload_n C dX1_countWordsLeft_4 rfl ?_
    refine pw_aload_n C dX1_countWordsLeft_5 rfl ?_
    refine pw_getE C dX1_countWordsLeft_6 fl_X1_49 rfl hL.k (hL.s 4 (by omega)) ?_
    have b_6 := hB.s4
    refine pw_icmp_ge (tgt := 36) C dX1_countWordsLeft_9 (by decide) (by omega) (fun c_9 => ?_) (fun c_9 => ?_)
    · skip
      refine pw_iload_n C dX1_countWordsLeft_36 rfl ?_
      exact pw_iretE C hR dX1_countWordsLeft_37 rfl rfl (fr_done (by omega) hf) (Nat.zero_le _) (Nat.zero_le _)
    · skip
      refine pw_aload_n C dX1_countWordsLeft_12 rfl ?_
      refine pw_getR C dX1_countWordsLeft_13 fl_X1_11 hL.k rfl (hL.r (b := (a + 1)) 0 (by omega)) ?_
      refine pw_iload_n C dX1_countWordsLeft_16 rfl ?_
      refine pw_ialdE C dX1_countWordsLeft_17 (hL.ai 0 (by omega)) (by omega) (hL.v 0 (by omega)) ?_
      have b_17 := hB.v0 t (by omega) (by omega)
      refine pw_if_le (tgt := 30) C dX1_countWordsLeft_18 (by decide) (by omega) (fun c_18 => ?_) (fun c_18 => ?_)
      · skip
        refine pw_iinc C dX1_countWordsLeft_30 rfl (Nat.le_of_ble_eq_true rfl) rfl ?_
        refine pw_goto (tgt := 4) C dX1_countWordsLeft_33 (by decide) ?_
        exact pw_locs (by exact ⟨rfl, cat_vR _, rfl, rfl, rfl, rfl, trivial⟩) (ih_4 c (t + 1)  (by omega) (fr_go (by omega) hf (by (try dsimp only); repeat' split <;> first | rfl | omega | (exfalso; omega))) (by omega))
      · skip
        refine pw_iload_n C dX1_countWordsLeft_21 rfl ?_
        refine pw_aload_n C dX1_countWordsLeft_22 rfl ?_
        refine pw_getR C dX1_countWordsLeft_23 fl_X1_11 hL.k rfl (hL.r (b := (a + 1)) 0 (by omega)) ?_
        refine pw_iload_n C dX1_countWordsLeft_26 rfl ?_
        refine pw_ialdE C dX1_countWordsLeft_27 (hL.ai 0 (by omega)) (by omega) (hL.v 0 (by omega)) ?_
        have b_27 := hB.v0 t (by omega) (by omega)
        refine pw_iadd C dX1_countWordsLeft_28 ?_
        refine pw_istore_n C dX1_countWordsLeft_29 (Nat.le_of_ble_eq_true rfl) rfl ?_
        refine pw_iinc C dX1_countWordsLeft_30 rfl (Nat.le_of_ble_eq_true rfl) rfl ?_
        refine pw_goto (tgt := 4) C dX1_countWordsLeft_33 (by decide) ?_
        exact pw_locs (by exact ⟨rfl, cat_vR _, rfl, rfl, rfl, rfl, trivial⟩) (ih_4 (c + (L 0 t)) (t + 1)  (by omega) (fr_go (by omega) hf (by (try dsimp only); repeat' split <;> first | rfl | omega | (exfalso; omega))) (by omega))

