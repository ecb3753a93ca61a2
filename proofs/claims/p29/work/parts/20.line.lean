section LBs
variable {L : Fn}
theorem LB.v0 (h : LB L) (t : Int) (h1 : 0 ≤ t) (h2 : t < 61) : -1 ≤ L 0 t ∧ L 0 t ≤ 200 := (h.1 t h1 h2).1
theorem LB.v1 (h : LB L) (t : Int) (h1 : 0 ≤ t) (h2 : t < 61) : 0 ≤ L 1 t ∧ L 1 t ≤ 4 := (h.1 t h1 h2).2.1
theorem LB.v2 (h : LB L) (t : Int) (h1 : 0 ≤ t) (h2 : t < 61) : 0 ≤ L 2 t ∧ L 2 t ≤ 9999 := (h.1 t h1 h2).2.2.1
theorem LB.v3 (h : LB L) (t : Int) (h1 : 0 ≤ t) (h2 : t < 61) : -1 ≤ L 3 t ∧ L 3 t ≤ 20000 := (h.1 t h1 h2).2.2.2
theorem LB.s0 (h : LB L) : 0 ≤ L 4 0 ∧ L 4 0 ≤ 60 := h.2.1
theorem LB.s1 (h : LB L) : 0 ≤ L 4 1 ∧ L 4 1 ≤ 9 := h.2.2.1
theorem LB.s2 (h : LB L) : 0 ≤ L 4 2 ∧ L 4 2 ≤ 99 := h.2.2.2.1
theorem LB.s4 (h : LB L) : 0 ≤ L 4 4 ∧ L 4 4 ≤ 61 := h.2.2.2.2
end LBs
set_option maxHeartbeats 4000000 in
set_option maxRecDepth 100000 in
theorem c_X1_isRunning {X : Xv} {G M : Mm} {a : Int} {L : Fn} (hL : LR G M a L) (hB : LB L) {t : Int} (ht : 0 ≤ t ∧ t < 61) : CT X yX1_isRunning prog_3_method_6_code 2 (some .boolean) 0 0 0 0 [vR a, vI t] G M (PE G M (bI (¬ L 0 t = -1))) := by
  refine CT.by (by decide +kernel) [1, 1] ⟨cat_vR _, cat_vI _, trivial⟩ (Nat.le_of_ble_eq_true rfl) (fun E hX C hR hIni => ?_)
  refine pw_aload_n C dX1_isRunning_0 rfl ?_
  refine pw_getR C dX1_isRunning_1 fl_X1_11 hL.k rfl (hL.r (b := (a + 1)) 0 (by omega)) ?_
  refine pw_iload_n C dX1_isRunning_4 rfl ?_
  refine pw_ialdE C dX1_isRunning_5 (hL.ai 0 (by omega)) (by omega) (hL.v 0 (by omega)) ?_
  have b_5 := hB.v0 t (by omega) (by omega)
  refine pw_iconst C dX1_isRunning_6 ?_
  refine pw_icmp_eq (tgt := 14) C dX1_isRunning_7 (by decide) (by omega) (fun c_7 => ?_) (fun c_7 => ?_)
  · skip
    refine pw_iconst C dX1_isRunning_14 ?_
    exact pw_zretE C hR dX1_isRunning_15 (by omega) rfl rfl (by first | exact (bI_t (by assumption)).symm | exact (bI_f (by assumption)).symm | exact (bI_t (by omega)).symm | exact (bI_f (by omega)).symm | (simp only [bI]; split <;> omega)) (Nat.zero_le _) (Nat.zero_le _)
  · skip
    refine pw_iconst C dX1_isRunning_10 ?_
    refine pw_goto (tgt := 15) C dX1_isRunning_11 (by decide) ?_
    exact pw_zretE C hR dX1_isRunning_15 (by omega) rfl rfl (by first | exact (bI_t (by assumption)).symm | exact (bI_f (by assumption)).symm | exact (bI_t (by omega)).symm | exact (bI_f (by omega)).symm | (simp only [bI]; split <;> omega)) (Nat.zero_le _) (Nat.zero_le _)

set_option maxHeartbeats 4000000 in
set_option maxRecDepth 100000 in
theorem c_X1_isSent {X : Xv} {G M : Mm} {a : Int} {L : Fn} (hL : LR G M a L) (hB : LB L) {t : Int} (ht : 0 ≤ t ∧ t < 61) : CT X yX1_isSent prog_3_method_7_code 2 (some .boolean) 0 0 0 0 [vR a, vI t] G M (PE G M (bI (L 0 t = 0))) := by
  refine CT.by (by decide +kernel) [1, 1] ⟨cat_vR _, cat_vI _, trivial⟩ (Nat.le_of_ble_eq_true rfl) (fun E hX C hR hIni => ?_)
  refine pw_aload_n C dX1_isSent_0 rfl ?_
  refine pw_getR C dX1_isSent_1 fl_X1_11 hL.k rfl (hL.r (b := (a + 1)) 0 (by omega)) ?_
  refine pw_iload_n C dX1_isSent_4 rfl ?_
  refine pw_ialdE C dX1_isSent_5 (hL.ai 0 (by omega)) (by omega) (hL.v 0 (by omega)) ?_
  have b_5 := hB.v0 t (by omega) (by omega)
  refine pw_if_ne (tgt := 13) C dX1_isSent_6 (by decide) (by omega) (fun c_6 => ?_) (fun c_6 => ?_)
  · skip
    refine pw_iconst C dX1_isSent_13 ?_
    exact pw_zretE C hR dX1_isSent_14 (by omega) rfl rfl (by first | exact (bI_t (by assumption)).symm | exact (bI_f (by assumption)).symm | exact (bI_t (by omega)).symm | exact (bI_f (by omega)).symm | (simp only [bI]; split <;> omega)) (Nat.zero_le _) (Nat.zero_le _)
  · skip
    refine pw_iconst C dX1_isSent_9 ?_
    refine pw_goto (tgt := 14) C dX1_isSent_10 (by decide) ?_
    exact pw_zretE C hR dX1_isSent_14 (by omega) rfl rfl (by first | exact (bI_t (by assumption)).symm | exact (bI_f (by assumption)).symm | exact (bI_t (by omega)).symm | exact (bI_f (by omega)).symm | (simp only [bI]; split <;> omega)) (Nat.zero_le _) (Nat.zero_le _)

set_option maxHeartbeats 4000000 in
set_option maxRecDepth 100000 in
theorem c_X1_hasAtDesk {X : Xv} {G M : Mm} {a : Int} {L : Fn} (hL : LR G M a L) (hB : LB L) {t m : Int} (ht : 0 ≤ t ∧ t < 61) (hm : 0 ≤ m ∧ m ≤ 20000) : CT X yX1_hasAtDesk prog_3_method_8_code 3 (some .boolean) 0 0 0 0 [vR a, vI t, vI m] G M (PE G M (bI (L 0 t = 0 ∧ L 3 t + L 4 1 ≤ m))) := by
  refine CT.by (by decide +kernel) [1, 1, 1] ⟨cat_vR _, cat_vI _, cat_vI _, trivial⟩ (Nat.le_of_ble_eq_true rfl) (fun E hX C hR hIni => ?_)
  refine pw_aload_n C dX1_hasAtDesk_0 rfl ?_
  refine pw_getR C dX1_hasAtDesk_1 fl_X1_11 hL.k rfl (hL.r (b := (a + 1)) 0 (by omega)) ?_
  refine pw_iload_n C dX1_hasAtDesk_4 rfl ?_
  refine pw_ialdE C dX1_hasAtDesk_5 (hL.ai 0 (by omega)) (by omega) (hL.v 0 (by omega)) ?_
  have b_5 := hB.v0 t (by omega) (by omega)
  refine pw_if_ne (tgt := 28) C dX1_hasAtDesk_6 (by decide) (by omega) (fun c_6 => ?_) (fun c_6 => ?_)
  · skip
    refine pw_iconst C dX1_hasAtDesk_28 ?_
    exact pw_zretE C hR dX1_hasAtDesk_29 (by omega) rfl rfl (by first | exact (bI_t (by assumption)).symm | exact (bI_f (by assumption)).symm | exact (bI_t (by omega)).symm | exact (bI_f (by omega)).symm | (simp only [bI]; split <;> omega)) (Nat.zero_le _) (Nat.zero_le _)
  · skip
    refine pw_aload_n C dX1_hasAtDesk_9 rfl ?_
    refine pw_getR C dX1_hasAtDesk_10 fl_X1_21 hL.k rfl (hL.r (b := (a + 4)) 3 (by omega)) ?_
    refine pw_iload_n C dX1_hasAtDesk_13 rfl ?_
    refine pw_ialdE C dX1_hasAtDesk_14 (hL.ai 3 (by omega)) (by omega) (hL.v 3 (by omega)) ?_
    have b_14 := hB.v3 t (by omega) (by omega)
    refine pw_aload_n C dX1_hasAtDesk_15 rfl ?_
    refine pw_getE C dX1_hasAtDesk_16 fl_X1_40 rfl hL.k (hL.s 1 (by omega)) ?_
    have b_16 := hB.s1
    refine pw_iadd C dX1_hasAtDesk_19 ?_
    refine pw_iload_n C dX1_hasAtDesk_20 rfl ?_
    refine pw_icmp_gt (tgt := 28) C dX1_hasAtDesk_21 (by decide) (by omega) (fun c_21 => ?_) (fun c_21 => ?_)
    · skip
      refine pw_iconst C dX1_hasAtDesk_28 ?_
      exact pw_zretE C hR dX1_hasAtDesk_29 (by omega) rfl rfl (by first | exact (bI_t (by assumption)).symm | exact (bI_f (by assumption)).symm | exact (bI_t (by omega)).symm | exact (bI_f (by omega)).symm | (simp only [bI]; split <;> omega)) (Nat.zero_le _) (Nat.zero_le _)
    · skip
      refine pw_iconst C dX1_hasAtDesk_24 ?_
      refine pw_goto (tgt := 29) C dX1_hasAtDesk_25 (by decide) ?_
      exact pw_zretE C hR dX1_hasAtDesk_29 (by omega) rfl rfl (by first | exact (bI_t (by assumption)).symm | exact (bI_f (by assumption)).symm | exact (bI_t (by omega)).symm | exact (bI_f (by omega)).symm | (simp only [bI]; split <;> omega)) (Nat.zero_le _) (Nat.zero_le _)

set_option maxHeartbeats 4000000 in
set_option maxRecDepth 100000 in
theorem c_X1_mostUrgent {X : Xv} {G M : Mm} {a : Int} {L : Fn} (hL : LR G M a L) (hB : LB L) {m : Int} (hm : 0 ≤ m ∧ m ≤ 20000) : CT X yX1_mostUrgent prog_3_method_10_code 5 (some .int) 0 0 0 0 [vR a, vI m] G M (PE G M (mU L m)) := by
  refine CT.by (by decide +kernel) [1, 1] ⟨cat_vR _, cat_vI _, trivial⟩ (Nat.le_of_ble_eq_true rfl) (fun E hX C hR hIni => ?_)
  have b4 := hB.s4
  refine pw_iconst C dX1_mostUrgent_0 ?_
  refine pw_istore_n C dX1_mostUrgent_1 (Nat.le_of_ble_eq_true rfl) rfl ?_
  refine pw_iconst C dX1_mostUrgent_2 ?_
  refine pw_istore_n C dX1_mostUrgent_3 (Nat.le_of_ble_eq_true rfl) rfl ?_
  suffices K_4 : ∀ (nn_4 : Nat) (best t : Int) , (0 ≤ t ∧ t ≤ L 4 4) → (-1 ≤ best ∧ best < t) → (fr (mUs (L 0) (L 2) (L 1) m) t (L 4 4) best = mU L m) → L 4 4 - t < (nn_4 : Int) → PW E G M 0 0 4 [(0, 1, vR a), (1, 1, vI m), (2, 1, vI best), (3, 1, vI t)] [] from pw_locs (by exact ⟨rfl, cat_vR _, rfl, rfl, rfl, rfl, rfl, rfl, trivial⟩) (K_4 (L 4 4 - 0 + 1 : Int).toNat (-1) 0  (by omega) (by omega) (by first | exact rfl | omega) (by omega))
  intro nn_4
  induction nn_4 with
  | zero => intro best t h1 h2 hf h_m4; exact absurd h_m4 (by omega)
  | succ nn_4 ih_4 =>
    intro best t h1 h2 hf h_m4
    have b4 := hB.s4
    refine pw_iload_n C dX1_mostUrgent_4 rfl ?_
    refine pw_aload_n C dX1_mostUrgent_5 rfl ?_
    refine pw_getE C dX1_mostUrgent_6 fl_X1_49 rfl hL.k (hL.s 4 (by omega)) ?_
    have b_6 := hB.s4
    refine pw_icmp_ge (tgt := 71) C dX1_mostUrgent_9 (by decide) (by omega) (fun c_9 => ?_) (fun c_9 => ?_)
    · skip
      refine pw_iload_n C dX1_mostUrgent_71 rfl ?_
      exact pw_iretE C hR dX1_mostUrgent_72 rfl rfl (fr_done (by omega) hf) (Nat.zero_le _) (Nat.zero_le _)
    · skip
      refine pw_aload_n C dX1_mostUrgent_12 rfl ?_
      refine pw_getR C dX1_mostUrgent_13 fl_X1_11 hL.k rfl (hL.r (b := (a + 1)) 0 (by omega)) ?_
      refine pw_iload_n C dX1_mostUrgent_16 rfl ?_
      refine pw_ialdE C dX1_mostUrgent_17 (hL.ai 0 (by omega)) (by omega) (hL.v 0 (by omega)) ?_
      have b_17 := hB.v0 t (by omega) (by omega)
      refine pw_if_le (tgt := 35) C dX1_mostUrgent_18 (by decide) (by omega) (fun c_18 => ?_) (fun c_18 => ?_)
      · skip
        refine pw_iconst C dX1_mostUrgent_35 ?_
        refine pw_istore C dX1_mostUrgent_36 (Nat.le_of_ble_eq_true rfl) rfl ?_
        refine pw_iload C dX1_mostUrgent_38 rfl ?_
        refine pw_ifL_eq (tgt := 65) C dX1_mostUrgent_40 (by decide) rfl ?_
        refine pw_iinc C dX1_mostUrgent_65 rfl (Nat.le_of_ble_eq_true rfl) rfl ?_
        refine pw_goto (tgt := 4) C dX1_mostUrgent_68 (by decide) ?_
        exact pw_locs (by exact ⟨rfl, cat_vR _, rfl, rfl, rfl, rfl, rfl, rfl, trivial⟩) (ih_4 best (t + 1)  (by omega) (by omega) (fr_go (by omega) hf (by unfold mUs; repeat' split <;> first | rfl | omega | (exfalso; omega))) (by omega))
      · skip
        refine pw_aload_n C dX1_mostUrgent_21 rfl ?_
        refine pw_getR C dX1_mostUrgent_22 fl_X1_18 hL.k rfl (hL.r (b := (a + 3)) 2 (by omega)) ?_
        refine pw_iload_n C dX1_mostUrgent_25 rfl ?_
        refine pw_ialdE C dX1_mostUrgent_26 (hL.ai 2 (by omega)) (by omega) (hL.v 2 (by omega)) ?_
        have b_26 := hB.v2 t (by omega) (by omega)
        refine pw_iload_n C dX1_mostUrgent_27 rfl ?_
        refine pw_icmp_gt (tgt := 35) C dX1_mostUrgent_28 (by decide) (by omega) (fun c_28 => ?_) (fun c_28 => ?_)
        · skip
          refine pw_iconst C dX1_mostUrgent_35 ?_
          refine pw_istore C dX1_mostUrgent_36 (Nat.le_of_ble_eq_true rfl) rfl ?_
          refine pw_iload C dX1_mostUrgent_38 rfl ?_
          refine pw_ifL_eq (tgt := 65) C dX1_mostUrgent_40 (by decide) rfl ?_
          refine pw_iinc C dX1_mostUrgent_65 rfl (Nat.le_of_ble_eq_true rfl) rfl ?_
          refine pw_goto (tgt := 4) C dX1_mostUrgent_68 (by decide) ?_
          exact pw_locs (by exact ⟨rfl, cat_vR _, rfl, rfl, rfl, rfl, rfl, rfl, trivial⟩) (ih_4 best (t + 1)  (by omega) (by omega) (fr_go (by omega) hf (by unfold mUs; repeat' split <;> first | rfl | omega | (exfalso; omega))) (by omega))
        · skip
          refine pw_iconst C dX1_mostUrgent_31 ?_
          refine pw_goto (tgt := 36) C dX1_mostUrgent_32 (by decide) ?_
          refine pw_istore C dX1_mostUrgent_36 (Nat.le_of_ble_eq_true rfl) rfl ?_
          refine pw_iload C dX1_mostUrgent_38 rfl ?_
          refine pw_ifL_eqn (tgt := 65) C dX1_mostUrgent_40 (by decide) rfl ?_
          refine pw_iload_n C dX1_mostUrgent_43 rfl ?_
          refine pw_iconst C dX1_mostUrgent_44 ?_
          refine pw_icmp_eq (tgt := 63) C dX1_mostUrgent_45 (by decide) (by omega) (fun c_45 => ?_) (fun c_45 => ?_)
          · skip
            refine pw_iload_n C dX1_mostUrgent_63 rfl ?_
            refine pw_istore_n C dX1_mostUrgent_64 (Nat.le_of_ble_eq_true rfl) rfl ?_
            refine pw_iinc C dX1_mostUrgent_65 rfl (Nat.le_of_ble_eq_true rfl) rfl ?_
            refine pw_goto (tgt := 4) C dX1_mostUrgent_68 (by decide) ?_
            exact pw_locs (by exact ⟨rfl, cat_vR _, rfl, rfl, rfl, rfl, rfl, rfl, trivial⟩) (ih_4 t (t + 1)  (by omega) (by omega) (fr_go (by omega) hf (by unfold mUs; repeat' split <;> first | rfl | omega | (exfalso; omega))) (by omega))
          · skip
            refine pw_aload_n C dX1_mostUrgent_48 rfl ?_
            refine pw_getR C dX1_mostUrgent_49 fl_X1_15 hL.k rfl (hL.r (b := (a + 2)) 1 (by omega)) ?_
            refine pw_iload_n C dX1_mostUrgent_52 rfl ?_
            refine pw_ialdE C dX1_mostUrgent_53 (hL.ai 1 (by omega)) (by omega) (hL.v 1 (by omega)) ?_
            have b_53 := hB.v1 t (by omega) (by omega)
            refine pw_aload_n C dX1_mostUrgent_54 rfl ?_
            refine pw_getR C dX1_mostUrgent_55 fl_X1_15 hL.k rfl (hL.r (b := (a + 2)) 1 (by omega)) ?_
            refine pw_iload_n C dX1_mostUrgent_58 rfl ?_
            refine pw_ialdE C dX1_mostUrgent_59 (hL.ai 1 (by omega)) (by omega) (hL.v 1 (by omega)) ?_
            have b_59 := hB.v1 best (by omega) (by omega)
            refine pw_icmp_ge (tgt := 65) C dX1_mostUrgent_60 (by decide) (by omega) (fun c_60 => ?_) (fun c_60 => ?_)
            · skip
              refine pw_iinc C dX1_mostUrgent_65 rfl (Nat.le_of_ble_eq_true rfl) rfl ?_
              refine pw_goto (tgt := 4) C dX1_mostUrgent_68 (by decide) ?_
              exact pw_locs (by exact ⟨rfl, cat_vR _, rfl, rfl, rfl, rfl, rfl, rfl, trivial⟩) (ih_4 best (t + 1)  (by omega) (by omega) (fr_go (by omega) hf (by unfold mUs; repeat' split <;> first | rfl | omega | (exfalso; omega))) (by omega))
            · skip
              refine pw_iload_n C dX1_mostUrgent_63 rfl ?_
              refine pw_istore_n C dX1_mostUrgent_64 (Nat.le_of_ble_eq_true rfl) rfl ?_
              refine pw_iinc C dX1_mostUrgent_65 rfl (Nat.le_of_ble_eq_true rfl) rfl ?_
              refine pw_goto (tgt := 4) C dX1_mostUrgent_68 (by decide) ?_
              exact pw_locs (by exact ⟨rfl, cat_vR _, rfl, rfl, rfl, rfl, rfl, rfl, trivial⟩) (ih_4 t (t + 1)  (by omega) (by omega) (fr_go (by omega) hf (by unfold mUs; repeat' split <;> first | rfl | omega | (exfalso; omega))) (by omega))

set_option maxHeartbeats 4000000 in
set_option maxRecDepth 100000 in
theorem c_X1_countWaiting {X : Xv} {G M : Mm} {a : Int} {L : Fn} (hL : LR G M a L) (hB : LB L) : CT X yX1_countWaiting prog_3_method_12_code 3 (some .int) 0 0 0 0 [vR a] G M (PE G M (cW L)) := by
  refine CT.by (by decide +kernel) [1] ⟨cat_vR _, trivial⟩ (Nat.le_of_ble_eq_true rfl) (fun E hX C hR hIni => ?_)
  have b4 := hB.s4
  refine pw_iconst C dX1_countWaiting_0 ?_
  refine pw_istore_n C dX1_countWaiting_1 (Nat.le_of_ble_eq_true rfl) rfl ?_
  refine pw_iconst C dX1_countWaiting_2 ?_
  refine pw_istore_n C dX1_countWaiting_3 (Nat.le_of_ble_eq_true rfl) rfl ?_
  suffices K_4 : ∀ (nn_4 : Nat) (c t : Int) , (0 ≤ t ∧ t ≤ L 4 4) → (fr (fun t c => if 0 < L 0 t then c + 1 else c) t (L 4 4) c = cW L) → L 4 4 - t < (nn_4 : Int) → PW E G M 0 0 4 [(0, 1, vR a), (1, 1, vI c), (2, 1, vI t)] [] from pw_locs (by exact ⟨rfl, cat_vR _, rfl, rfl, rfl, rfl, trivial⟩) (K_4 (L 4 4 - 0 + 1 : Int).toNat 0 0  (by omega) (by first | exact rfl | omega) (by omega))
  intro nn_4
  induction nn_4 with
  | zero => intro c t h1 hf h_m4; exact absurd h_m4 (by omega)
  | succ nn_4 ih_4 =>
    intro c t h1 hf h_m4
    refine pw_iload_n C dX1_countWaiting_4 rfl ?_
    refine pw_aload_n C dX1_countWaiting_5 rfl ?_
    refine pw_getE C dX1_countWaiting_6 fl_X1_49 rfl hL.k (hL.s 4 (by omega)) ?_
    have b_6 := hB.s4
    refine pw_icmp_ge (tgt := 30) C dX1_countWaiting_9 (by decide) (by omega) (fun c_9 => ?_) (fun c_9 => ?_)
    · skip
      refine pw_iload_n C dX1_countWaiting_30 rfl ?_
      exact pw_iretE C hR dX1_countWaiting_31 rfl rfl (fr_done (by omega) hf) (Nat.zero_le _) (Nat.zero_le _)
    · skip
      refine pw_aload_n C dX1_countWaiting_12 rfl ?_
      refine pw_getR C dX1_countWaiting_13 fl_X1_11 hL.k rfl (hL.r (b := (a + 1)) 0 (by omega)) ?_
      refine pw_iload_n C dX1_countWaiting_16 rfl ?_
      refine pw_ialdE C dX1_countWaiting_17 (hL.ai 0 (by omega)) (by omega) (hL.v 0 (by omega)) ?_
      have b_17 := hB.v0 t (by omega) (by omega)
      refine pw_if_le (tgt := 24) C dX1_countWaiting_18 (by decide) (by omega) (fun c_18 => ?_) (fun c_18 => ?_)
      · skip
        refine pw_iinc C dX1_countWaiting_24 rfl (Nat.le_of_ble_eq_true rfl) rfl ?_
        refine pw_goto (tgt := 4) C dX1_countWaiting_27 (by decide) ?_
        exact pw_locs (by exact ⟨rfl, cat_vR _, rfl, rfl, rfl, rfl, trivial⟩) (ih_4 c (t + 1)  (by omega) (fr_go (by omega) hf (by (try dsimp only); repeat' split <;> first | rfl | omega | (exfalso; omega))) (by omega))
      · skip
        refine pw_iinc C dX1_countWaiting_21 rfl (Nat.le_of_ble_eq_true rfl) rfl ?_
        refine pw_iinc C dX1_countWaiting_24 rfl (Nat.le_of_ble_eq_true rfl) rfl ?_
        refine pw_goto (tgt := 4) C dX1_countWaiting_27 (by decide) ?_
        exact pw_locs (by exact ⟨rfl, cat_vR _, rfl, rfl, rfl, rfl, trivial⟩) (ih_4 (c + 1) (t + 1)  (by omega) (fr_go (by omega) hf (by (try dsimp only); repeat' split <;> first | rfl | omega | (exfalso; omega))) (by omega))

set_option maxHeartbeats 4000000 in
set_option maxRecDepth 100000 in
theorem c_X1_countWordsLeft {X : Xv} {G M : Mm} {a : Int} {L : Fn} (hL : LR G M a L) (hB : LB L) : CT X yX1_countWordsLeft prog_3_method_13_code 3 (some .int) 0 0 0 0 [vR a] G M (PE G M (cL L)) := by
  refine CT.by (by decide +kernel) [1] ⟨cat_vR _, trivial⟩ (Nat.le_of_ble_eq_true rfl) (fun E hX C hR hIni => ?_)
  have b4 := hB.s4
  refine pw_iconst C dX1_countWordsLeft_0 ?_
  refine pw_istore_n C dX1_countWordsLeft_1 (Nat.le_of_ble_eq_true rfl) rfl ?_
  refine pw_iconst C dX1_countWordsLeft_2 ?_
  refine pw_istore_n C dX1_countWordsLeft_3 (Nat.le_of_ble_eq_true rfl) rfl ?_
  suffices K_4 : ∀ (nn_4 : Nat) (c t : Int) , (0 ≤ t ∧ t ≤ L 4 4) → (fr (fun t c => if 0 < L 0 t then c + L 0 t else c) t (L 4 4) c = cL L) → L 4 4 - t < (nn_4 : Int) → PW E G M 0 0 4 [(0, 1, vR a), (1, 1, vI c), (2, 1, vI t)] [] from pw_locs (by exact ⟨rfl, cat_vR _, rfl, rfl, rfl, rfl, trivial⟩) (K_4 (L 4 4 - 0 + 1 : Int).toNat 0 0  (by omega) (by first | exact rfl | omega) (by omega))
  intro nn_4
  induction nn_4 with
  | zero => intro c t h1 hf h_m4; exact absurd h_m4 (by omega)
  | succ nn_4 ih_4 =>
    intro c t h1 hf h_m4
    refine pw_iload_n C dX1_countWordsLeft_4 rfl ?_
    refine pw_aload_n C dX1_countWordsLeft_5 rfl ?_
    refine pw_getE C dX1_countWordsLeft_6 fl_X1_49 rfl hL.k (hL.s 4 (by omega)) ?_
    have b_6 := hB.s4
    refine pw_icmp_ge (tgt := 36) C dX1_countWordsLeft_9 (by decide) (by omega) (fun c_9 => ?_) (fun c_9 => ?_)
    · skip
      refine pw_iload_n C dX1_countWordsLeft_36 rfl ?_
      exact pw_iretE C hR dX1_countWordsLeft_37 rfl rfl (fr_done (by omega) hf) (Nat.zero_le _) (Nat.zero_le _)
    · skip
      refine pw_aload_n C dX1_countWordsLeft_12 rfl ?_
      refine pw_getR C dX1_countWordsLeft_13 fl_X1_11 hL.k rfl (hL.r (b := (a + 1)) 0 (by omega)) ?_
      refine pw_iload_n C dX1_countWordsLeft_16 rfl ?_
      refine pw_ialdE C dX1_countWordsLeft_17 (hL.ai 0 (by omega)) (by omega) (hL.v 0 (by omega)) ?_
      have b_17 := hB.v0 t (by omega) (by omega)
      refine pw_if_le (tgt := 30) C dX1_countWordsLeft_18 (by decide) (by omega) (fun c_18 => ?_) (fun c_18 => ?_)
      · skip
        refine pw_iinc C dX1_countWordsLeft_30 rfl (Nat.le_of_ble_eq_true rfl) rfl ?_
        refine pw_goto (tgt := 4) C dX1_countWordsLeft_33 (by decide) ?_
        exact pw_locs (by exact ⟨rfl, cat_vR _, rfl, rfl, rfl, rfl, trivial⟩) (ih_4 c (t + 1)  (by omega) (fr_go (by omega) hf (by (try dsimp only); repeat' split <;> first | rfl | omega | (exfalso; omega))) (by omega))
      · skip
        refine pw_iload_n C dX1_countWordsLeft_21 rfl ?_
        refine pw_aload_n C dX1_countWordsLeft_22 rfl ?_
        refine pw_getR C dX1_countWordsLeft_23 fl_X1_11 hL.k rfl (hL.r (b := (a + 1)) 0 (by omega)) ?_
        refine pw_iload_n C dX1_countWordsLeft_26 rfl ?_
        refine pw_ialdE C dX1_countWordsLeft_27 (hL.ai 0 (by omega)) (by omega) (hL.v 0 (by omega)) ?_
        have b_27 := hB.v0 t (by omega) (by omega)
        refine pw_iadd C dX1_countWordsLeft_28 ?_
        refine pw_istore_n C dX1_countWordsLeft_29 (Nat.le_of_ble_eq_true rfl) rfl ?_
        refine pw_iinc C dX1_countWordsLeft_30 rfl (Nat.le_of_ble_eq_true rfl) rfl ?_
        refine pw_goto (tgt := 4) C dX1_countWordsLeft_33 (by decide) ?_
        exact pw_locs (by exact ⟨rfl, cat_vR _, rfl, rfl, rfl, rfl, trivial⟩) (ih_4 (c + (L 0 t)) (t + 1)  (by omega) (fr_go (by omega) hf (by (try dsimp only); repeat' split <;> first | rfl | omega | (exfalso; omega))) (by omega))

set_option maxHeartbeats 4000000 in
set_option maxRecDepth 100000 in
theorem c_X1_stop {X : Xv} {G M : Mm} {a : Int} {L : Fn} (hL : LR G M a L) (hB : LB L) {t : Int} (ht : 0 ≤ t ∧ t < 61) : CT X yX1_stop prog_3_method_5_code 2 (none) 0 0 0 0 [vR a, vI t] G M (PU (fun G1 M1 => G1 = G ∧ LR G M1 a (lup L 0 t (-1)) ∧ Ot a (a + 4) M M1)) := by
  refine CT.by (by decide +kernel) [1, 1] ⟨cat_vR _, cat_vI _, trivial⟩ (Nat.le_of_ble_eq_true rfl) (fun E hX C hR hIni => ?_)
  have hO : Ot a (a + 4) M M := Ot.rf
  refine pw_aload_n C dX1_stop_0 rfl ?_
  refine pw_getR C dX1_stop_1 fl_X1_11 hL.k rfl (hL.r (b := (a + 1)) 0 (by omega)) ?_
  refine pw_iload_n C dX1_stop_4 rfl ?_
  refine pw_iconst C dX1_stop_5 ?_
  refine pw_iastG C dX1_stop_6 (hL.ai 0 (by omega)) (by omega) (fun M1 eM1 => ?_)
  have hL2 := hL.wv 0 (by omega) eM1
  have hO3 : Ot a (a + 4) M M1 := by rw [eM1]; exact hO.u1 (by omega)
  clear eM1
  exact pw_vret C hR dX1_stop_7 (⟨rfl, rfl, hL2, hO3⟩) (by omega) (by omega)

set_option maxHeartbeats 4000000 in
set_option maxRecDepth 100000 in
theorem c_X1_enqueue {X : Xv} {G M : Mm} {a : Int} {L : Fn} (hL : LR G M a L) (hB : LB L) {t kd wd hd : Int} (ht : 0 ≤ t ∧ t < 61) : CT X yX1_enqueue prog_3_method_4_code 5 (none) 0 0 0 0 [vR a, vI t, vI kd, vI wd, vI hd] G M (PU (fun G1 M1 => G1 = G ∧ LR G M1 a (enq L t kd wd hd) ∧ Ot a (a + 4) M M1)) := by
  refine CT.by (by decide +kernel) [1, 1, 1, 1, 1] ⟨cat_vR _, cat_vI _, cat_vI _, cat_vI _, cat_vI _, trivial⟩ (Nat.le_of_ble_eq_true rfl) (fun E hX C hR hIni => ?_)
  have hO : Ot a (a + 4) M M := Ot.rf
  refine pw_aload_n C dX1_enqueue_0 rfl ?_
  refine pw_getR C dX1_enqueue_1 fl_X1_11 hL.k rfl (hL.r (b := (a + 1)) 0 (by omega)) ?_
  refine pw_iload_n C dX1_enqueue_4 rfl ?_
  refine pw_iload_n C dX1_enqueue_5 rfl ?_
  refine pw_iastG C dX1_enqueue_6 (hL.ai 0 (by omega)) (by omega) (fun M1 eM1 => ?_)
  have hL2 := hL.wv 0 (by omega) eM1
  have hO3 : Ot a (a + 4) M M1 := by rw [eM1]; exact hO.u1 (by omega)
  clear eM1
  refine pw_aload_n C dX1_enqueue_7 rfl ?_
  refine pw_getR C dX1_enqueue_8 fl_X1_15 hL2.k rfl (hL2.r (b := (a + 2)) 1 (by omega)) ?_
  refine pw_iload_n C dX1_enqueue_11 rfl ?_
  refine pw_iload_n C dX1_enqueue_12 rfl ?_
  refine pw_iastG C dX1_enqueue_13 (hL2.ai 1 (by omega)) (by omega) (fun M4 eM4 => ?_)
  have hL5 := hL2.wv 1 (by omega) eM4
  have hO6 : Ot a (a + 4) M M4 := by rw [eM4]; exact hO3.u1 (by omega)
  clear eM4
  refine pw_aload_n C dX1_enqueue_14 rfl ?_
  refine pw_getR C dX1_enqueue_15 fl_X1_18 hL5.k rfl (hL5.r (b := (a + 3)) 2 (by omega)) ?_
  refine pw_iload_n C dX1_enqueue_18 rfl ?_
  refine pw_iload C dX1_enqueue_19 rfl ?_
  refine pw_iastG C dX1_enqueue_21 (hL5.ai 2 (by omega)) (by omega) (fun M7 eM7 => ?_)
  have hL8 := hL5.wv 2 (by omega) eM7
  have hO9 : Ot a (a + 4) M M7 := by rw [eM7]; exact hO6.u1 (by omega)
  clear eM7
  refine pw_aload_n C dX1_enqueue_22 rfl ?_
  refine pw_iload_n C dX1_enqueue_23 rfl ?_
  refine pw_iconst C dX1_enqueue_24 ?_
  refine pw_iadd C dX1_enqueue_25 ?_
  refine pw_putIG C dX1_enqueue_26 fl_X1_49 (fun h => by cases h) rfl hL8.k (fun M10 eM10 => ?_)
  have hL11 := hL8.ws 4 (by omega) eM10
  have hO12 : Ot a (a + 4) M M10 := by rw [eM10]; exact hO9.u0 (by omega)
  clear eM10
  exact pw_vret C hR dX1_enqueue_29 (⟨rfl, rfl, hL11, hO12⟩) (by omega) (by omega)

set_option maxHeartbeats 4000000 in
set_option maxRecDepth 100000 in
theorem c_X1_start {X : Xv} {G M : Mm} {a : Int} {L : Fn} (hL : LR G M a L) (hB : LB L) {t b : Int} {T : Fn} (ht : 0 ≤ t ∧ t < 61) (hT : TR G M b T) : CT X yX1_start prog_3_method_3_code 3 (none) 1 24 0 0 [vR a, vI t, vR b] G M (PU (fun G1 M1 => G1 = G ∧ LR G M1 a (enq L t (T 1 1) (T 1 3) (T 1 4)) ∧ Ot a (a + 4) M M1)) := by
  refine CT.by (by decide +kernel) [1, 1, 1] ⟨cat_vR _, cat_vI _, cat_vR _, trivial⟩ (Nat.le_of_ble_eq_true rfl) (fun E hX C hR hIni => ?_)
  refine pw_aload_n C dX1_start_0 rfl ?_
  refine pw_iload_n C dX1_start_1 rfl ?_
  refine pw_aload_n C dX1_start_2 rfl ?_
  refine pw_getE C dX1_start_3 fl_X1_52 rfl hT.k (hT.s 1 (by omega)) ?_
  refine pw_aload_n C dX1_start_6 rfl ?_
  refine pw_getE C dX1_start_7 fl_X1_57 rfl hT.k (hT.s 3 (by omega)) ?_
  refine pw_aload_n C dX1_start_10 rfl ?_
  refine pw_getE C dX1_start_11 fl_X1_60 rfl hT.k (hT.s 4 (by omega)) ?_
  refine pw_cVU C hX dX1_start_14 ml_X1_63 mc_X1_enqueue (c_X1_enqueue hL hB (t := t) (kd := (T 1 1)) (wd := (T 1 3)) (hd := (T 1 4)) (by omega)) kc_4 hL.k rfl rfl ⟨Nat.le_of_ble_eq_true rfl, Nat.le_of_ble_eq_true rfl⟩ (Nat.le_of_ble_eq_true rfl) ⟨Nat.le_of_ble_eq_true rfl, Nat.le_of_ble_eq_true rfl⟩ (fun G M1 hq_ => ?_)
  obtain ⟨rfl, hL2, o3⟩ := hq_
  exact pw_vret C hR dX1_start_17 (⟨rfl, rfl, hL2, o3⟩) (by omega) (by omega)

set_option maxHeartbeats 4000000 in
set_option maxRecDepth 100000 in
theorem c_X1_runMinute {X : Xv} {G M : Mm} {a : Int} {L : Fn} (hL : LR G M a L) (hB : LB L) {m : Int} (hm : 0 ≤ m ∧ m ≤ 20000) : CT X yX1_runMinute prog_3_method_9_code 7 (some .int) 1 24 0 0 [vR a, vI m] G M (PI (fun r G1 M1 => G1 = G ∧ r = (rM L m).2 ∧ LR G M1 a (rM L m).1 ∧ LB (rM L m).1 ∧ Ot a (a + 4) M M1)) := by
  refine CT.by (by decide +kernel) [1, 1] ⟨cat_vR _, cat_vI _, trivial⟩ (Nat.le_of_ble_eq_true rfl) (fun E hX C hR hIni => ?_)
  have hO0 : Ot a (a + 4) M M := Ot.rf
  have b40 := hB.s0
  have b44 := hB.s4
  have b42 := hB.s2
  refine pw_aload_n C dX1_runMinute_0 rfl ?_
  refine pw_getE C dX1_runMinute_1 fl_X1_43 rfl hL.k (hL.s 2 (by omega)) ?_
  have b_1 := hB.s2
  refine pw_if_le (tgt := 19) C dX1_runMinute_4 (by decide) (by omega) (fun c_4 => ?_) (fun c_4 => ?_)
  · skip
    refine pw_iconst C dX1_runMinute_19 ?_
    refine pw_istore_n C dX1_runMinute_20 (Nat.le_of_ble_eq_true rfl) rfl ?_
    refine pw_aload_n C dX1_runMinute_21 rfl ?_
    refine pw_getE C dX1_runMinute_22 fl_X1_36 rfl hL.k (hL.s 0 (by omega)) ?_
    have b_22 := hB.s0
    refine pw_istore_n C dX1_runMinute_25 (Nat.le_of_ble_eq_true rfl) rfl ?_
    refine pw_iconst C dX1_runMinute_26 ?_
    refine pw_istore C dX1_runMinute_27 (Nat.le_of_ble_eq_true rfl) rfl ?_
    suffices K_29 : ∀ (nn_29 : Nat) (s wd j : Int) (Lc : Fn) (Mc : Mm), (0 ≤ j ∧ j ≤ L 4 0) → (0 ≤ wd ∧ wd ≤ 60) → (Lc 4 0 = L 4 0) → (Lc 4 4 = L 4 4) → (LR G Mc a Lc) → (LB Lc) → (Ot a (a + 4) M Mc) → (rS (fun L => mU L m) m (L 4 0 - j).toNat Lc wd s = rM L m) → L 4 0 - j < (nn_29 : Int) → PW E G Mc 0 0 29 [(0, 1, vR a), (1, 1, vI m), (2, 1, vI s), (3, 1, vI wd), (4, 1, vI j)] [] from pw_locs (by exact ⟨rfl, cat_vR _, rfl, rfl, rfl, rfl, rfl, rfl, rfl, rfl, trivial⟩) (K_29 (L 4 0 - 0 + 1 : Int).toNat 0 (L 4 0) 0 L M (by omega) (by omega) (by first | exact rfl | omega) (by first | exact rfl | omega) (by first | exact hL | omega) (by first | exact hB | omega) (by first | exact Ot.rf | omega) (by first | exact by unfold rM; rw [if_neg (by omega), show (L 4 0 - 0).toNat = (L 4 0).toNat by omega] | omega) (by omega))
    intro nn_29
    induction nn_29 with
    | zero => intro s wd j Lc Mc h1 h2 hs he hLc hBc hO hf h_m29; exact absurd h_m29 (by omega)
    | succ nn_29 ih_29 =>
      intro s wd j Lc Mc h1 h2 hs he hLc hBc hO hf h_m29
      have b40 := hB.s0
      have b44 := hBc.s4
      refine pw_iload C dX1_runMinute_29 rfl ?_
      refine pw_aload_n C dX1_runMinute_31 rfl ?_
      refine pw_getE C dX1_runMinute_32 fl_X1_36 rfl hLc.k (hLc.s 0 (by omega)) ?_
      have b_32 := hBc.s0
      refine pw_icmp_ge (tgt := 125) C dX1_runMinute_35 (by decide) (by omega) (fun c_35 => ?_) (fun c_35 => ?_)
      · skip
        refine pw_iload_n C dX1_runMinute_125 rfl ?_
        exact pw_iret C hR dX1_runMinute_126 (⟨_, rfl, rfl, by rw [← hf, rS_0 (by omega)], by rw [← hf, rS_0 (by omega)]; exact hLc, by rw [← hf, rS_0 (by omega)]; exact hBc, hO⟩) (by omega) (by omega)
      · skip
        refine pw_iload_n C dX1_runMinute_38 rfl ?_
        refine pw_if_le (tgt := 125) C dX1_runMinute_39 (by decide) (by omega) (fun c_39 => ?_) (fun c_39 => ?_)
        · skip
          refine pw_iload_n C dX1_runMinute_125 rfl ?_
          exact pw_iret C hR dX1_runMinute_126 (⟨_, rfl, rfl, by rw [← hf, rS_0 (by omega)], by rw [← hf, rS_0 (by omega)]; exact hLc, by rw [← hf, rS_0 (by omega)]; exact hBc, hO⟩) (by omega) (by omega)
        · skip
          refine pw_aload_n C dX1_runMinute_42 rfl ?_
          refine pw_iload_n C dX1_runMinute_43 rfl ?_
          refine pw_cVE C hX dX1_runMinute_44 ml_X1_67 mc_X1_mostUrgent (c_X1_mostUrgent hLc hBc (m := m) (by omega)) kc_4 hLc.k rfl rfl ⟨Nat.le_of_ble_eq_true rfl, Nat.le_of_ble_eq_true rfl⟩ (Nat.le_of_ble_eq_true rfl) ⟨Nat.le_of_ble_eq_true rfl, Nat.le_of_ble_eq_true rfl⟩ ?_
          have t_sp := mU_spec (L := Lc) (minute := m) (by omega)
          obtain ⟨t, et⟩ : ∃ t, t = mU Lc m := ⟨_, rfl⟩
          rw [← et] at t_sp ⊢
          refine pw_istore C dX1_runMinute_47 (Nat.le_of_ble_eq_true rfl) rfl ?_
          refine pw_iload C dX1_runMinute_49 rfl ?_
          refine pw_iconst C dX1_runMinute_51 ?_
          refine pw_icmp_ne (tgt := 57) C dX1_runMinute_52 (by decide) (by omega) (fun c_52 => ?_) (fun c_52 => ?_)
          · skip
            refine pw_iload_n C dX1_runMinute_57 rfl ?_
            refine pw_aload_n C dX1_runMinute_58 rfl ?_
            refine pw_getR C dX1_runMinute_59 fl_X1_11 hLc.k rfl (hLc.r (b := (a + 1)) 0 (by omega)) ?_
            refine pw_iload C dX1_runMinute_62 rfl ?_
            refine pw_ialdE C dX1_runMinute_64 (hLc.ai 0 (by omega)) (by omega) (hLc.v 0 (by omega)) ?_
            have b_64 := hBc.v0 t (by omega) (by omega)
            refine pw_min C dX1_runMinute_65 (List.mem_of_getElem? (i := 666) (by decide +kernel)) (by omega) (by omega) ⟨Nat.le_of_ble_eq_true rfl, Nat.le_of_ble_eq_true rfl⟩ ⟨Nat.le_of_ble_eq_true rfl, Nat.le_of_ble_eq_true rfl⟩ ?_
            refine pw_istore C dX1_runMinute_68 (Nat.le_of_ble_eq_true rfl) rfl ?_
            refine pw_aload_n C dX1_runMinute_70 rfl ?_
            refine pw_getR C dX1_runMinute_71 fl_X1_11 hLc.k rfl (hLc.r (b := (a + 1)) 0 (by omega)) ?_
            refine pw_iload C dX1_runMinute_74 rfl ?_
            refine pw_dup2 C dX1_runMinute_76 rfl (cat_vR _) ?_
            refine pw_ialdE C dX1_runMinute_77 (hLc.ai 0 (by omega)) (by omega) (hLc.v 0 (by omega)) ?_
            have b_77 := hBc.v0 t (by omega) (by omega)
            refine pw_iload C dX1_runMinute_78 rfl ?_
            refine pw_isub C dX1_runMinute_80 ?_
            refine pw_iastG C dX1_runMinute_81 (hLc.ai 0 (by omega)) (by omega) (fun M1 eM1 => ?_)
            have hL2 := hLc.wv 0 (by omega) eM1
            have hO3 : Ot a (a + 4) M M1 := by rw [eM1]; exact hO.u1 (by omega)
            clear eM1
            refine pw_iload_n C dX1_runMinute_82 rfl ?_
            refine pw_iload C dX1_runMinute_83 rfl ?_
            refine pw_isub C dX1_runMinute_85 ?_
            refine pw_istore_n C dX1_runMinute_86 (Nat.le_of_ble_eq_true rfl) rfl ?_
            refine pw_aload_n C dX1_runMinute_87 rfl ?_
            refine pw_dup C dX1_runMinute_88 (cat_vR _) ?_
            refine pw_getE C dX1_runMinute_89 fl_X1_46 rfl hL2.k ((hL2.s 3 (by omega)).trans (by rw [lup_n (by omega)])) ?_
            refine pw_iload C dX1_runMinute_92 rfl ?_
            refine pw_iadd C dX1_runMinute_94 ?_
            refine pw_putIG C dX1_runMinute_95 fl_X1_46 (fun h => by cases h) rfl hL2.k (fun M4 eM4 => ?_)
            have hL5 := hL2.ws 3 (by omega) eM4
            have hO6 : Ot a (a + 4) M M4 := by rw [eM4]; exact hO3.u0 (by omega)
            clear eM4
            refine pw_aload_n C dX1_runMinute_98 rfl ?_
            refine pw_getR C dX1_runMinute_99 fl_X1_11 hL5.k rfl (hL5.r (b := (a + 1)) 0 (by omega)) ?_
            refine pw_iload C dX1_runMinute_102 rfl ?_
            refine pw_ialdE C dX1_runMinute_104 (hL5.ai 0 (by omega)) (by omega) ((hL5.v 0 (by omega)).trans (by rw [lup_n (by omega), lup_s])) ?_
            refine pw_if_ne (tgt := 119) C dX1_runMinute_105 (by decide) (by omega) (fun c_105 => ?_) (fun c_105 => ?_)
            · skip
              refine pw_iinc C dX1_runMinute_119 rfl (Nat.le_of_ble_eq_true rfl) rfl ?_
              refine pw_goto (tgt := 29) C dX1_runMinute_122 (by decide) ?_
              have e2 : (lup (lup Lc 0 t ((Lc 0 t) - (min wd (Lc 0 t)))) 4 3 ((Lc 4 3) + (min wd (Lc 0 t)))) = sn Lc m t (min wd (Lc 0 t)) := by unfold sn; rw [if_neg c_105]
              have hs2 : (lup (lup Lc 0 t ((Lc 0 t) - (min wd (Lc 0 t)))) 4 3 ((Lc 4 3) + (min wd (Lc 0 t)))) 4 0 = L 4 0 := by rw [e2, sn_4 (by omega)]; exact hs
              have he2 : (lup (lup Lc 0 t ((Lc 0 t) - (min wd (Lc 0 t)))) 4 3 ((Lc 4 3) + (min wd (Lc 0 t)))) 4 4 = L 4 4 := by rw [e2, sn_4 (by omega)]; exact he
              have hL2 := hL5
              have hB2 : LB (lup (lup Lc 0 t ((Lc 0 t) - (min wd (Lc 0 t)))) 4 3 ((Lc 4 3) + (min wd (Lc 0 t)))) := by rw [e2]; exact sn_LB hBc (by omega) (by omega) hm
              have hf2 := rS_go (n' := (L 4 0 - (j + 1)).toNat) (by omega) (by omega) (by rw [← et]; omega) hf
              try dsimp only at hf2
              rw [← et, ← e2, if_neg c_105] at hf2
              exact pw_locs (by exact ⟨rfl, cat_vR _, rfl, rfl, rfl, rfl, rfl, rfl, rfl, rfl, trivial⟩) (ih_29 s (wd - (min wd (Lc 0 t))) (j + 1) (lup (lup Lc 0 t ((Lc 0 t) - (min wd (Lc 0 t)))) 4 3 ((Lc 4 3) + (min wd (Lc 0 t)))) M4 (by omega) (by omega) (hs2) (he2) (hL2) (hB2) (hO6) (hf2) (by omega))
            · skip
              refine pw_aload_n C dX1_runMinute_108 rfl ?_
              refine pw_getR C dX1_runMinute_109 fl_X1_21 hL5.k rfl (hL5.r (b := (a + 4)) 3 (by omega)) ?_
              refine pw_iload C dX1_runMinute_112 rfl ?_
              refine pw_iload_n C dX1_runMinute_114 rfl ?_
              refine pw_iastG C dX1_runMinute_115 (hL5.ai 3 (by omega)) (by omega) (fun M7 eM7 => ?_)
              have hL8 := hL5.wv 3 (by omega) eM7
              have hO9 : Ot a (a + 4) M M7 := by rw [eM7]; exact hO6.u1 (by omega)
              clear eM7
              refine pw_iinc C dX1_runMinute_116 rfl (Nat.le_of_ble_eq_true rfl) rfl ?_
              refine pw_iinc C dX1_runMinute_119 rfl (Nat.le_of_ble_eq_true rfl) rfl ?_
              refine pw_goto (tgt := 29) C dX1_runMinute_122 (by decide) ?_
              have e2 : (lup (lup (lup Lc 0 t ((Lc 0 t) - (min wd (Lc 0 t)))) 4 3 ((Lc 4 3) + (min wd (Lc 0 t)))) 3 t m) = sn Lc m t (min wd (Lc 0 t)) := by unfold sn; rw [if_pos c_105]
              have hs2 : (lup (lup (lup Lc 0 t ((Lc 0 t) - (min wd (Lc 0 t)))) 4 3 ((Lc 4 3) + (min wd (Lc 0 t)))) 3 t m) 4 0 = L 4 0 := by rw [e2, sn_4 (by omega)]; exact hs
              have he2 : (lup (lup (lup Lc 0 t ((Lc 0 t) - (min wd (Lc 0 t)))) 4 3 ((Lc 4 3) + (min wd (Lc 0 t)))) 3 t m) 4 4 = L 4 4 := by rw [e2, sn_4 (by omega)]; exact he
              have hL2 := hL8
              have hB2 : LB (lup (lup (lup Lc 0 t ((Lc 0 t) - (min wd (Lc 0 t)))) 4 3 ((Lc 4 3) + (min wd (Lc 0 t)))) 3 t m) := by rw [e2]; exact sn_LB hBc (by omega) (by omega) hm
              have hf2 := rS_go (n' := (L 4 0 - (j + 1)).toNat) (by omega) (by omega) (by rw [← et]; omega) hf
              try dsimp only at hf2
              rw [← et, ← e2, if_pos c_105] at hf2
              exact pw_locs (by exact ⟨rfl, cat_vR _, rfl, rfl, rfl, rfl, rfl, rfl, rfl, rfl, trivial⟩) (ih_29 (s + 1) (wd - (min wd (Lc 0 t))) (j + 1) (lup (lup (lup Lc 0 t ((Lc 0 t) - (min wd (Lc 0 t)))) 4 3 ((Lc 4 3) + (min wd (Lc 0 t)))) 3 t m) M7 (by omega) (by omega) (hs2) (he2) (hL2) (hB2) (hO9) (hf2) (by omega))
          · skip
            refine pw_iload_n C dX1_runMinute_55 rfl ?_
            exact pw_iret C hR dX1_runMinute_56 (⟨_, rfl, rfl, by rw [← hf, rS_0 (Or.inr (Or.inr (by omega)))], by rw [← hf, rS_0 (Or.inr (Or.inr (by omega)))]; exact hLc, by rw [← hf, rS_0 (Or.inr (Or.inr (by omega)))]; exact hBc, hO⟩) (by omega) (by omega)
  · skip
    refine pw_aload_n C dX1_runMinute_7 rfl ?_
    refine pw_dup C dX1_runMinute_8 (cat_vR _) ?_
    refine pw_getE C dX1_runMinute_9 fl_X1_43 rfl hL.k (hL.s 2 (by omega)) ?_
    have b_9 := hB.s2
    refine pw_iconst C dX1_runMinute_12 ?_
    refine pw_isub C dX1_runMinute_13 ?_
    refine pw_putIG C dX1_runMinute_14 fl_X1_43 (fun h => by cases h) rfl hL.k (fun M10 eM10 => ?_)
    have hL11 := hL.ws 2 (by omega) eM10
    have hO12 : Ot a (a + 4) M M10 := by rw [eM10]; exact hO0.u0 (by omega)
    clear eM10
    refine pw_iconst C dX1_runMinute_17 ?_
    exact pw_iret C hR dX1_runMinute_18 (⟨_, rfl, rfl, by unfold rM; rw [if_pos (by omega)], by unfold rM; rw [if_pos (by omega)]; exact hL11, by unfold rM; rw [if_pos (by omega)]; exact hB.u4 (by omega), hO12⟩) (by omega) (by omega)

set_option maxHeartbeats 4000000 in
set_option maxRecDepth 100000 in
theorem c_X1_runUntilHad {X : Xv} {G M : Mm} {a : Int} {L : Fn} (hL : LR G M a L) (hB : LB L) {t u : Int} (ht : 0 ≤ t ∧ t < 61) (hu : 0 ≤ u ∧ u ≤ 9999) : CT X yX1_runUntilHad prog_3_method_11_code 4 (some .int) 2 50 0 0 [vR a, vI t, vI u] G M (PI (fun r G1 M1 => G1 = G ∧ r = rU L t u ∧ Ot a (a + 4) M M1 ∧ ∃ L1, LR G M1 a L1)) := by
  refine CT.by (by decide +kernel) [1, 1, 1] ⟨cat_vR _, cat_vI _, cat_vI _, trivial⟩ (Nat.le_of_ble_eq_true rfl) (fun E hX C hR hIni => ?_)
  have hO0 : Ot a (a + 4) M M := Ot.rf
  have b41 := hB.s1
  refine pw_iconst C dX1_runUntilHad_0 ?_
  refine pw_istore_n C dX1_runUntilHad_1 (Nat.le_of_ble_eq_true rfl) rfl ?_
  suffices K_2 : ∀ (nn_2 : Nat) (i : Int) (Mc : Mm), (1 ≤ i ∧ i ≤ 100) → (LR G Mc a (rI L u (i - 1))) → (LB (rI L u (i - 1))) → (rI L u (i - 1) 4 1 = L 4 1) → (Ot a (a + 4) M Mc) → (fnd (fun i => rI L u i 0 t = 0) i (100 - L 4 1) = fnd (fun i => rI L u i 0 t = 0) 1 (100 - L 4 1)) → 100 - i < (nn_2 : Int) → PW E G Mc 0 0 2 [(0, 1, vR a), (1, 1, vI t), (2, 1, vI u), (3, 1, vI i)] [] from pw_locs (by exact ⟨rfl, cat_vR _, rfl, rfl, rfl, rfl, rfl, rfl, trivial⟩) (K_2 (100 - 1 + 1 : Int).toNat 1 M (by omega) (by first | exact by rw [show (1 : Int) - 1 = 0 by omega, rI_0]; exact hL | omega) (by first | exact by rw [show (1 : Int) - 1 = 0 by omega, rI_0]; exact hB | omega) (by first | exact by rw [show (1 : Int) - 1 = 0 by omega, rI_0] | omega) (by first | exact Ot.rf | omega) (by first | exact rfl | omega) (by omega))
  intro nn_2
  induction nn_2 with
  | zero => intro i Mc h1 hLc hBc he hO hf h_m2; exact absurd h_m2 (by omega)
  | succ nn_2 ih_2 =>
    intro i Mc h1 hLc hBc he hO hf h_m2
    refine pw_iload_n C dX1_runUntilHad_2 rfl ?_
    refine pw_aload_n C dX1_runUntilHad_3 rfl ?_
    refine pw_getE C dX1_runUntilHad_4 fl_X1_40 rfl hLc.k ((hLc.s 1 (by omega)).trans he) ?_
    refine pw_iadd C dX1_runUntilHad_7 ?_
    refine pw_bipush C dX1_runUntilHad_8 rfl ?_
    refine pw_icmp_gt (tgt := 42) C dX1_runUntilHad_10 (by decide) (by omega) (fun c_10 => ?_) (fun c_10 => ?_)
    · skip
      refine pw_iconst C dX1_runUntilHad_42 ?_
      exact pw_iret C hR dX1_runUntilHad_43 (⟨_, rfl, rfl, by unfold rU; rw [← fnd_no (by omega) hf, if_neg (by omega)], hO, _, hLc⟩) (by omega) (by omega)
    · skip
      refine pw_aload_n C dX1_runUntilHad_13 rfl ?_
      refine pw_iload_n C dX1_runUntilHad_14 rfl ?_
      refine pw_iload_n C dX1_runUntilHad_15 rfl ?_
      refine pw_iadd C dX1_runUntilHad_16 ?_
      refine pw_cVI C hX dX1_runUntilHad_17 ml_X1_77 mc_X1_runMinute (c_X1_runMinute hLc hBc (m := (u + i)) (by omega)) kc_4 hLc.k rfl rfl ⟨Nat.le_of_ble_eq_true rfl, Nat.le_of_ble_eq_true rfl⟩ (Nat.le_of_ble_eq_true rfl) ⟨Nat.le_of_ble_eq_true rfl, Nat.le_of_ble_eq_true rfl⟩ (fun r_ G M1 hq_ => ?_)
      obtain ⟨rfl, rfl, hL2, hB3, o4⟩ := hq_
      have hO5 := hO.tr (o4.mono (by omega) (by omega))
      have e_rI : rI L u i = (rM (rI L u (i - 1)) (u + i)).1 := rI_1 (by omega)
      have he2 : rI L u i 4 1 = L 4 1 := by rw [e_rI, rM_41]; exact he
      rw [← e_rI] at hL2 hB3
      refine pw_pop C dX1_runUntilHad_20 rfl ?_
      refine pw_aload_n C dX1_runUntilHad_21 rfl ?_
      refine pw_iload_n C dX1_runUntilHad_22 rfl ?_
      refine pw_cVE C hX dX1_runUntilHad_23 ml_X1_80 mc_X1_isSent (c_X1_isSent hL2 hB3 (t := t) (by omega)) kc_4 hL2.k rfl rfl ⟨Nat.le_of_ble_eq_true rfl, Nat.le_of_ble_eq_true rfl⟩ (Nat.le_of_ble_eq_true rfl) ⟨Nat.le_of_ble_eq_true rfl, Nat.le_of_ble_eq_true rfl⟩ ?_
      refine pw_ifB_eq (tgt := 36) C dX1_runUntilHad_26 (by decide) (fun c_26 => ?_) (fun c_26 => ?_)
      · skip
        refine pw_iinc C dX1_runUntilHad_36 rfl (Nat.le_of_ble_eq_true rfl) rfl ?_
        refine pw_goto (tgt := 2) C dX1_runUntilHad_39 (by decide) ?_
        exact pw_locs (by exact ⟨rfl, cat_vR _, rfl, rfl, rfl, rfl, rfl, rfl, trivial⟩) (ih_2 (i + 1) M1 (by omega) (by rw [show i + 1 - 1 = i by omega]; exact hL2) (by rw [show i + 1 - 1 = i by omega]; exact hB3) (by rw [show i + 1 - 1 = i by omega]; exact he2) (hO5) (fnd_go (by omega) hf c_26) (by omega))
      · skip
        refine pw_iload_n C dX1_runUntilHad_29 rfl ?_
        refine pw_aload_n C dX1_runUntilHad_30 rfl ?_
        refine pw_getE C dX1_runUntilHad_31 fl_X1_40 rfl hL2.k ((hL2.s 1 (by omega)).trans he2) ?_
        refine pw_iadd C dX1_runUntilHad_34 ?_
        exact pw_iret C hR dX1_runUntilHad_35 (⟨_, rfl, rfl, by unfold rU; rw [← fnd_at (by omega) hf c_26, if_pos (by omega)], hO5, _, hL2⟩) (by omega) (by omega)

set_option maxHeartbeats 4000000 in
set_option maxRecDepth 100000 in
theorem c_X1_copyFrom {X : Xv} {G M : Mm} {a b : Int} {L S : Fn} (hL : LR G M a L) (hS : LR G M b S) (hab : a + 4 < b ∨ b + 4 < a) : CT X yX1_copyFrom prog_3_method_2_code 2 (none) 1 40 0 0 [vR a, vR b] G M (PU (fun G1 M1 => G1 = G ∧ LR G M1 a S ∧ Ot a (a + 4) M M1)) := by
  refine CT.by (by decide +kernel) [1, 1] ⟨cat_vR _, cat_vR _, trivial⟩ (Nat.le_of_ble_eq_true rfl) (fun E hX C hR hIni => ?_)
  have hO0 : Ot a (a + 4) M M := Ot.rf
  refine pw_aload_n C dX1_copyFrom_0 rfl ?_
  refine pw_getR C dX1_copyFrom_1 fl_X1_11 hS.k rfl (hS.r (b := (b + 1)) 0 (by omega)) ?_
  refine pw_iconst C dX1_copyFrom_4 ?_
  refine pw_aload_n C dX1_copyFrom_5 rfl ?_
  refine pw_getR C dX1_copyFrom_6 fl_X1_11 hL.k rfl (hL.r (b := (a + 1)) 0 (by omega)) ?_
  refine pw_iconst C dX1_copyFrom_9 ?_
  refine pw_bipush C dX1_copyFrom_10 rfl ?_
  refine pw_copyI (t := 0) C dX1_copyFrom_12 (List.mem_of_getElem? (i := 651) (by decide +kernel)) (by omega) (hS.ai 0 (by omega)).1 (hL.ai 0 (by omega)).1 ⟨by omega, by rw [(hS.ai 0 (by omega)).2]; omega, by rw [(hL.ai 0 (by omega)).2]; omega⟩ (Or.inl rfl) ⟨Nat.le_of_ble_eq_true rfl, Nat.le_of_ble_eq_true rfl⟩ (fun M1 eM1 => ?_)
  have hL2 := hL.wc 0 (by omega) (fun t q1 q2 => hS.v (b := b + 1) 0 (by omega)) eM1
  have hO4 : Ot a (a + 4) M M1 := by rw [eM1]; exact hO0.cp (by omega)
  have hS3 := hS.oM hO4 (by omega)
  clear eM1
  refine pw_aload_n C dX1_copyFrom_15 rfl ?_
  refine pw_getR C dX1_copyFrom_16 fl_X1_15 hS3.k rfl (hS3.r (b := (b + 2)) 1 (by omega)) ?_
  refine pw_iconst C dX1_copyFrom_19 ?_
  refine pw_aload_n C dX1_copyFrom_20 rfl ?_
  refine pw_getR C dX1_copyFrom_21 fl_X1_15 hL2.k rfl (hL2.r (b := (a + 2)) 1 (by omega)) ?_
  refine pw_iconst C dX1_copyFrom_24 ?_
  refine pw_bipush C dX1_copyFrom_25 rfl ?_
  refine pw_copyI (t := 0) C dX1_copyFrom_27 (List.mem_of_getElem? (i := 651) (by decide +kernel)) (by omega) (hS3.ai 1 (by omega)).1 (hL2.ai 1 (by omega)).1 ⟨by omega, by rw [(hS3.ai 1 (by omega)).2]; omega, by rw [(hL2.ai 1 (by omega)).2]; omega⟩ (Or.inl rfl) ⟨Nat.le_of_ble_eq_true rfl, Nat.le_of_ble_eq_true rfl⟩ (fun M5 eM5 => ?_)
  have hL6 := hL2.wc 1 (by omega) (fun t q1 q2 => hS3.v (b := b + 2) 1 (by omega)) eM5
  have hO8 : Ot a (a + 4) M M5 := by rw [eM5]; exact hO4.cp (by omega)
  have hS7 := hS.oM hO8 (by omega)
  clear eM5
  refine pw_aload_n C dX1_copyFrom_30 rfl ?_
  refine pw_getR C dX1_copyFrom_31 fl_X1_18 hS7.k rfl (hS7.r (b := (b + 3)) 2 (by omega)) ?_
  refine pw_iconst C dX1_copyFrom_34 ?_
  refine pw_aload_n C dX1_copyFrom_35 rfl ?_
  refine pw_getR C dX1_copyFrom_36 fl_X1_18 hL6.k rfl (hL6.r (b := (a + 3)) 2 (by omega)) ?_
  refine pw_iconst C dX1_copyFrom_39 ?_
  refine pw_bipush C dX1_copyFrom_40 rfl ?_
  refine pw_copyI (t := 0) C dX1_copyFrom_42 (List.mem_of_getElem? (i := 651) (by decide +kernel)) (by omega) (hS7.ai 2 (by omega)).1 (hL6.ai 2 (by omega)).1 ⟨by omega, by rw [(hS7.ai 2 (by omega)).2]; omega, by rw [(hL6.ai 2 (by omega)).2]; omega⟩ (Or.inl rfl) ⟨Nat.le_of_ble_eq_true rfl, Nat.le_of_ble_eq_true rfl⟩ (fun M9 eM9 => ?_)
  have hL10 := hL6.wc 2 (by omega) (fun t q1 q2 => hS7.v (b := b + 3) 2 (by omega)) eM9
  have hO12 : Ot a (a + 4) M M9 := by rw [eM9]; exact hO8.cp (by omega)
  have hS11 := hS.oM hO12 (by omega)
  clear eM9
  refine pw_aload_n C dX1_copyFrom_45 rfl ?_
  refine pw_getR C dX1_copyFrom_46 fl_X1_21 hS11.k rfl (hS11.r (b := (b + 4)) 3 (by omega)) ?_
  refine pw_iconst C dX1_copyFrom_49 ?_
  refine pw_aload_n C dX1_copyFrom_50 rfl ?_
  refine pw_getR C dX1_copyFrom_51 fl_X1_21 hL10.k rfl (hL10.r (b := (a + 4)) 3 (by omega)) ?_
  refine pw_iconst C dX1_copyFrom_54 ?_
  refine pw_bipush C dX1_copyFrom_55 rfl ?_
  refine pw_copyI (t := 0) C dX1_copyFrom_57 (List.mem_of_getElem? (i := 651) (by decide +kernel)) (by omega) (hS11.ai 3 (by omega)).1 (hL10.ai 3 (by omega)).1 ⟨by omega, by rw [(hS11.ai 3 (by omega)).2]; omega, by rw [(hL10.ai 3 (by omega)).2]; omega⟩ (Or.inl rfl) ⟨Nat.le_of_ble_eq_true rfl, Nat.le_of_ble_eq_true rfl⟩ (fun M13 eM13 => ?_)
  have hL14 := hL10.wc 3 (by omega) (fun t q1 q2 => hS11.v (b := b + 4) 3 (by omega)) eM13
  have hO16 : Ot a (a + 4) M M13 := by rw [eM13]; exact hO12.cp (by omega)
  have hS15 := hS.oM hO16 (by omega)
  clear eM13
  refine pw_aload_n C dX1_copyFrom_60 rfl ?_
  refine pw_aload_n C dX1_copyFrom_61 rfl ?_
  refine pw_getE C dX1_copyFrom_62 fl_X1_36 rfl hS15.k (hS15.s 0 (by omega)) ?_
  refine pw_putIG C dX1_copyFrom_65 fl_X1_36 (fun h => by cases h) rfl hL14.k (fun M17 eM17 => ?_)
  have hL18 := hL14.ws 0 (by omega) eM17
  have hO19 : Ot a (a + 4) M M17 := by rw [eM17]; exact hO16.u0 (by omega)
  clear eM17
  have hS20 := hS.oM hO19 (by omega)
  refine pw_aload_n C dX1_copyFrom_68 rfl ?_
  refine pw_aload_n C dX1_copyFrom_69 rfl ?_
  refine pw_getE C dX1_copyFrom_70 fl_X1_40 rfl hS20.k (hS20.s 1 (by omega)) ?_
  refine pw_putIG C dX1_copyFrom_73 fl_X1_40 (fun h => by cases h) rfl hL18.k (fun M21 eM21 => ?_)
  have hL22 := hL18.ws 1 (by omega) eM21
  have hO23 : Ot a (a + 4) M M21 := by rw [eM21]; exact hO19.u0 (by omega)
  clear eM21
  have hS24 := hS.oM hO23 (by omega)
  refine pw_aload_n C dX1_copyFrom_76 rfl ?_
  refine pw_aload_n C dX1_copyFrom_77 rfl ?_
  refine pw_getE C dX1_copyFrom_78 fl_X1_43 rfl hS24.k (hS24.s 2 (by omega)) ?_
  refine pw_putIG C dX1_copyFrom_81 fl_X1_43 (fun h => by cases h) rfl hL22.k (fun M25 eM25 => ?_)
  have hL26 := hL22.ws 2 (by omega) eM25
  have hO27 : Ot a (a + 4) M M25 := by rw [eM25]; exact hO23.u0 (by omega)
  clear eM25
  have hS28 := hS.oM hO27 (by omega)
  refine pw_aload_n C dX1_copyFrom_84 rfl ?_
  refine pw_aload_n C dX1_copyFrom_85 rfl ?_
  refine pw_getE C dX1_copyFrom_86 fl_X1_46 rfl hS28.k (hS28.s 3 (by omega)) ?_
  refine pw_putIG C dX1_copyFrom_89 fl_X1_46 (fun h => by cases h) rfl hL26.k (fun M29 eM29 => ?_)
  have hL30 := hL26.ws 3 (by omega) eM29
  have hO31 : Ot a (a + 4) M M29 := by rw [eM29]; exact hO27.u0 (by omega)
  clear eM29
  have hS32 := hS.oM hO31 (by omega)
  refine pw_aload_n C dX1_copyFrom_92 rfl ?_
  refine pw_aload_n C dX1_copyFrom_93 rfl ?_
  refine pw_getE C dX1_copyFrom_94 fl_X1_49 rfl hS32.k (hS32.s 4 (by omega)) ?_
  refine pw_putIG C dX1_copyFrom_97 fl_X1_49 (fun h => by cases h) rfl hL30.k (fun M33 eM33 => ?_)
  have hL34 := hL30.ws 4 (by omega) eM33
  have hO35 : Ot a (a + 4) M M33 := by rw [eM33]; exact hO31.u0 (by omega)
  clear eM33
  exact pw_vret C hR dX1_copyFrom_100 (⟨rfl, rfl, hL34.ext (fun i t q1 q2 q3 q4 => by rcases (show i = 0 ∨ i = 1 ∨ i = 2 ∨ i = 3 by omega) with rfl | rfl | rfl | rfl <;> simp [lup_c, rup]) (fun s q1 q2 => by rcases (show s = 0 ∨ s = 1 ∨ s = 2 ∨ s = 3 ∨ s = 4 by omega) with rfl | rfl | rfl | rfl | rfl <;> simp [lup_c]), hO35⟩) (by omega) (by omega)

