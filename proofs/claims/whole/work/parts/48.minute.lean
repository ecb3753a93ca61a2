/-! ===== a minute of a line of the model ===== -/
theorem LW.rSt {T : Int → Fn} {n m : Int} (hm : 0 ≤ m ∧ m ≤ 20000) : ∀ (k : Nat) (L : Fn) (w s : Int), LW L T n → LB L → LW (rS (fun L => mU L m) m k L w s).1 T n := by
  intro k
  induction k with
  | zero => intro L w s h _; exact h
  | succ k ih =>
    intro L w s h hB
    have e : rS (fun L => mU L m) m (k + 1) L w s = if w ≤ 0 then (L, s) else if mU L m = -1 then (L, s) else rS (fun L => mU L m) m k (sn L m (mU L m) (min w (L 0 (mU L m)))) (w - min w (L 0 (mU L m))) (if L 0 (mU L m) - min w (L 0 (mU L m)) = 0 then s + 1 else s) := rfl
    rw [e]
    by_cases hw : w ≤ 0
    · rw [if_pos hw]; exact h
    · rw [if_neg hw]
      by_cases hu : mU L m = -1
      · rw [if_pos hu]; exact h
      · rw [if_neg hu]
        have hs := (mU_spec (L := L) (minute := m) hB.s4.1).resolve_left hu
        have h4 := hB.s4
        exact ih _ _ _ (h.stp (by omega) ⟨by omega, by omega, by omega⟩ hm.1) (sn_LB hB (by omega) (by omega) hm)
theorem LW.rMt {L : Fn} {T : Int → Fn} {n m : Int} (h : LW L T n) (hB : LB L) (hm : 0 ≤ m ∧ m ≤ 20000) : LW (rM L m).1 T n := by
  unfold rM
  split
  · refine ⟨fun t q1 q2 => ?_, ?_, h.2.2⟩
    · dsimp only
      rw [lup_n (i' := 3) (by omega), lup_n (i' := 0) (by omega), lup_n (i' := 1) (by omega), lup_n (i' := 2) (by omega), lup_n (i' := 4) (by omega)]; exact h.1 t q1 q2
    · dsimp only
      rw [lup_n (by omega)]; exact h.2.1
  · exact LW.rSt hm _ _ _ _ h hB
set_option maxHeartbeats 4000000 in
set_option maxRecDepth 100000 in
theorem m_minute {X : Xv} {G M : Mm} {a : Int} {L : Fn} (hL : MLi G M a L) (hB : LB L) {q n e : Int} {P : Int → Int} {T : Int → Fn} (hT : TK G M q n e P T) (hW : LW L T n) {m : Int} (hm : 0 ≤ m ∧ m ≤ 20000) (hD : DJ q n P a) : CT X yX7_minute prog_10_method_6_code 7 (some .int) 4 88 0 0 [vR a, vR q, vI m] G M (PI (fun r G1 M1 => G1 = G ∧ r = (rM L m).2 ∧ MLi G M1 a (rM L m).1 ∧ LB (rM L m).1 ∧ LW (rM L m).1 T n ∧ Ot a (a + 3) M M1)) := by
  refine CT.by (by decide +kernel) [1, 1, 1] ⟨cat_vR _, cat_vR _, cat_vI _, trivial⟩ (Nat.le_of_ble_eq_true rfl) (fun E hX C hR hIni => ?_)
  have hO0 : Ot a (a + 3) M M := Ot.rf
  refine pw_aload_n C dX7_minute_0 rfl ?_
  refine pw_getE C dX7_minute_1 fl_X7_32 rfl hL.1 hL.2.2.2.2.2.1.2.2.1 ?_
  have b_1 := hB.s2
  refine pw_if_le (tgt := 19) C dX7_minute_4 (by decide) (by omega) (fun c_4 => ?_) (fun c_4 => ?_)
  · skip
    refine pw_iconst C dX7_minute_19 ?_
    refine pw_istore_n C dX7_minute_20 (Nat.le_of_ble_eq_true rfl) rfl ?_
    refine pw_aload_n C dX7_minute_21 rfl ?_
    refine pw_getE C dX7_minute_22 fl_X7_22 rfl hL.1 hL.2.2.2.2.2.1.1 ?_
    have b_22 := hB.s0
    refine pw_istore C dX7_minute_25 (Nat.le_of_ble_eq_true rfl) rfl ?_
    suffices K_27 : ∀ (nn_27 : Nat) (s w : Int) (Lc : Fn) (Mc : Mm) (nn : Nat), (0 ≤ w ∧ w ≤ 60) → (0 ≤ s ∧ s ≤ 60 - w) → (MLi G Mc a Lc) → (LB Lc) → (LW Lc T n) → (Ot a (a + 3) M Mc) → (rS (fun L => mU L m) m nn Lc w s = rM L m) → (w ≤ (nn : Int)) → w < (nn_27 : Int) → PW E G Mc 0 0 27 [(0, 1, vR a), (1, 1, vR q), (2, 1, vI m), (3, 1, vI s), (4, 1, vI w)] [] from pw_locs (by exact ⟨rfl, cat_vR _, rfl, cat_vR _, rfl, rfl, rfl, rfl, rfl, rfl, trivial⟩) (K_27 ((L 4 0) + 1 : Int).toNat 0 (L 4 0) L M ((L 4 0).toNat) (by omega) (by omega) (by first | exact hL | omega) (by first | exact hB | omega) (by first | exact hW | omega) (by first | exact hO0 | omega) (by first | exact (by unfold rM; rw [if_neg (by omega)]) | omega) (by omega) (by omega))
    intro nn_27
    induction nn_27 with
    | zero => intro s w Lc Mc nn hw hs hLc hBc hWc hOc hr hnn h_m27; exact absurd h_m27 (by omega)
    | succ nn_27 ih_27 =>
      intro s w Lc Mc nn hw hs hLc hBc hWc hOc hr hnn h_m27
      have hTc := hT.ot hOc hD
      have h49 := hBc.s4
      have hu9 := mU_spec (L := Lc) (minute := m) h49.1
      have hv9 := fun h1 h2 => hBc.v0 (mU Lc m) h1 h2
      refine pw_iload C dX7_minute_27 rfl ?_
      refine pw_if_le (tgt := 119) C dX7_minute_29 (by decide) (by omega) (fun c_29 => ?_) (fun c_29 => ?_)
      · skip
        refine pw_iload_n C dX7_minute_119 rfl ?_
        exact pw_iret C hR dX7_minute_120 ((by have e := (rS_0 (mu := fun L => mU L m) (m := m) (w := w) (s := s) (L := Lc) (n := nn) (Or.inr (Or.inl (by omega)))).symm.trans hr; refine ⟨_, rfl, rfl, by rw [← e], by rw [← e]; exact hLc, rM_LB hB hm, hW.rMt hB hm, hOc⟩)) (by omega) (by omega)
      · skip
        refine pw_aload_n C dX7_minute_32 rfl ?_
        refine pw_aload_n C dX7_minute_33 rfl ?_
        refine pw_iload_n C dX7_minute_34 rfl ?_
        refine pw_cVE C hX dX7_minute_35 ml_X7_63 mc_X7_next (m_next hLc hBc hTc hWc (m := m) (by omega)) kc_10 hLc.1 rfl rfl ⟨Nat.le_of_ble_eq_true rfl, Nat.le_of_ble_eq_true rfl⟩ (Nat.le_of_ble_eq_true rfl) ⟨Nat.le_of_ble_eq_true rfl, Nat.le_of_ble_eq_true rfl⟩ ?_
        refine pw_istore C dX7_minute_38 (Nat.le_of_ble_eq_true rfl) rfl ?_
        refine pw_iload C dX7_minute_40 rfl ?_
        refine pw_iconst C dX7_minute_42 ?_
        refine pw_icmp_ne (tgt := 48) C dX7_minute_43 (by decide) (by omega) (fun c_43 => ?_) (fun c_43 => ?_)
        · skip
          have hu8 := hu9.resolve_left c_43
          have hv8 := hv9 (by omega) (by omega)
          refine pw_iload C dX7_minute_48 rfl ?_
          refine pw_aload_n C dX7_minute_50 rfl ?_
          refine pw_getR C dX7_minute_51 fl_X7_15 hLc.1 rfl hLc.2.1.2.1 ?_
          refine pw_iload C dX7_minute_54 rfl ?_
          refine pw_ialdE C dX7_minute_56 hLc.2.2.2.1 (by omega) ((hLc.2.2.2.2.2.2 (mU Lc m) (by omega) (by omega)).2.1 (by omega)) ?_
          refine pw_min C dX7_minute_57 (List.mem_of_getElem? (i := 1308) (by decide +kernel)) (by omega) (by omega) ⟨Nat.le_of_ble_eq_true rfl, Nat.le_of_ble_eq_true rfl⟩ ⟨Nat.le_of_ble_eq_true rfl, Nat.le_of_ble_eq_true rfl⟩ ?_
          refine pw_istore C dX7_minute_60 (Nat.le_of_ble_eq_true rfl) rfl ?_
          refine pw_iload C dX7_minute_62 rfl ?_
          refine pw_iload C dX7_minute_64 rfl ?_
          refine pw_isub C dX7_minute_66 ?_
          refine pw_istore C dX7_minute_67 (Nat.le_of_ble_eq_true rfl) rfl ?_
          refine pw_aload_n C dX7_minute_69 rfl ?_
          refine pw_getR C dX7_minute_70 fl_X7_15 hLc.1 rfl hLc.2.1.2.1 ?_
          refine pw_iload C dX7_minute_73 rfl ?_
          refine pw_dup2 C dX7_minute_75 rfl (cat_vR _) ?_
          refine pw_ialdE C dX7_minute_76 hLc.2.2.2.1 (by omega) ((hLc.2.2.2.2.2.2 (mU Lc m) (by omega) (by omega)).2.1 (by omega)) ?_
          refine pw_iload C dX7_minute_77 rfl ?_
          refine pw_isub C dX7_minute_79 ?_
          refine pw_iastG C dX7_minute_80 hLc.2.2.2.1 (by omega) (fun M1 eM1 => ?_)
          have hL1 := hLc.lf (t := (mU Lc m)) (x := ((Lc 0 (mU Lc m)) - (min w (Lc 0 (mU Lc m))))) (by omega) (by omega) (by omega)
          rw [← eM1] at hL1
          have hO1 : Ot a (a + 3) M M1 := by rw [eM1]; exact hOc.u1 (by omega)
          clear eM1
          refine pw_aload_n C dX7_minute_81 rfl ?_
          refine pw_dup C dX7_minute_82 (cat_vR _) ?_
          refine pw_getE C dX7_minute_83 fl_X7_73 rfl hL1.1 (hL1.2.2.2.2.2.1.2.2.2.trans (lup_n (by omega))) ?_
          refine pw_iload C dX7_minute_86 rfl ?_
          refine pw_iadd C dX7_minute_88 ?_
          refine pw_putIG C dX7_minute_89 fl_X7_73 (fun h => by cases h) rfl hL1.1 (fun M3 eM3 => ?_)
          have hL3 := hL1.s (x := ((Lc 4 3) + (min w (Lc 0 (mU Lc m)))))
          rw [← eM3] at hL3
          have hO3 : Ot a (a + 3) M M3 := by rw [eM3]; exact hO1.u0 (by omega)
          clear eM3
          refine pw_aload_n C dX7_minute_92 rfl ?_
          refine pw_getR C dX7_minute_93 fl_X7_15 hL3.1 rfl hL3.2.1.2.1 ?_
          refine pw_iload C dX7_minute_96 rfl ?_
          refine pw_ialdE C dX7_minute_98 hL3.2.2.2.1 (by omega) (((hL3.2.2.2.2.2.2 (mU Lc m) (by omega) (by omega)).2.1 (by rw [lup_n (by omega), lup_s]; omega)).trans (by rw [lup_n (by omega), lup_s])) ?_
          refine pw_if_le (tgt := 105) C dX7_minute_99 (by decide) (by omega) (fun c_99 => ?_) (fun c_99 => ?_)
          · skip
            refine pw_aload_n C dX7_minute_105 rfl ?_
            refine pw_getR C dX7_minute_106 fl_X7_19 hL3.1 rfl hL3.2.1.2.2 ?_
            refine pw_iload C dX7_minute_109 rfl ?_
            refine pw_iload_n C dX7_minute_111 rfl ?_
            refine pw_iastG C dX7_minute_112 hL3.2.2.2.2.1 (by omega) (fun M4 eM4 => ?_)
            have hL4 := hL3.at (t := (mU Lc m)) (x := m)
            rw [← eM4] at hL4
            have hO4 : Ot a (a + 3) M M4 := by rw [eM4]; exact hO3.u1 (by omega)
            clear eM4
            refine pw_iinc C dX7_minute_113 rfl (Nat.le_of_ble_eq_true rfl) rfl ?_
            refine pw_goto (tgt := 27) C dX7_minute_116 (by decide) ?_
            exact pw_locs (by exact ⟨rfl, cat_vR _, rfl, cat_vR _, rfl, rfl, rfl, rfl, rfl, rfl, trivial⟩) (ih_27 (s + 1) (w - (min w (Lc 0 (mU Lc m)))) (sn Lc m (mU Lc m) (min w (Lc 0 (mU Lc m)))) M4 (nn - 1) (by omega) (by omega) (by unfold sn; rw [if_pos (by omega)]; exact hL4) (sn_LB hBc (by omega) (by omega) hm) (hWc.stp (by omega) ⟨by omega, by omega, by omega⟩ hm.1) (hO4) (by have q_ := rS_go (n' := nn - 1) (by omega) (by omega) c_43 hr; rw [if_pos (by omega)] at q_; exact q_) (by omega) (by omega))
          · skip
            refine pw_goto (tgt := 27) C dX7_minute_102 (by decide) ?_
            exact pw_locs (by exact ⟨rfl, cat_vR _, rfl, cat_vR _, rfl, rfl, rfl, rfl, rfl, rfl, trivial⟩) (ih_27 s (w - (min w (Lc 0 (mU Lc m)))) (sn Lc m (mU Lc m) (min w (Lc 0 (mU Lc m)))) M3 (nn - 1) (by omega) (by omega) (by unfold sn; rw [if_neg (by omega)]; exact hL3) (sn_LB hBc (by omega) (by omega) hm) (hWc.stp (by omega) ⟨by omega, by omega, by omega⟩ hm.1) (hO3) (by have q_ := rS_go (n' := nn - 1) (by omega) (by omega) c_43 hr; rw [if_neg (by omega)] at q_; exact q_) (by omega) (by omega))
        · skip
          refine pw_iload_n C dX7_minute_46 rfl ?_
          exact pw_iret C hR dX7_minute_47 ((by have e := (rS_0 (mu := fun L => mU L m) (m := m) (w := w) (s := s) (L := Lc) (n := nn) (Or.inr (Or.inr c_43))).symm.trans hr; refine ⟨_, rfl, rfl, by rw [← e], by rw [← e]; exact hLc, rM_LB hB hm, hW.rMt hB hm, hOc⟩)) (by omega) (by omega)
  · skip
    refine pw_aload_n C dX7_minute_7 rfl ?_
    refine pw_dup C dX7_minute_8 (cat_vR _) ?_
    refine pw_getE C dX7_minute_9 fl_X7_32 rfl hL.1 hL.2.2.2.2.2.1.2.2.1 ?_
    have b_9 := hB.s2
    refine pw_iconst C dX7_minute_12 ?_
    refine pw_isub C dX7_minute_13 ?_
    refine pw_putIG C dX7_minute_14 fl_X7_32 (fun h => by cases h) rfl hL.1 (fun M6 eM6 => ?_)
    have hL6 := hL.d (x := ((L 4 2) - 1))
    rw [← eM6] at hL6
    have hO6 : Ot a (a + 3) M M6 := by rw [eM6]; exact hO0.u0 (by omega)
    clear eM6
    refine pw_iconst C dX7_minute_17 ?_
    exact pw_iret C hR dX7_minute_18 ((by have e : rM L m = (lup L 4 2 (L 4 2 - 1), 0) := (by unfold rM; rw [if_pos (by omega)]); refine ⟨_, rfl, rfl, by rw [e], by rw [e]; exact hL6, rM_LB hB hm, hW.rMt hB hm, hO6⟩)) (by omega) (by omega)

