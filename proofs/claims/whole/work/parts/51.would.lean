/-! ===== the model: what would be ===== -/
abbrev mHas (L : Fn) (t m : Int) : Prop := ¬ L 3 t = -1 ∧ L 3 t + L 4 1 ≤ m
def mAr (L : Fn) (t u : Int) : Int := if L 0 t = -1 then -1 else if fnd (fun i => mHas (rI L u i) t (u + i)) 0 100 < 100 then fnd (fun i => mHas (rI L u i) t (u + i)) 0 100 else -1
theorem rI_s {L : Fn} {u i : Int} (h : 0 ≤ i) : rI L u (i + 1) = (rM (rI L u i) (u + (i + 1))).1 := by
  have := rI_1 (L := L) (st := u) (i := i + 1) (by omega)
  rwa [show i + 1 - 1 = i by omega] at this
abbrev mPv (S F : Fn) (v w k : Int) : Prop := 0 < mpr S F v ∨ (0 < k ∧ w = 3) ∨ (w = 2 ∧ 1 < mro S F v 2 + k) ∨ 2 < mro S F v 0 + k
abbrev mBt (S F : Fn) (v fo o : Int) : Prop := (¬ o = v ∧ isd F o ∧ ¬ mpr S F o = 0) ∧ (fo < mfo S F o ∨ mfo S F o = fo ∧ o < v)
abbrev mTr (S F : Fn) (v w k : Int) : Prop := mPv S F v w k ∧ ¬ fnd (mBt S F v (mfo S F v + k * w)) 0 100 < 100
def mNe (S F : Fn) (v w : Int) : Int := if fnd (mTr S F v w) 0 11 < 11 then fnd (mTr S F v w) 0 11 else -1
def mLs (A : An) (s wd set : Int) : Int := fr (fun f c => if ins set f then c + (if A (100 + (s * 4 + f)) 1 1 = 0 then -1000 else A (100 + (s * 4 + f)) 1 1) else c) 0 4 (if 20 + 15 * bc set ≤ wd then 0 else -1000)
def mLe (A : An) (s wd : Int) : Int := (fr (fun set b => if b.2 < mLs A s wd set then (set, mLs A s wd set) else b) 1 16 ((0, 0) : Int × Int)).1
set_option maxHeartbeats 4000000 in
set_option maxRecDepth 100000 in
theorem m_arrivesNow {X : Xv} {G M : Mm} {Q : Int} {A : An} {D : Fn} {I : Int → Int} (hM : RM G M Q A D I) (hA : AB A) {a : Int} {L : Fn} (hL : MLi G M a L) (hB : LB L) {q n e : Int} {P : Int → Int} {T : Int → Fn} (hT : TK G M q n e P T) (hW : LW L T n) (hD : DJ q n P a) (hQa : Q < a) {t : Int} (ht : 0 ≤ t ∧ t < 61) : CT X yX10_arrivesNow prog_8_method_61_code 5 (some .int) 5 114 0 0 [vR Q, vR a, vR q, vI t] G M (PI (fun r G1 M1 => r = mAr L t (A 0 0 3) ∧ G1 = G ∧ Ot a (a + 3) M M1)) := by
  refine CT.by (by decide +kernel) [1, 1, 1, 1] ⟨cat_vR _, cat_vR _, cat_vR _, cat_vI _, trivial⟩ (Nat.le_of_ble_eq_true rfl) (fun E hX C hR hIni => ?_)
  have hn := hA.n
  have hnS := hA.so.c
  refine pw_aload_n C dX10_arrivesNow_0 rfl ?_
  refine pw_getR C dX10_arrivesNow_1 fl_X10_197 hL.1 rfl hL.2.1.1 ?_
  refine pw_iload_n C dX10_arrivesNow_4 rfl ?_
  refine pw_zaldE C dX10_arrivesNow_5 hL.2.2.1 (by omega) (hL.2.2.2.2.2.2 t (by omega) (by omega)).1 ?_
  refine pw_ifB_ne (tgt := 11) C dX10_arrivesNow_6 (by decide) (fun c_6 => ?_) (fun c_6 => ?_)
  · skip
    refine pw_iconst C dX10_arrivesNow_11 ?_
    refine pw_istore C dX10_arrivesNow_12 (Nat.le_of_ble_eq_true rfl) rfl ?_
    suffices K_14 : ∀ (nn_14 : Nat) (k : Int) (Lc : Fn) (Mc : Mm), (0 ≤ k ∧ k ≤ 100) → (Lc = rI L (A 0 0 3) k) → (MLi G Mc a Lc) → (LB Lc) → (LW Lc T n) → (Ot a (a + 3) M Mc) → (fnd (fun i => mHas (rI L (A 0 0 3) i) t (A 0 0 3 + i)) k 100 = fnd (fun i => mHas (rI L (A 0 0 3) i) t (A 0 0 3 + i)) 0 100) → 100 - k < (nn_14 : Int) → PW E G Mc 0 0 14 [(0, 1, vR Q), (1, 1, vR a), (2, 1, vR q), (3, 1, vI t), (4, 1, vI k)] [] from pw_locs (by exact ⟨rfl, cat_vR _, rfl, cat_vR _, rfl, cat_vR _, rfl, rfl, rfl, rfl, trivial⟩) (K_14 (100 - 0 + 1 : Int).toNat 0 L M (by omega) (by first | exact rI_0.symm | omega) (by first | exact hL | omega) (by first | exact hB | omega) (by first | exact hW | omega) (by first | exact Ot.rf | omega) (by first | exact rfl | omega) (by omega))
    intro nn_14
    induction nn_14 with
    | zero => intro k Lc Mc h1 heL hLc hBc hWc hOc hf h_m14; exact absurd h_m14 (by omega)
    | succ nn_14 ih_14 =>
      intro k Lc Mc h1 heL hLc hBc hWc hOc hf h_m14
      have hTc := hT.ot hOc hD
      have hnw : Mc 0 241 Q = A 0 0 3 := (hOc.f (by omega) _).trans hM.w
      refine pw_iload C dX10_arrivesNow_14 rfl ?_
      refine pw_bipush C dX10_arrivesNow_16 rfl ?_
      refine pw_icmp_gt (tgt := 60) C dX10_arrivesNow_18 (by decide) (by omega) (fun c_18 => ?_) (fun c_18 => ?_)
      · skip
        refine pw_iconst C dX10_arrivesNow_60 ?_
        exact pw_iret C hR dX10_arrivesNow_61 (⟨_, rfl, by unfold mAr; rw [if_neg c_6, ← fnd_no (by omega) hf, if_neg (by omega)], rfl, hOc⟩) (by omega) (by omega)
      · skip
        refine pw_aload_n C dX10_arrivesNow_21 rfl ?_
        refine pw_iload_n C dX10_arrivesNow_22 rfl ?_
        refine pw_aload_n C dX10_arrivesNow_23 rfl ?_
        refine pw_getE C dX10_arrivesNow_24 fl_X10_130 rfl hM.k hnw ?_
        refine pw_iload C dX10_arrivesNow_27 rfl ?_
        refine pw_iadd C dX10_arrivesNow_29 ?_
        refine pw_cVE C hX dX10_arrivesNow_30 ml_X10_211 mc_X7_hasIt (m_hasIt hLc hBc (t := t) (m := ((A 0 0 3) + k)) (by omega) (by omega)) kc_10 hLc.1 rfl rfl ⟨Nat.le_of_ble_eq_true rfl, Nat.le_of_ble_eq_true rfl⟩ (Nat.le_of_ble_eq_true rfl) ⟨Nat.le_of_ble_eq_true rfl, Nat.le_of_ble_eq_true rfl⟩ ?_
        refine pw_ifB_eq (tgt := 39) C dX10_arrivesNow_33 (by decide) (fun c_33 => ?_) (fun c_33 => ?_)
        · skip
          refine pw_aload_n C dX10_arrivesNow_39 rfl ?_
          refine pw_aload_n C dX10_arrivesNow_40 rfl ?_
          refine pw_aload_n C dX10_arrivesNow_41 rfl ?_
          refine pw_getE C dX10_arrivesNow_42 fl_X10_130 rfl hM.k hnw ?_
          refine pw_iload C dX10_arrivesNow_45 rfl ?_
          refine pw_iadd C dX10_arrivesNow_47 ?_
          refine pw_iconst C dX10_arrivesNow_48 ?_
          refine pw_iadd C dX10_arrivesNow_49 ?_
          refine pw_cVI C hX dX10_arrivesNow_50 ml_X10_201 mc_X7_minute (m_minute hLc hBc hTc hWc (m := (((A 0 0 3) + k) + 1)) (by omega) hD) kc_10 hLc.1 rfl rfl ⟨Nat.le_of_ble_eq_true rfl, Nat.le_of_ble_eq_true rfl⟩ (Nat.le_of_ble_eq_true rfl) ⟨Nat.le_of_ble_eq_true rfl, Nat.le_of_ble_eq_true rfl⟩ (fun r_ G M1 hq_ => ?_)
          obtain ⟨rfl, rfl, hL5, hB5, hW5, hO5⟩ := hq_
          have hO6 := hOc.tr hO5
          refine pw_pop C dX10_arrivesNow_53 rfl ?_
          refine pw_iinc C dX10_arrivesNow_54 rfl (Nat.le_of_ble_eq_true rfl) rfl ?_
          refine pw_goto (tgt := 14) C dX10_arrivesNow_57 (by decide) ?_
          exact pw_locs (by exact ⟨rfl, cat_vR _, rfl, cat_vR _, rfl, cat_vR _, rfl, rfl, rfl, rfl, trivial⟩) (ih_14 (k + 1) ((rM Lc (A 0 0 3 + k + 1)).1) M1 (by omega) (by rw [rI_s (by omega), ← heL, show A 0 0 3 + (k + 1) = A 0 0 3 + k + 1 by omega]) (hL5) (hB5) (hW5) (hO6) (fnd_go (by omega) hf (by rw [← heL]; exact c_33)) (by omega))
        · skip
          refine pw_iload C dX10_arrivesNow_36 rfl ?_
          exact pw_iret C hR dX10_arrivesNow_38 (⟨_, rfl, by unfold mAr; rw [if_neg c_6, ← fnd_at (by omega) hf (by rw [← heL]; exact c_33), if_pos (by omega)], rfl, hOc⟩) (by omega) (by omega)
  · skip
    refine pw_iconst C dX10_arrivesNow_9 ?_
    exact pw_iret C hR dX10_arrivesNow_10 (⟨_, rfl, (if_pos (by omega)).symm, rfl, Ot.rf⟩) (by omega) (by omega)

set_option maxHeartbeats 4000000 in
set_option maxRecDepth 100000 in
theorem m_isTruth {X : Xv} {G M : Mm} {Q : Int} {A : An} {D : Fn} {I : Int → Int} (hM : RM G M Q A D I) (hA : AB A) {a : Int} {F : Fn} (hF : MFa G M a F) (hB : FB0 F) {v w k : Int} (hv : 0 ≤ v ∧ v ≤ 99) (hw : 1 ≤ w ∧ w ≤ 3) (hk9 : 0 ≤ k ∧ k ≤ 10) : CT X yX10_isTruth prog_8_method_65_code 10 (some .boolean) 5 111 0 0 [vR Q, vR a, vI v, vI w, vI k] G M (PE G M (bI (mTr (A 10) F v w k))) := by
  refine CT.by (by decide +kernel) [1, 1, 1, 1, 1] ⟨cat_vR _, cat_vR _, cat_vI _, cat_vI _, cat_vI _, trivial⟩ (Nat.le_of_ble_eq_true rfl) (fun E hX C hR hIni => ?_)
  have hn := hA.n
  have hnS := hA.so.c
  have b_kw : 0 ≤ k * w ∧ k * w ≤ 30 := by rcases (show w = 1 ∨ w = 2 ∨ w = 3 by omega) with rfl | rfl | rfl <;> omega
  refine pw_aload_n C dX10_isTruth_0 rfl ?_
  refine pw_aload_n C dX10_isTruth_1 rfl ?_
  refine pw_iload_n C dX10_isTruth_2 rfl ?_
  refine pw_cVE C hX dX10_isTruth_3 ml_X10_85 mc_X10_proof (m_proof hM hA hF hB (v := v) (by omega)) kc_13 hM.k rfl rfl ⟨Nat.le_of_ble_eq_true rfl, Nat.le_of_ble_eq_true rfl⟩ (Nat.le_of_ble_eq_true rfl) ⟨Nat.le_of_ble_eq_true rfl, Nat.le_of_ble_eq_true rfl⟩ ?_
  have b_mpr18 : 0 ≤ mpr (A 10) F v ∧ mpr (A 10) F v ≤ 3 := by unfold mpr; omega
  refine pw_istore C dX10_isTruth_6 (Nat.le_of_ble_eq_true rfl) rfl ?_
  refine pw_iload C dX10_isTruth_8 rfl ?_
  refine pw_if_gt (tgt := 56) C dX10_isTruth_10 (by decide) (by omega) (fun c_10 => ?_) (fun c_10 => ?_)
  · skip
    refine pw_iconst C dX10_isTruth_56 ?_
    refine pw_goto (tgt := 61) C dX10_isTruth_57 (by decide) ?_
    refine pw_istore C dX10_isTruth_61 (Nat.le_of_ble_eq_true rfl) rfl ?_
    refine pw_iload C dX10_isTruth_63 rfl ?_
    refine pw_ifL_ne (tgt := 70) C dX10_isTruth_65 (by decide) rfl ?_
    refine pw_aload_n C dX10_isTruth_70 rfl ?_
    refine pw_aload_n C dX10_isTruth_71 rfl ?_
    refine pw_iload_n C dX10_isTruth_72 rfl ?_
    refine pw_cVE C hX dX10_isTruth_73 ml_X10_89 mc_X10_force (m_force hM hA hF hB (v := v) (by omega)) kc_13 hM.k rfl rfl ⟨Nat.le_of_ble_eq_true rfl, Nat.le_of_ble_eq_true rfl⟩ (Nat.le_of_ble_eq_true rfl) ⟨Nat.le_of_ble_eq_true rfl, Nat.le_of_ble_eq_true rfl⟩ ?_
    have b_mfo19 := mfo_bd (F := F) (v := v) hA.so
    refine pw_iload C dX10_isTruth_76 rfl ?_
    refine pw_iload_n C dX10_isTruth_78 rfl ?_
    refine pw_imul C dX10_isTruth_79 ?_
    refine pw_iadd C dX10_isTruth_80 ?_
    refine pw_istore C dX10_isTruth_81 (Nat.le_of_ble_eq_true rfl) rfl ?_
    refine pw_iconst C dX10_isTruth_83 ?_
    refine pw_istore C dX10_isTruth_84 (Nat.le_of_ble_eq_true rfl) rfl ?_
    suffices K_86 : ∀ (nn_86 : Nat) (o : Int) , (0 ≤ o ∧ o ≤ 100) → (fnd (mBt (A 10) F v (mfo (A 10) F v + k * w)) o 100 = fnd (mBt (A 10) F v (mfo (A 10) F v + k * w)) 0 100) → 100 - o < (nn_86 : Int) → PW E G M 0 0 86 [(0, 1, vR Q), (1, 1, vR a), (2, 1, vI v), (3, 1, vI w), (4, 1, vI k), (5, 1, vI (mpr (A 10) F v)), (6, 1, vI 1), (7, 1, vI ((mfo (A 10) F v) + (k * w))), (8, 1, vI o)] [] from pw_locs (by exact ⟨rfl, cat_vR _, rfl, cat_vR _, rfl, rfl, rfl, rfl, rfl, rfl, rfl, rfl, rfl, rfl, rfl, rfl, rfl, rfl, trivial⟩) (K_86 (100 - 0 + 1 : Int).toNat 0  (by omega) (by first | exact rfl | omega) (by omega))
    intro nn_86
    induction nn_86 with
    | zero => intro o h1 hf h_m86; exact absurd h_m86 (by omega)
    | succ nn_86 ih_86 =>
      intro o h1 hf h_m86
      refine pw_iload C dX10_isTruth_86 rfl ?_
      refine pw_bipush C dX10_isTruth_88 rfl ?_
      refine pw_icmp_ge (tgt := 158) C dX10_isTruth_90 (by decide) (by omega) (fun c_90 => ?_) (fun c_90 => ?_)
      · skip
        refine pw_iconst C dX10_isTruth_158 ?_
        exact pw_zretE C hR dX10_isTruth_159 (by omega) rfl rfl ((bI_t ⟨Or.inl (by omega), by rw [← fnd_no (by omega) hf]; omega⟩).symm) (Nat.zero_le _) (Nat.zero_le _)
      · skip
        refine pw_iload C dX10_isTruth_93 rfl ?_
        refine pw_iload_n C dX10_isTruth_95 rfl ?_
        refine pw_icmp_eq (tgt := 152) C dX10_isTruth_96 (by decide) (by omega) (fun c_96 => ?_) (fun c_96 => ?_)
        · skip
          refine pw_iinc C dX10_isTruth_152 rfl (Nat.le_of_ble_eq_true rfl) rfl ?_
          refine pw_goto (tgt := 86) C dX10_isTruth_155 (by decide) ?_
          exact pw_locs (by exact ⟨rfl, cat_vR _, rfl, cat_vR _, rfl, rfl, rfl, rfl, rfl, rfl, rfl, rfl, rfl, rfl, rfl, rfl, rfl, rfl, trivial⟩) (ih_86 (o + 1)  (by omega) (fnd_go (by omega) hf (fun q => q.1.1 c_96)) (by omega))
        · skip
          refine pw_aload_n C dX10_isTruth_99 rfl ?_
          refine pw_iload C dX10_isTruth_100 rfl ?_
          refine pw_cSE C hX dX10_isTruth_102 ml_X10_81 mc_X10_isSaid (m_isSaid hF hB (v := o) (by omega)) rfl rfl ⟨Nat.le_of_ble_eq_true rfl, Nat.le_of_ble_eq_true rfl⟩ (Nat.le_of_ble_eq_true rfl) ⟨Nat.le_of_ble_eq_true rfl, Nat.le_of_ble_eq_true rfl⟩ ?_
          refine pw_ifB_eq (tgt := 152) C dX10_isTruth_105 (by decide) (fun c_105 => ?_) (fun c_105 => ?_)
          · skip
            refine pw_iinc C dX10_isTruth_152 rfl (Nat.le_of_ble_eq_true rfl) rfl ?_
            refine pw_goto (tgt := 86) C dX10_isTruth_155 (by decide) ?_
            exact pw_locs (by exact ⟨rfl, cat_vR _, rfl, cat_vR _, rfl, rfl, rfl, rfl, rfl, rfl, rfl, rfl, rfl, rfl, rfl, rfl, rfl, rfl, trivial⟩) (ih_86 (o + 1)  (by omega) (fnd_go (by omega) hf (fun q => c_105 q.1.2.1)) (by omega))
          · skip
            refine pw_aload_n C dX10_isTruth_108 rfl ?_
            refine pw_aload_n C dX10_isTruth_109 rfl ?_
            refine pw_iload C dX10_isTruth_110 rfl ?_
            refine pw_cVE C hX dX10_isTruth_112 ml_X10_85 mc_X10_proof (m_proof hM hA hF hB (v := o) (by omega)) kc_13 hM.k rfl rfl ⟨Nat.le_of_ble_eq_true rfl, Nat.le_of_ble_eq_true rfl⟩ (Nat.le_of_ble_eq_true rfl) ⟨Nat.le_of_ble_eq_true rfl, Nat.le_of_ble_eq_true rfl⟩ ?_
            have b_mpr20 : 0 ≤ mpr (A 10) F o ∧ mpr (A 10) F o ≤ 3 := by unfold mpr; omega
            refine pw_if_ne (tgt := 121) C dX10_isTruth_115 (by decide) (by omega) (fun c_115 => ?_) (fun c_115 => ?_)
            · skip
              refine pw_aload_n C dX10_isTruth_121 rfl ?_
              refine pw_aload_n C dX10_isTruth_122 rfl ?_
              refine pw_iload C dX10_isTruth_123 rfl ?_
              refine pw_cVE C hX dX10_isTruth_125 ml_X10_89 mc_X10_force (m_force hM hA hF hB (v := o) (by omega)) kc_13 hM.k rfl rfl ⟨Nat.le_of_ble_eq_true rfl, Nat.le_of_ble_eq_true rfl⟩ (Nat.le_of_ble_eq_true rfl) ⟨Nat.le_of_ble_eq_true rfl, Nat.le_of_ble_eq_true rfl⟩ ?_
              have b_mfo21 := mfo_bd (F := F) (v := o) hA.so
              refine pw_istore C dX10_isTruth_128 (Nat.le_of_ble_eq_true rfl) rfl ?_
              refine pw_iload C dX10_isTruth_130 rfl ?_
              refine pw_iload C dX10_isTruth_132 rfl ?_
              refine pw_icmp_gt (tgt := 150) C dX10_isTruth_134 (by decide) (by omega) (fun c_134 => ?_) (fun c_134 => ?_)
              · skip
                refine pw_iconst C dX10_isTruth_150 ?_
                exact pw_zretE C hR dX10_isTruth_151 (by omega) rfl rfl ((bI_f (fun q => q.2 (by rw [← fnd_at (by omega) hf ⟨⟨c_96, c_105, c_115⟩, by omega⟩]; omega))).symm) (Nat.zero_le _) (Nat.zero_le _)
              · skip
                refine pw_iload C dX10_isTruth_137 rfl ?_
                refine pw_iload C dX10_isTruth_139 rfl ?_
                refine pw_icmp_ne (tgt := 152) C dX10_isTruth_141 (by decide) (by omega) (fun c_141 => ?_) (fun c_141 => ?_)
                · skip
                  refine pw_iinc C dX10_isTruth_152 rfl (Nat.le_of_ble_eq_true rfl) rfl ?_
                  refine pw_goto (tgt := 86) C dX10_isTruth_155 (by decide) ?_
                  exact pw_locs (by exact ⟨rfl, cat_vR _, rfl, cat_vR _, rfl, rfl, rfl, rfl, rfl, rfl, rfl, rfl, rfl, rfl, rfl, rfl, rfl, rfl, trivial⟩) (ih_86 (o + 1)  (by omega) (fnd_go (by omega) hf (fun q => by have := q.2; omega)) (by omega))
                · skip
                  refine pw_iload C dX10_isTruth_144 rfl ?_
                  refine pw_iload_n C dX10_isTruth_146 rfl ?_
                  refine pw_icmp_ge (tgt := 152) C dX10_isTruth_147 (by decide) (by omega) (fun c_147 => ?_) (fun c_147 => ?_)
                  · skip
                    refine pw_iinc C dX10_isTruth_152 rfl (Nat.le_of_ble_eq_true rfl) rfl ?_
                    refine pw_goto (tgt := 86) C dX10_isTruth_155 (by decide) ?_
                    exact pw_locs (by exact ⟨rfl, cat_vR _, rfl, cat_vR _, rfl, rfl, rfl, rfl, rfl, rfl, rfl, rfl, rfl, rfl, rfl, rfl, rfl, rfl, trivial⟩) (ih_86 (o + 1)  (by omega) (fnd_go (by omega) hf (fun q => by have := q.2; omega)) (by omega))
                  · skip
                    refine pw_iconst C dX10_isTruth_150 ?_
                    exact pw_zretE C hR dX10_isTruth_151 (by omega) rfl rfl ((bI_f (fun q => q.2 (by rw [← fnd_at (by omega) hf ⟨⟨c_96, c_105, c_115⟩, by omega⟩]; omega))).symm) (Nat.zero_le _) (Nat.zero_le _)
            · skip
              refine pw_goto (tgt := 152) C dX10_isTruth_118 (by decide) ?_
              refine pw_iinc C dX10_isTruth_152 rfl (Nat.le_of_ble_eq_true rfl) rfl ?_
              refine pw_goto (tgt := 86) C dX10_isTruth_155 (by decide) ?_
              exact pw_locs (by exact ⟨rfl, cat_vR _, rfl, cat_vR _, rfl, rfl, rfl, rfl, rfl, rfl, rfl, rfl, rfl, rfl, rfl, rfl, rfl, rfl, trivial⟩) (ih_86 (o + 1)  (by omega) (fnd_go (by omega) hf (fun q => q.1.2.2 c_115)) (by omega))
  · skip
    refine pw_iload C dX10_isTruth_13 rfl ?_
    refine pw_if_le (tgt := 23) C dX10_isTruth_15 (by decide) (by omega) (fun c_15 => ?_) (fun c_15 => ?_)
    · skip
      refine pw_iload_n C dX10_isTruth_23 rfl ?_
      refine pw_iconst C dX10_isTruth_24 ?_
      refine pw_icmp_ne (tgt := 42) C dX10_isTruth_25 (by decide) (by omega) (fun c_25 => ?_) (fun c_25 => ?_)
      · skip
        refine pw_aload_n C dX10_isTruth_42 rfl ?_
        refine pw_aload_n C dX10_isTruth_43 rfl ?_
        refine pw_iload_n C dX10_isTruth_44 rfl ?_
        refine pw_iconst C dX10_isTruth_45 ?_
        refine pw_cVE C hX dX10_isTruth_46 ml_X10_77 mc_X10_roots (m_roots hM hA hF hB (v := v) (by omega) (w := 0) (by omega)) kc_13 hM.k rfl rfl ⟨Nat.le_of_ble_eq_true rfl, Nat.le_of_ble_eq_true rfl⟩ (Nat.le_of_ble_eq_true rfl) ⟨Nat.le_of_ble_eq_true rfl, Nat.le_of_ble_eq_true rfl⟩ ?_
        have b_mro22 := bc_bd (fr (mroS (A 10) F v 0) 0 (A 10 2 0) 0)
        have b_mrq22 : mro (A 10) F v 0 = _ := rfl
        replace b_mro22 : 0 ≤ mro (A 10) F v 0 ∧ mro (A 10) F v 0 ≤ 10 := b_mro22
        clear b_mrq22
        refine pw_iload C dX10_isTruth_49 rfl ?_
        refine pw_iadd C dX10_isTruth_51 ?_
        refine pw_iconst C dX10_isTruth_52 ?_
        refine pw_icmp_le (tgt := 60) C dX10_isTruth_53 (by decide) (by omega) (fun c_53 => ?_) (fun c_53 => ?_)
        · skip
          refine pw_iconst C dX10_isTruth_60 ?_
          refine pw_istore C dX10_isTruth_61 (Nat.le_of_ble_eq_true rfl) rfl ?_
          refine pw_iload C dX10_isTruth_63 rfl ?_
          refine pw_ifL_nen (tgt := 70) C dX10_isTruth_65 (by decide) rfl ?_
          refine pw_iconst C dX10_isTruth_68 ?_
          exact pw_zretE C hR dX10_isTruth_69 (by omega) rfl rfl ((bI_f (fun q => by have := q.1; unfold mPv at this; omega)).symm) (Nat.zero_le _) (Nat.zero_le _)
        · skip
          refine pw_iconst C dX10_isTruth_56 ?_
          refine pw_goto (tgt := 61) C dX10_isTruth_57 (by decide) ?_
          refine pw_istore C dX10_isTruth_61 (Nat.le_of_ble_eq_true rfl) rfl ?_
          refine pw_iload C dX10_isTruth_63 rfl ?_
          refine pw_ifL_ne (tgt := 70) C dX10_isTruth_65 (by decide) rfl ?_
          refine pw_aload_n C dX10_isTruth_70 rfl ?_
          refine pw_aload_n C dX10_isTruth_71 rfl ?_
          refine pw_iload_n C dX10_isTruth_72 rfl ?_
          refine pw_cVE C hX dX10_isTruth_73 ml_X10_89 mc_X10_force (m_force hM hA hF hB (v := v) (by omega)) kc_13 hM.k rfl rfl ⟨Nat.le_of_ble_eq_true rfl, Nat.le_of_ble_eq_true rfl⟩ (Nat.le_of_ble_eq_true rfl) ⟨Nat.le_of_ble_eq_true rfl, Nat.le_of_ble_eq_true rfl⟩ ?_
          have b_mfo23 := mfo_bd (F := F) (v := v) hA.so
          refine pw_iload C dX10_isTruth_76 rfl ?_
          refine pw_iload_n C dX10_isTruth_78 rfl ?_
          refine pw_imul C dX10_isTruth_79 ?_
          refine pw_iadd C dX10_isTruth_80 ?_
          refine pw_istore C dX10_isTruth_81 (Nat.le_of_ble_eq_true rfl) rfl ?_
          refine pw_iconst C dX10_isTruth_83 ?_
          refine pw_istore C dX10_isTruth_84 (Nat.le_of_ble_eq_true rfl) rfl ?_
          suffices K_86 : ∀ (nn_86 : Nat) (o : Int) , (0 ≤ o ∧ o ≤ 100) → (fnd (mBt (A 10) F v (mfo (A 10) F v + k * w)) o 100 = fnd (mBt (A 10) F v (mfo (A 10) F v + k * w)) 0 100) → 100 - o < (nn_86 : Int) → PW E G M 0 0 86 [(0, 1, vR Q), (1, 1, vR a), (2, 1, vI v), (3, 1, vI w), (4, 1, vI k), (5, 1, vI (mpr (A 10) F v)), (6, 1, vI 1), (7, 1, vI ((mfo (A 10) F v) + (k * w))), (8, 1, vI o)] [] from pw_locs (by exact ⟨rfl, cat_vR _, rfl, cat_vR _, rfl, rfl, rfl, rfl, rfl, rfl, rfl, rfl, rfl, rfl, rfl, rfl, rfl, rfl, trivial⟩) (K_86 (100 - 0 + 1 : Int).toNat 0  (by omega) (by first | exact rfl | omega) (by omega))
          intro nn_86
          induction nn_86 with
          | zero => intro o h1 hf h_m86; exact absurd h_m86 (by omega)
          | succ nn_86 ih_86 =>
            intro o h1 hf h_m86
            refine pw_iload C dX10_isTruth_86 rfl ?_
            refine pw_bipush C dX10_isTruth_88 rfl ?_
            refine pw_icmp_ge (tgt := 158) C dX10_isTruth_90 (by decide) (by omega) (fun c_90 => ?_) (fun c_90 => ?_)
            · skip
              refine pw_iconst C dX10_isTruth_158 ?_
              exact pw_zretE C hR dX10_isTruth_159 (by omega) rfl rfl ((bI_t ⟨Or.inr (Or.inr (Or.inr (by omega))), by rw [← fnd_no (by omega) hf]; omega⟩).symm) (Nat.zero_le _) (Nat.zero_le _)
            · skip
              refine pw_iload C dX10_isTruth_93 rfl ?_
              refine pw_iload_n C dX10_isTruth_95 rfl ?_
              refine pw_icmp_eq (tgt := 152) C dX10_isTruth_96 (by decide) (by omega) (fun c_96 => ?_) (fun c_96 => ?_)
              · skip
                refine pw_iinc C dX10_isTruth_152 rfl (Nat.le_of_ble_eq_true rfl) rfl ?_
                refine pw_goto (tgt := 86) C dX10_isTruth_155 (by decide) ?_
                exact pw_locs (by exact ⟨rfl, cat_vR _, rfl, cat_vR _, rfl, rfl, rfl, rfl, rfl, rfl, rfl, rfl, rfl, rfl, rfl, rfl, rfl, rfl, trivial⟩) (ih_86 (o + 1)  (by omega) (fnd_go (by omega) hf (fun q => q.1.1 c_96)) (by omega))
              · skip
                refine pw_aload_n C dX10_isTruth_99 rfl ?_
                refine pw_iload C dX10_isTruth_100 rfl ?_
                refine pw_cSE C hX dX10_isTruth_102 ml_X10_81 mc_X10_isSaid (m_isSaid hF hB (v := o) (by omega)) rfl rfl ⟨Nat.le_of_ble_eq_true rfl, Nat.le_of_ble_eq_true rfl⟩ (Nat.le_of_ble_eq_true rfl) ⟨Nat.le_of_ble_eq_true rfl, Nat.le_of_ble_eq_true rfl⟩ ?_
                refine pw_ifB_eq (tgt := 152) C dX10_isTruth_105 (by decide) (fun c_105 => ?_) (fun c_105 => ?_)
                · skip
                  refine pw_iinc C dX10_isTruth_152 rfl (Nat.le_of_ble_eq_true rfl) rfl ?_
                  refine pw_goto (tgt := 86) C dX10_isTruth_155 (by decide) ?_
                  exact pw_locs (by exact ⟨rfl, cat_vR _, rfl, cat_vR _, rfl, rfl, rfl, rfl, rfl, rfl, rfl, rfl, rfl, rfl, rfl, rfl, rfl, rfl, trivial⟩) (ih_86 (o + 1)  (by omega) (fnd_go (by omega) hf (fun q => c_105 q.1.2.1)) (by omega))
                · skip
                  refine pw_aload_n C dX10_isTruth_108 rfl ?_
                  refine pw_aload_n C dX10_isTruth_109 rfl ?_
                  refine pw_iload C dX10_isTruth_110 rfl ?_
                  refine pw_cVE C hX dX10_isTruth_112 ml_X10_85 mc_X10_proof (m_proof hM hA hF hB (v := o) (by omega)) kc_13 hM.k rfl rfl ⟨Nat.le_of_ble_eq_true rfl, Nat.le_of_ble_eq_true rfl⟩ (Nat.le_of_ble_eq_true rfl) ⟨Nat.le_of_ble_eq_true rfl, Nat.le_of_ble_eq_true rfl⟩ ?_
                  have b_mpr24 : 0 ≤ mpr (A 10) F o ∧ mpr (A 10) F o ≤ 3 := by unfold mpr; omega
                  refine pw_if_ne (tgt := 121) C dX10_isTruth_115 (by decide) (by omega) (fun c_115 => ?_) (fun c_115 => ?_)
                  · skip
                    refine pw_aload_n C dX10_isTruth_121 rfl ?_
                    refine pw_aload_n C dX10_isTruth_122 rfl ?_
                    refine pw_iload C dX10_isTruth_123 rfl ?_
                    refine pw_cVE C hX dX10_isTruth_125 ml_X10_89 mc_X10_force (m_force hM hA hF hB (v := o) (by omega)) kc_13 hM.k rfl rfl ⟨Nat.le_of_ble_eq_true rfl, Nat.le_of_ble_eq_true rfl⟩ (Nat.le_of_ble_eq_true rfl) ⟨Nat.le_of_ble_eq_true rfl, Nat.le_of_ble_eq_true rfl⟩ ?_
                    have b_mfo25 := mfo_bd (F := F) (v := o) hA.so
                    refine pw_istore C dX10_isTruth_128 (Nat.le_of_ble_eq_true rfl) rfl ?_
                    refine pw_iload C dX10_isTruth_130 rfl ?_
                    refine pw_iload C dX10_isTruth_132 rfl ?_
                    refine pw_icmp_gt (tgt := 150) C dX10_isTruth_134 (by decide) (by omega) (fun c_134 => ?_) (fun c_134 => ?_)
                    · skip
                      refine pw_iconst C dX10_isTruth_150 ?_
                      exact pw_zretE C hR dX10_isTruth_151 (by omega) rfl rfl ((bI_f (fun q => q.2 (by rw [← fnd_at (by omega) hf ⟨⟨c_96, c_105, c_115⟩, by omega⟩]; omega))).symm) (Nat.zero_le _) (Nat.zero_le _)
                    · skip
                      refine pw_iload C dX10_isTruth_137 rfl ?_
                      refine pw_iload C dX10_isTruth_139 rfl ?_
                      refine pw_icmp_ne (tgt := 152) C dX10_isTruth_141 (by decide) (by omega) (fun c_141 => ?_) (fun c_141 => ?_)
                      · skip
                        refine pw_iinc C dX10_isTruth_152 rfl (Nat.le_of_ble_eq_true rfl) rfl ?_
                        refine pw_goto (tgt := 86) C dX10_isTruth_155 (by decide) ?_
                        exact pw_locs (by exact ⟨rfl, cat_vR _, rfl, cat_vR _, rfl, rfl, rfl, rfl, rfl, rfl, rfl, rfl, rfl, rfl, rfl, rfl, rfl, rfl, trivial⟩) (ih_86 (o + 1)  (by omega) (fnd_go (by omega) hf (fun q => by have := q.2; omega)) (by omega))
                      · skip
                        refine pw_iload C dX10_isTruth_144 rfl ?_
                        refine pw_iload_n C dX10_isTruth_146 rfl ?_
                        refine pw_icmp_ge (tgt := 152) C dX10_isTruth_147 (by decide) (by omega) (fun c_147 => ?_) (fun c_147 => ?_)
                        · skip
                          refine pw_iinc C dX10_isTruth_152 rfl (Nat.le_of_ble_eq_true rfl) rfl ?_
                          refine pw_goto (tgt := 86) C dX10_isTruth_155 (by decide) ?_
                          exact pw_locs (by exact ⟨rfl, cat_vR _, rfl, cat_vR _, rfl, rfl, rfl, rfl, rfl, rfl, rfl, rfl, rfl, rfl, rfl, rfl, rfl, rfl, trivial⟩) (ih_86 (o + 1)  (by omega) (fnd_go (by omega) hf (fun q => by have := q.2; omega)) (by omega))
                        · skip
                          refine pw_iconst C dX10_isTruth_150 ?_
                          exact pw_zretE C hR dX10_isTruth_151 (by omega) rfl rfl ((bI_f (fun q => q.2 (by rw [← fnd_at (by omega) hf ⟨⟨c_96, c_105, c_115⟩, by omega⟩]; omega))).symm) (Nat.zero_le _) (Nat.zero_le _)
                  · skip
                    refine pw_goto (tgt := 152) C dX10_isTruth_118 (by decide) ?_
                    refine pw_iinc C dX10_isTruth_152 rfl (Nat.le_of_ble_eq_true rfl) rfl ?_
                    refine pw_goto (tgt := 86) C dX10_isTruth_155 (by decide) ?_
                    exact pw_locs (by exact ⟨rfl, cat_vR _, rfl, cat_vR _, rfl, rfl, rfl, rfl, rfl, rfl, rfl, rfl, rfl, rfl, rfl, rfl, rfl, rfl, trivial⟩) (ih_86 (o + 1)  (by omega) (fnd_go (by omega) hf (fun q => q.1.2.2 c_115)) (by omega))
      · skip
        refine pw_aload_n C dX10_isTruth_28 rfl ?_
        refine pw_aload_n C dX10_isTruth_29 rfl ?_
        refine pw_iload_n C dX10_isTruth_30 rfl ?_
        refine pw_iconst C dX10_isTruth_31 ?_
        refine pw_cVE C hX dX10_isTruth_32 ml_X10_77 mc_X10_roots (m_roots hM hA hF hB (v := v) (by omega) (w := 2) (by omega)) kc_13 hM.k rfl rfl ⟨Nat.le_of_ble_eq_true rfl, Nat.le_of_ble_eq_true rfl⟩ (Nat.le_of_ble_eq_true rfl) ⟨Nat.le_of_ble_eq_true rfl, Nat.le_of_ble_eq_true rfl⟩ ?_
        have b_mro26 := bc_bd (fr (mroS (A 10) F v 2) 0 (A 10 2 0) 0)
        have b_mrq26 : mro (A 10) F v 2 = _ := rfl
        replace b_mro26 : 0 ≤ mro (A 10) F v 2 ∧ mro (A 10) F v 2 ≤ 10 := b_mro26
        clear b_mrq26
        refine pw_iload C dX10_isTruth_35 rfl ?_
        refine pw_iadd C dX10_isTruth_37 ?_
        refine pw_iconst C dX10_isTruth_38 ?_
        refine pw_icmp_gt (tgt := 56) C dX10_isTruth_39 (by decide) (by omega) (fun c_39 => ?_) (fun c_39 => ?_)
        · skip
          refine pw_iconst C dX10_isTruth_56 ?_
          refine pw_goto (tgt := 61) C dX10_isTruth_57 (by decide) ?_
          refine pw_istore C dX10_isTruth_61 (Nat.le_of_ble_eq_true rfl) rfl ?_
          refine pw_iload C dX10_isTruth_63 rfl ?_
          refine pw_ifL_ne (tgt := 70) C dX10_isTruth_65 (by decide) rfl ?_
          refine pw_aload_n C dX10_isTruth_70 rfl ?_
          refine pw_aload_n C dX10_isTruth_71 rfl ?_
          refine pw_iload_n C dX10_isTruth_72 rfl ?_
          refine pw_cVE C hX dX10_isTruth_73 ml_X10_89 mc_X10_force (m_force hM hA hF hB (v := v) (by omega)) kc_13 hM.k rfl rfl ⟨Nat.le_of_ble_eq_true rfl, Nat.le_of_ble_eq_true rfl⟩ (Nat.le_of_ble_eq_true rfl) ⟨Nat.le_of_ble_eq_true rfl, Nat.le_of_ble_eq_true rfl⟩ ?_
          have b_mfo27 := mfo_bd (F := F) (v := v) hA.so
          refine pw_iload C dX10_isTruth_76 rfl ?_
          refine pw_iload_n C dX10_isTruth_78 rfl ?_
          refine pw_imul C dX10_isTruth_79 ?_
          refine pw_iadd C dX10_isTruth_80 ?_
          refine pw_istore C dX10_isTruth_81 (Nat.le_of_ble_eq_true rfl) rfl ?_
          refine pw_iconst C dX10_isTruth_83 ?_
          refine pw_istore C dX10_isTruth_84 (Nat.le_of_ble_eq_true rfl) rfl ?_
          suffices K_86 : ∀ (nn_86 : Nat) (o : Int) , (0 ≤ o ∧ o ≤ 100) → (fnd (mBt (A 10) F v (mfo (A 10) F v + k * w)) o 100 = fnd (mBt (A 10) F v (mfo (A 10) F v + k * w)) 0 100) → 100 - o < (nn_86 : Int) → PW E G M 0 0 86 [(0, 1, vR Q), (1, 1, vR a), (2, 1, vI v), (3, 1, vI w), (4, 1, vI k), (5, 1, vI (mpr (A 10) F v)), (6, 1, vI 1), (7, 1, vI ((mfo (A 10) F v) + (k * w))), (8, 1, vI o)] [] from pw_locs (by exact ⟨rfl, cat_vR _, rfl, cat_vR _, rfl, rfl, rfl, rfl, rfl, rfl, rfl, rfl, rfl, rfl, rfl, rfl, rfl, rfl, trivial⟩) (K_86 (100 - 0 + 1 : Int).toNat 0  (by omega) (by first | exact rfl | omega) (by omega))
          intro nn_86
          induction nn_86 with
          | zero => intro o h1 hf h_m86; exact absurd h_m86 (by omega)
          | succ nn_86 ih_86 =>
            intro o h1 hf h_m86
            refine pw_iload C dX10_isTruth_86 rfl ?_
            refine pw_bipush C dX10_isTruth_88 rfl ?_
            refine pw_icmp_ge (tgt := 158) C dX10_isTruth_90 (by decide) (by omega) (fun c_90 => ?_) (fun c_90 => ?_)
            · skip
              refine pw_iconst C dX10_isTruth_158 ?_
              exact pw_zretE C hR dX10_isTruth_159 (by omega) rfl rfl ((bI_t ⟨Or.inr (Or.inr (Or.inl ⟨by omega, by omega⟩)), by rw [← fnd_no (by omega) hf]; omega⟩).symm) (Nat.zero_le _) (Nat.zero_le _)
            · skip
              refine pw_iload C dX10_isTruth_93 rfl ?_
              refine pw_iload_n C dX10_isTruth_95 rfl ?_
              refine pw_icmp_eq (tgt := 152) C dX10_isTruth_96 (by decide) (by omega) (fun c_96 => ?_) (fun c_96 => ?_)
              · skip
                refine pw_iinc C dX10_isTruth_152 rfl (Nat.le_of_ble_eq_true rfl) rfl ?_
                refine pw_goto (tgt := 86) C dX10_isTruth_155 (by decide) ?_
                exact pw_locs (by exact ⟨rfl, cat_vR _, rfl, cat_vR _, rfl, rfl, rfl, rfl, rfl, rfl, rfl, rfl, rfl, rfl, rfl, rfl, rfl, rfl, trivial⟩) (ih_86 (o + 1)  (by omega) (fnd_go (by omega) hf (fun q => q.1.1 c_96)) (by omega))
              · skip
                refine pw_aload_n C dX10_isTruth_99 rfl ?_
                refine pw_iload C dX10_isTruth_100 rfl ?_
                refine pw_cSE C hX dX10_isTruth_102 ml_X10_81 mc_X10_isSaid (m_isSaid hF hB (v := o) (by omega)) rfl rfl ⟨Nat.le_of_ble_eq_true rfl, Nat.le_of_ble_eq_true rfl⟩ (Nat.le_of_ble_eq_true rfl) ⟨Nat.le_of_ble_eq_true rfl, Nat.le_of_ble_eq_true rfl⟩ ?_
                refine pw_ifB_eq (tgt := 152) C dX10_isTruth_105 (by decide) (fun c_105 => ?_) (fun c_105 => ?_)
                · skip
                  refine pw_iinc C dX10_isTruth_152 rfl (Nat.le_of_ble_eq_true rfl) rfl ?_
                  refine pw_goto (tgt := 86) C dX10_isTruth_155 (by decide) ?_
                  exact pw_locs (by exact ⟨rfl, cat_vR _, rfl, cat_vR _, rfl, rfl, rfl, rfl, rfl, rfl, rfl, rfl, rfl, rfl, rfl, rfl, rfl, rfl, trivial⟩) (ih_86 (o + 1)  (by omega) (fnd_go (by omega) hf (fun q => c_105 q.1.2.1)) (by omega))
                · skip
                  refine pw_aload_n C dX10_isTruth_108 rfl ?_
                  refine pw_aload_n C dX10_isTruth_109 rfl ?_
                  refine pw_iload C dX10_isTruth_110 rfl ?_
                  refine pw_cVE C hX dX10_isTruth_112 ml_X10_85 mc_X10_proof (m_proof hM hA hF hB (v := o) (by omega)) kc_13 hM.k rfl rfl ⟨Nat.le_of_ble_eq_true rfl, Nat.le_of_ble_eq_true rfl⟩ (Nat.le_of_ble_eq_true rfl) ⟨Nat.le_of_ble_eq_true rfl, Nat.le_of_ble_eq_true rfl⟩ ?_
                  have b_mpr28 : 0 ≤ mpr (A 10) F o ∧ mpr (A 10) F o ≤ 3 := by unfold mpr; omega
                  refine pw_if_ne (tgt := 121) C dX10_isTruth_115 (by decide) (by omega) (fun c_115 => ?_) (fun c_115 => ?_)
                  · skip
                    refine pw_aload_n C dX10_isTruth_121 rfl ?_
                    refine pw_aload_n C dX10_isTruth_122 rfl ?_
                    refine pw_iload C dX10_isTruth_123 rfl ?_
                    refine pw_cVE C hX dX10_isTruth_125 ml_X10_89 mc_X10_force (m_force hM hA hF hB (v := o) (by omega)) kc_13 hM.k rfl rfl ⟨Nat.le_of_ble_eq_true rfl, Nat.le_of_ble_eq_true rfl⟩ (Nat.le_of_ble_eq_true rfl) ⟨Nat.le_of_ble_eq_true rfl, Nat.le_of_ble_eq_true rfl⟩ ?_
                    have b_mfo29 := mfo_bd (F := F) (v := o) hA.so
                    refine pw_istore C dX10_isTruth_128 (Nat.le_of_ble_eq_true rfl) rfl ?_
                    refine pw_iload C dX10_isTruth_130 rfl ?_
                    refine pw_iload C dX10_isTruth_132 rfl ?_
                    refine pw_icmp_gt (tgt := 150) C dX10_isTruth_134 (by decide) (by omega) (fun c_134 => ?_) (fun c_134 => ?_)
                    · skip
                      refine pw_iconst C dX10_isTruth_150 ?_
                      exact pw_zretE C hR dX10_isTruth_151 (by omega) rfl rfl ((bI_f (fun q => q.2 (by rw [← fnd_at (by omega) hf ⟨⟨c_96, c_105, c_115⟩, by omega⟩]; omega))).symm) (Nat.zero_le _) (Nat.zero_le _)
                    · skip
                      refine pw_iload C dX10_isTruth_137 rfl ?_
                      refine pw_iload C dX10_isTruth_139 rfl ?_
                      refine pw_icmp_ne (tgt := 152) C dX10_isTruth_141 (by decide) (by omega) (fun c_141 => ?_) (fun c_141 => ?_)
                      · skip
                        refine pw_iinc C dX10_isTruth_152 rfl (Nat.le_of_ble_eq_true rfl) rfl ?_
                        refine pw_goto (tgt := 86) C dX10_isTruth_155 (by decide) ?_
                        exact pw_locs (by exact ⟨rfl, cat_vR _, rfl, cat_vR _, rfl, rfl, rfl, rfl, rfl, rfl, rfl, rfl, rfl, rfl, rfl, rfl, rfl, rfl, trivial⟩) (ih_86 (o + 1)  (by omega) (fnd_go (by omega) hf (fun q => by have := q.2; omega)) (by omega))
                      · skip
                        refine pw_iload C dX10_isTruth_144 rfl ?_
                        refine pw_iload_n C dX10_isTruth_146 rfl ?_
                        refine pw_icmp_ge (tgt := 152) C dX10_isTruth_147 (by decide) (by omega) (fun c_147 => ?_) (fun c_147 => ?_)
                        · skip
                          refine pw_iinc C dX10_isTruth_152 rfl (Nat.le_of_ble_eq_true rfl) rfl ?_
                          refine pw_goto (tgt := 86) C dX10_isTruth_155 (by decide) ?_
                          exact pw_locs (by exact ⟨rfl, cat_vR _, rfl, cat_vR _, rfl, rfl, rfl, rfl, rfl, rfl, rfl, rfl, rfl, rfl, rfl, rfl, rfl, rfl, trivial⟩) (ih_86 (o + 1)  (by omega) (fnd_go (by omega) hf (fun q => by have := q.2; omega)) (by omega))
                        · skip
                          refine pw_iconst C dX10_isTruth_150 ?_
                          exact pw_zretE C hR dX10_isTruth_151 (by omega) rfl rfl ((bI_f (fun q => q.2 (by rw [← fnd_at (by omega) hf ⟨⟨c_96, c_105, c_115⟩, by omega⟩]; omega))).symm) (Nat.zero_le _) (Nat.zero_le _)
                  · skip
                    refine pw_goto (tgt := 152) C dX10_isTruth_118 (by decide) ?_
                    refine pw_iinc C dX10_isTruth_152 rfl (Nat.le_of_ble_eq_true rfl) rfl ?_
                    refine pw_goto (tgt := 86) C dX10_isTruth_155 (by decide) ?_
                    exact pw_locs (by exact ⟨rfl, cat_vR _, rfl, cat_vR _, rfl, rfl, rfl, rfl, rfl, rfl, rfl, rfl, rfl, rfl, rfl, rfl, rfl, rfl, trivial⟩) (ih_86 (o + 1)  (by omega) (fnd_go (by omega) hf (fun q => q.1.2.2 c_115)) (by omega))
        · skip
          refine pw_aload_n C dX10_isTruth_42 rfl ?_
          refine pw_aload_n C dX10_isTruth_43 rfl ?_
          refine pw_iload_n C dX10_isTruth_44 rfl ?_
          refine pw_iconst C dX10_isTruth_45 ?_
          refine pw_cVE C hX dX10_isTruth_46 ml_X10_77 mc_X10_roots (m_roots hM hA hF hB (v := v) (by omega) (w := 0) (by omega)) kc_13 hM.k rfl rfl ⟨Nat.le_of_ble_eq_true rfl, Nat.le_of_ble_eq_true rfl⟩ (Nat.le_of_ble_eq_true rfl) ⟨Nat.le_of_ble_eq_true rfl, Nat.le_of_ble_eq_true rfl⟩ ?_
          have b_mro30 := bc_bd (fr (mroS (A 10) F v 0) 0 (A 10 2 0) 0)
          have b_mrq30 : mro (A 10) F v 0 = _ := rfl
          replace b_mro30 : 0 ≤ mro (A 10) F v 0 ∧ mro (A 10) F v 0 ≤ 10 := b_mro30
          clear b_mrq30
          refine pw_iload C dX10_isTruth_49 rfl ?_
          refine pw_iadd C dX10_isTruth_51 ?_
          refine pw_iconst C dX10_isTruth_52 ?_
          refine pw_icmp_le (tgt := 60) C dX10_isTruth_53 (by decide) (by omega) (fun c_53 => ?_) (fun c_53 => ?_)
          · skip
            refine pw_iconst C dX10_isTruth_60 ?_
            refine pw_istore C dX10_isTruth_61 (Nat.le_of_ble_eq_true rfl) rfl ?_
            refine pw_iload C dX10_isTruth_63 rfl ?_
            refine pw_ifL_nen (tgt := 70) C dX10_isTruth_65 (by decide) rfl ?_
            refine pw_iconst C dX10_isTruth_68 ?_
            exact pw_zretE C hR dX10_isTruth_69 (by omega) rfl rfl ((bI_f (fun q => by have := q.1; unfold mPv at this; omega)).symm) (Nat.zero_le _) (Nat.zero_le _)
          · skip
            refine pw_iconst C dX10_isTruth_56 ?_
            refine pw_goto (tgt := 61) C dX10_isTruth_57 (by decide) ?_
            refine pw_istore C dX10_isTruth_61 (Nat.le_of_ble_eq_true rfl) rfl ?_
            refine pw_iload C dX10_isTruth_63 rfl ?_
            refine pw_ifL_ne (tgt := 70) C dX10_isTruth_65 (by decide) rfl ?_
            refine pw_aload_n C dX10_isTruth_70 rfl ?_
            refine pw_aload_n C dX10_isTruth_71 rfl ?_
            refine pw_iload_n C dX10_isTruth_72 rfl ?_
            refine pw_cVE C hX dX10_isTruth_73 ml_X10_89 mc_X10_force (m_force hM hA hF hB (v := v) (by omega)) kc_13 hM.k rfl rfl ⟨Nat.le_of_ble_eq_true rfl, Nat.le_of_ble_eq_true rfl⟩ (Nat.le_of_ble_eq_true rfl) ⟨Nat.le_of_ble_eq_true rfl, Nat.le_of_ble_eq_true rfl⟩ ?_
            have b_mfo31 := mfo_bd (F := F) (v := v) hA.so
            refine pw_iload C dX10_isTruth_76 rfl ?_
            refine pw_iload_n C dX10_isTruth_78 rfl ?_
            refine pw_imul C dX10_isTruth_79 ?_
            refine pw_iadd C dX10_isTruth_80 ?_
            refine pw_istore C dX10_isTruth_81 (Nat.le_of_ble_eq_true rfl) rfl ?_
            refine pw_iconst C dX10_isTruth_83 ?_
            refine pw_istore C dX10_isTruth_84 (Nat.le_of_ble_eq_true rfl) rfl ?_
            suffices K_86 : ∀ (nn_86 : Nat) (o : Int) , (0 ≤ o ∧ o ≤ 100) → (fnd (mBt (A 10) F v (mfo (A 10) F v + k * w)) o 100 = fnd (mBt (A 10) F v (mfo (A 10) F v + k * w)) 0 100) → 100 - o < (nn_86 : Int) → PW E G M 0 0 86 [(0, 1, vR Q), (1, 1, vR a), (2, 1, vI v), (3, 1, vI w), (4, 1, vI k), (5, 1, vI (mpr (A 10) F v)), (6, 1, vI 1), (7, 1, vI ((mfo (A 10) F v) + (k * w))), (8, 1, vI o)] [] from pw_locs (by exact ⟨rfl, cat_vR _, rfl, cat_vR _, rfl, rfl, rfl, rfl, rfl, rfl, rfl, rfl, rfl, rfl, rfl, rfl, rfl, rfl, trivial⟩) (K_86 (100 - 0 + 1 : Int).toNat 0  (by omega) (by first | exact rfl | omega) (by omega))
            intro nn_86
            induction nn_86 with
            | zero => intro o h1 hf h_m86; exact absurd h_m86 (by omega)
            | succ nn_86 ih_86 =>
              intro o h1 hf h_m86
              refine pw_iload C dX10_isTruth_86 rfl ?_
              refine pw_bipush C dX10_isTruth_88 rfl ?_
              refine pw_icmp_ge (tgt := 158) C dX10_isTruth_90 (by decide) (by omega) (fun c_90 => ?_) (fun c_90 => ?_)
              · skip
                refine pw_iconst C dX10_isTruth_158 ?_
                exact pw_zretE C hR dX10_isTruth_159 (by omega) rfl rfl ((bI_t ⟨Or.inr (Or.inr (Or.inr (by omega))), by rw [← fnd_no (by omega) hf]; omega⟩).symm) (Nat.zero_le _) (Nat.zero_le _)
              · skip
                refine pw_iload C dX10_isTruth_93 rfl ?_
                refine pw_iload_n C dX10_isTruth_95 rfl ?_
                refine pw_icmp_eq (tgt := 152) C dX10_isTruth_96 (by decide) (by omega) (fun c_96 => ?_) (fun c_96 => ?_)
                · skip
                  refine pw_iinc C dX10_isTruth_152 rfl (Nat.le_of_ble_eq_true rfl) rfl ?_
                  refine pw_goto (tgt := 86) C dX10_isTruth_155 (by decide) ?_
                  exact pw_locs (by exact ⟨rfl, cat_vR _, rfl, cat_vR _, rfl, rfl, rfl, rfl, rfl, rfl, rfl, rfl, rfl, rfl, rfl, rfl, rfl, rfl, trivial⟩) (ih_86 (o + 1)  (by omega) (fnd_go (by omega) hf (fun q => q.1.1 c_96)) (by omega))
                · skip
                  refine pw_aload_n C dX10_isTruth_99 rfl ?_
                  refine pw_iload C dX10_isTruth_100 rfl ?_
                  refine pw_cSE C hX dX10_isTruth_102 ml_X10_81 mc_X10_isSaid (m_isSaid hF hB (v := o) (by omega)) rfl rfl ⟨Nat.le_of_ble_eq_true rfl, Nat.le_of_ble_eq_true rfl⟩ (Nat.le_of_ble_eq_true rfl) ⟨Nat.le_of_ble_eq_true rfl, Nat.le_of_ble_eq_true rfl⟩ ?_
                  refine pw_ifB_eq (tgt := 152) C dX10_isTruth_105 (by decide) (fun c_105 => ?_) (fun c_105 => ?_)
                  · skip
                    refine pw_iinc C dX10_isTruth_152 rfl (Nat.le_of_ble_eq_true rfl) rfl ?_
                    refine pw_goto (tgt := 86) C dX10_isTruth_155 (by decide) ?_
                    exact pw_locs (by exact ⟨rfl, cat_vR _, rfl, cat_vR _, rfl, rfl, rfl, rfl, rfl, rfl, rfl, rfl, rfl, rfl, rfl, rfl, rfl, rfl, trivial⟩) (ih_86 (o + 1)  (by omega) (fnd_go (by omega) hf (fun q => c_105 q.1.2.1)) (by omega))
                  · skip
                    refine pw_aload_n C dX10_isTruth_108 rfl ?_
                    refine pw_aload_n C dX10_isTruth_109 rfl ?_
                    refine pw_iload C dX10_isTruth_110 rfl ?_
                    refine pw_cVE C hX dX10_isTruth_112 ml_X10_85 mc_X10_proof (m_proof hM hA hF hB (v := o) (by omega)) kc_13 hM.k rfl rfl ⟨Nat.le_of_ble_eq_true rfl, Nat.le_of_ble_eq_true rfl⟩ (Nat.le_of_ble_eq_true rfl) ⟨Nat.le_of_ble_eq_true rfl, Nat.le_of_ble_eq_true rfl⟩ ?_
                    have b_mpr32 : 0 ≤ mpr (A 10) F o ∧ mpr (A 10) F o ≤ 3 := by unfold mpr; omega
                    refine pw_if_ne (tgt := 121) C dX10_isTruth_115 (by decide) (by omega) (fun c_115 => ?_) (fun c_115 => ?_)
                    · skip
                      refine pw_aload_n C dX10_isTruth_121 rfl ?_
                      refine pw_aload_n C dX10_isTruth_122 rfl ?_
                      refine pw_iload C dX10_isTruth_123 rfl ?_
                      refine pw_cVE C hX dX10_isTruth_125 ml_X10_89 mc_X10_force (m_force hM hA hF hB (v := o) (by omega)) kc_13 hM.k rfl rfl ⟨Nat.le_of_ble_eq_true rfl, Nat.le_of_ble_eq_true rfl⟩ (Nat.le_of_ble_eq_true rfl) ⟨Nat.le_of_ble_eq_true rfl, Nat.le_of_ble_eq_true rfl⟩ ?_
                      have b_mfo33 := mfo_bd (F := F) (v := o) hA.so
                      refine pw_istore C dX10_isTruth_128 (Nat.le_of_ble_eq_true rfl) rfl ?_
                      refine pw_iload C dX10_isTruth_130 rfl ?_
                      refine pw_iload C dX10_isTruth_132 rfl ?_
                      refine pw_icmp_gt (tgt := 150) C dX10_isTruth_134 (by decide) (by omega) (fun c_134 => ?_) (fun c_134 => ?_)
                      · skip
                        refine pw_iconst C dX10_isTruth_150 ?_
                        exact pw_zretE C hR dX10_isTruth_151 (by omega) rfl rfl ((bI_f (fun q => q.2 (by rw [← fnd_at (by omega) hf ⟨⟨c_96, c_105, c_115⟩, by omega⟩]; omega))).symm) (Nat.zero_le _) (Nat.zero_le _)
                      · skip
                        refine pw_iload C dX10_isTruth_137 rfl ?_
                        refine pw_iload C dX10_isTruth_139 rfl ?_
                        refine pw_icmp_ne (tgt := 152) C dX10_isTruth_141 (by decide) (by omega) (fun c_141 => ?_) (fun c_141 => ?_)
                        · skip
                          refine pw_iinc C dX10_isTruth_152 rfl (Nat.le_of_ble_eq_true rfl) rfl ?_
                          refine pw_goto (tgt := 86) C dX10_isTruth_155 (by decide) ?_
                          exact pw_locs (by exact ⟨rfl, cat_vR _, rfl, cat_vR _, rfl, rfl, rfl, rfl, rfl, rfl, rfl, rfl, rfl, rfl, rfl, rfl, rfl, rfl, trivial⟩) (ih_86 (o + 1)  (by omega) (fnd_go (by omega) hf (fun q => by have := q.2; omega)) (by omega))
                        · skip
                          refine pw_iload C dX10_isTruth_144 rfl ?_
                          refine pw_iload_n C dX10_isTruth_146 rfl ?_
                          refine pw_icmp_ge (tgt := 152) C dX10_isTruth_147 (by decide) (by omega) (fun c_147 => ?_) (fun c_147 => ?_)
                          · skip
                            refine pw_iinc C dX10_isTruth_152 rfl (Nat.le_of_ble_eq_true rfl) rfl ?_
                            refine pw_goto (tgt := 86) C dX10_isTruth_155 (by decide) ?_
                            exact pw_locs (by exact ⟨rfl, cat_vR _, rfl, cat_vR _, rfl, rfl, rfl, rfl, rfl, rfl, rfl, rfl, rfl, rfl, rfl, rfl, rfl, rfl, trivial⟩) (ih_86 (o + 1)  (by omega) (fnd_go (by omega) hf (fun q => by have := q.2; omega)) (by omega))
                          · skip
                            refine pw_iconst C dX10_isTruth_150 ?_
                            exact pw_zretE C hR dX10_isTruth_151 (by omega) rfl rfl ((bI_f (fun q => q.2 (by rw [← fnd_at (by omega) hf ⟨⟨c_96, c_105, c_115⟩, by omega⟩]; omega))).symm) (Nat.zero_le _) (Nat.zero_le _)
                    · skip
                      refine pw_goto (tgt := 152) C dX10_isTruth_118 (by decide) ?_
                      refine pw_iinc C dX10_isTruth_152 rfl (Nat.le_of_ble_eq_true rfl) rfl ?_
                      refine pw_goto (tgt := 86) C dX10_isTruth_155 (by decide) ?_
                      exact pw_locs (by exact ⟨rfl, cat_vR _, rfl, cat_vR _, rfl, rfl, rfl, rfl, rfl, rfl, rfl, rfl, rfl, rfl, rfl, rfl, rfl, rfl, trivial⟩) (ih_86 (o + 1)  (by omega) (fnd_go (by omega) hf (fun q => q.1.2.2 c_115)) (by omega))
    · skip
      refine pw_iload_n C dX10_isTruth_18 rfl ?_
      refine pw_iconst C dX10_isTruth_19 ?_
      refine pw_icmp_eq (tgt := 56) C dX10_isTruth_20 (by decide) (by omega) (fun c_20 => ?_) (fun c_20 => ?_)
      · skip
        refine pw_iconst C dX10_isTruth_56 ?_
        refine pw_goto (tgt := 61) C dX10_isTruth_57 (by decide) ?_
        refine pw_istore C dX10_isTruth_61 (Nat.le_of_ble_eq_true rfl) rfl ?_
        refine pw_iload C dX10_isTruth_63 rfl ?_
        refine pw_ifL_ne (tgt := 70) C dX10_isTruth_65 (by decide) rfl ?_
        refine pw_aload_n C dX10_isTruth_70 rfl ?_
        refine pw_aload_n C dX10_isTruth_71 rfl ?_
        refine pw_iload_n C dX10_isTruth_72 rfl ?_
        refine pw_cVE C hX dX10_isTruth_73 ml_X10_89 mc_X10_force (m_force hM hA hF hB (v := v) (by omega)) kc_13 hM.k rfl rfl ⟨Nat.le_of_ble_eq_true rfl, Nat.le_of_ble_eq_true rfl⟩ (Nat.le_of_ble_eq_true rfl) ⟨Nat.le_of_ble_eq_true rfl, Nat.le_of_ble_eq_true rfl⟩ ?_
        have b_mfo34 := mfo_bd (F := F) (v := v) hA.so
        refine pw_iload C dX10_isTruth_76 rfl ?_
        refine pw_iload_n C dX10_isTruth_78 rfl ?_
        refine pw_imul C dX10_isTruth_79 ?_
        refine pw_iadd C dX10_isTruth_80 ?_
        refine pw_istore C dX10_isTruth_81 (Nat.le_of_ble_eq_true rfl) rfl ?_
        refine pw_iconst C dX10_isTruth_83 ?_
        refine pw_istore C dX10_isTruth_84 (Nat.le_of_ble_eq_true rfl) rfl ?_
        suffices K_86 : ∀ (nn_86 : Nat) (o : Int) , (0 ≤ o ∧ o ≤ 100) → (fnd (mBt (A 10) F v (mfo (A 10) F v + k * w)) o 100 = fnd (mBt (A 10) F v (mfo (A 10) F v + k * w)) 0 100) → 100 - o < (nn_86 : Int) → PW E G M 0 0 86 [(0, 1, vR Q), (1, 1, vR a), (2, 1, vI v), (3, 1, vI w), (4, 1, vI k), (5, 1, vI (mpr (A 10) F v)), (6, 1, vI 1), (7, 1, vI ((mfo (A 10) F v) + (k * w))), (8, 1, vI o)] [] from pw_locs (by exact ⟨rfl, cat_vR _, rfl, cat_vR _, rfl, rfl, rfl, rfl, rfl, rfl, rfl, rfl, rfl, rfl, rfl, rfl, rfl, rfl, trivial⟩) (K_86 (100 - 0 + 1 : Int).toNat 0  (by omega) (by first | exact rfl | omega) (by omega))
        intro nn_86
        induction nn_86 with
        | zero => intro o h1 hf h_m86; exact absurd h_m86 (by omega)
        | succ nn_86 ih_86 =>
          intro o h1 hf h_m86
          refine pw_iload C dX10_isTruth_86 rfl ?_
          refine pw_bipush C dX10_isTruth_88 rfl ?_
          refine pw_icmp_ge (tgt := 158) C dX10_isTruth_90 (by decide) (by omega) (fun c_90 => ?_) (fun c_90 => ?_)
          · skip
            refine pw_iconst C dX10_isTruth_158 ?_
            exact pw_zretE C hR dX10_isTruth_159 (by omega) rfl rfl ((bI_t ⟨Or.inr (Or.inl ⟨by omega, c_20⟩), by rw [← fnd_no (by omega) hf]; omega⟩).symm) (Nat.zero_le _) (Nat.zero_le _)
          · skip
            refine pw_iload C dX10_isTruth_93 rfl ?_
            refine pw_iload_n C dX10_isTruth_95 rfl ?_
            refine pw_icmp_eq (tgt := 152) C dX10_isTruth_96 (by decide) (by omega) (fun c_96 => ?_) (fun c_96 => ?_)
            · skip
              refine pw_iinc C dX10_isTruth_152 rfl (Nat.le_of_ble_eq_true rfl) rfl ?_
              refine pw_goto (tgt := 86) C dX10_isTruth_155 (by decide) ?_
              exact pw_locs (by exact ⟨rfl, cat_vR _, rfl, cat_vR _, rfl, rfl, rfl, rfl, rfl, rfl, rfl, rfl, rfl, rfl, rfl, rfl, rfl, rfl, trivial⟩) (ih_86 (o + 1)  (by omega) (fnd_go (by omega) hf (fun q => q.1.1 c_96)) (by omega))
            · skip
              refine pw_aload_n C dX10_isTruth_99 rfl ?_
              refine pw_iload C dX10_isTruth_100 rfl ?_
              refine pw_cSE C hX dX10_isTruth_102 ml_X10_81 mc_X10_isSaid (m_isSaid hF hB (v := o) (by omega)) rfl rfl ⟨Nat.le_of_ble_eq_true rfl, Nat.le_of_ble_eq_true rfl⟩ (Nat.le_of_ble_eq_true rfl) ⟨Nat.le_of_ble_eq_true rfl, Nat.le_of_ble_eq_true rfl⟩ ?_
              refine pw_ifB_eq (tgt := 152) C dX10_isTruth_105 (by decide) (fun c_105 => ?_) (fun c_105 => ?_)
              · skip
                refine pw_iinc C dX10_isTruth_152 rfl (Nat.le_of_ble_eq_true rfl) rfl ?_
                refine pw_goto (tgt := 86) C dX10_isTruth_155 (by decide) ?_
                exact pw_locs (by exact ⟨rfl, cat_vR _, rfl, cat_vR _, rfl, rfl, rfl, rfl, rfl, rfl, rfl, rfl, rfl, rfl, rfl, rfl, rfl, rfl, trivial⟩) (ih_86 (o + 1)  (by omega) (fnd_go (by omega) hf (fun q => c_105 q.1.2.1)) (by omega))
              · skip
                refine pw_aload_n C dX10_isTruth_108 rfl ?_
                refine pw_aload_n C dX10_isTruth_109 rfl ?_
                refine pw_iload C dX10_isTruth_110 rfl ?_
                refine pw_cVE C hX dX10_isTruth_112 ml_X10_85 mc_X10_proof (m_proof hM hA hF hB (v := o) (by omega)) kc_13 hM.k rfl rfl ⟨Nat.le_of_ble_eq_true rfl, Nat.le_of_ble_eq_true rfl⟩ (Nat.le_of_ble_eq_true rfl) ⟨Nat.le_of_ble_eq_true rfl, Nat.le_of_ble_eq_true rfl⟩ ?_
                have b_mpr35 : 0 ≤ mpr (A 10) F o ∧ mpr (A 10) F o ≤ 3 := by unfold mpr; omega
                refine pw_if_ne (tgt := 121) C dX10_isTruth_115 (by decide) (by omega) (fun c_115 => ?_) (fun c_115 => ?_)
                · skip
                  refine pw_aload_n C dX10_isTruth_121 rfl ?_
                  refine pw_aload_n C dX10_isTruth_122 rfl ?_
                  refine pw_iload C dX10_isTruth_123 rfl ?_
                  refine pw_cVE C hX dX10_isTruth_125 ml_X10_89 mc_X10_force (m_force hM hA hF hB (v := o) (by omega)) kc_13 hM.k rfl rfl ⟨Nat.le_of_ble_eq_true rfl, Nat.le_of_ble_eq_true rfl⟩ (Nat.le_of_ble_eq_true rfl) ⟨Nat.le_of_ble_eq_true rfl, Nat.le_of_ble_eq_true rfl⟩ ?_
                  have b_mfo36 := mfo_bd (F := F) (v := o) hA.so
                  refine pw_istore C dX10_isTruth_128 (Nat.le_of_ble_eq_true rfl) rfl ?_
                  refine pw_iload C dX10_isTruth_130 rfl ?_
                  refine pw_iload C dX10_isTruth_132 rfl ?_
                  refine pw_icmp_gt (tgt := 150) C dX10_isTruth_134 (by decide) (by omega) (fun c_134 => ?_) (fun c_134 => ?_)
                  · skip
                    refine pw_iconst C dX10_isTruth_150 ?_
                    exact pw_zretE C hR dX10_isTruth_151 (by omega) rfl rfl ((bI_f (fun q => q.2 (by rw [← fnd_at (by omega) hf ⟨⟨c_96, c_105, c_115⟩, by omega⟩]; omega))).symm) (Nat.zero_le _) (Nat.zero_le _)
                  · skip
                    refine pw_iload C dX10_isTruth_137 rfl ?_
                    refine pw_iload C dX10_isTruth_139 rfl ?_
                    refine pw_icmp_ne (tgt := 152) C dX10_isTruth_141 (by decide) (by omega) (fun c_141 => ?_) (fun c_141 => ?_)
                    · skip
                      refine pw_iinc C dX10_isTruth_152 rfl (Nat.le_of_ble_eq_true rfl) rfl ?_
                      refine pw_goto (tgt := 86) C dX10_isTruth_155 (by decide) ?_
                      exact pw_locs (by exact ⟨rfl, cat_vR _, rfl, cat_vR _, rfl, rfl, rfl, rfl, rfl, rfl, rfl, rfl, rfl, rfl, rfl, rfl, rfl, rfl, trivial⟩) (ih_86 (o + 1)  (by omega) (fnd_go (by omega) hf (fun q => by have := q.2; omega)) (by omega))
                    · skip
                      refine pw_iload C dX10_isTruth_144 rfl ?_
                      refine pw_iload_n C dX10_isTruth_146 rfl ?_
                      refine pw_icmp_ge (tgt := 152) C dX10_isTruth_147 (by decide) (by omega) (fun c_147 => ?_) (fun c_147 => ?_)
                      · skip
                        refine pw_iinc C dX10_isTruth_152 rfl (Nat.le_of_ble_eq_true rfl) rfl ?_
                        refine pw_goto (tgt := 86) C dX10_isTruth_155 (by decide) ?_
                        exact pw_locs (by exact ⟨rfl, cat_vR _, rfl, cat_vR _, rfl, rfl, rfl, rfl, rfl, rfl, rfl, rfl, rfl, rfl, rfl, rfl, rfl, rfl, trivial⟩) (ih_86 (o + 1)  (by omega) (fnd_go (by omega) hf (fun q => by have := q.2; omega)) (by omega))
                      · skip
                        refine pw_iconst C dX10_isTruth_150 ?_
                        exact pw_zretE C hR dX10_isTruth_151 (by omega) rfl rfl ((bI_f (fun q => q.2 (by rw [← fnd_at (by omega) hf ⟨⟨c_96, c_105, c_115⟩, by omega⟩]; omega))).symm) (Nat.zero_le _) (Nat.zero_le _)
                · skip
                  refine pw_goto (tgt := 152) C dX10_isTruth_118 (by decide) ?_
                  refine pw_iinc C dX10_isTruth_152 rfl (Nat.le_of_ble_eq_true rfl) rfl ?_
                  refine pw_goto (tgt := 86) C dX10_isTruth_155 (by decide) ?_
                  exact pw_locs (by exact ⟨rfl, cat_vR _, rfl, cat_vR _, rfl, rfl, rfl, rfl, rfl, rfl, rfl, rfl, rfl, rfl, rfl, rfl, rfl, rfl, trivial⟩) (ih_86 (o + 1)  (by omega) (fnd_go (by omega) hf (fun q => q.1.2.2 c_115)) (by omega))
      · skip
        refine pw_iload_n C dX10_isTruth_23 rfl ?_
        refine pw_iconst C dX10_isTruth_24 ?_
        refine pw_icmp_ne (tgt := 42) C dX10_isTruth_25 (by decide) (by omega) (fun c_25 => ?_) (fun c_25 => ?_)
        · skip
          refine pw_aload_n C dX10_isTruth_42 rfl ?_
          refine pw_aload_n C dX10_isTruth_43 rfl ?_
          refine pw_iload_n C dX10_isTruth_44 rfl ?_
          refine pw_iconst C dX10_isTruth_45 ?_
          refine pw_cVE C hX dX10_isTruth_46 ml_X10_77 mc_X10_roots (m_roots hM hA hF hB (v := v) (by omega) (w := 0) (by omega)) kc_13 hM.k rfl rfl ⟨Nat.le_of_ble_eq_true rfl, Nat.le_of_ble_eq_true rfl⟩ (Nat.le_of_ble_eq_true rfl) ⟨Nat.le_of_ble_eq_true rfl, Nat.le_of_ble_eq_true rfl⟩ ?_
          have b_mro37 := bc_bd (fr (mroS (A 10) F v 0) 0 (A 10 2 0) 0)
          have b_mrq37 : mro (A 10) F v 0 = _ := rfl
          replace b_mro37 : 0 ≤ mro (A 10) F v 0 ∧ mro (A 10) F v 0 ≤ 10 := b_mro37
          clear b_mrq37
          refine pw_iload C dX10_isTruth_49 rfl ?_
          refine pw_iadd C dX10_isTruth_51 ?_
          refine pw_iconst C dX10_isTruth_52 ?_
          refine pw_icmp_le (tgt := 60) C dX10_isTruth_53 (by decide) (by omega) (fun c_53 => ?_) (fun c_53 => ?_)
          · skip
            refine pw_iconst C dX10_isTruth_60 ?_
            refine pw_istore C dX10_isTruth_61 (Nat.le_of_ble_eq_true rfl) rfl ?_
            refine pw_iload C dX10_isTruth_63 rfl ?_
            refine pw_ifL_nen (tgt := 70) C dX10_isTruth_65 (by decide) rfl ?_
            refine pw_iconst C dX10_isTruth_68 ?_
            exact pw_zretE C hR dX10_isTruth_69 (by omega) rfl rfl ((bI_f (fun q => by have := q.1; unfold mPv at this; omega)).symm) (Nat.zero_le _) (Nat.zero_le _)
          · skip
            refine pw_iconst C dX10_isTruth_56 ?_
            refine pw_goto (tgt := 61) C dX10_isTruth_57 (by decide) ?_
            refine pw_istore C dX10_isTruth_61 (Nat.le_of_ble_eq_true rfl) rfl ?_
            refine pw_iload C dX10_isTruth_63 rfl ?_
            refine pw_ifL_ne (tgt := 70) C dX10_isTruth_65 (by decide) rfl ?_
            refine pw_aload_n C dX10_isTruth_70 rfl ?_
            refine pw_aload_n C dX10_isTruth_71 rfl ?_
            refine pw_iload_n C dX10_isTruth_72 rfl ?_
            refine pw_cVE C hX dX10_isTruth_73 ml_X10_89 mc_X10_force (m_force hM hA hF hB (v := v) (by omega)) kc_13 hM.k rfl rfl ⟨Nat.le_of_ble_eq_true rfl, Nat.le_of_ble_eq_true rfl⟩ (Nat.le_of_ble_eq_true rfl) ⟨Nat.le_of_ble_eq_true rfl, Nat.le_of_ble_eq_true rfl⟩ ?_
            have b_mfo38 := mfo_bd (F := F) (v := v) hA.so
            refine pw_iload C dX10_isTruth_76 rfl ?_
            refine pw_iload_n C dX10_isTruth_78 rfl ?_
            refine pw_imul C dX10_isTruth_79 ?_
            refine pw_iadd C dX10_isTruth_80 ?_
            refine pw_istore C dX10_isTruth_81 (Nat.le_of_ble_eq_true rfl) rfl ?_
            refine pw_iconst C dX10_isTruth_83 ?_
            refine pw_istore C dX10_isTruth_84 (Nat.le_of_ble_eq_true rfl) rfl ?_
            suffices K_86 : ∀ (nn_86 : Nat) (o : Int) , (0 ≤ o ∧ o ≤ 100) → (fnd (mBt (A 10) F v (mfo (A 10) F v + k * w)) o 100 = fnd (mBt (A 10) F v (mfo (A 10) F v + k * w)) 0 100) → 100 - o < (nn_86 : Int) → PW E G M 0 0 86 [(0, 1, vR Q), (1, 1, vR a), (2, 1, vI v), (3, 1, vI w), (4, 1, vI k), (5, 1, vI (mpr (A 10) F v)), (6, 1, vI 1), (7, 1, vI ((mfo (A 10) F v) + (k * w))), (8, 1, vI o)] [] from pw_locs (by exact ⟨rfl, cat_vR _, rfl, cat_vR _, rfl, rfl, rfl, rfl, rfl, rfl, rfl, rfl, rfl, rfl, rfl, rfl, rfl, rfl, trivial⟩) (K_86 (100 - 0 + 1 : Int).toNat 0  (by omega) (by first | exact rfl | omega) (by omega))
            intro nn_86
            induction nn_86 with
            | zero => intro o h1 hf h_m86; exact absurd h_m86 (by omega)
            | succ nn_86 ih_86 =>
              intro o h1 hf h_m86
              refine pw_iload C dX10_isTruth_86 rfl ?_
              refine pw_bipush C dX10_isTruth_88 rfl ?_
              refine pw_icmp_ge (tgt := 158) C dX10_isTruth_90 (by decide) (by omega) (fun c_90 => ?_) (fun c_90 => ?_)
              · skip
                refine pw_iconst C dX10_isTruth_158 ?_
                exact pw_zretE C hR dX10_isTruth_159 (by omega) rfl rfl ((bI_t ⟨Or.inr (Or.inr (Or.inr (by omega))), by rw [← fnd_no (by omega) hf]; omega⟩).symm) (Nat.zero_le _) (Nat.zero_le _)
              · skip
                refine pw_iload C dX10_isTruth_93 rfl ?_
                refine pw_iload_n C dX10_isTruth_95 rfl ?_
                refine pw_icmp_eq (tgt := 152) C dX10_isTruth_96 (by decide) (by omega) (fun c_96 => ?_) (fun c_96 => ?_)
                · skip
                  refine pw_iinc C dX10_isTruth_152 rfl (Nat.le_of_ble_eq_true rfl) rfl ?_
                  refine pw_goto (tgt := 86) C dX10_isTruth_155 (by decide) ?_
                  exact pw_locs (by exact ⟨rfl, cat_vR _, rfl, cat_vR _, rfl, rfl, rfl, rfl, rfl, rfl, rfl, rfl, rfl, rfl, rfl, rfl, rfl, rfl, trivial⟩) (ih_86 (o + 1)  (by omega) (fnd_go (by omega) hf (fun q => q.1.1 c_96)) (by omega))
                · skip
                  refine pw_aload_n C dX10_isTruth_99 rfl ?_
                  refine pw_iload C dX10_isTruth_100 rfl ?_
                  refine pw_cSE C hX dX10_isTruth_102 ml_X10_81 mc_X10_isSaid (m_isSaid hF hB (v := o) (by omega)) rfl rfl ⟨Nat.le_of_ble_eq_true rfl, Nat.le_of_ble_eq_true rfl⟩ (Nat.le_of_ble_eq_true rfl) ⟨Nat.le_of_ble_eq_true rfl, Nat.le_of_ble_eq_true rfl⟩ ?_
                  refine pw_ifB_eq (tgt := 152) C dX10_isTruth_105 (by decide) (fun c_105 => ?_) (fun c_105 => ?_)
                  · skip
                    refine pw_iinc C dX10_isTruth_152 rfl (Nat.le_of_ble_eq_true rfl) rfl ?_
                    refine pw_goto (tgt := 86) C dX10_isTruth_155 (by decide) ?_
                    exact pw_locs (by exact ⟨rfl, cat_vR _, rfl, cat_vR _, rfl, rfl, rfl, rfl, rfl, rfl, rfl, rfl, rfl, rfl, rfl, rfl, rfl, rfl, trivial⟩) (ih_86 (o + 1)  (by omega) (fnd_go (by omega) hf (fun q => c_105 q.1.2.1)) (by omega))
                  · skip
                    refine pw_aload_n C dX10_isTruth_108 rfl ?_
                    refine pw_aload_n C dX10_isTruth_109 rfl ?_
                    refine pw_iload C dX10_isTruth_110 rfl ?_
                    refine pw_cVE C hX dX10_isTruth_112 ml_X10_85 mc_X10_proof (m_proof hM hA hF hB (v := o) (by omega)) kc_13 hM.k rfl rfl ⟨Nat.le_of_ble_eq_true rfl, Nat.le_of_ble_eq_true rfl⟩ (Nat.le_of_ble_eq_true rfl) ⟨Nat.le_of_ble_eq_true rfl, Nat.le_of_ble_eq_true rfl⟩ ?_
                    have b_mpr39 : 0 ≤ mpr (A 10) F o ∧ mpr (A 10) F o ≤ 3 := by unfold mpr; omega
                    refine pw_if_ne (tgt := 121) C dX10_isTruth_115 (by decide) (by omega) (fun c_115 => ?_) (fun c_115 => ?_)
                    · skip
                      refine pw_aload_n C dX10_isTruth_121 rfl ?_
                      refine pw_aload_n C dX10_isTruth_122 rfl ?_
                      refine pw_iload C dX10_isTruth_123 rfl ?_
                      refine pw_cVE C hX dX10_isTruth_125 ml_X10_89 mc_X10_force (m_force hM hA hF hB (v := o) (by omega)) kc_13 hM.k rfl rfl ⟨Nat.le_of_ble_eq_true rfl, Nat.le_of_ble_eq_true rfl⟩ (Nat.le_of_ble_eq_true rfl) ⟨Nat.le_of_ble_eq_true rfl, Nat.le_of_ble_eq_true rfl⟩ ?_
                      have b_mfo40 := mfo_bd (F := F) (v := o) hA.so
                      refine pw_istore C dX10_isTruth_128 (Nat.le_of_ble_eq_true rfl) rfl ?_
                      refine pw_iload C dX10_isTruth_130 rfl ?_
                      refine pw_iload C dX10_isTruth_132 rfl ?_
                      refine pw_icmp_gt (tgt := 150) C dX10_isTruth_134 (by decide) (by omega) (fun c_134 => ?_) (fun c_134 => ?_)
                      · skip
                        refine pw_iconst C dX10_isTruth_150 ?_
                        exact pw_zretE C hR dX10_isTruth_151 (by omega) rfl rfl ((bI_f (fun q => q.2 (by rw [← fnd_at (by omega) hf ⟨⟨c_96, c_105, c_115⟩, by omega⟩]; omega))).symm) (Nat.zero_le _) (Nat.zero_le _)
                      · skip
                        refine pw_iload C dX10_isTruth_137 rfl ?_
                        refine pw_iload C dX10_isTruth_139 rfl ?_
                        refine pw_icmp_ne (tgt := 152) C dX10_isTruth_141 (by decide) (by omega) (fun c_141 => ?_) (fun c_141 => ?_)
                        · skip
                          refine pw_iinc C dX10_isTruth_152 rfl (Nat.le_of_ble_eq_true rfl) rfl ?_
                          refine pw_goto (tgt := 86) C dX10_isTruth_155 (by decide) ?_
                          exact pw_locs (by exact ⟨rfl, cat_vR _, rfl, cat_vR _, rfl, rfl, rfl, rfl, rfl, rfl, rfl, rfl, rfl, rfl, rfl, rfl, rfl, rfl, trivial⟩) (ih_86 (o + 1)  (by omega) (fnd_go (by omega) hf (fun q => by have := q.2; omega)) (by omega))
                        · skip
                          refine pw_iload C dX10_isTruth_144 rfl ?_
                          refine pw_iload_n C dX10_isTruth_146 rfl ?_
                          refine pw_icmp_ge (tgt := 152) C dX10_isTruth_147 (by decide) (by omega) (fun c_147 => ?_) (fun c_147 => ?_)
                          · skip
                            refine pw_iinc C dX10_isTruth_152 rfl (Nat.le_of_ble_eq_true rfl) rfl ?_
                            refine pw_goto (tgt := 86) C dX10_isTruth_155 (by decide) ?_
                            exact pw_locs (by exact ⟨rfl, cat_vR _, rfl, cat_vR _, rfl, rfl, rfl, rfl, rfl, rfl, rfl, rfl, rfl, rfl, rfl, rfl, rfl, rfl, trivial⟩) (ih_86 (o + 1)  (by omega) (fnd_go (by omega) hf (fun q => by have := q.2; omega)) (by omega))
                          · skip
                            refine pw_iconst C dX10_isTruth_150 ?_
                            exact pw_zretE C hR dX10_isTruth_151 (by omega) rfl rfl ((bI_f (fun q => q.2 (by rw [← fnd_at (by omega) hf ⟨⟨c_96, c_105, c_115⟩, by omega⟩]; omega))).symm) (Nat.zero_le _) (Nat.zero_le _)
                    · skip
                      refine pw_goto (tgt := 152) C dX10_isTruth_118 (by decide) ?_
                      refine pw_iinc C dX10_isTruth_152 rfl (Nat.le_of_ble_eq_true rfl) rfl ?_
                      refine pw_goto (tgt := 86) C dX10_isTruth_155 (by decide) ?_
                      exact pw_locs (by exact ⟨rfl, cat_vR _, rfl, cat_vR _, rfl, rfl, rfl, rfl, rfl, rfl, rfl, rfl, rfl, rfl, rfl, rfl, rfl, rfl, trivial⟩) (ih_86 (o + 1)  (by omega) (fnd_go (by omega) hf (fun q => q.1.2.2 c_115)) (by omega))
        · skip
          refine pw_aload_n C dX10_isTruth_28 rfl ?_
          refine pw_aload_n C dX10_isTruth_29 rfl ?_
          refine pw_iload_n C dX10_isTruth_30 rfl ?_
          refine pw_iconst C dX10_isTruth_31 ?_
          refine pw_cVE C hX dX10_isTruth_32 ml_X10_77 mc_X10_roots (m_roots hM hA hF hB (v := v) (by omega) (w := 2) (by omega)) kc_13 hM.k rfl rfl ⟨Nat.le_of_ble_eq_true rfl, Nat.le_of_ble_eq_true rfl⟩ (Nat.le_of_ble_eq_true rfl) ⟨Nat.le_of_ble_eq_true rfl, Nat.le_of_ble_eq_true rfl⟩ ?_
          have b_mro41 := bc_bd (fr (mroS (A 10) F v 2) 0 (A 10 2 0) 0)
          have b_mrq41 : mro (A 10) F v 2 = _ := rfl
          replace b_mro41 : 0 ≤ mro (A 10) F v 2 ∧ mro (A 10) F v 2 ≤ 10 := b_mro41
          clear b_mrq41
          refine pw_iload C dX10_isTruth_35 rfl ?_
          refine pw_iadd C dX10_isTruth_37 ?_
          refine pw_iconst C dX10_isTruth_38 ?_
          refine pw_icmp_gt (tgt := 56) C dX10_isTruth_39 (by decide) (by omega) (fun c_39 => ?_) (fun c_39 => ?_)
          · skip
            refine pw_iconst C dX10_isTruth_56 ?_
            refine pw_goto (tgt := 61) C dX10_isTruth_57 (by decide) ?_
            refine pw_istore C dX10_isTruth_61 (Nat.le_of_ble_eq_true rfl) rfl ?_
            refine pw_iload C dX10_isTruth_63 rfl ?_
            refine pw_ifL_ne (tgt := 70) C dX10_isTruth_65 (by decide) rfl ?_
            refine pw_aload_n C dX10_isTruth_70 rfl ?_
            refine pw_aload_n C dX10_isTruth_71 rfl ?_
            refine pw_iload_n C dX10_isTruth_72 rfl ?_
            refine pw_cVE C hX dX10_isTruth_73 ml_X10_89 mc_X10_force (m_force hM hA hF hB (v := v) (by omega)) kc_13 hM.k rfl rfl ⟨Nat.le_of_ble_eq_true rfl, Nat.le_of_ble_eq_true rfl⟩ (Nat.le_of_ble_eq_true rfl) ⟨Nat.le_of_ble_eq_true rfl, Nat.le_of_ble_eq_true rfl⟩ ?_
            have b_mfo42 := mfo_bd (F := F) (v := v) hA.so
            refine pw_iload C dX10_isTruth_76 rfl ?_
            refine pw_iload_n C dX10_isTruth_78 rfl ?_
            refine pw_imul C dX10_isTruth_79 ?_
            refine pw_iadd C dX10_isTruth_80 ?_
            refine pw_istore C dX10_isTruth_81 (Nat.le_of_ble_eq_true rfl) rfl ?_
            refine pw_iconst C dX10_isTruth_83 ?_
            refine pw_istore C dX10_isTruth_84 (Nat.le_of_ble_eq_true rfl) rfl ?_
            suffices K_86 : ∀ (nn_86 : Nat) (o : Int) , (0 ≤ o ∧ o ≤ 100) → (fnd (mBt (A 10) F v (mfo (A 10) F v + k * w)) o 100 = fnd (mBt (A 10) F v (mfo (A 10) F v + k * w)) 0 100) → 100 - o < (nn_86 : Int) → PW E G M 0 0 86 [(0, 1, vR Q), (1, 1, vR a), (2, 1, vI v), (3, 1, vI w), (4, 1, vI k), (5, 1, vI (mpr (A 10) F v)), (6, 1, vI 1), (7, 1, vI ((mfo (A 10) F v) + (k * w))), (8, 1, vI o)] [] from pw_locs (by exact ⟨rfl, cat_vR _, rfl, cat_vR _, rfl, rfl, rfl, rfl, rfl, rfl, rfl, rfl, rfl, rfl, rfl, rfl, rfl, rfl, trivial⟩) (K_86 (100 - 0 + 1 : Int).toNat 0  (by omega) (by first | exact rfl | omega) (by omega))
            intro nn_86
            induction nn_86 with
            | zero => intro o h1 hf h_m86; exact absurd h_m86 (by omega)
            | succ nn_86 ih_86 =>
              intro o h1 hf h_m86
              refine pw_iload C dX10_isTruth_86 rfl ?_
              refine pw_bipush C dX10_isTruth_88 rfl ?_
              refine pw_icmp_ge (tgt := 158) C dX10_isTruth_90 (by decide) (by omega) (fun c_90 => ?_) (fun c_90 => ?_)
              · skip
                refine pw_iconst C dX10_isTruth_158 ?_
                exact pw_zretE C hR dX10_isTruth_159 (by omega) rfl rfl ((bI_t ⟨Or.inr (Or.inr (Or.inl ⟨by omega, by omega⟩)), by rw [← fnd_no (by omega) hf]; omega⟩).symm) (Nat.zero_le _) (Nat.zero_le _)
              · skip
                refine pw_iload C dX10_isTruth_93 rfl ?_
                refine pw_iload_n C dX10_isTruth_95 rfl ?_
                refine pw_icmp_eq (tgt := 152) C dX10_isTruth_96 (by decide) (by omega) (fun c_96 => ?_) (fun c_96 => ?_)
                · skip
                  refine pw_iinc C dX10_isTruth_152 rfl (Nat.le_of_ble_eq_true rfl) rfl ?_
                  refine pw_goto (tgt := 86) C dX10_isTruth_155 (by decide) ?_
                  exact pw_locs (by exact ⟨rfl, cat_vR _, rfl, cat_vR _, rfl, rfl, rfl, rfl, rfl, rfl, rfl, rfl, rfl, rfl, rfl, rfl, rfl, rfl, trivial⟩) (ih_86 (o + 1)  (by omega) (fnd_go (by omega) hf (fun q => q.1.1 c_96)) (by omega))
                · skip
                  refine pw_aload_n C dX10_isTruth_99 rfl ?_
                  refine pw_iload C dX10_isTruth_100 rfl ?_
                  refine pw_cSE C hX dX10_isTruth_102 ml_X10_81 mc_X10_isSaid (m_isSaid hF hB (v := o) (by omega)) rfl rfl ⟨Nat.le_of_ble_eq_true rfl, Nat.le_of_ble_eq_true rfl⟩ (Nat.le_of_ble_eq_true rfl) ⟨Nat.le_of_ble_eq_true rfl, Nat.le_of_ble_eq_true rfl⟩ ?_
                  refine pw_ifB_eq (tgt := 152) C dX10_isTruth_105 (by decide) (fun c_105 => ?_) (fun c_105 => ?_)
                  · skip
                    refine pw_iinc C dX10_isTruth_152 rfl (Nat.le_of_ble_eq_true rfl) rfl ?_
                    refine pw_goto (tgt := 86) C dX10_isTruth_155 (by decide) ?_
                    exact pw_locs (by exact ⟨rfl, cat_vR _, rfl, cat_vR _, rfl, rfl, rfl, rfl, rfl, rfl, rfl, rfl, rfl, rfl, rfl, rfl, rfl, rfl, trivial⟩) (ih_86 (o + 1)  (by omega) (fnd_go (by omega) hf (fun q => c_105 q.1.2.1)) (by omega))
                  · skip
                    refine pw_aload_n C dX10_isTruth_108 rfl ?_
                    refine pw_aload_n C dX10_isTruth_109 rfl ?_
                    refine pw_iload C dX10_isTruth_110 rfl ?_
                    refine pw_cVE C hX dX10_isTruth_112 ml_X10_85 mc_X10_proof (m_proof hM hA hF hB (v := o) (by omega)) kc_13 hM.k rfl rfl ⟨Nat.le_of_ble_eq_true rfl, Nat.le_of_ble_eq_true rfl⟩ (Nat.le_of_ble_eq_true rfl) ⟨Nat.le_of_ble_eq_true rfl, Nat.le_of_ble_eq_true rfl⟩ ?_
                    have b_mpr43 : 0 ≤ mpr (A 10) F o ∧ mpr (A 10) F o ≤ 3 := by unfold mpr; omega
                    refine pw_if_ne (tgt := 121) C dX10_isTruth_115 (by decide) (by omega) (fun c_115 => ?_) (fun c_115 => ?_)
                    · skip
                      refine pw_aload_n C dX10_isTruth_121 rfl ?_
                      refine pw_aload_n C dX10_isTruth_122 rfl ?_
                      refine pw_iload C dX10_isTruth_123 rfl ?_
                      refine pw_cVE C hX dX10_isTruth_125 ml_X10_89 mc_X10_force (m_force hM hA hF hB (v := o) (by omega)) kc_13 hM.k rfl rfl ⟨Nat.le_of_ble_eq_true rfl, Nat.le_of_ble_eq_true rfl⟩ (Nat.le_of_ble_eq_true rfl) ⟨Nat.le_of_ble_eq_true rfl, Nat.le_of_ble_eq_true rfl⟩ ?_
                      have b_mfo44 := mfo_bd (F := F) (v := o) hA.so
                      refine pw_istore C dX10_isTruth_128 (Nat.le_of_ble_eq_true rfl) rfl ?_
                      refine pw_iload C dX10_isTruth_130 rfl ?_
                      refine pw_iload C dX10_isTruth_132 rfl ?_
                      refine pw_icmp_gt (tgt := 150) C dX10_isTruth_134 (by decide) (by omega) (fun c_134 => ?_) (fun c_134 => ?_)
                      · skip
                        refine pw_iconst C dX10_isTruth_150 ?_
                        exact pw_zretE C hR dX10_isTruth_151 (by omega) rfl rfl ((bI_f (fun q => q.2 (by rw [← fnd_at (by omega) hf ⟨⟨c_96, c_105, c_115⟩, by omega⟩]; omega))).symm) (Nat.zero_le _) (Nat.zero_le _)
                      · skip
                        refine pw_iload C dX10_isTruth_137 rfl ?_
                        refine pw_iload C dX10_isTruth_139 rfl ?_
                        refine pw_icmp_ne (tgt := 152) C dX10_isTruth_141 (by decide) (by omega) (fun c_141 => ?_) (fun c_141 => ?_)
                        · skip
                          refine pw_iinc C dX10_isTruth_152 rfl (Nat.le_of_ble_eq_true rfl) rfl ?_
                          refine pw_goto (tgt := 86) C dX10_isTruth_155 (by decide) ?_
                          exact pw_locs (by exact ⟨rfl, cat_vR _, rfl, cat_vR _, rfl, rfl, rfl, rfl, rfl, rfl, rfl, rfl, rfl, rfl, rfl, rfl, rfl, rfl, trivial⟩) (ih_86 (o + 1)  (by omega) (fnd_go (by omega) hf (fun q => by have := q.2; omega)) (by omega))
                        · skip
                          refine pw_iload C dX10_isTruth_144 rfl ?_
                          refine pw_iload_n C dX10_isTruth_146 rfl ?_
                          refine pw_icmp_ge (tgt := 152) C dX10_isTruth_147 (by decide) (by omega) (fun c_147 => ?_) (fun c_147 => ?_)
                          · skip
                            refine pw_iinc C dX10_isTruth_152 rfl (Nat.le_of_ble_eq_true rfl) rfl ?_
                            refine pw_goto (tgt := 86) C dX10_isTruth_155 (by decide) ?_
                            exact pw_locs (by exact ⟨rfl, cat_vR _, rfl, cat_vR _, rfl, rfl, rfl, rfl, rfl, rfl, rfl, rfl, rfl, rfl, rfl, rfl, rfl, rfl, trivial⟩) (ih_86 (o + 1)  (by omega) (fnd_go (by omega) hf (fun q => by have := q.2; omega)) (by omega))
                          · skip
                            refine pw_iconst C dX10_isTruth_150 ?_
                            exact pw_zretE C hR dX10_isTruth_151 (by omega) rfl rfl ((bI_f (fun q => q.2 (by rw [← fnd_at (by omega) hf ⟨⟨c_96, c_105, c_115⟩, by omega⟩]; omega))).symm) (Nat.zero_le _) (Nat.zero_le _)
                    · skip
                      refine pw_goto (tgt := 152) C dX10_isTruth_118 (by decide) ?_
                      refine pw_iinc C dX10_isTruth_152 rfl (Nat.le_of_ble_eq_true rfl) rfl ?_
                      refine pw_goto (tgt := 86) C dX10_isTruth_155 (by decide) ?_
                      exact pw_locs (by exact ⟨rfl, cat_vR _, rfl, cat_vR _, rfl, rfl, rfl, rfl, rfl, rfl, rfl, rfl, rfl, rfl, rfl, rfl, rfl, rfl, trivial⟩) (ih_86 (o + 1)  (by omega) (fnd_go (by omega) hf (fun q => q.1.2.2 c_115)) (by omega))
          · skip
            refine pw_aload_n C dX10_isTruth_42 rfl ?_
            refine pw_aload_n C dX10_isTruth_43 rfl ?_
            refine pw_iload_n C dX10_isTruth_44 rfl ?_
            refine pw_iconst C dX10_isTruth_45 ?_
            refine pw_cVE C hX dX10_isTruth_46 ml_X10_77 mc_X10_roots (m_roots hM hA hF hB (v := v) (by omega) (w := 0) (by omega)) kc_13 hM.k rfl rfl ⟨Nat.le_of_ble_eq_true rfl, Nat.le_of_ble_eq_true rfl⟩ (Nat.le_of_ble_eq_true rfl) ⟨Nat.le_of_ble_eq_true rfl, Nat.le_of_ble_eq_true rfl⟩ ?_
            have b_mro45 := bc_bd (fr (mroS (A 10) F v 0) 0 (A 10 2 0) 0)
            have b_mrq45 : mro (A 10) F v 0 = _ := rfl
            replace b_mro45 : 0 ≤ mro (A 10) F v 0 ∧ mro (A 10) F v 0 ≤ 10 := b_mro45
            clear b_mrq45
            refine pw_iload C dX10_isTruth_49 rfl ?_
            refine pw_iadd C dX10_isTruth_51 ?_
            refine pw_iconst C dX10_isTruth_52 ?_
            refine pw_icmp_le (tgt := 60) C dX10_isTruth_53 (by decide) (by omega) (fun c_53 => ?_) (fun c_53 => ?_)
            · skip
              refine pw_iconst C dX10_isTruth_60 ?_
              refine pw_istore C dX10_isTruth_61 (Nat.le_of_ble_eq_true rfl) rfl ?_
              refine pw_iload C dX10_isTruth_63 rfl ?_
              refine pw_ifL_nen (tgt := 70) C dX10_isTruth_65 (by decide) rfl ?_
              refine pw_iconst C dX10_isTruth_68 ?_
              exact pw_zretE C hR dX10_isTruth_69 (by omega) rfl rfl ((bI_f (fun q => by have := q.1; unfold mPv at this; omega)).symm) (Nat.zero_le _) (Nat.zero_le _)
            · skip
              refine pw_iconst C dX10_isTruth_56 ?_
              refine pw_goto (tgt := 61) C dX10_isTruth_57 (by decide) ?_
              refine pw_istore C dX10_isTruth_61 (Nat.le_of_ble_eq_true rfl) rfl ?_
              refine pw_iload C dX10_isTruth_63 rfl ?_
              refine pw_ifL_ne (tgt := 70) C dX10_isTruth_65 (by decide) rfl ?_
              refine pw_aload_n C dX10_isTruth_70 rfl ?_
              refine pw_aload_n C dX10_isTruth_71 rfl ?_
              refine pw_iload_n C dX10_isTruth_72 rfl ?_
              refine pw_cVE C hX dX10_isTruth_73 ml_X10_89 mc_X10_force (m_force hM hA hF hB (v := v) (by omega)) kc_13 hM.k rfl rfl ⟨Nat.le_of_ble_eq_true rfl, Nat.le_of_ble_eq_true rfl⟩ (Nat.le_of_ble_eq_true rfl) ⟨Nat.le_of_ble_eq_true rfl, Nat.le_of_ble_eq_true rfl⟩ ?_
              have b_mfo46 := mfo_bd (F := F) (v := v) hA.so
              refine pw_iload C dX10_isTruth_76 rfl ?_
              refine pw_iload_n C dX10_isTruth_78 rfl ?_
              refine pw_imul C dX10_isTruth_79 ?_
              refine pw_iadd C dX10_isTruth_80 ?_
              refine pw_istore C dX10_isTruth_81 (Nat.le_of_ble_eq_true rfl) rfl ?_
              refine pw_iconst C dX10_isTruth_83 ?_
              refine pw_istore C dX10_isTruth_84 (Nat.le_of_ble_eq_true rfl) rfl ?_
              suffices K_86 : ∀ (nn_86 : Nat) (o : Int) , (0 ≤ o ∧ o ≤ 100) → (fnd (mBt (A 10) F v (mfo (A 10) F v + k * w)) o 100 = fnd (mBt (A 10) F v (mfo (A 10) F v + k * w)) 0 100) → 100 - o < (nn_86 : Int) → PW E G M 0 0 86 [(0, 1, vR Q), (1, 1, vR a), (2, 1, vI v), (3, 1, vI w), (4, 1, vI k), (5, 1, vI (mpr (A 10) F v)), (6, 1, vI 1), (7, 1, vI ((mfo (A 10) F v) + (k * w))), (8, 1, vI o)] [] from pw_locs (by exact ⟨rfl, cat_vR _, rfl, cat_vR _, rfl, rfl, rfl, rfl, rfl, rfl, rfl, rfl, rfl, rfl, rfl, rfl, rfl, rfl, trivial⟩) (K_86 (100 - 0 + 1 : Int).toNat 0  (by omega) (by first | exact rfl | omega) (by omega))
              intro nn_86
              induction nn_86 with
              | zero => intro o h1 hf h_m86; exact absurd h_m86 (by omega)
              | succ nn_86 ih_86 =>
                intro o h1 hf h_m86
                refine pw_iload C dX10_isTruth_86 rfl ?_
                refine pw_bipush C dX10_isTruth_88 rfl ?_
                refine pw_icmp_ge (tgt := 158) C dX10_isTruth_90 (by decide) (by omega) (fun c_90 => ?_) (fun c_90 => ?_)
                · skip
                  refine pw_iconst C dX10_isTruth_158 ?_
                  exact pw_zretE C hR dX10_isTruth_159 (by omega) rfl rfl ((bI_t ⟨Or.inr (Or.inr (Or.inr (by omega))), by rw [← fnd_no (by omega) hf]; omega⟩).symm) (Nat.zero_le _) (Nat.zero_le _)
                · skip
                  refine pw_iload C dX10_isTruth_93 rfl ?_
                  refine pw_iload_n C dX10_isTruth_95 rfl ?_
                  refine pw_icmp_eq (tgt := 152) C dX10_isTruth_96 (by decide) (by omega) (fun c_96 => ?_) (fun c_96 => ?_)
                  · skip
                    refine pw_iinc C dX10_isTruth_152 rfl (Nat.le_of_ble_eq_true rfl) rfl ?_
                    refine pw_goto (tgt := 86) C dX10_isTruth_155 (by decide) ?_
                    exact pw_locs (by exact ⟨rfl, cat_vR _, rfl, cat_vR _, rfl, rfl, rfl, rfl, rfl, rfl, rfl, rfl, rfl, rfl, rfl, rfl, rfl, rfl, trivial⟩) (ih_86 (o + 1)  (by omega) (fnd_go (by omega) hf (fun q => q.1.1 c_96)) (by omega))
                  · skip
                    refine pw_aload_n C dX10_isTruth_99 rfl ?_
                    refine pw_iload C dX10_isTruth_100 rfl ?_
                    refine pw_cSE C hX dX10_isTruth_102 ml_X10_81 mc_X10_isSaid (m_isSaid hF hB (v := o) (by omega)) rfl rfl ⟨Nat.le_of_ble_eq_true rfl, Nat.le_of_ble_eq_true rfl⟩ (Nat.le_of_ble_eq_true rfl) ⟨Nat.le_of_ble_eq_true rfl, Nat.le_of_ble_eq_true rfl⟩ ?_
                    refine pw_ifB_eq (tgt := 152) C dX10_isTruth_105 (by decide) (fun c_105 => ?_) (fun c_105 => ?_)
                    · skip
                      refine pw_iinc C dX10_isTruth_152 rfl (Nat.le_of_ble_eq_true rfl) rfl ?_
                      refine pw_goto (tgt := 86) C dX10_isTruth_155 (by decide) ?_
                      exact pw_locs (by exact ⟨rfl, cat_vR _, rfl, cat_vR _, rfl, rfl, rfl, rfl, rfl, rfl, rfl, rfl, rfl, rfl, rfl, rfl, rfl, rfl, trivial⟩) (ih_86 (o + 1)  (by omega) (fnd_go (by omega) hf (fun q => c_105 q.1.2.1)) (by omega))
                    · skip
                      refine pw_aload_n C dX10_isTruth_108 rfl ?_
                      refine pw_aload_n C dX10_isTruth_109 rfl ?_
                      refine pw_iload C dX10_isTruth_110 rfl ?_
                      refine pw_cVE C hX dX10_isTruth_112 ml_X10_85 mc_X10_proof (m_proof hM hA hF hB (v := o) (by omega)) kc_13 hM.k rfl rfl ⟨Nat.le_of_ble_eq_true rfl, Nat.le_of_ble_eq_true rfl⟩ (Nat.le_of_ble_eq_true rfl) ⟨Nat.le_of_ble_eq_true rfl, Nat.le_of_ble_eq_true rfl⟩ ?_
                      have b_mpr47 : 0 ≤ mpr (A 10) F o ∧ mpr (A 10) F o ≤ 3 := by unfold mpr; omega
                      refine pw_if_ne (tgt := 121) C dX10_isTruth_115 (by decide) (by omega) (fun c_115 => ?_) (fun c_115 => ?_)
                      · skip
                        refine pw_aload_n C dX10_isTruth_121 rfl ?_
                        refine pw_aload_n C dX10_isTruth_122 rfl ?_
                        refine pw_iload C dX10_isTruth_123 rfl ?_
                        refine pw_cVE C hX dX10_isTruth_125 ml_X10_89 mc_X10_force (m_force hM hA hF hB (v := o) (by omega)) kc_13 hM.k rfl rfl ⟨Nat.le_of_ble_eq_true rfl, Nat.le_of_ble_eq_true rfl⟩ (Nat.le_of_ble_eq_true rfl) ⟨Nat.le_of_ble_eq_true rfl, Nat.le_of_ble_eq_true rfl⟩ ?_
                        have b_mfo48 := mfo_bd (F := F) (v := o) hA.so
                        refine pw_istore C dX10_isTruth_128 (Nat.le_of_ble_eq_true rfl) rfl ?_
                        refine pw_iload C dX10_isTruth_130 rfl ?_
                        refine pw_iload C dX10_isTruth_132 rfl ?_
                        refine pw_icmp_gt (tgt := 150) C dX10_isTruth_134 (by decide) (by omega) (fun c_134 => ?_) (fun c_134 => ?_)
                        · skip
                          refine pw_iconst C dX10_isTruth_150 ?_
                          exact pw_zretE C hR dX10_isTruth_151 (by omega) rfl rfl ((bI_f (fun q => q.2 (by rw [← fnd_at (by omega) hf ⟨⟨c_96, c_105, c_115⟩, by omega⟩]; omega))).symm) (Nat.zero_le _) (Nat.zero_le _)
                        · skip
                          refine pw_iload C dX10_isTruth_137 rfl ?_
                          refine pw_iload C dX10_isTruth_139 rfl ?_
                          refine pw_icmp_ne (tgt := 152) C dX10_isTruth_141 (by decide) (by omega) (fun c_141 => ?_) (fun c_141 => ?_)
                          · skip
                            refine pw_iinc C dX10_isTruth_152 rfl (Nat.le_of_ble_eq_true rfl) rfl ?_
                            refine pw_goto (tgt := 86) C dX10_isTruth_155 (by decide) ?_
                            exact pw_locs (by exact ⟨rfl, cat_vR _, rfl, cat_vR _, rfl, rfl, rfl, rfl, rfl, rfl, rfl, rfl, rfl, rfl, rfl, rfl, rfl, rfl, trivial⟩) (ih_86 (o + 1)  (by omega) (fnd_go (by omega) hf (fun q => by have := q.2; omega)) (by omega))
                          · skip
                            refine pw_iload C dX10_isTruth_144 rfl ?_
                            refine pw_iload_n C dX10_isTruth_146 rfl ?_
                            refine pw_icmp_ge (tgt := 152) C dX10_isTruth_147 (by decide) (by omega) (fun c_147 => ?_) (fun c_147 => ?_)
                            · skip
                              refine pw_iinc C dX10_isTruth_152 rfl (Nat.le_of_ble_eq_true rfl) rfl ?_
                              refine pw_goto (tgt := 86) C dX10_isTruth_155 (by decide) ?_
                              exact pw_locs (by exact ⟨rfl, cat_vR _, rfl, cat_vR _, rfl, rfl, rfl, rfl, rfl, rfl, rfl, rfl, rfl, rfl, rfl, rfl, rfl, rfl, trivial⟩) (ih_86 (o + 1)  (by omega) (fnd_go (by omega) hf (fun q => by have := q.2; omega)) (by omega))
                            · skip
                              refine pw_iconst C dX10_isTruth_150 ?_
                              exact pw_zretE C hR dX10_isTruth_151 (by omega) rfl rfl ((bI_f (fun q => q.2 (by rw [← fnd_at (by omega) hf ⟨⟨c_96, c_105, c_115⟩, by omega⟩]; omega))).symm) (Nat.zero_le _) (Nat.zero_le _)
                      · skip
                        refine pw_goto (tgt := 152) C dX10_isTruth_118 (by decide) ?_
                        refine pw_iinc C dX10_isTruth_152 rfl (Nat.le_of_ble_eq_true rfl) rfl ?_
                        refine pw_goto (tgt := 86) C dX10_isTruth_155 (by decide) ?_
                        exact pw_locs (by exact ⟨rfl, cat_vR _, rfl, cat_vR _, rfl, rfl, rfl, rfl, rfl, rfl, rfl, rfl, rfl, rfl, rfl, rfl, rfl, rfl, trivial⟩) (ih_86 (o + 1)  (by omega) (fnd_go (by omega) hf (fun q => q.1.2.2 c_115)) (by omega))

set_option maxHeartbeats 4000000 in
set_option maxRecDepth 100000 in
theorem m_needsNow {X : Xv} {G M : Mm} {Q : Int} {A : An} {D : Fn} {I : Int → Int} (hM : RM G M Q A D I) (hA : AB A) {s f v w : Int} (hs9 : 0 ≤ s ∧ s < A 0 0 0) (hf9 : 0 ≤ f ∧ f < 4) (hv : 0 ≤ v ∧ v ≤ 99) (hw : 1 ≤ w ∧ w ≤ 3) : CT X yX10_needsNow prog_8_method_66_code 6 (some .int) 6 140 0 0 [vR Q, vI s, vI f, vI v, vI w] G M (PE G M (mNe (A 10) (A (100 + (s * 4 + f))) v w)) := by
  refine CT.by (by decide +kernel) [1, 1, 1, 1, 1] ⟨cat_vR _, cat_vI _, cat_vI _, cat_vI _, cat_vI _, trivial⟩ (Nat.le_of_ble_eq_true rfl) (fun E hX C hR hIni => ?_)
  have hn := hA.n
  have hnS := hA.so.c
  refine pw_iconst C dX10_needsNow_0 ?_
  refine pw_istore C dX10_needsNow_1 (Nat.le_of_ble_eq_true rfl) rfl ?_
  suffices K_3 : ∀ (nn_3 : Nat) (k : Int) , (0 ≤ k ∧ k ≤ 11) → (fnd (mTr (A 10) (A (100 + (s * 4 + f))) v w) k 11 = fnd (mTr (A 10) (A (100 + (s * 4 + f))) v w) 0 11) → 11 - k < (nn_3 : Int) → PW E G M 0 0 3 [(0, 1, vR Q), (1, 1, vI s), (2, 1, vI f), (3, 1, vI v), (4, 1, vI w), (5, 1, vI k)] [] from pw_locs (by exact ⟨rfl, cat_vR _, rfl, rfl, rfl, rfl, rfl, rfl, rfl, rfl, rfl, rfl, trivial⟩) (K_3 (11 - 0 + 1 : Int).toNat 0  (by omega) (by first | exact rfl | omega) (by omega))
  intro nn_3
  induction nn_3 with
  | zero => intro k h1 hf h_m3; exact absurd h_m3 (by omega)
  | succ nn_3 ih_3 =>
    intro k h1 hf h_m3
    refine pw_iload C dX10_needsNow_3 rfl ?_
    refine pw_bipush C dX10_needsNow_5 rfl ?_
    refine pw_icmp_gt (tgt := 37) C dX10_needsNow_7 (by decide) (by omega) (fun c_7 => ?_) (fun c_7 => ?_)
    · skip
      refine pw_iconst C dX10_needsNow_37 ?_
      exact pw_iretE C hR dX10_needsNow_38 rfl rfl (by unfold mNe; rw [← fnd_no (by omega) hf, if_neg (by omega)]) (Nat.zero_le _) (Nat.zero_le _)
    · skip
      refine pw_aload_n C dX10_needsNow_10 rfl ?_
      refine pw_aload_n C dX10_needsNow_11 rfl ?_
      refine pw_iload_n C dX10_needsNow_12 rfl ?_
      refine pw_iload_n C dX10_needsNow_13 rfl ?_
      refine pw_cVR C hX dX10_needsNow_14 ml_X10_123 mc_X10_fact (m_fact hM hA (s := s) (f := f) (by omega) (by omega)) kc_13 hM.k rfl rfl ⟨Nat.le_of_ble_eq_true rfl, Nat.le_of_ble_eq_true rfl⟩ (Nat.le_of_ble_eq_true rfl) ⟨Nat.le_of_ble_eq_true rfl, Nat.le_of_ble_eq_true rfl⟩ ?_
      refine pw_iload_n C dX10_needsNow_17 rfl ?_
      refine pw_iload C dX10_needsNow_18 rfl ?_
      refine pw_iload C dX10_needsNow_20 rfl ?_
      refine pw_cVE C hX dX10_needsNow_22 ml_X10_305 mc_X10_isTruth (m_isTruth hM hA (hM.fa (s * 4 + f) (by omega) (by omega)) (hA.fa (s * 4 + f) (by omega)).f0 (v := v) (w := w) (k := k) (by omega) (by omega) (by omega)) kc_13 hM.k rfl rfl ⟨Nat.le_of_ble_eq_true rfl, Nat.le_of_ble_eq_true rfl⟩ (Nat.le_of_ble_eq_true rfl) ⟨Nat.le_of_ble_eq_true rfl, Nat.le_of_ble_eq_true rfl⟩ ?_
      refine pw_ifB_eq (tgt := 31) C dX10_needsNow_25 (by decide) (fun c_25 => ?_) (fun c_25 => ?_)
      · skip
        refine pw_iinc C dX10_needsNow_31 rfl (Nat.le_of_ble_eq_true rfl) rfl ?_
        refine pw_goto (tgt := 3) C dX10_needsNow_34 (by decide) ?_
        exact pw_locs (by exact ⟨rfl, cat_vR _, rfl, rfl, rfl, rfl, rfl, rfl, rfl, rfl, rfl, rfl, trivial⟩) (ih_3 (k + 1)  (by omega) (fnd_go (by omega) hf c_25) (by omega))
      · skip
        refine pw_iload C dX10_needsNow_28 rfl ?_
        exact pw_iretE C hR dX10_needsNow_30 rfl rfl (by unfold mNe; rw [← fnd_at (by omega) hf c_25, if_pos (by omega)]) (Nat.zero_le _) (Nat.zero_le _)

