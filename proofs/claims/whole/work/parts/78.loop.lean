/-! ===== the law: the mean delay, the digest, the loop ===== -/
set_option maxHeartbeats 4000000 in
set_option maxRecDepth 100000 in
theorem law_meanDelay {E : Ev} {tb : List ExceptionTableEntry} {X : Xv} {b L : Nat} {xs : Nat → Int32} {B j i : Int} {k n : Nat} {G M : Mm} {A : An} {D : Fn} {I : Int → Int} (C : Cx E code 9 RL tb room_1) (hX : E.1 = X) (hS : SC E b L xs) {bb : Int} (hbb : bb = (b : Int)) (hL : L ≤ 3072) (hJ : LJ X B k n j G M A D I) (hj : 0 ≤ j ∧ j < 512) (hi : 0 ≤ i ∧ i + 6 ≤ (L : Int)) (hB : 0 ≤ B) (kk : ∀ (G' M' : Mm) (k' n' : Nat) (A' : An) (D' : Fn) (I' : Int → Int), LJ X B k' n' (j + 1) G' M' A' D' I' → PW E G' M' k' n' 1989 [(0, 1, vR bb), (1, 1, vR B), (2, 1, vR (B + 202)), (3, 1, vR (B + 207)), (4, 1, vI i)] []) : PW E G M k n 1626 [(0, 1, vR bb), (1, 1, vR B), (2, 1, vR (B + 202)), (3, 1, vR (B + 207)), (4, 1, vI i)] [] := by
  obtain ⟨hR, hM, hI, hE, ho, hKB, hn1⟩ := hJ
  have hnA := hI.1.1.n
  have hnS := hI.1.1.so.c
  have hk9 := hKB.room hnA.2.1.2 hj.2
  have hwt := WT_bd (A 0 0 1)
  have hq9 := hM.q
  refine pw_aload_n C dL_law_1626 rfl ?_
  refine pw_callV C hX dL_law_1627 ml_L_171 mc_X5_meanDelay (c_meanDelay hR hI.1.1) kc_8 hR.k rfl rfl ⟨Nat.le_of_ble_eq_true rfl, Nat.le_of_ble_eq_true rfl⟩ (Nat.le_of_ble_eq_true rfl) (by show k + 0 ≤ 790825 ∧ n + 0 ≤ 6723630; omega) (fun v1 G1 M1 hq_ => ?_)
  obtain ⟨hv1, hG1, hM1⟩ := hq_
  rw [hv1, hG1, hM1]
  clear hv1 hG1 hM1
  obtain ⟨x, hx⟩ : ∃ x, mdV (mdS A) = x := ⟨_, rfl⟩
  rw [hx]
  show PW E G M (k + 0) (n + 0) (1627 + 3) [(0, 1, vR bb), (1, 1, vR B), (2, 1, vR (B + 202)), (3, 1, vR (B + 207)), (4, 1, vI i)] [.double x]
  refine pw_dstore C dL_law_1630 (Nat.le_of_ble_eq_true rfl) rfl ?_
  refine pw_aload_n C dL_law_1632 rfl ?_
  refine pw_callV C hX dL_law_1633 ml_L_175 mc_X10_meanDelay (m_meanDelay hM hI.1.1 hI.1.2.1) kc_13 hM.k rfl rfl ⟨Nat.le_of_ble_eq_true rfl, Nat.le_of_ble_eq_true rfl⟩ (Nat.le_of_ble_eq_true rfl) (by show k + 0 + (A 0 0 1).toNat ≤ 790825 ∧ n + 0 + 4 * (A 0 0 1).toNat ≤ 6723630; omega) (fun v2 G2 M2 hq_ => ?_)
  obtain ⟨hv2, hk2⟩ := hq_
  rw [hv2, mdM_eq hI.1.1, hx]
  clear hv2
  have hF2 := hk2.fq (Q := B + 202) (by omega)
  have hM2 := hM.th.kp hk2
  obtain ⟨hR2, hE2, ho2, hout, hth⟩ := aftM hR hM hE ho hB hF2
  have hLn : LJ X B (k + 0 + (A 0 0 1).toNat) (n + 0 + 4 * (A 0 0 1).toNat) (j + 1) G2 M2 A D I := ⟨hR2, hM2, hI, hE2, ho2, hKB.go (c := A 0 0 1) (by omega) (Or.inl ⟨rfl, by omega⟩), by omega⟩
  refine pw_dstore C dL_law_1636 (Nat.le_of_ble_eq_true rfl) rfl ?_
  obtain ⟨c, hc⟩ : ∃ c, Op.cmpValue (FP.dcmp x x) .l = c := ⟨_, rfl⟩
  have b1 := Int32.le_toInt c
  have b2 := Int32.toInt_lt c
  have hb9 : -2147483648 ≤ c.toInt ∧ c.toInt ≤ 2147483647 := by omega
  have hend : ∀ ll, subL [(0, 1, vR bb), (1, 1, vR B), (2, 1, vR (B + 202)), (3, 1, vR (B + 207)), (4, 1, vI i)] ll → PW E G2 M2 (k + 0 + (A 0 0 1).toNat) (n + 0 + 4 * (A 0 0 1).toNat) 1664 ll [] := fun ll hll => by
    refine pw_goto (tgt := 1989) C dL_law_1664 (by decide) ?_
    exact pw_locs hll (kk _ _ _ _ _ _ _ hLn)
  refine pw_dload C dL_law_1638 rfl ?_
  refine pw_dload C dL_law_1640 rfl ?_
  refine pw_dcmp C dL_law_1642 ?_
  rw [hc]
  refine pw_top (v' := vI c.toInt) (congrArg Value.int (i32_of c).symm) ?_
  refine pw_if_eq (tgt := 1664) C dL_law_1643 (by decide) hb9 (fun c1 => ?_) (fun c1 => ?_)
  · exact hend _ (by exact ⟨rfl, cat_vR _, rfl, cat_vR _, rfl, cat_vR _, rfl, cat_vR _, rfl, rfl, trivial⟩)
  refine pw_dload C dL_law_1646 rfl ?_
  refine pw_dload C dL_law_1648 rfl ?_
  refine pw_dcmp C dL_law_1650 ?_
  rw [hc]
  refine pw_top (v' := vI c.toInt) (congrArg Value.int (i32_of c).symm) ?_
  refine pw_if_eq (tgt := 1662) C dL_law_1651 (by decide) hb9 (fun c2 => absurd c2 c1) (fun c2 => ?_)
  refine pw_dload C dL_law_1654 rfl ?_
  refine pw_dload C dL_law_1656 rfl ?_
  refine pw_dcmp C dL_law_1658 ?_
  rw [hc]
  refine pw_top (v' := vI c.toInt) (congrArg Value.int (i32_of c).symm) ?_
  refine pw_if_ne (tgt := 1664) C dL_law_1659 (by decide) hb9 (fun c3 => ?_) (fun c3 => absurd c3 c1)
  exact hend _ (by exact ⟨rfl, cat_vR _, rfl, cat_vR _, rfl, cat_vR _, rfl, cat_vR _, rfl, rfl, trivial⟩)
set_option maxHeartbeats 4000000 in
set_option maxRecDepth 100000 in
theorem law_digest {E : Ev} {tb : List ExceptionTableEntry} {X : Xv} {b L : Nat} {xs : Nat → Int32} {B j i : Int} {k n : Nat} {G M : Mm} {A : An} {D : Fn} {I : Int → Int} (C : Cx E code 9 RL tb room_1) (hX : E.1 = X) (hS : SC E b L xs) {bb : Int} (hbb : bb = (b : Int)) (hL : L ≤ 3072) (hJ : LJ X B k n j G M A D I) (hj : 0 ≤ j ∧ j < 512) (hi : 0 ≤ i ∧ i + 6 ≤ (L : Int)) (hB : 0 ≤ B) (kk : ∀ (G' M' : Mm) (k' n' : Nat) (A' : An) (D' : Fn) (I' : Int → Int), LJ X B k' n' (j + 1) G' M' A' D' I' → PW E G' M' k' n' 1989 [(0, 1, vR bb), (1, 1, vR B), (2, 1, vR (B + 202)), (3, 1, vR (B + 207)), (4, 1, vI i)] []) : PW E G M k n 1975 [(0, 1, vR bb), (1, 1, vR B), (2, 1, vR (B + 202)), (3, 1, vR (B + 207)), (4, 1, vI i)] [] := by
  obtain ⟨hR, hM, hI, hE, ho, hKB, hn1⟩ := hJ
  have hnA := hI.1.1.n
  have hnS := hI.1.1.so.c
  have hk9 := hKB.room hnA.2.1.2 hj.2
  have hwt := WT_bd (A 0 0 1)
  have hq9 := hM.q
  have hkd := kDg_bd hI.1.1
  refine pw_aload_n C dL_law_1975 rfl ?_
  refine pw_cVJ C hX dL_law_1976 ml_L_188 mc_X5_digest (c_digest hR hI.1.1) kc_8 hR.k rfl rfl ⟨Nat.le_of_ble_eq_true rfl, Nat.le_of_ble_eq_true rfl⟩ (Nat.le_of_ble_eq_true rfl) (by show k + 0 ≤ 790825 ∧ n + 0 ≤ 6723630; omega) (fun r1 G1 M1 hq_ => ?_)
  obtain ⟨hG1, hr1, hR1, hO1⟩ := hq_
  rw [← hG1] at hR1
  obtain ⟨hM1, hE1, ho1⟩ := aftW hM hE ho (Or.inl hG1) (fun b q1 q2 => ⟨fun f => hO1.f q1 f, fun j => hO1.j q1 j⟩)
  refine pw_aload_n C dL_law_1979 rfl ?_
  refine pw_cVJ C hX dL_law_1980 ml_L_192 mc_X10_digest (m_digest hM1 hI.1.1 hI.1.2.1 hE1) kc_13 hM1.k rfl rfl ⟨Nat.le_of_ble_eq_true rfl, Nat.le_of_ble_eq_true rfl⟩ (Nat.le_of_ble_eq_true rfl) (by show k + 0 + (kDg A).toNat ≤ 790825 ∧ n + 0 + (nDg A).toNat ≤ 6723630; omega) (fun r2 G2 M2 hq_ => ?_)
  obtain ⟨hr2, hk2⟩ := hq_
  have hF2 := hk2.fq (Q := B + 202) (by have := hM1.q; omega)
  have hM2 := hM1.th.kp hk2
  obtain ⟨hR2, hE2, ho2, hout, hth⟩ := aftM hR1 hM1 hE1 ho1 hB hF2
  have hLn : LJ X B (k + 0 + (kDg A).toNat) (n + 0 + (nDg A).toNat) (j + 1) G2 M2 A D I := ⟨hR2, hM2, hI, hE2, ho2, hKB.go (c := kDg A) (by omega) (Or.inl ⟨rfl, by omega⟩), by omega⟩
  refine pw_lcmpE C dL_law_1983 (hr1.trans ((mdig_eq hI.1.1 hI.1.2.1).symm.trans hr2.symm)) ?_
  refine pw_ifL_eq (tgt := 1989) C dL_law_1984 (by decide) rfl ?_
  exact pw_locs (by exact ⟨rfl, cat_vR _, rfl, cat_vR _, rfl, cat_vR _, rfl, cat_vR _, rfl, rfl, trivial⟩) (kk _ _ _ _ _ _ _ hLn)
set_option maxHeartbeats 4000000 in
set_option maxRecDepth 100000 in
theorem law_call {E : Ev} {tb : List ExceptionTableEntry} {X : Xv} {b L : Nat} {xs : Nat → Int32} {B j i : Int} {k n : Nat} {G M : Mm} {A : An} {D : Fn} {I : Int → Int} (C : Cx E code 9 RL tb room_1) (hX : E.1 = X) (hS : SC E b L xs) {bb : Int} (hbb : bb = (b : Int)) (hL : L ≤ 3072) (hJ : LJ X B k n j G M A D I) (hj : 0 ≤ j ∧ j < 512) (hi0 : 0 ≤ i) (hi1 : i + 6 ≤ (L : Int)) {z : Int} (hz : -2147483648 ≤ z ∧ z ≤ 2147483647) (hB : 0 ≤ B) (hbk : ∀ (G' M' : Mm) (k' n' : Nat) (A' : An) (D' : Fn) (I' : Int → Int), LJ X B k' n' (j + 1) G' M' A' D' I' → PW E G' M' k' n' 1989 [(0, 1, vR bb), (1, 1, vR B), (2, 1, vR (B + 202)), (3, 1, vR (B + 207)), (4, 1, vI i)] []) : PW E G M k n 40 [(0, 1, vR bb), (1, 1, vR B), (2, 1, vR (B + 202)), (3, 1, vR (B + 207)), (4, 1, vI i)] [vI z] := by
  by_cases hzz : 0 ≤ z ∧ z ≤ 25
  · rcases (show z = 0 ∨ z = 1 ∨ z = 2 ∨ z = 3 ∨ z = 4 ∨ z = 5 ∨ z = 6 ∨ z = 7 ∨ z = 8 ∨ z = 9 ∨ z = 10 ∨ z = 11 ∨ z = 12 ∨ z = 13 ∨ z = 14 ∨ z = 15 ∨ z = 16 ∨ z = 17 ∨ z = 18 ∨ z = 19 ∨ z = 20 ∨ z = 21 ∨ z = 22 ∨ z = 23 ∨ z = 24 ∨ z = 25 by omega) with rfl | rfl | rfl | rfl | rfl | rfl | rfl | rfl | rfl | rfl | rfl | rfl | rfl | rfl | rfl | rfl | rfl | rfl | rfl | rfl | rfl | rfl | rfl | rfl | rfl | rfl
    · skip
      refine pw_swin (tgt := 160) C dL_law_40 (by decide) (by decide) (by decide) rfl (by decide) ?_
      exact law_source C hX hS hbb hL hJ hj ⟨hi0, by omega⟩ hB hbk
    · skip
      refine pw_swin (tgt := 228) C dL_law_40 (by decide) (by decide) (by decide) rfl (by decide) ?_
      exact law_story C hX hS hbb hL hJ hj ⟨hi0, by omega⟩ hB hbk
    · skip
      refine pw_swin (tgt := 272) C dL_law_40 (by decide) (by decide) (by decide) rfl (by decide) ?_
      exact law_line C hX hS hbb hL hJ hj ⟨hi0, by omega⟩ hB hbk
    · skip
      refine pw_swin (tgt := 340) C dL_law_40 (by decide) (by decide) (by decide) rfl (by decide) ?_
      exact law_report C hX hS hbb hL hJ hj ⟨hi0, by omega⟩ hB hbk
    · skip
      refine pw_swin (tgt := 432) C dL_law_40 (by decide) (by decide) (by decide) rfl (by decide) ?_
      exact law_retract C hX hS hbb hL hJ hj ⟨hi0, by omega⟩ hB hbk
    · skip
      refine pw_swin (tgt := 512) C dL_law_40 (by decide) (by decide) (by decide) rfl (by decide) ?_
      exact law_rival C hX hS hbb hL hJ hj ⟨hi0, by omega⟩ hB hbk
    · skip
      refine pw_swin (tgt := 587) C dL_law_40 (by decide) (by decide) (by decide) rfl (by decide) ?_
      exact law_down C hX hS hbb hL hJ hj ⟨hi0, by omega⟩ hB hbk
    · skip
      refine pw_swin (tgt := 655) C dL_law_40 (by decide) (by decide) (by decide) rfl (by decide) ?_
      exact law_file C hX hS hbb hL hJ hj ⟨hi0, by omega⟩ hB hbk
    · skip
      refine pw_swin (tgt := 775) C dL_law_40 (by decide) (by decide) (by decide) rfl (by decide) ?_
      exact law_correct C hX hS hbb hL hJ hj ⟨hi0, by omega⟩ hB hbk
    · skip
      refine pw_swin (tgt := 843) C dL_law_40 (by decide) (by decide) (by decide) rfl (by decide) ?_
      exact law_kill C hX hS hbb hL hJ hj ⟨hi0, by omega⟩ hB hbk
    · skip
      refine pw_swin (tgt := 899) C dL_law_40 (by decide) (by decide) (by decide) rfl (by decide) ?_
      exact law_pass C hX hS hbb hL hJ hj ⟨hi0, by omega⟩ hB hbk
    · skip
      refine pw_swin (tgt := 955) C dL_law_40 (by decide) (by decide) (by decide) rfl (by decide) ?_
      exact law_areIndependent C hX hS hbb hL hJ hj ⟨hi0, by omega⟩ hB hbk
    · skip
      refine pw_swin (tgt := 1030) C dL_law_40 (by decide) (by decide) (by decide) rfl (by decide) ?_
      exact law_ofFact C hX hS hbb hL hJ hj ⟨hi0, by omega⟩ hB hbk
    · skip
      refine pw_swin (tgt := 1110) C dL_law_40 (by decide) (by decide) (by decide) rfl (by decide) ?_
      exact law_proof C hX hS hbb hL hJ hj ⟨hi0, by omega⟩ hB hbk
    · skip
      refine pw_swin (tgt := 1218) C dL_law_40 (by decide) (by decide) (by decide) rfl (by decide) ?_
      exact law_ofTake C hX hS hbb hL hJ hj ⟨hi0, by omega⟩ hB hbk
    · skip
      refine pw_swin (tgt := 1286) C dL_law_40 (by decide) (by decide) (by decide) rfl (by decide) ?_
      exact law_says C hX hS hbb hL hJ hj ⟨hi0, by omega⟩ hB hbk
    · skip
      refine pw_swin (tgt := 1354) C dL_law_40 (by decide) (by decide) (by decide) rfl (by decide) ?_
      exact law_state C hX hS hbb hL hJ hj ⟨hi0, by omega⟩ hB hbk
    · skip
      refine pw_swin (tgt := 1422) C dL_law_40 (by decide) (by decide) (by decide) rfl (by decide) ?_
      exact law_tells C hX hS hbb hL hJ hj ⟨hi0, by omega⟩ hB hbk
    · skip
      refine pw_swin (tgt := 1502) C dL_law_40 (by decide) (by decide) (by decide) rfl (by decide) ?_
      exact law_ofLine C hX hS hbb hL hJ hj ⟨hi0, by omega⟩ hB hbk
    · skip
      refine pw_swin (tgt := 1570) C dL_law_40 (by decide) (by decide) (by decide) rfl (by decide) ?_
      exact law_many C hX hS hbb hL hJ hj ⟨hi0, by omega⟩ hB hbk
    · skip
      refine pw_swin (tgt := 1626) C dL_law_40 (by decide) (by decide) (by decide) rfl (by decide) ?_
      exact law_meanDelay C hX hS hbb hL hJ hj ⟨hi0, by omega⟩ hB hbk
    · skip
      refine pw_swin (tgt := 1667) C dL_law_40 (by decide) (by decide) (by decide) rfl (by decide) ?_
      exact law_arrives C hX hS hbb hL hJ hj ⟨hi0, by omega⟩ hB hbk
    · skip
      refine pw_swin (tgt := 1735) C dL_law_40 (by decide) (by decide) (by decide) rfl (by decide) ?_
      exact law_wouldArrive C hX hS hbb hL hJ hj ⟨hi0, by omega⟩ hB hbk
    · skip
      refine pw_swin (tgt := 1815) C dL_law_40 (by decide) (by decide) (by decide) rfl (by decide) ?_
      exact law_needs C hX hS hbb hL hJ hj ⟨hi0, by omega⟩ hB hbk
    · skip
      refine pw_swin (tgt := 1907) C dL_law_40 (by decide) (by decide) (by decide) rfl (by decide) ?_
      exact law_lead C hX hS hbb hL hJ hj ⟨hi0, by omega⟩ hB hbk
    · skip
      refine pw_swin (tgt := 1975) C dL_law_40 (by decide) (by decide) (by decide) rfl (by decide) ?_
      exact law_digest C hX hS hbb hL hJ hj ⟨hi0, by omega⟩ hB hbk
  · refine pw_swout (tgt := 1989) C dL_law_40 hz (by omega) (by decide) ?_
    obtain ⟨hR, hM, hI, hE, ho, hKB, hn1⟩ := hJ
    exact hbk _ _ _ _ _ _ _ ⟨hR, hM, hI, hE, ho, hKB.go (c := 0) (by omega) (Or.inl ⟨rfl, by have := WT_bd (A 0 0 1); omega⟩), by omega⟩
set_option maxHeartbeats 4000000 in
set_option maxRecDepth 100000 in
theorem law_loop {E : Ev} {tb : List ExceptionTableEntry} {X : Xv} {b L : Nat} {xs : Nat → Int32} {B : Int} (C : Cx E code 9 RL tb room_1) (hX : E.1 = X) (hS : SC E b L xs) {bb : Int} (hbb : bb = (b : Int)) (hL : L ≤ 3072) (hB : 0 ≤ B) (hEnd : ∀ (G M : Mm) (k n : Nat) (ll : List LE), k ≤ 597000 → n ≤ 6660000 → PW E G M k n 1996 ll [vI 1]) : ∀ (N : Nat) (j i : Int) (k n : Nat) (G M : Mm) (A : An) (D : Fn) (I : Int → Int), LJ X B k n j G M A D I → 0 ≤ j → i = 6 * j → i ≤ (L : Int) → (L : Int) < 6 * (j + (N : Int)) → PW E G M k n 23 [(0, 1, vR bb), (1, 1, vR B), (2, 1, vR (B + 202)), (3, 1, vR (B + 207)), (4, 1, vI i)] [] := by
  intro N
  induction N with
  | zero => intro j i k n G M A D I hJ h1 h2 h3 h4; exfalso; omega
  | succ N ih =>
    intro j i k n G M A D I hJ h1 h2 h3 h4
    refine pw_iload C dL_law_23 rfl ?_
    refine pw_aload_n C dL_law_25 rfl ?_
    refine pw_slen C hS hbb dL_law_26 ?_
    refine pw_bipush C dL_law_27 rfl ?_
    refine pw_isub C dL_law_29 ?_
    refine pw_icmp_gt (tgt := 1995) C dL_law_30 (by decide) (by omega) (fun c1 => ?_) (fun c1 => ?_)
    · refine pw_iconst C dL_law_1995 ?_
      obtain ⟨hR, hM, hI, hE, ho, hKB, hn1⟩ := hJ
      have hnA := hI.1.1.n
      have := hKB.end_ hnA.2.1.2 (by omega)
      exact hEnd _ _ _ _ _ (by omega) (by omega)
    · refine pw_aload_n C dL_law_33 rfl ?_
      refine pw_iload C dL_law_34 rfl ?_
      refine pw_sld C hS hbb dL_law_36 (by omega) hL ?_
      refine pw_bipush C dL_law_37 rfl ?_
      refine pw_iand C dL_law_39 ?_
      obtain ⟨c, hc⟩ : ∃ c : Int32, Int32.ofInt (sc xs i) &&& Int32.ofInt 31 = c := ⟨_, rfl⟩
      rw [hc]
      refine pw_top (v' := vI c.toInt) (congrArg Value.int (i32_of c).symm) ?_
      have b1 := Int32.le_toInt c
      have b2 := Int32.toInt_lt c
      refine law_call C hX hS hbb hL hJ ⟨h1, by omega⟩ (by omega) (by omega) (by omega) hB (fun G' M' k' n' A' D' I' hJ' => ?_)
      refine pw_iinc C dL_law_1989 rfl (Nat.le_of_ble_eq_true rfl) rfl ?_
      refine pw_goto (tgt := 23) C dL_law_1992 (by decide) ?_
      refine pw_locs (ll' := [(0, 1, vR bb), (1, 1, vR B), (2, 1, vR (B + 202)), (3, 1, vR (B + 207)), (4, 1, vI (i + 6))]) (by exact ⟨rfl, cat_vR _, rfl, cat_vR _, rfl, cat_vR _, rfl, cat_vR _, rfl, rfl, trivial⟩) ?_
      exact ih (j + 1) (i + 6) k' n' G' M' A' D' I' hJ' (by omega) (by omega) (by omega) (by omega)
