/-! ===== the model: of all; the mean delay; its lines ===== -/
def mnM (A : An) (w : Int) : Int := if w = 7 then mfc A 0 else if w = 8 then mfc A 1 else mny A w
def kMn (A : An) (w : Int) : Int := if w = 5 ∨ w = 6 then 1 else if w = 9 then nWA A else 0
/-- the mean delay, takes first -/
def mdM (A : An) : Int × Int := fr (fun t s => fr (fun l s => mdF A l t s) 0 (A 0 0 2) s) 0 (A 0 0 1) (0, 0)
set_option maxHeartbeats 4000000 in
set_option maxRecDepth 100000 in
theorem m_manyNow {X : Xv} {G M : Mm} {Q : Int} {A : An} {D : Fn} {I : Int → Int} (hM : RM G M Q A D I) (hA : AB A) (hW : WF A) {w : Int} (hw9 : 0 ≤ w ∧ w ≤ 10) : CT X yX10_manyNow prog_8_method_58_code 2 (some .int) 9 207 ((kMn A w).toNat) (4 * (kMn A w).toNat) [vR Q, vI w] G M (PI (fun r G1 M1 => r = mnM A w ∧ Kp G M G1 M1)) := by
  refine CT.by (by decide +kernel) [1, 1] ⟨cat_vR _, cat_vI _, trivial⟩ (Nat.le_of_ble_eq_true rfl) (fun E hX C hR hIni => ?_)
  have hn := hA.n
  have hnS := hA.so.c
  have hq9 := hM.q
  have hK0 : Kp G M G M := Kp.rf
  have hk5 : (w = 5 ∨ w = 6) → kMn A w = 1 := fun h => if_pos h
  have hk9 : w = 9 → kMn A w = nWA A := fun h => by unfold kMn; rw [if_neg (by omega), if_pos h]
  refine pw_iload_n C dX10_manyNow_0 rfl ?_
  by_cases c_1 : 0 ≤ w ∧ w ≤ 9
  · rcases (show w = 0 ∨ w = 1 ∨ w = 2 ∨ w = 3 ∨ w = 4 ∨ w = 5 ∨ w = 6 ∨ w = 7 ∨ w = 8 ∨ w = 9 from by omega) with c_1 | c_1 | c_1 | c_1 | c_1 | c_1 | c_1 | c_1 | c_1 | c_1
    · refine pw_swin (tgt := 56) (off := 55) C dX10_manyNow_1 (by omega) (by omega) (by omega) (by rw [c_1]; rfl) (by decide) ?_
      refine pw_aload_n C dX10_manyNow_56 rfl ?_
      refine pw_getE C dX10_manyNow_57 fl_X10_130 rfl hM.k hM.w ?_
      exact pw_iret C hR dX10_manyNow_60 (⟨_, rfl, by have e : w = 0 := (by omega); subst e; rfl, hK0⟩) (by omega) (by omega)
    · refine pw_swin (tgt := 61) (off := 60) C dX10_manyNow_1 (by omega) (by omega) (by omega) (by rw [c_1]; rfl) (by decide) ?_
      refine pw_aload_n C dX10_manyNow_61 rfl ?_
      refine pw_getR C dX10_manyNow_62 fl_X10_10 hM.k rfl hM.r1 ?_
      refine pw_cVE C hX dX10_manyNow_65 ml_X10_33 mc_Jx4a65c_size_8abf5 (c_size hM.l1) kc_2 hM.l1.k rfl rfl ⟨Nat.le_of_ble_eq_true rfl, Nat.le_of_ble_eq_true rfl⟩ (Nat.le_of_ble_eq_true rfl) (show 0 + 0 ≤ (kMn A w).toNat ∧ 0 + 0 ≤ 4 * (kMn A w).toNat by omega) ?_
      exact pw_iret C hR dX10_manyNow_68 (⟨_, rfl, by have e : w = 1 := (by omega); subst e; rfl, hK0⟩) (by omega) (by omega)
    · refine pw_swin (tgt := 69) (off := 68) C dX10_manyNow_1 (by omega) (by omega) (by omega) (by rw [c_1]; rfl) (by decide) ?_
      refine pw_aload_n C dX10_manyNow_69 rfl ?_
      refine pw_getR C dX10_manyNow_70 fl_X10_16 hM.k rfl hM.r2 ?_
      refine pw_cVE C hX dX10_manyNow_73 ml_X10_33 mc_Jx4a65c_size_8abf5 (c_size hM.l2) kc_2 hM.l2.k rfl rfl ⟨Nat.le_of_ble_eq_true rfl, Nat.le_of_ble_eq_true rfl⟩ (Nat.le_of_ble_eq_true rfl) (show 0 + 0 ≤ (kMn A w).toNat ∧ 0 + 0 ≤ 4 * (kMn A w).toNat by omega) ?_
      exact pw_iret C hR dX10_manyNow_76 (⟨_, rfl, by have e : w = 2 := (by omega); subst e; rfl, hK0⟩) (by omega) (by omega)
    · refine pw_swin (tgt := 77) (off := 76) C dX10_manyNow_1 (by omega) (by omega) (by omega) (by rw [c_1]; rfl) (by decide) ?_
      refine pw_aload_n C dX10_manyNow_77 rfl ?_
      refine pw_getR C dX10_manyNow_78 fl_X10_22 hM.k rfl hM.r4 ?_
      refine pw_cVE C hX dX10_manyNow_81 ml_X10_33 mc_Jx4a65c_size_8abf5 (c_size hM.l4) kc_2 hM.l4.k rfl rfl ⟨Nat.le_of_ble_eq_true rfl, Nat.le_of_ble_eq_true rfl⟩ (Nat.le_of_ble_eq_true rfl) (show 0 + 0 ≤ (kMn A w).toNat ∧ 0 + 0 ≤ 4 * (kMn A w).toNat by omega) ?_
      exact pw_iret C hR dX10_manyNow_84 (⟨_, rfl, by have e : w = 3 := (by omega); subst e; rfl, hK0⟩) (by omega) (by omega)
    · refine pw_swin (tgt := 85) (off := 84) C dX10_manyNow_1 (by omega) (by omega) (by omega) (by rw [c_1]; rfl) (by decide) ?_
      refine pw_aload_n C dX10_manyNow_85 rfl ?_
      refine pw_getR C dX10_manyNow_86 fl_X10_19 hM.k rfl hM.r3 ?_
      refine pw_cVE C hX dX10_manyNow_89 ml_X10_33 mc_Jx4a65c_size_8abf5 (c_size hM.l3) kc_2 hM.l3.k rfl rfl ⟨Nat.le_of_ble_eq_true rfl, Nat.le_of_ble_eq_true rfl⟩ (Nat.le_of_ble_eq_true rfl) (show 0 + 0 ≤ (kMn A w).toNat ∧ 0 + 0 ≤ 4 * (kMn A w).toNat by omega) ?_
      exact pw_iret C hR dX10_manyNow_92 (⟨_, rfl, by have e : w = 4 := (by omega); subst e; rfl, hK0⟩) (by omega) (by omega)
    · refine pw_swin (tgt := 93) (off := 92) C dX10_manyNow_1 (by omega) (by omega) (by omega) (by rw [c_1]; rfl) (by decide) ?_
      refine pw_aload_n C dX10_manyNow_93 rfl ?_
      refine pw_iconst C dX10_manyNow_94 ?_
      refine pw_cVI C hX dX10_manyNow_95 ml_X10_280 mc_X10_takesOf (m_takesOfN hM hA hW) kc_13 hM.k rfl rfl ⟨Nat.le_of_ble_eq_true rfl, Nat.le_of_ble_eq_true rfl⟩ (Nat.le_of_ble_eq_true rfl) (show 0 + 1 ≤ (kMn A w).toNat ∧ 0 + 4 ≤ 4 * (kMn A w).toNat by omega) (fun r_ G1 M2 hq_ => ?_)
      obtain ⟨rfl, hk_⟩ := hq_
      have hK2 := hK0.tr hk_
      have hM2 := hM.kp hK2
      clear hk_
      exact pw_iret C hR dX10_manyNow_98 (⟨_, rfl, by have e : w = 5 := (by omega); subst e; rfl, hK2⟩) (by show 0 + _ ≤ _; omega) (by show 0 + _ ≤ _; omega)
    · refine pw_swin (tgt := 99) (off := 98) C dX10_manyNow_1 (by omega) (by omega) (by omega) (by rw [c_1]; rfl) (by decide) ?_
      refine pw_aload_n C dX10_manyNow_99 rfl ?_
      refine pw_iconst C dX10_manyNow_100 ?_
      refine pw_cVI C hX dX10_manyNow_101 ml_X10_280 mc_X10_takesOf (m_takesOfC hM hA hW) kc_13 hM.k rfl rfl ⟨Nat.le_of_ble_eq_true rfl, Nat.le_of_ble_eq_true rfl⟩ (Nat.le_of_ble_eq_true rfl) (show 0 + 1 ≤ (kMn A w).toNat ∧ 0 + 4 ≤ 4 * (kMn A w).toNat by omega) (fun r_ G3 M4 hq_ => ?_)
      obtain ⟨rfl, hk_⟩ := hq_
      have hK4 := hK0.tr hk_
      have hM4 := hM.kp hK4
      clear hk_
      exact pw_iret C hR dX10_manyNow_104 (⟨_, rfl, by have e : w = 6 := (by omega); subst e; rfl, hK4⟩) (by show 0 + _ ≤ _; omega) (by show 0 + _ ≤ _; omega)
    · refine pw_swin (tgt := 105) (off := 104) C dX10_manyNow_1 (by omega) (by omega) (by omega) (by rw [c_1]; rfl) (by decide) ?_
      refine pw_aload_n C dX10_manyNow_105 rfl ?_
      refine pw_iload_n C dX10_manyNow_106 rfl ?_
      refine pw_bipush C dX10_manyNow_107 rfl ?_
      refine pw_isub C dX10_manyNow_109 ?_
      rw [show w - 7 = 0 by omega]
      refine pw_cVE C hX dX10_manyNow_110 ml_X10_283 mc_X10_facts (m_facts0 hM hA hW) kc_13 hM.k rfl rfl ⟨Nat.le_of_ble_eq_true rfl, Nat.le_of_ble_eq_true rfl⟩ (Nat.le_of_ble_eq_true rfl) (show 0 + 0 ≤ (kMn A w).toNat ∧ 0 + 0 ≤ 4 * (kMn A w).toNat by omega) ?_
      exact pw_iret C hR dX10_manyNow_113 (⟨_, rfl, by have e : w = 7 := (by omega); subst e; rfl, hK0⟩) (by omega) (by omega)
    · refine pw_swin (tgt := 105) (off := 104) C dX10_manyNow_1 (by omega) (by omega) (by omega) (by rw [c_1]; rfl) (by decide) ?_
      refine pw_aload_n C dX10_manyNow_105 rfl ?_
      refine pw_iload_n C dX10_manyNow_106 rfl ?_
      refine pw_bipush C dX10_manyNow_107 rfl ?_
      refine pw_isub C dX10_manyNow_109 ?_
      rw [show w - 7 = 1 by omega]
      refine pw_cVE C hX dX10_manyNow_110 ml_X10_283 mc_X10_facts (m_facts1 hM hA hW) kc_13 hM.k rfl rfl ⟨Nat.le_of_ble_eq_true rfl, Nat.le_of_ble_eq_true rfl⟩ (Nat.le_of_ble_eq_true rfl) (show 0 + 0 ≤ (kMn A w).toNat ∧ 0 + 0 ≤ 4 * (kMn A w).toNat by omega) ?_
      exact pw_iret C hR dX10_manyNow_113 (⟨_, rfl, by have e : w = 8 := (by omega); subst e; rfl, hK0⟩) (by omega) (by omega)
    · refine pw_swin (tgt := 105) (off := 104) C dX10_manyNow_1 (by omega) (by omega) (by omega) (by rw [c_1]; rfl) (by decide) ?_
      refine pw_aload_n C dX10_manyNow_105 rfl ?_
      refine pw_iload_n C dX10_manyNow_106 rfl ?_
      refine pw_bipush C dX10_manyNow_107 rfl ?_
      refine pw_isub C dX10_manyNow_109 ?_
      rw [show w - 7 = 2 by omega]
      refine pw_cVI C hX dX10_manyNow_110 ml_X10_283 mc_X10_facts (m_facts2 hM hA hW) kc_13 hM.k rfl rfl ⟨Nat.le_of_ble_eq_true rfl, Nat.le_of_ble_eq_true rfl⟩ (Nat.le_of_ble_eq_true rfl) (show 0 + (nWA A).toNat ≤ (kMn A w).toNat ∧ 0 + 4 * (nWA A).toNat ≤ 4 * (kMn A w).toNat by omega) (fun r_ G5 M6 hq_ => ?_)
      obtain ⟨rfl, hk_⟩ := hq_
      have hK6 := hK0.tr hk_
      have hM6 := hM.kp hK6
      clear hk_
      exact pw_iret C hR dX10_manyNow_113 (⟨_, rfl, by have e : w = 9 := (by omega); subst e; rfl, hK6⟩) (by show 0 + _ ≤ _; omega) (by show 0 + _ ≤ _; omega)
  · refine pw_swout (tgt := 114) C dX10_manyNow_1 (by omega) (by omega) (by decide) ?_
    refine pw_aload_n C dX10_manyNow_114 rfl ?_
    refine pw_cVE C hX dX10_manyNow_115 ml_X10_285 mc_X10_wrong (m_wrong hM hA hW) kc_13 hM.k rfl rfl ⟨Nat.le_of_ble_eq_true rfl, Nat.le_of_ble_eq_true rfl⟩ (Nat.le_of_ble_eq_true rfl) (show 0 + 0 ≤ (kMn A w).toNat ∧ 0 + 0 ≤ 4 * (kMn A w).toNat by omega) ?_
    exact pw_iret C hR dX10_manyNow_118 (⟨_, rfl, by have e : w = 10 := (by omega); subst e; rfl, hK0⟩) (by omega) (by omega)

set_option maxHeartbeats 4000000 in
set_option maxRecDepth 100000 in
theorem m_meanDelay {X : Xv} {G M : Mm} {Q : Int} {A : An} {D : Fn} {I : Int → Int} (hM : RM G M Q A D I) (hA : AB A) (hW : WF A) : CT X yX10_meanDelay prog_8_method_60_code 6 (some .double) 3 64 ((A 0 0 1).toNat) (4 * (A 0 0 1).toNat) [vR Q] G M (fun v G1 M1 => v = some (.double (mdV (mdM A))) ∧ Kp G (mup M 0 240 Q 0) G1 M1) := by
  refine CT.by (by decide +kernel) [1] ⟨cat_vR _, trivial⟩ (Nat.le_of_ble_eq_true rfl) (fun E hX C hR hIni => ?_)
  have hn := hA.n
  have hnS := hA.so.c
  have hq9 := hM.q
  refine pw_aload_n C dX10_meanDelay_0 rfl ?_
  refine pw_iconst C dX10_meanDelay_1 ?_
  refine pw_putI C dX10_meanDelay_2 fl_X10_25 (fun h => by cases h) hM.k rfl ?_
  have hM0 := hM.th (x := 0)
  generalize mup M 0 240 Q 0 = M0 at hM0 hR ⊢
  clear hM
  have hM := hM0
  have hK0 : Kp G M0 G M0 := Kp.rf
  refine pw_iconst C dX10_meanDelay_5 ?_
  refine pw_istore_n C dX10_meanDelay_6 (Nat.le_of_ble_eq_true rfl) rfl ?_
  refine pw_iconst C dX10_meanDelay_7 ?_
  refine pw_istore_n C dX10_meanDelay_8 (Nat.le_of_ble_eq_true rfl) rfl ?_
  refine pw_iconst C dX10_meanDelay_9 ?_
  refine pw_istore_n C dX10_meanDelay_10 (Nat.le_of_ble_eq_true rfl) rfl ?_
  suffices K_11 : ∀ (nn_11 : Nat) (d u t : Int) (Gc : Mm) (Mc : Mm) (kc : Nat) (nc : Nat), (Kp G M0 Gc Mc) → (0 ≤ t ∧ t ≤ A 0 0 1) → (0 ≤ d ∧ d ≤ 4 * t) → (fr (fun t s => fr (fun l s => mdF A l t s) 0 (A 0 0 2) s) t (A 0 0 1) (u, d) = mdM A) → ((kc : Int) = t) → (nc = 4 * kc) → A 0 0 1 - t < (nn_11 : Int) → PW E Gc Mc kc nc 11 [(0, 1, vR Q), (1, 1, vI d), (2, 1, vI u), (3, 1, vI t)] [] from pw_locs (by exact ⟨rfl, cat_vR _, rfl, rfl, rfl, rfl, rfl, rfl, trivial⟩) (K_11 (A 0 0 1 - 0 + 1 : Int).toNat 0 0 0 G M0 0 0 (by first | exact hK0 | omega) (by omega) (by omega) (by first | exact rfl | omega) (by omega) (by omega) (by omega))
  intro nn_11
  induction nn_11 with
  | zero => intro d u t Gc Mc kc nc hKc h1 h2 hf hkc hnc h_m11; exact absurd h_m11 (by omega)
  | succ nn_11 ih_11 =>
    intro d u t Gc Mc kc nc hKc h1 h2 hf hkc hnc h_m11
    have hMc := hM.kp hKc
    refine pw_iload_n C dX10_meanDelay_11 rfl ?_
    refine pw_aload_n C dX10_meanDelay_12 rfl ?_
    refine pw_getR C dX10_meanDelay_13 fl_X10_19 hMc.k rfl hMc.r3 ?_
    refine pw_cVE C hX dX10_meanDelay_16 ml_X10_33 mc_Jx4a65c_size_8abf5 (c_size hMc.l3) kc_2 hMc.l3.k rfl rfl ⟨Nat.le_of_ble_eq_true rfl, Nat.le_of_ble_eq_true rfl⟩ (Nat.le_of_ble_eq_true rfl) (show kc + 0 ≤ (A 0 0 1).toNat ∧ nc + 0 ≤ 4 * (A 0 0 1).toNat by omega) ?_
    refine pw_icmp_ge (tgt := 118) C dX10_meanDelay_19 (by decide) (by omega) (fun c_19 => ?_) (fun c_19 => ?_)
    · skip
      refine pw_iload_n C dX10_meanDelay_118 rfl ?_
      refine pw_if_ne (tgt := 126) C dX10_meanDelay_119 (by decide) (by omega) (fun c_119 => ?_) (fun c_119 => ?_)
      · skip
        refine pw_iload_n C dX10_meanDelay_126 rfl ?_
        refine pw_i2d (x := Int32.ofInt u) C dX10_meanDelay_127 ?_
        refine pw_iload_n C dX10_meanDelay_128 rfl ?_
        refine pw_i2d (x := Int32.ofInt d) C dX10_meanDelay_129 ?_
        refine pw_ddiv C dX10_meanDelay_130 (nn_div (i32_ne0 (by omega))) ?_
        exact pw_dret C hR dX10_meanDelay_131 (⟨by rw [← fr_done (by omega) hf]; unfold mdV; rw [if_neg c_119], hKc⟩) (by omega) (by omega)
      · skip
        refine pw_dconst0 C dX10_meanDelay_122 ?_
        refine pw_goto (tgt := 131) C dX10_meanDelay_123 (by decide) ?_
        exact pw_dret C hR dX10_meanDelay_131 (⟨by rw [← fr_done (by omega) hf]; unfold mdV; rw [if_pos c_119], hKc⟩) (by omega) (by omega)
    · skip
      refine pw_aload_n C dX10_meanDelay_22 rfl ?_
      refine pw_getR C dX10_meanDelay_23 fl_X10_22 hMc.k rfl hMc.r4 ?_
      refine pw_cVQ C hX dX10_meanDelay_26 ml_X10_139 mc_Jx4a65c_iterator_32c93 (c_iterator hMc.l4) kc_2 hMc.l4.k rfl rfl ⟨Nat.le_of_ble_eq_true rfl, Nat.le_of_ble_eq_true rfl⟩ (Nat.le_of_ble_eq_true rfl) (show kc + 1 ≤ (A 0 0 1).toNat ∧ nc + 4 ≤ 4 * (A 0 0 1).toNat by omega) (fun it2 G1 M2 hq_ => ?_)
      obtain ⟨hit2, hI2, hT2, hk_⟩ := hq_
      have hK2 := hKc.tr hk_
      have hM2 := hM.kp hK2
      have hi2 : G 4 0 0 ≤ it2 := by have q_ := hKc.2; omega
      clear hk_ hT2 hit2
      refine pw_astore C dX10_meanDelay_29 (Nat.le_of_ble_eq_true rfl) rfl ?_
      suffices K_31 : ∀ (nn_31 : Nat) (e v : Int) (Gd : Mm) (Md : Mm) (c : Int), (0 ≤ c ∧ c ≤ A 0 0 2) → (IT Gd Md it2 (Q + 4) c) → (Kp G M0 Gd Md) → (0 ≤ e ∧ e ≤ d + c) → (fr (fun l s => mdF A l t s) c (A 0 0 2) (v, e) = fr (fun l s => mdF A l t s) 0 (A 0 0 2) (u, d)) → A 0 0 2 - c < (nn_31 : Int) → PW E Gd Md (kc + 1) (nc + 4) 31 [(0, 1, vR Q), (1, 1, vI e), (2, 1, vI v), (3, 1, vI t), (4, 1, vR it2)] [] from pw_locs (by exact ⟨rfl, cat_vR _, rfl, rfl, rfl, rfl, rfl, rfl, rfl, cat_vR _, trivial⟩) (K_31 (A 0 0 2 - 0 + 1 : Int).toNat d u G1 M2 0 (by omega) (by first | exact hI2 | omega) (by first | exact hK2 | omega) (by omega) (by first | exact rfl | omega) (by omega))
      intro nn_31
      induction nn_31 with
      | zero => intro e v Gd Md c hc_ hI_ hKd h3 hg h_m31; exact absurd h_m31 (by omega)
      | succ nn_31 ih_31 =>
        intro e v Gd Md c hc_ hI_ hKd h3 hg h_m31
        have hMd := hM.kp hKd
        refine pw_aload C dX10_meanDelay_31 rfl ?_
        refine pw_cFE C hX dX10_meanDelay_33 (List.mem_of_getElem? (i := 1251) (by decide +kernel)) mf_Jx35411_hasNext_aae02 (c_hasNext hMd.l4 hI_ (by omega)) kc_1 hI_.k rfl rfl ⟨Nat.le_of_ble_eq_true rfl, Nat.le_of_ble_eq_true rfl⟩ (Nat.le_of_ble_eq_true rfl) (show (kc + 1) + 0 ≤ (A 0 0 1).toNat ∧ (nc + 4) + 0 ≤ 4 * (A 0 0 1).toNat by omega) ?_
        refine pw_ifB_eq (tgt := 112) C dX10_meanDelay_38 (by decide) (fun c_38 => ?_) (fun c_38 => ?_)
        · skip
          refine pw_iinc C dX10_meanDelay_112 rfl (Nat.le_of_ble_eq_true rfl) rfl ?_
          refine pw_goto (tgt := 11) C dX10_meanDelay_115 (by decide) ?_
          exact pw_locs (by exact ⟨rfl, cat_vR _, rfl, rfl, rfl, rfl, rfl, rfl, trivial⟩) (ih_11 e v (t + 1) Gd Md (kc + 1) (nc + 4) (hKd) (by omega) (by omega) (fr_go (by omega) hf (by (try dsimp only); exact (fr_done (by omega) hg).symm)) (by omega) (by omega) (by omega))
        · skip
          refine pw_aload C dX10_meanDelay_41 rfl ?_
          refine pw_cFQ C hX dX10_meanDelay_43 (List.mem_of_getElem? (i := 1261) (by decide +kernel)) mf_Jx35411_next_0502b (c_next hMd.l4 hI_ (by omega)) kc_1 hI_.k rfl rfl ⟨Nat.le_of_ble_eq_true rfl, Nat.le_of_ble_eq_true rfl⟩ (Nat.le_of_ble_eq_true rfl) (show (kc + 1) + 0 ≤ (A 0 0 1).toNat ∧ (nc + 4) + 0 ≤ 4 * (A 0 0 1).toNat by omega) (fun r_ Gd M3 hq_ => ?_)
          obtain ⟨rfl, rfl, hx_⟩ := hq_
          rw [hMd.e4 c (by omega) (by omega)]
          have hI3 := hI_.nx (by omega)
          have hK3 : Kp G M0 Gd M3 := by rw [hx_]; exact hKd.w hi2 nx_agr rfl
          rw [← hx_] at hI3
          have hM3 := hM.kp hK3
          clear hx_
          refine pw_cast (Cn := "SlugwireModel$Line") C dX10_meanDelay_48 (List.mem_of_getElem? (i := 1067) (by decide +kernel)) (by rw [(hM3.li c (by omega) (by omega)).1]; exact kc_10) ?_
          refine pw_astore C dX10_meanDelay_51 (Nat.le_of_ble_eq_true rfl) rfl ?_
          refine pw_aload C dX10_meanDelay_53 rfl ?_
          refine pw_getR C dX10_meanDelay_55 fl_X10_194 (hM3.li c (by omega) (by omega)).1 rfl (hM3.li c (by omega) (by omega)).2.1.2.2 ?_
          refine pw_iload_n C dX10_meanDelay_58 rfl ?_
          refine pw_ialdE C dX10_meanDelay_59 (hM3.li c (by omega) (by omega)).2.2.2.2.1 (by omega) ((hM3.li c (by omega) (by omega)).2.2.2.2.2.2 t (by omega) (by omega)).2.2 ?_
          have b_59 := (hA.li c (by omega)).v3 t (by omega) (by omega)
          refine pw_iconst C dX10_meanDelay_60 ?_
          refine pw_icmp_eq (tgt := 109) C dX10_meanDelay_61 (by decide) (by omega) (fun c_61 => ?_) (fun c_61 => ?_)
          · skip
            refine pw_goto (tgt := 31) C dX10_meanDelay_109 (by decide) ?_
            exact pw_locs (by exact ⟨rfl, cat_vR _, rfl, rfl, rfl, rfl, rfl, rfl, rfl, cat_vR _, trivial⟩) (ih_31 e v Gd M3 (c + 1) (by omega) (hI3) (hK3) (by omega) (fr_go (by omega) hg (by unfold mdF; exact if_neg (by have := (hW.l c t (by omega) (by omega) (by omega) (by omega)).1; omega))) (by omega))
          · skip
            refine pw_iinc C dX10_meanDelay_64 rfl (Nat.le_of_ble_eq_true rfl) rfl ?_
            refine pw_iload_n C dX10_meanDelay_67 rfl ?_
            refine pw_aload C dX10_meanDelay_68 rfl ?_
            refine pw_getR C dX10_meanDelay_70 fl_X10_194 (hM3.li c (by omega) (by omega)).1 rfl (hM3.li c (by omega) (by omega)).2.1.2.2 ?_
            refine pw_iload_n C dX10_meanDelay_73 rfl ?_
            refine pw_ialdE C dX10_meanDelay_74 (hM3.li c (by omega) (by omega)).2.2.2.2.1 (by omega) ((hM3.li c (by omega) (by omega)).2.2.2.2.2.2 t (by omega) (by omega)).2.2 ?_
            have b_74 := (hA.li c (by omega)).v3 t (by omega) (by omega)
            refine pw_aload_n C dX10_meanDelay_75 rfl ?_
            refine pw_getR C dX10_meanDelay_76 fl_X10_19 hM3.k rfl hM3.r3 ?_
            refine pw_iload_n C dX10_meanDelay_79 rfl ?_
            refine pw_cVR C hX dX10_meanDelay_80 ml_X10_45 mc_Jx4a65c_get_915e3 (hM3.g3 (i := t) (by omega)) kc_2 hM3.l3.k rfl rfl ⟨Nat.le_of_ble_eq_true rfl, Nat.le_of_ble_eq_true rfl⟩ (Nat.le_of_ble_eq_true rfl) (show (kc + 1) + 0 ≤ (A 0 0 1).toNat ∧ (nc + 4) + 0 ≤ 4 * (A 0 0 1).toNat by omega) ?_
            refine pw_cast (Cn := "SlugwireModel$Take") C dX10_meanDelay_83 (List.mem_of_getElem? (i := 1149) (by decide +kernel)) (by rw [(hM3.ta t (by omega) (by omega)).1]; exact kc_12) ?_
            refine pw_getE C dX10_meanDelay_86 fl_X10_238 rfl (hM3.ta t (by omega) (by omega)).1 (hM3.ta t (by omega) (by omega)).2.2.2.1.2.2.2.2.2.2.2.1 ?_
            have b_86 := (hA.ta t (by omega)).s8
            refine pw_aload_n C dX10_meanDelay_89 rfl ?_
            refine pw_getR C dX10_meanDelay_90 fl_X10_19 hM3.k rfl hM3.r3 ?_
            refine pw_iload_n C dX10_meanDelay_93 rfl ?_
            refine pw_cVR C hX dX10_meanDelay_94 ml_X10_45 mc_Jx4a65c_get_915e3 (hM3.g3 (i := t) (by omega)) kc_2 hM3.l3.k rfl rfl ⟨Nat.le_of_ble_eq_true rfl, Nat.le_of_ble_eq_true rfl⟩ (Nat.le_of_ble_eq_true rfl) (show (kc + 1) + 0 ≤ (A 0 0 1).toNat ∧ (nc + 4) + 0 ≤ 4 * (A 0 0 1).toNat by omega) ?_
            refine pw_cast (Cn := "SlugwireModel$Take") C dX10_meanDelay_97 (List.mem_of_getElem? (i := 1149) (by decide +kernel)) (by rw [(hM3.ta t (by omega) (by omega)).1]; exact kc_12) ?_
            refine pw_getE C dX10_meanDelay_100 fl_X10_229 rfl (hM3.ta t (by omega) (by omega)).1 (hM3.ta t (by omega) (by omega)).2.2.2.1.2.2.2.2.2.1 ?_
            have b_100 := (hA.ta t (by omega)).s4
            refine pw_max C dX10_meanDelay_103 (List.mem_of_getElem? (i := 1222) (by decide +kernel)) (by omega) (by omega) ⟨Nat.le_of_ble_eq_true rfl, Nat.le_of_ble_eq_true rfl⟩ (show (kc + 1) + 0 ≤ (A 0 0 1).toNat ∧ (nc + 4) + 0 ≤ 4 * (A 0 0 1).toNat by omega) ?_
            refine pw_isub C dX10_meanDelay_106 ?_
            refine pw_iadd C dX10_meanDelay_107 ?_
            refine pw_istore_n C dX10_meanDelay_108 (Nat.le_of_ble_eq_true rfl) rfl ?_
            refine pw_goto (tgt := 31) C dX10_meanDelay_109 (by decide) ?_
            exact pw_locs (by exact ⟨rfl, cat_vR _, rfl, rfl, rfl, rfl, rfl, rfl, rfl, cat_vR _, trivial⟩) (ih_31 (e + 1) (v + ((A (20 + c) 3 t) - (max (A (200 + t) 1 8) (A (200 + t) 1 4)))) Gd M3 (c + 1) (by omega) (hI3) (hK3) (by omega) (fr_go (by omega) hg (by unfold mdF; exact if_pos (by have := (hW.l c t (by omega) (by omega) (by omega) (by omega)).1; omega))) (by omega))

