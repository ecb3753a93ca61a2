set_option maxHeartbeats 4000000 in
set_option maxRecDepth 100000 in
theorem c_isPassed {X : Xv} {G M : Mm} {B : Int} {A : An} (hR0 : RC G M B A) (hA : AB A) {l tk W a1 : Int} (hI : Inv A) (hS : SN A) (hL : LX A) (hl9 : 0 ≤ l ∧ l < 2) (htk : A 0 0 1 = tk) (ht9 : 0 ≤ tk ∧ tk ≤ 58) (hnow : A 0 0 3 ≤ 9000) (hMX : MX G W 60 2) (hWC : WC M W A) (hB : 0 ≤ B) (hWB : B + 201 < W) (hWG : W + 60 < G 4 0 0) (h40 : G 4 0 0 = a1) : CT X yL_isPassed method_6_code 12 (some .boolean) 5 119 5 10 [vR B, vI l, vI tk, vR W] G M (PI (fun r G1 M1 => r = 1 ∧ ∃ A1, PsF A 3 A1 ∧ (Inv A1 ∧ SN A1 ∧ LX A1) ∧ Mo A A1 ∧ RC G1 M1 B A1 ∧ WC M1 W A1 ∧ PsQ B W G M G1 M1)) := by
  refine CT.by (by decide +kernel) [1, 1, 1, 1] ⟨cat_vR _, cat_vI _, cat_vI _, cat_vR _, trivial⟩ (Nat.le_of_ble_eq_true rfl) (fun E hX C hR hIni => ?_)
  have hn := hA.n
  have hnS := hA.so.c
  have h00 := hL.1.1
  have h02 := hL.1.2
  have hQ0 : PsQ B (G 4 0 0) G M G M := PsQ.rf
  have boA0 := oLi_bd hA hL (k := 0) (by omega)
  have boA1 := oLi_bd hA hL (k := 1) (by omega)
  refine pw_iload_n C dL_isPassed_0 rfl ?_
  refine pw_iconst C dL_isPassed_1 ?_
  refine pw_isub C dL_isPassed_2 ?_
  refine pw_istore C dL_isPassed_3 (Nat.le_of_ble_eq_true rfl) rfl ?_
  refine pw_iload C dL_isPassed_5 rfl ?_
  refine pw_if_ge (tgt := 14) C dL_isPassed_7 (by decide) (by omega) (fun c_7 => ?_) (fun c_7 => ?_)
  · skip
    refine pw_aload_n C dL_isPassed_14 rfl ?_
    refine pw_iload_n C dL_isPassed_15 rfl ?_
    refine pw_iload C dL_isPassed_16 rfl ?_
    refine pw_cVI C hX dL_isPassed_18 ml_L_95 mc_X5_arrives (c_arrives hR0 hA (l := l) (t := (tk - 1)) (by omega) (by omega) (by omega)) kc_8 hR0.k rfl rfl ⟨Nat.le_of_ble_eq_true rfl, Nat.le_of_ble_eq_true rfl⟩ (Nat.le_of_ble_eq_true rfl) (by show 0 + 0 ≤ 5 ∧ 0 + 0 ≤ 10; omega) (fun r_ G M1 hq_ => ?_)
    obtain ⟨rfl, rfl, hR2, o3⟩ := hq_
    have hQ4 := hQ0.ot o3
    obtain ⟨cm, hcm⟩ : ∃ w, w = arr A l (tk - 1) := ⟨_, rfl⟩
    rw [← hcm]
    have hbcm : -1 ≤ cm ∧ cm ≤ 20009 := by rw [hcm]; exact arr_bd hA (by omega) (by omega)
    refine pw_istore C dL_isPassed_21 (Nat.le_of_ble_eq_true rfl) rfl ?_
    refine pw_iconst C dL_isPassed_23 ?_
    refine pw_newI C dL_isPassed_24 (by omega) (ks := 2) rfl (by show 0 + 1 ≤ 5; omega) (by show 0 + 2 ≤ 10; omega) ?_
    rw [h40]
    have hai0 : AI (nG G 100 2) a1 2 := by rw [← h40]; exact ⟨nG_kind, nG_len⟩
    have h410 : nG G 100 2 4 0 0 = a1 + 1 := by rw [nG_next, h40]
    have hQ7 := hQ4.new (K := 100) (len := 2)
    have hR8 := hR2.og (G1 := nG G 100 2) (M1 := nM G M1) (fun b q1 q2 => agr_n b (by omega))
    generalize nG G 100 2 = G5 at hai0 h410 hQ7 hR8 ⊢
    generalize nM G M1 = M6 at hai0 h410 hQ7 hR8 ⊢
    refine pw_dup C dL_isPassed_26 (cat_vR _) ?_
    refine pw_iconst C dL_isPassed_27 ?_
    refine pw_aload_n C dL_isPassed_28 rfl ?_
    refine pw_iconst C dL_isPassed_29 ?_
    refine pw_iconst C dL_isPassed_30 ?_
    refine pw_cVE C hX dL_isPassed_31 ml_L_98 mc_X5_ofLine (c_ofLine hR8 hA (l := 0) (w := 4) (by omega) (by omega) (by omega)) kc_8 hR8.k rfl rfl ⟨Nat.le_of_ble_eq_true rfl, Nat.le_of_ble_eq_true rfl⟩ (Nat.le_of_ble_eq_true rfl) (by show (0 + 1) + 0 ≤ 5 ∧ (0 + 2) + 0 ≤ 10; omega) ?_
    refine pw_aload_n C dL_isPassed_34 rfl ?_
    refine pw_iconst C dL_isPassed_35 ?_
    refine pw_iconst C dL_isPassed_36 ?_
    refine pw_cVE C hX dL_isPassed_37 ml_L_98 mc_X5_ofLine (c_ofLine hR8 hA (l := 0) (w := 5) (by omega) (by omega) (by omega)) kc_8 hR8.k rfl rfl ⟨Nat.le_of_ble_eq_true rfl, Nat.le_of_ble_eq_true rfl⟩ (Nat.le_of_ble_eq_true rfl) (by show (0 + 1) + 0 ≤ 5 ∧ (0 + 2) + 0 ≤ 10; omega) ?_
    refine pw_iadd C dL_isPassed_40 ?_
    refine pw_iastG C dL_isPassed_41 hai0 (by omega) (fun M11 eM11 => ?_)
    have hR12 := hR8.o (lo := a1) (hi := a1) (M1 := M11) (by rw [eM11]; exact Ot.rf.u1 (by omega)) (by omega)
    have hQ13 := hQ7.w (Or.inl (by omega)) eM11
    have hc0 : M11 1 a1 0 = ((oLi A 0 4) + (oLi A 0 5)) := by rw [eM11, mup_s]
    refine pw_dup C dL_isPassed_42 (cat_vR _) ?_
    refine pw_iconst C dL_isPassed_43 ?_
    refine pw_aload_n C dL_isPassed_44 rfl ?_
    refine pw_iconst C dL_isPassed_45 ?_
    refine pw_iconst C dL_isPassed_46 ?_
    refine pw_cVE C hX dL_isPassed_47 ml_L_98 mc_X5_ofLine (c_ofLine hR12 hA (l := 1) (w := 4) (by omega) (by omega) (by omega)) kc_8 hR12.k rfl rfl ⟨Nat.le_of_ble_eq_true rfl, Nat.le_of_ble_eq_true rfl⟩ (Nat.le_of_ble_eq_true rfl) (by show (0 + 1) + 0 ≤ 5 ∧ (0 + 2) + 0 ≤ 10; omega) ?_
    refine pw_aload_n C dL_isPassed_50 rfl ?_
    refine pw_iconst C dL_isPassed_51 ?_
    refine pw_iconst C dL_isPassed_52 ?_
    refine pw_cVE C hX dL_isPassed_53 ml_L_98 mc_X5_ofLine (c_ofLine hR12 hA (l := 1) (w := 5) (by omega) (by omega) (by omega)) kc_8 hR12.k rfl rfl ⟨Nat.le_of_ble_eq_true rfl, Nat.le_of_ble_eq_true rfl⟩ (Nat.le_of_ble_eq_true rfl) (by show (0 + 1) + 0 ≤ 5 ∧ (0 + 2) + 0 ≤ 10; omega) ?_
    refine pw_iadd C dL_isPassed_56 ?_
    refine pw_iastG C dL_isPassed_57 hai0 (by omega) (fun M14 eM14 => ?_)
    have hR15 := hR12.o (lo := a1) (hi := a1) (M1 := M14) (by rw [eM14]; exact Ot.rf.u1 (by omega)) (by omega)
    have hQ16 := hQ13.w (Or.inl (by omega)) eM14
    have hw : ∀ k, 0 ≤ k → k < 2 → M14 1 a1 k = oLi A k 4 + oLi A k 5 := fun k q1 q2 => by
      rcases (show k = 0 ∨ k = 1 by omega) with rfl | rfl
      · rw [eM14, mup_n (by omega)]; exact hc0
      · rw [eM14, mup_s]
    refine pw_astore C dL_isPassed_58 (Nat.le_of_ble_eq_true rfl) rfl ?_
    refine pw_iconst C dL_isPassed_60 ?_
    refine pw_newI C dL_isPassed_61 (by omega) (ks := 2) rfl (by show (0 + 1) + 1 ≤ 5; omega) (by show (0 + 2) + 2 ≤ 10; omega) ?_
    rw [h410]
    have hai2 : AI (nG G5 100 2) (a1 + 1) 2 := by rw [← h410]; exact ⟨nG_kind, nG_len⟩
    have h422 : nG G5 100 2 4 0 0 = (a1 + 1) + 1 := by rw [nG_next, h410]
    have hQ19 := hQ16.new (K := 100) (len := 2)
    have hR20 := hR15.og (G1 := nG G5 100 2) (M1 := nM G5 M14) (fun b q1 q2 => agr_n b (by omega))
    have hai1 : AI (nG G5 100 2) a1 2 := ⟨(nG_o0 (by omega)).trans hai0.1, (nG_o1 (by omega)).trans hai0.2⟩
    have hw1 : ∀ k, 0 ≤ k → k < 2 → nM G5 M14 1 a1 k = oLi A k 4 + oLi A k 5 := fun k q1 q2 => by rw [nM_o1 (by omega)]; exact hw k q1 q2
    generalize nG G5 100 2 = G17 at hai2 h422 hQ19 hR20 hai1 hw1 ⊢
    generalize nM G5 M14 = M18 at hai2 h422 hQ19 hR20 hai1 hw1 ⊢
    refine pw_dup C dL_isPassed_63 (cat_vR _) ?_
    refine pw_iconst C dL_isPassed_64 ?_
    refine pw_aload_n C dL_isPassed_65 rfl ?_
    refine pw_iconst C dL_isPassed_66 ?_
    refine pw_iconst C dL_isPassed_67 ?_
    refine pw_cVE C hX dL_isPassed_68 ml_L_98 mc_X5_ofLine (c_ofLine hR20 hA (l := 0) (w := 5) (by omega) (by omega) (by omega)) kc_8 hR20.k rfl rfl ⟨Nat.le_of_ble_eq_true rfl, Nat.le_of_ble_eq_true rfl⟩ (Nat.le_of_ble_eq_true rfl) (by show ((0 + 1) + 1) + 0 ≤ 5 ∧ ((0 + 2) + 2) + 0 ≤ 10; omega) ?_
    refine pw_iastG C dL_isPassed_71 hai2 (by omega) (fun M23 eM23 => ?_)
    have hR24 := hR20.o (lo := (a1 + 1)) (hi := (a1 + 1)) (M1 := M23) (by rw [eM23]; exact Ot.rf.u1 (by omega)) (by omega)
    have hQ25 := hQ19.w (Or.inl (by omega)) eM23
    have hw2 : ∀ k, 0 ≤ k → k < 2 → M23 1 a1 k = oLi A k 4 + oLi A k 5 := fun k q1 q2 => by rw [eM23, mup_n (by omega)]; exact hw1 k q1 q2
    have hd0 : M23 1 (a1 + 1) 0 = (oLi A 0 5) := by rw [eM23, mup_s]
    refine pw_dup C dL_isPassed_72 (cat_vR _) ?_
    refine pw_iconst C dL_isPassed_73 ?_
    refine pw_aload_n C dL_isPassed_74 rfl ?_
    refine pw_iconst C dL_isPassed_75 ?_
    refine pw_iconst C dL_isPassed_76 ?_
    refine pw_cVE C hX dL_isPassed_77 ml_L_98 mc_X5_ofLine (c_ofLine hR24 hA (l := 1) (w := 5) (by omega) (by omega) (by omega)) kc_8 hR24.k rfl rfl ⟨Nat.le_of_ble_eq_true rfl, Nat.le_of_ble_eq_true rfl⟩ (Nat.le_of_ble_eq_true rfl) (by show ((0 + 1) + 1) + 0 ≤ 5 ∧ ((0 + 2) + 2) + 0 ≤ 10; omega) ?_
    refine pw_iastG C dL_isPassed_80 hai2 (by omega) (fun M26 eM26 => ?_)
    have hR27 := hR24.o (lo := (a1 + 1)) (hi := (a1 + 1)) (M1 := M26) (by rw [eM26]; exact Ot.rf.u1 (by omega)) (by omega)
    have hQ28 := hQ25.w (Or.inl (by omega)) eM26
    have hw3 : ∀ k, 0 ≤ k → k < 2 → M26 1 a1 k = oLi A k 4 + oLi A k 5 := fun k q1 q2 => by rw [eM26, mup_n (by omega)]; exact hw2 k q1 q2
    have hg3 : ∀ k, 0 ≤ k → k < 2 → M26 1 (a1 + 1) k = oLi A k 5 := fun k q1 q2 => by
      rcases (show k = 0 ∨ k = 1 by omega) with rfl | rfl
      · rw [eM26, mup_n (by omega)]; exact hd0
      · rw [eM26, mup_s]
    refine pw_astore C dL_isPassed_81 (Nat.le_of_ble_eq_true rfl) rfl ?_
    refine pw_iconst C dL_isPassed_83 ?_
    refine pw_istore C dL_isPassed_84 (Nat.le_of_ble_eq_true rfl) rfl ?_
    suffices K_86 : ∀ (nn_86 : Nat) (i : Int) (Ac : An) (Gc : Mm) (Mc : Mm), (0 ≤ i ∧ i ≤ 3) → (RC Gc Mc B Ac) → (PsF A i Ac) → (Inv Ac) → (SN Ac) → (LX Ac) → (Mo A Ac) → (∀ k, 0 ≤ k → k < 2 → oLi Ac k 4 + oLi Ac k 5 = oLi A k 4 + oLi A k 5) → (PsQ B (G 4 0 0) G M Gc Mc) → (AI Gc a1 2 ∧ AI Gc (a1 + 1) 2) → (∀ k, 0 ≤ k → k < 2 → Mc 1 a1 k = oLi A k 4 + oLi A k 5) → (∀ k, 0 ≤ k → k < 2 → Mc 1 (a1 + 1) k = oLi Ac k 5) → (Gc 4 0 0 = a1 + 2 + i) → 3 - i < (nn_86 : Int) → PW E Gc Mc (2 + i.toNat) (4 + 2 * i.toNat) 86 [(0, 1, vR B), (1, 1, vI l), (2, 1, vI tk), (3, 1, vR W), (4, 1, vI (tk - 1)), (5, 1, vI cm), (6, 1, vR a1), (7, 1, vR (a1 + 1)), (8, 1, vI i)] [] from pw_locs (by exact ⟨rfl, cat_vR _, rfl, rfl, rfl, rfl, rfl, cat_vR _, rfl, rfl, rfl, rfl, rfl, cat_vR _, rfl, cat_vR _, rfl, rfl, trivial⟩) (K_86 (3 - 0 + 1 : Int).toNat 0 A G17 M26 (by omega) (by first | exact hR27 | omega) (by first | exact PsF.z | omega) (by first | exact hI | omega) (by first | exact hS | omega) (by first | exact hL | omega) (by first | exact Mo.rf | omega) (by first | exact fun k _ _ => rfl | omega) (by first | exact hQ28 | omega) (by first | exact ⟨hai1, hai2⟩ | omega) (by first | exact hw3 | omega) (by first | exact hg3 | omega) (by omega) (by omega))
    intro nn_86
    induction nn_86 with
    | zero => intro i Ac Gc Mc h1 hRc hPs hIc hSc hLc hMo hcon hQc hai hwc hgc h4c h_m86; exact absurd h_m86 (by omega)
    | succ nn_86 ih_86 =>
      intro i Ac Gc Mc h1 hRc hPs hIc hSc hLc hMo hcon hQc hai hwc hgc h4c h_m86
      have hAc := hIc.1
      have hnc := hAc.n
      have h2c := hLc.1
      have n1c : Ac 0 0 1 = tk := by have q := hPs.1 1; rw [if_neg (by omega)] at q; rw [q]; exact htk
      have n3c : Ac 0 0 3 = A 0 0 3 + i := by have q := hPs.1 3; rw [if_pos rfl] at q; exact q
      have bo := fun k (hk : 0 ≤ k ∧ k < 2) => oLi_bd hAc hLc hk
      have bo0 := bo 0 (by omega)
      have bo1 := bo 1 (by omega)
      refine pw_iload C dL_isPassed_86 rfl ?_
      refine pw_iconst C dL_isPassed_88 ?_
      refine pw_icmp_ge (tgt := 255) C dL_isPassed_89 (by decide) (by omega) (fun c_89 => ?_) (fun c_89 => ?_)
      · skip
        refine pw_iload C dL_isPassed_255 rfl ?_
        have e3 : i = 3 := by omega
        rw [e3] at hPs
        have hQx : PsQ B W G M Gc Mc := hQc.wk
        have hWx : WC Mc W Ac := (hWC.m (fun t k q1 q2 => hQc.row hWB hWG ⟨q1, q2⟩ k)).mo hMo (by omega)
        have hMXc : MX Gc W 60 2 := hMX.q hQx (by omega) (by omega)
        refine pw_if_lt (tgt := 297) C dL_isPassed_257 (by decide) (by omega) (fun c_257 => ?_) (fun c_257 => ?_)
        · exact absurd c_257 (by omega)
        refine pw_aload_n C dL_isPassed_260 rfl ?_
        refine pw_iload_n C dL_isPassed_261 rfl ?_
        refine pw_iload C dL_isPassed_262 rfl ?_
        have hao := arr_ok hA hL hPs (l := l) (t := tk - 1) (by omega) (by omega)
        rw [← hcm] at hao
        have bst := stt_bd (A := Ac) (l := l) (t := tk - 1)
        have bcm : -1 ≤ cm ∧ cm ≤ 20009 := hbcm
        refine pw_cVE C hX dL_isPassed_264 ml_L_92 mc_X5_state (c_state hRc hAc (l := l) (t := (tk - 1)) (by omega) (by omega) (by omega)) kc_8 hRc.k rfl rfl ⟨Nat.le_of_ble_eq_true rfl, Nat.le_of_ble_eq_true rfl⟩ (Nat.le_of_ble_eq_true rfl) (by show (2 + i.toNat) + 0 ≤ 5 ∧ (4 + 2 * i.toNat) + 0 ≤ 10; omega) ?_
        refine pw_iconst C dL_isPassed_267 ?_
        refine pw_icmp_le (tgt := 275) C dL_isPassed_268 (by decide) (by omega) (fun c_268 => ?_) (fun c_268 => ?_)
        · skip
          refine pw_iconst C dL_isPassed_275 ?_
          refine pw_iload C dL_isPassed_276 rfl ?_
          refine pw_if_lt (tgt := 291) C dL_isPassed_278 (by decide) (by omega) (fun c_278 => ?_) (fun c_278 => ?_)
          · skip
            refine pw_iconst C dL_isPassed_291 ?_
            refine pw_icmp_eq (tgt := 297) C dL_isPassed_292 (by decide) (by omega) (fun c_292 => ?_) (fun c_292 => ?_)
            rotate_left
            · exact absurd c_292 (by omega)
            refine pw_iconst C dL_isPassed_297 ?_
            refine pw_istore C dL_isPassed_298 (Nat.le_of_ble_eq_true rfl) rfl ?_
            suffices K_300 : ∀ (nn_300 : Nat) (t : Int) (Mf : Mm), (0 ≤ t ∧ t ≤ tk) → (RC Gc Mf B Ac) → (WC Mf W Ac) → (PsQ B W G M Gc Mf) → tk - t < (nn_300 : Int) → PW E Gc Mf (2 + i.toNat) (4 + 2 * i.toNat) 300 [(0, 1, vR B), (1, 1, vI l), (2, 1, vI tk), (3, 1, vR W), (4, 1, vI (tk - 1)), (5, 1, vI cm), (6, 1, vR a1), (7, 1, vR (a1 + 1)), (8, 1, vI i), (9, 1, vI t)] [] from pw_locs (by exact ⟨rfl, cat_vR _, rfl, rfl, rfl, rfl, rfl, cat_vR _, rfl, rfl, rfl, rfl, rfl, cat_vR _, rfl, cat_vR _, rfl, rfl, rfl, rfl, trivial⟩) (K_300 (tk - 0 + 1 : Int).toNat 0 Mc (by omega) (by first | exact hRc | omega) (by first | exact hWx | omega) (by first | exact hQx | omega) (by omega))
            intro nn_300
            induction nn_300 with
            | zero => intro t Mf h5 hRf hWf hQf h_m300; exact absurd h_m300 (by omega)
            | succ nn_300 ih_300 =>
              intro t Mf h5 hRf hWf hQf h_m300
              refine pw_iload C dL_isPassed_300 rfl ?_
              refine pw_iload_n C dL_isPassed_302 rfl ?_
              refine pw_icmp_ge (tgt := 365) C dL_isPassed_303 (by decide) (by omega) (fun c_303 => ?_) (fun c_303 => ?_)
              · skip
                refine pw_iconst C dL_isPassed_365 ?_
                exact pw_zret C hR dL_isPassed_366 (by omega) (⟨_, rfl, rfl, Ac, hPs, ⟨hIc, hSc, hLc⟩, hMo, hRf, hWf, hQf⟩) (by omega) (by omega)
              · skip
                refine pw_iconst C dL_isPassed_306 ?_
                refine pw_istore C dL_isPassed_307 (Nat.le_of_ble_eq_true rfl) rfl ?_
                suffices K_309 : ∀ (nn_309 : Nat) (k : Int) (Mg : Mm), (0 ≤ k ∧ k ≤ 2) → (RC Gc Mg B Ac) → (WC Mg W Ac) → (PsQ B W G M Gc Mg) → 2 - k < (nn_309 : Int) → PW E Gc Mg (2 + i.toNat) (4 + 2 * i.toNat) 309 [(0, 1, vR B), (1, 1, vI l), (2, 1, vI tk), (3, 1, vR W), (4, 1, vI (tk - 1)), (5, 1, vI cm), (6, 1, vR a1), (7, 1, vR (a1 + 1)), (8, 1, vI i), (9, 1, vI t), (10, 1, vI k)] [] from pw_locs (by exact ⟨rfl, cat_vR _, rfl, rfl, rfl, rfl, rfl, cat_vR _, rfl, rfl, rfl, rfl, rfl, cat_vR _, rfl, cat_vR _, rfl, rfl, rfl, rfl, rfl, rfl, trivial⟩) (K_309 (2 - 0 + 1 : Int).toNat 0 Mf (by omega) (by first | exact hRf | omega) (by first | exact hWf | omega) (by first | exact hQf | omega) (by omega))
                intro nn_309
                induction nn_309 with
                | zero => intro k Mg h6 hRg hWg hQg h_m309; exact absurd h_m309 (by omega)
                | succ nn_309 ih_309 =>
                  intro k Mg h6 hRg hWg hQg h_m309
                  refine pw_iload C dL_isPassed_309 rfl ?_
                  refine pw_iconst C dL_isPassed_311 ?_
                  refine pw_icmp_ge (tgt := 359) C dL_isPassed_312 (by decide) (by omega) (fun c_312 => ?_) (fun c_312 => ?_)
                  · skip
                    refine pw_iinc C dL_isPassed_359 rfl (Nat.le_of_ble_eq_true rfl) rfl ?_
                    refine pw_goto (tgt := 300) C dL_isPassed_362 (by decide) ?_
                    exact pw_locs (by exact ⟨rfl, cat_vR _, rfl, rfl, rfl, rfl, rfl, cat_vR _, rfl, rfl, rfl, rfl, rfl, cat_vR _, rfl, cat_vR _, rfl, rfl, rfl, rfl, trivial⟩) (ih_300 (t + 1) Mg (by omega) (hRg) (hWg) (hQg) (by omega))
                  · skip
                    refine pw_aload_n C dL_isPassed_315 rfl ?_
                    refine pw_iload C dL_isPassed_316 rfl ?_
                    refine pw_iload C dL_isPassed_318 rfl ?_
                    refine pw_cVE C hX dL_isPassed_320 ml_L_92 mc_X5_state (c_state hRg hAc (l := k) (t := t) (by omega) (by omega) (by omega)) kc_8 hRg.k rfl rfl ⟨Nat.le_of_ble_eq_true rfl, Nat.le_of_ble_eq_true rfl⟩ (Nat.le_of_ble_eq_true rfl) (by show (2 + i.toNat) + 0 ≤ 5 ∧ (4 + 2 * i.toNat) + 0 ≤ 10; omega) ?_
                    obtain ⟨sv, hsv⟩ : ∃ w, w = stt Ac k t := ⟨_, rfl⟩
                    rw [← hsv]
                    have bsv : 0 ≤ sv ∧ sv ≤ 5 := by rw [hsv]; exact stt_bd
                    refine pw_istore C dL_isPassed_323 (Nat.le_of_ble_eq_true rfl) rfl ?_
                    refine pw_iload C dL_isPassed_325 rfl ?_
                    refine pw_aload_n C dL_isPassed_327 rfl ?_
                    refine pw_iload C dL_isPassed_328 rfl ?_
                    refine pw_aaldE C dL_isPassed_330 hMXc.1 (by omega) (by omega) (hMXc.2 t (by omega) (by omega)).1 ?_
                    refine pw_iload C dL_isPassed_331 rfl ?_
                    obtain ⟨wv, hwv⟩ : ∃ w, Mg 1 (W + 1 + t) k = w := ⟨_, rfl⟩
                    refine pw_ialdE C dL_isPassed_333 (hMXc.2 t (by omega) (by omega)).2 (by omega) hwv ?_
                    have hww := hWg t k (by omega) (by omega) (by omega) (by omega)
                    rw [hwv, ← hsv] at hww
                    refine pw_icmp_ge (tgt := 344) C dL_isPassed_334 (by decide) (by omega) (fun c_334 => ?_) (fun c_334 => ?_)
                    · skip
                      refine pw_aload_n C dL_isPassed_344 rfl ?_
                      refine pw_iload C dL_isPassed_345 rfl ?_
                      refine pw_aaldE C dL_isPassed_347 hMXc.1 (by omega) (by omega) (hMXc.2 t (by omega) (by omega)).1 ?_
                      refine pw_iload C dL_isPassed_348 rfl ?_
                      refine pw_iload C dL_isPassed_350 rfl ?_
                      refine pw_iastG C dL_isPassed_352 (hMXc.2 t (by omega) (by omega)).2 (by omega) (fun M29 eM29 => ?_)
                      have hR30 := hRg.o (lo := (W + 1 + t)) (hi := (W + 1 + t)) (M1 := M29) (by rw [eM29]; exact Ot.rf.u1 (by omega)) (by omega)
                      have hQ31 := hQg.w (Or.inr (by omega)) eM29
                      have hWh : WC M29 W Ac := hWg.set (t := t) (k := k) (by omega) (by rw [eM29, hsv])
                      refine pw_iinc C dL_isPassed_353 rfl (Nat.le_of_ble_eq_true rfl) rfl ?_
                      refine pw_goto (tgt := 309) C dL_isPassed_356 (by decide) ?_
                      exact pw_locs (by exact ⟨rfl, cat_vR _, rfl, rfl, rfl, rfl, rfl, cat_vR _, rfl, rfl, rfl, rfl, rfl, cat_vR _, rfl, cat_vR _, rfl, rfl, rfl, rfl, rfl, rfl, trivial⟩) (ih_309 (k + 1) M29 (by omega) (hR30) (hWh) (hQ31) (by omega))
                    · skip
                      refine pw_iload C dL_isPassed_337 rfl ?_
                      refine pw_if_le (tgt := 344) C dL_isPassed_339 (by decide) (by omega) (fun c_339 => ?_) (fun c_339 => ?_)
                      rotate_left
                      · exact absurd c_339 (by omega)
                      refine pw_aload_n C dL_isPassed_344 rfl ?_
                      refine pw_iload C dL_isPassed_345 rfl ?_
                      refine pw_aaldE C dL_isPassed_347 hMXc.1 (by omega) (by omega) (hMXc.2 t (by omega) (by omega)).1 ?_
                      refine pw_iload C dL_isPassed_348 rfl ?_
                      refine pw_iload C dL_isPassed_350 rfl ?_
                      refine pw_iastG C dL_isPassed_352 (hMXc.2 t (by omega) (by omega)).2 (by omega) (fun M32 eM32 => ?_)
                      have hR33 := hRg.o (lo := (W + 1 + t)) (hi := (W + 1 + t)) (M1 := M32) (by rw [eM32]; exact Ot.rf.u1 (by omega)) (by omega)
                      have hQ34 := hQg.w (Or.inr (by omega)) eM32
                      have hWh : WC M32 W Ac := hWg.set (t := t) (k := k) (by omega) (by rw [eM32, hsv])
                      refine pw_iinc C dL_isPassed_353 rfl (Nat.le_of_ble_eq_true rfl) rfl ?_
                      refine pw_goto (tgt := 309) C dL_isPassed_356 (by decide) ?_
                      exact pw_locs (by exact ⟨rfl, cat_vR _, rfl, rfl, rfl, rfl, rfl, cat_vR _, rfl, rfl, rfl, rfl, rfl, cat_vR _, rfl, cat_vR _, rfl, rfl, rfl, rfl, rfl, rfl, trivial⟩) (ih_309 (k + 1) M32 (by omega) (hR33) (hWh) (hQ34) (by omega))
          · skip
            refine pw_iload C dL_isPassed_281 rfl ?_
            refine pw_iconst C dL_isPassed_283 ?_
            refine pw_icmp_gt (tgt := 291) C dL_isPassed_284 (by decide) (by omega) (fun c_284 => ?_) (fun c_284 => ?_)
            · skip
              refine pw_iconst C dL_isPassed_291 ?_
              refine pw_icmp_eq (tgt := 297) C dL_isPassed_292 (by decide) (by omega) (fun c_292 => ?_) (fun c_292 => ?_)
              rotate_left
              · exact absurd c_292 (by omega)
              refine pw_iconst C dL_isPassed_297 ?_
              refine pw_istore C dL_isPassed_298 (Nat.le_of_ble_eq_true rfl) rfl ?_
              suffices K_300 : ∀ (nn_300 : Nat) (t : Int) (Mf : Mm), (0 ≤ t ∧ t ≤ tk) → (RC Gc Mf B Ac) → (WC Mf W Ac) → (PsQ B W G M Gc Mf) → tk - t < (nn_300 : Int) → PW E Gc Mf (2 + i.toNat) (4 + 2 * i.toNat) 300 [(0, 1, vR B), (1, 1, vI l), (2, 1, vI tk), (3, 1, vR W), (4, 1, vI (tk - 1)), (5, 1, vI cm), (6, 1, vR a1), (7, 1, vR (a1 + 1)), (8, 1, vI i), (9, 1, vI t)] [] from pw_locs (by exact ⟨rfl, cat_vR _, rfl, rfl, rfl, rfl, rfl, cat_vR _, rfl, rfl, rfl, rfl, rfl, cat_vR _, rfl, cat_vR _, rfl, rfl, rfl, rfl, trivial⟩) (K_300 (tk - 0 + 1 : Int).toNat 0 Mc (by omega) (by first | exact hRc | omega) (by first | exact hWx | omega) (by first | exact hQx | omega) (by omega))
              intro nn_300
              induction nn_300 with
              | zero => intro t Mf h5 hRf hWf hQf h_m300; exact absurd h_m300 (by omega)
              | succ nn_300 ih_300 =>
                intro t Mf h5 hRf hWf hQf h_m300
                refine pw_iload C dL_isPassed_300 rfl ?_
                refine pw_iload_n C dL_isPassed_302 rfl ?_
                refine pw_icmp_ge (tgt := 365) C dL_isPassed_303 (by decide) (by omega) (fun c_303 => ?_) (fun c_303 => ?_)
                · skip
                  refine pw_iconst C dL_isPassed_365 ?_
                  exact pw_zret C hR dL_isPassed_366 (by omega) (⟨_, rfl, rfl, Ac, hPs, ⟨hIc, hSc, hLc⟩, hMo, hRf, hWf, hQf⟩) (by omega) (by omega)
                · skip
                  refine pw_iconst C dL_isPassed_306 ?_
                  refine pw_istore C dL_isPassed_307 (Nat.le_of_ble_eq_true rfl) rfl ?_
                  suffices K_309 : ∀ (nn_309 : Nat) (k : Int) (Mg : Mm), (0 ≤ k ∧ k ≤ 2) → (RC Gc Mg B Ac) → (WC Mg W Ac) → (PsQ B W G M Gc Mg) → 2 - k < (nn_309 : Int) → PW E Gc Mg (2 + i.toNat) (4 + 2 * i.toNat) 309 [(0, 1, vR B), (1, 1, vI l), (2, 1, vI tk), (3, 1, vR W), (4, 1, vI (tk - 1)), (5, 1, vI cm), (6, 1, vR a1), (7, 1, vR (a1 + 1)), (8, 1, vI i), (9, 1, vI t), (10, 1, vI k)] [] from pw_locs (by exact ⟨rfl, cat_vR _, rfl, rfl, rfl, rfl, rfl, cat_vR _, rfl, rfl, rfl, rfl, rfl, cat_vR _, rfl, cat_vR _, rfl, rfl, rfl, rfl, rfl, rfl, trivial⟩) (K_309 (2 - 0 + 1 : Int).toNat 0 Mf (by omega) (by first | exact hRf | omega) (by first | exact hWf | omega) (by first | exact hQf | omega) (by omega))
                  intro nn_309
                  induction nn_309 with
                  | zero => intro k Mg h6 hRg hWg hQg h_m309; exact absurd h_m309 (by omega)
                  | succ nn_309 ih_309 =>
                    intro k Mg h6 hRg hWg hQg h_m309
                    refine pw_iload C dL_isPassed_309 rfl ?_
                    refine pw_iconst C dL_isPassed_311 ?_
                    refine pw_icmp_ge (tgt := 359) C dL_isPassed_312 (by decide) (by omega) (fun c_312 => ?_) (fun c_312 => ?_)
                    · skip
                      refine pw_iinc C dL_isPassed_359 rfl (Nat.le_of_ble_eq_true rfl) rfl ?_
                      refine pw_goto (tgt := 300) C dL_isPassed_362 (by decide) ?_
                      exact pw_locs (by exact ⟨rfl, cat_vR _, rfl, rfl, rfl, rfl, rfl, cat_vR _, rfl, rfl, rfl, rfl, rfl, cat_vR _, rfl, cat_vR _, rfl, rfl, rfl, rfl, trivial⟩) (ih_300 (t + 1) Mg (by omega) (hRg) (hWg) (hQg) (by omega))
                    · skip
                      refine pw_aload_n C dL_isPassed_315 rfl ?_
                      refine pw_iload C dL_isPassed_316 rfl ?_
                      refine pw_iload C dL_isPassed_318 rfl ?_
                      refine pw_cVE C hX dL_isPassed_320 ml_L_92 mc_X5_state (c_state hRg hAc (l := k) (t := t) (by omega) (by omega) (by omega)) kc_8 hRg.k rfl rfl ⟨Nat.le_of_ble_eq_true rfl, Nat.le_of_ble_eq_true rfl⟩ (Nat.le_of_ble_eq_true rfl) (by show (2 + i.toNat) + 0 ≤ 5 ∧ (4 + 2 * i.toNat) + 0 ≤ 10; omega) ?_
                      obtain ⟨sv, hsv⟩ : ∃ w, w = stt Ac k t := ⟨_, rfl⟩
                      rw [← hsv]
                      have bsv : 0 ≤ sv ∧ sv ≤ 5 := by rw [hsv]; exact stt_bd
                      refine pw_istore C dL_isPassed_323 (Nat.le_of_ble_eq_true rfl) rfl ?_
                      refine pw_iload C dL_isPassed_325 rfl ?_
                      refine pw_aload_n C dL_isPassed_327 rfl ?_
                      refine pw_iload C dL_isPassed_328 rfl ?_
                      refine pw_aaldE C dL_isPassed_330 hMXc.1 (by omega) (by omega) (hMXc.2 t (by omega) (by omega)).1 ?_
                      refine pw_iload C dL_isPassed_331 rfl ?_
                      obtain ⟨wv, hwv⟩ : ∃ w, Mg 1 (W + 1 + t) k = w := ⟨_, rfl⟩
                      refine pw_ialdE C dL_isPassed_333 (hMXc.2 t (by omega) (by omega)).2 (by omega) hwv ?_
                      have hww := hWg t k (by omega) (by omega) (by omega) (by omega)
                      rw [hwv, ← hsv] at hww
                      refine pw_icmp_ge (tgt := 344) C dL_isPassed_334 (by decide) (by omega) (fun c_334 => ?_) (fun c_334 => ?_)
                      · skip
                        refine pw_aload_n C dL_isPassed_344 rfl ?_
                        refine pw_iload C dL_isPassed_345 rfl ?_
                        refine pw_aaldE C dL_isPassed_347 hMXc.1 (by omega) (by omega) (hMXc.2 t (by omega) (by omega)).1 ?_
                        refine pw_iload C dL_isPassed_348 rfl ?_
                        refine pw_iload C dL_isPassed_350 rfl ?_
                        refine pw_iastG C dL_isPassed_352 (hMXc.2 t (by omega) (by omega)).2 (by omega) (fun M35 eM35 => ?_)
                        have hR36 := hRg.o (lo := (W + 1 + t)) (hi := (W + 1 + t)) (M1 := M35) (by rw [eM35]; exact Ot.rf.u1 (by omega)) (by omega)
                        have hQ37 := hQg.w (Or.inr (by omega)) eM35
                        have hWh : WC M35 W Ac := hWg.set (t := t) (k := k) (by omega) (by rw [eM35, hsv])
                        refine pw_iinc C dL_isPassed_353 rfl (Nat.le_of_ble_eq_true rfl) rfl ?_
                        refine pw_goto (tgt := 309) C dL_isPassed_356 (by decide) ?_
                        exact pw_locs (by exact ⟨rfl, cat_vR _, rfl, rfl, rfl, rfl, rfl, cat_vR _, rfl, rfl, rfl, rfl, rfl, cat_vR _, rfl, cat_vR _, rfl, rfl, rfl, rfl, rfl, rfl, trivial⟩) (ih_309 (k + 1) M35 (by omega) (hR36) (hWh) (hQ37) (by omega))
                      · skip
                        refine pw_iload C dL_isPassed_337 rfl ?_
                        refine pw_if_le (tgt := 344) C dL_isPassed_339 (by decide) (by omega) (fun c_339 => ?_) (fun c_339 => ?_)
                        rotate_left
                        · exact absurd c_339 (by omega)
                        refine pw_aload_n C dL_isPassed_344 rfl ?_
                        refine pw_iload C dL_isPassed_345 rfl ?_
                        refine pw_aaldE C dL_isPassed_347 hMXc.1 (by omega) (by omega) (hMXc.2 t (by omega) (by omega)).1 ?_
                        refine pw_iload C dL_isPassed_348 rfl ?_
                        refine pw_iload C dL_isPassed_350 rfl ?_
                        refine pw_iastG C dL_isPassed_352 (hMXc.2 t (by omega) (by omega)).2 (by omega) (fun M38 eM38 => ?_)
                        have hR39 := hRg.o (lo := (W + 1 + t)) (hi := (W + 1 + t)) (M1 := M38) (by rw [eM38]; exact Ot.rf.u1 (by omega)) (by omega)
                        have hQ40 := hQg.w (Or.inr (by omega)) eM38
                        have hWh : WC M38 W Ac := hWg.set (t := t) (k := k) (by omega) (by rw [eM38, hsv])
                        refine pw_iinc C dL_isPassed_353 rfl (Nat.le_of_ble_eq_true rfl) rfl ?_
                        refine pw_goto (tgt := 309) C dL_isPassed_356 (by decide) ?_
                        exact pw_locs (by exact ⟨rfl, cat_vR _, rfl, rfl, rfl, rfl, rfl, cat_vR _, rfl, rfl, rfl, rfl, rfl, cat_vR _, rfl, cat_vR _, rfl, rfl, rfl, rfl, rfl, rfl, trivial⟩) (ih_309 (k + 1) M38 (by omega) (hR39) (hWh) (hQ40) (by omega))
            · skip
              refine pw_iconst C dL_isPassed_287 ?_
              refine pw_goto (tgt := 292) C dL_isPassed_288 (by decide) ?_
              refine pw_icmp_eq (tgt := 297) C dL_isPassed_292 (by decide) (by omega) (fun c_292 => ?_) (fun c_292 => ?_)
              · exact absurd c_292 (by omega)
              exfalso; omega
        · skip
          refine pw_iconst C dL_isPassed_271 ?_
          refine pw_goto (tgt := 276) C dL_isPassed_272 (by decide) ?_
          refine pw_iload C dL_isPassed_276 rfl ?_
          refine pw_if_lt (tgt := 291) C dL_isPassed_278 (by decide) (by omega) (fun c_278 => ?_) (fun c_278 => ?_)
          · skip
            refine pw_iconst C dL_isPassed_291 ?_
            refine pw_icmp_eq (tgt := 297) C dL_isPassed_292 (by decide) (by omega) (fun c_292 => ?_) (fun c_292 => ?_)
            · exact absurd c_292 (by omega)
            exfalso; omega
          · skip
            refine pw_iload C dL_isPassed_281 rfl ?_
            refine pw_iconst C dL_isPassed_283 ?_
            refine pw_icmp_gt (tgt := 291) C dL_isPassed_284 (by decide) (by omega) (fun c_284 => ?_) (fun c_284 => ?_)
            · skip
              refine pw_iconst C dL_isPassed_291 ?_
              refine pw_icmp_eq (tgt := 297) C dL_isPassed_292 (by decide) (by omega) (fun c_292 => ?_) (fun c_292 => ?_)
              · exact absurd c_292 (by omega)
              exfalso; omega
            · skip
              refine pw_iconst C dL_isPassed_287 ?_
              refine pw_goto (tgt := 292) C dL_isPassed_288 (by decide) ?_
              refine pw_icmp_eq (tgt := 297) C dL_isPassed_292 (by decide) (by omega) (fun c_292 => ?_) (fun c_292 => ?_)
              rotate_left
              · exact absurd c_292 (by omega)
              refine pw_iconst C dL_isPassed_297 ?_
              refine pw_istore C dL_isPassed_298 (Nat.le_of_ble_eq_true rfl) rfl ?_
              suffices K_300 : ∀ (nn_300 : Nat) (t : Int) (Mf : Mm), (0 ≤ t ∧ t ≤ tk) → (RC Gc Mf B Ac) → (WC Mf W Ac) → (PsQ B W G M Gc Mf) → tk - t < (nn_300 : Int) → PW E Gc Mf (2 + i.toNat) (4 + 2 * i.toNat) 300 [(0, 1, vR B), (1, 1, vI l), (2, 1, vI tk), (3, 1, vR W), (4, 1, vI (tk - 1)), (5, 1, vI cm), (6, 1, vR a1), (7, 1, vR (a1 + 1)), (8, 1, vI i), (9, 1, vI t)] [] from pw_locs (by exact ⟨rfl, cat_vR _, rfl, rfl, rfl, rfl, rfl, cat_vR _, rfl, rfl, rfl, rfl, rfl, cat_vR _, rfl, cat_vR _, rfl, rfl, rfl, rfl, trivial⟩) (K_300 (tk - 0 + 1 : Int).toNat 0 Mc (by omega) (by first | exact hRc | omega) (by first | exact hWx | omega) (by first | exact hQx | omega) (by omega))
              intro nn_300
              induction nn_300 with
              | zero => intro t Mf h5 hRf hWf hQf h_m300; exact absurd h_m300 (by omega)
              | succ nn_300 ih_300 =>
                intro t Mf h5 hRf hWf hQf h_m300
                refine pw_iload C dL_isPassed_300 rfl ?_
                refine pw_iload_n C dL_isPassed_302 rfl ?_
                refine pw_icmp_ge (tgt := 365) C dL_isPassed_303 (by decide) (by omega) (fun c_303 => ?_) (fun c_303 => ?_)
                · skip
                  refine pw_iconst C dL_isPassed_365 ?_
                  exact pw_zret C hR dL_isPassed_366 (by omega) (⟨_, rfl, rfl, Ac, hPs, ⟨hIc, hSc, hLc⟩, hMo, hRf, hWf, hQf⟩) (by omega) (by omega)
                · skip
                  refine pw_iconst C dL_isPassed_306 ?_
                  refine pw_istore C dL_isPassed_307 (Nat.le_of_ble_eq_true rfl) rfl ?_
                  suffices K_309 : ∀ (nn_309 : Nat) (k : Int) (Mg : Mm), (0 ≤ k ∧ k ≤ 2) → (RC Gc Mg B Ac) → (WC Mg W Ac) → (PsQ B W G M Gc Mg) → 2 - k < (nn_309 : Int) → PW E Gc Mg (2 + i.toNat) (4 + 2 * i.toNat) 309 [(0, 1, vR B), (1, 1, vI l), (2, 1, vI tk), (3, 1, vR W), (4, 1, vI (tk - 1)), (5, 1, vI cm), (6, 1, vR a1), (7, 1, vR (a1 + 1)), (8, 1, vI i), (9, 1, vI t), (10, 1, vI k)] [] from pw_locs (by exact ⟨rfl, cat_vR _, rfl, rfl, rfl, rfl, rfl, cat_vR _, rfl, rfl, rfl, rfl, rfl, cat_vR _, rfl, cat_vR _, rfl, rfl, rfl, rfl, rfl, rfl, trivial⟩) (K_309 (2 - 0 + 1 : Int).toNat 0 Mf (by omega) (by first | exact hRf | omega) (by first | exact hWf | omega) (by first | exact hQf | omega) (by omega))
                  intro nn_309
                  induction nn_309 with
                  | zero => intro k Mg h6 hRg hWg hQg h_m309; exact absurd h_m309 (by omega)
                  | succ nn_309 ih_309 =>
                    intro k Mg h6 hRg hWg hQg h_m309
                    refine pw_iload C dL_isPassed_309 rfl ?_
                    refine pw_iconst C dL_isPassed_311 ?_
                    refine pw_icmp_ge (tgt := 359) C dL_isPassed_312 (by decide) (by omega) (fun c_312 => ?_) (fun c_312 => ?_)
                    · skip
                      refine pw_iinc C dL_isPassed_359 rfl (Nat.le_of_ble_eq_true rfl) rfl ?_
                      refine pw_goto (tgt := 300) C dL_isPassed_362 (by decide) ?_
                      exact pw_locs (by exact ⟨rfl, cat_vR _, rfl, rfl, rfl, rfl, rfl, cat_vR _, rfl, rfl, rfl, rfl, rfl, cat_vR _, rfl, cat_vR _, rfl, rfl, rfl, rfl, trivial⟩) (ih_300 (t + 1) Mg (by omega) (hRg) (hWg) (hQg) (by omega))
                    · skip
                      refine pw_aload_n C dL_isPassed_315 rfl ?_
                      refine pw_iload C dL_isPassed_316 rfl ?_
                      refine pw_iload C dL_isPassed_318 rfl ?_
                      refine pw_cVE C hX dL_isPassed_320 ml_L_92 mc_X5_state (c_state hRg hAc (l := k) (t := t) (by omega) (by omega) (by omega)) kc_8 hRg.k rfl rfl ⟨Nat.le_of_ble_eq_true rfl, Nat.le_of_ble_eq_true rfl⟩ (Nat.le_of_ble_eq_true rfl) (by show (2 + i.toNat) + 0 ≤ 5 ∧ (4 + 2 * i.toNat) + 0 ≤ 10; omega) ?_
                      obtain ⟨sv, hsv⟩ : ∃ w, w = stt Ac k t := ⟨_, rfl⟩
                      rw [← hsv]
                      have bsv : 0 ≤ sv ∧ sv ≤ 5 := by rw [hsv]; exact stt_bd
                      refine pw_istore C dL_isPassed_323 (Nat.le_of_ble_eq_true rfl) rfl ?_
                      refine pw_iload C dL_isPassed_325 rfl ?_
                      refine pw_aload_n C dL_isPassed_327 rfl ?_
                      refine pw_iload C dL_isPassed_328 rfl ?_
                      refine pw_aaldE C dL_isPassed_330 hMXc.1 (by omega) (by omega) (hMXc.2 t (by omega) (by omega)).1 ?_
                      refine pw_iload C dL_isPassed_331 rfl ?_
                      obtain ⟨wv, hwv⟩ : ∃ w, Mg 1 (W + 1 + t) k = w := ⟨_, rfl⟩
                      refine pw_ialdE C dL_isPassed_333 (hMXc.2 t (by omega) (by omega)).2 (by omega) hwv ?_
                      have hww := hWg t k (by omega) (by omega) (by omega) (by omega)
                      rw [hwv, ← hsv] at hww
                      refine pw_icmp_ge (tgt := 344) C dL_isPassed_334 (by decide) (by omega) (fun c_334 => ?_) (fun c_334 => ?_)
                      · skip
                        refine pw_aload_n C dL_isPassed_344 rfl ?_
                        refine pw_iload C dL_isPassed_345 rfl ?_
                        refine pw_aaldE C dL_isPassed_347 hMXc.1 (by omega) (by omega) (hMXc.2 t (by omega) (by omega)).1 ?_
                        refine pw_iload C dL_isPassed_348 rfl ?_
                        refine pw_iload C dL_isPassed_350 rfl ?_
                        refine pw_iastG C dL_isPassed_352 (hMXc.2 t (by omega) (by omega)).2 (by omega) (fun M41 eM41 => ?_)
                        have hR42 := hRg.o (lo := (W + 1 + t)) (hi := (W + 1 + t)) (M1 := M41) (by rw [eM41]; exact Ot.rf.u1 (by omega)) (by omega)
                        have hQ43 := hQg.w (Or.inr (by omega)) eM41
                        have hWh : WC M41 W Ac := hWg.set (t := t) (k := k) (by omega) (by rw [eM41, hsv])
                        refine pw_iinc C dL_isPassed_353 rfl (Nat.le_of_ble_eq_true rfl) rfl ?_
                        refine pw_goto (tgt := 309) C dL_isPassed_356 (by decide) ?_
                        exact pw_locs (by exact ⟨rfl, cat_vR _, rfl, rfl, rfl, rfl, rfl, cat_vR _, rfl, rfl, rfl, rfl, rfl, cat_vR _, rfl, cat_vR _, rfl, rfl, rfl, rfl, rfl, rfl, trivial⟩) (ih_309 (k + 1) M41 (by omega) (hR42) (hWh) (hQ43) (by omega))
                      · skip
                        refine pw_iload C dL_isPassed_337 rfl ?_
                        refine pw_if_le (tgt := 344) C dL_isPassed_339 (by decide) (by omega) (fun c_339 => ?_) (fun c_339 => ?_)
                        rotate_left
                        · exact absurd c_339 (by omega)
                        refine pw_aload_n C dL_isPassed_344 rfl ?_
                        refine pw_iload C dL_isPassed_345 rfl ?_
                        refine pw_aaldE C dL_isPassed_347 hMXc.1 (by omega) (by omega) (hMXc.2 t (by omega) (by omega)).1 ?_
                        refine pw_iload C dL_isPassed_348 rfl ?_
                        refine pw_iload C dL_isPassed_350 rfl ?_
                        refine pw_iastG C dL_isPassed_352 (hMXc.2 t (by omega) (by omega)).2 (by omega) (fun M44 eM44 => ?_)
                        have hR45 := hRg.o (lo := (W + 1 + t)) (hi := (W + 1 + t)) (M1 := M44) (by rw [eM44]; exact Ot.rf.u1 (by omega)) (by omega)
                        have hQ46 := hQg.w (Or.inr (by omega)) eM44
                        have hWh : WC M44 W Ac := hWg.set (t := t) (k := k) (by omega) (by rw [eM44, hsv])
                        refine pw_iinc C dL_isPassed_353 rfl (Nat.le_of_ble_eq_true rfl) rfl ?_
                        refine pw_goto (tgt := 309) C dL_isPassed_356 (by decide) ?_
                        exact pw_locs (by exact ⟨rfl, cat_vR _, rfl, rfl, rfl, rfl, rfl, cat_vR _, rfl, rfl, rfl, rfl, rfl, cat_vR _, rfl, cat_vR _, rfl, rfl, rfl, rfl, rfl, rfl, trivial⟩) (ih_309 (k + 1) M44 (by omega) (hR45) (hWh) (hQ46) (by omega))
      · skip
        refine pw_iconst C dL_isPassed_92 ?_
        refine pw_newZ C wa_bool dL_isPassed_93 (by omega) (ks := 2) rfl (by show (2 + i.toNat) + 1 ≤ 5; omega) (by show (4 + 2 * i.toNat) + 2 ≤ 10; omega) ?_
        rw [h4c]
        have hz3 : AZ (nG Gc 101 2) (a1 + 2 + i) 2 := by rw [← h4c]; exact ⟨nG_kind, nG_len⟩
        have h452 : nG Gc 101 2 4 0 0 = (a1 + 2 + i) + 1 := by rw [nG_next, h4c]
        have hQ49 := hQc.new (K := 101) (len := 2)
        have hR50 := hRc.og (G1 := nG Gc 101 2) (M1 := nM Gc Mc) (fun b q1 q2 => agr_n b (by omega))
        have hj1 : AI (nG Gc 101 2) a1 2 := ⟨(nG_o0 (by omega)).trans hai.1.1, (nG_o1 (by omega)).trans hai.1.2⟩
        have hj2 : AI (nG Gc 101 2) (a1 + 1) 2 := ⟨(nG_o0 (by omega)).trans hai.2.1, (nG_o1 (by omega)).trans hai.2.2⟩
        have hw4 : ∀ k, 0 ≤ k → k < 2 → nM Gc Mc 1 a1 k = oLi A k 4 + oLi A k 5 := fun k q1 q2 => by rw [nM_o1 (by omega)]; exact hwc k q1 q2
        have hg4 : ∀ k, 0 ≤ k → k < 2 → nM Gc Mc 1 (a1 + 1) k = oLi Ac k 5 := fun k q1 q2 => by rw [nM_o1 (by omega)]; exact hgc k q1 q2
        generalize nG Gc 101 2 = G47 at hz3 h452 hQ49 hR50 hj1 hj2 hw4 hg4 ⊢
        generalize nM Gc Mc = M48 at hz3 h452 hQ49 hR50 hj1 hj2 hw4 hg4 ⊢
        refine pw_dup C dL_isPassed_95 (cat_vR _) ?_
        refine pw_iconst C dL_isPassed_96 ?_
        refine pw_aload_n C dL_isPassed_97 rfl ?_
        refine pw_iconst C dL_isPassed_98 ?_
        refine pw_iconst C dL_isPassed_99 ?_
        refine pw_cVE C hX dL_isPassed_100 ml_L_98 mc_X5_ofLine (c_ofLine hR50 hAc (l := 0) (w := 2) (by omega) (by omega) (by omega)) kc_8 hR50.k rfl rfl ⟨Nat.le_of_ble_eq_true rfl, Nat.le_of_ble_eq_true rfl⟩ (Nat.le_of_ble_eq_true rfl) (by show ((2 + i.toNat) + 1) + 0 ≤ 5 ∧ ((4 + 2 * i.toNat) + 2) + 0 ≤ 10; omega) ?_
        refine pw_gt01 (t1 := 110) (t2 := 111) C dL_isPassed_103 dL_isPassed_106 dL_isPassed_107 dL_isPassed_110 (by decide) (by decide) rfl (by omega) ?_
        refine pw_zastG C dL_isPassed_111 hz3 (by omega) (bI_01 _) (fun M53 eM53 => ?_)
        have hR54 := hR50.o (lo := (a1 + 2 + i)) (hi := (a1 + 2 + i)) (M1 := M53) (by rw [eM53]; exact Ot.rf.u1 (by omega)) (by omega)
        have hQ55 := hQ49.w (Or.inl (by omega)) eM53
        have hw5 : ∀ k, 0 ≤ k → k < 2 → M53 1 a1 k = oLi A k 4 + oLi A k 5 := fun k q1 q2 => by rw [eM53, mup_n (by omega)]; exact hw4 k q1 q2
        have hg5 : ∀ k, 0 ≤ k → k < 2 → M53 1 (a1 + 1) k = oLi Ac k 5 := fun k q1 q2 => by rw [eM53, mup_n (by omega)]; exact hg4 k q1 q2
        have hy0 : M53 1 (a1 + 2 + i) 0 = bI (0 < (oLi Ac 0 2)) := by rw [eM53, mup_s]
        refine pw_dup C dL_isPassed_112 (cat_vR _) ?_
        refine pw_iconst C dL_isPassed_113 ?_
        refine pw_aload_n C dL_isPassed_114 rfl ?_
        refine pw_iconst C dL_isPassed_115 ?_
        refine pw_iconst C dL_isPassed_116 ?_
        refine pw_cVE C hX dL_isPassed_117 ml_L_98 mc_X5_ofLine (c_ofLine hR54 hAc (l := 1) (w := 2) (by omega) (by omega) (by omega)) kc_8 hR54.k rfl rfl ⟨Nat.le_of_ble_eq_true rfl, Nat.le_of_ble_eq_true rfl⟩ (Nat.le_of_ble_eq_true rfl) (by show ((2 + i.toNat) + 1) + 0 ≤ 5 ∧ ((4 + 2 * i.toNat) + 2) + 0 ≤ 10; omega) ?_
        refine pw_gt01 (t1 := 127) (t2 := 128) C dL_isPassed_120 dL_isPassed_123 dL_isPassed_124 dL_isPassed_127 (by decide) (by decide) rfl (by omega) ?_
        refine pw_zastG C dL_isPassed_128 hz3 (by omega) (bI_01 _) (fun M56 eM56 => ?_)
        have hR57 := hR54.o (lo := (a1 + 2 + i)) (hi := (a1 + 2 + i)) (M1 := M56) (by rw [eM56]; exact Ot.rf.u1 (by omega)) (by omega)
        have hQ58 := hQ55.w (Or.inl (by omega)) eM56
        have hw6 : ∀ k, 0 ≤ k → k < 2 → M56 1 a1 k = oLi A k 4 + oLi A k 5 := fun k q1 q2 => by rw [eM56, mup_n (by omega)]; exact hw5 k q1 q2
        have hg6 : ∀ k, 0 ≤ k → k < 2 → M56 1 (a1 + 1) k = oLi Ac k 5 := fun k q1 q2 => by rw [eM56, mup_n (by omega)]; exact hg5 k q1 q2
        have hy : ∀ k, 0 ≤ k → k < 2 → M56 1 (a1 + 2 + i) k = bI (0 < oLi Ac k 2) := fun k q1 q2 => by
          rcases (show k = 0 ∨ k = 1 by omega) with rfl | rfl
          · rw [eM56, mup_n (by omega)]; exact hy0
          · rw [eM56, mup_s]
        refine pw_astore C dL_isPassed_129 (Nat.le_of_ble_eq_true rfl) rfl ?_
        refine pw_aload_n C dL_isPassed_131 rfl ?_
        refine pw_iconst C dL_isPassed_132 ?_
        refine pw_cVI C hX dL_isPassed_133 ml_L_101 mc_X5_pass (c_pass hR57 hAc (m := 1) (by omega)  (by omega)) kc_8 hR57.k rfl rfl ⟨Nat.le_of_ble_eq_true rfl, Nat.le_of_ble_eq_true rfl⟩ (Nat.le_of_ble_eq_true rfl) (by show ((2 + i.toNat) + 1) + 0 ≤ 5 ∧ ((4 + 2 * i.toNat) + 2) + 0 ≤ 10; omega) (fun r_ G47 M59 hq_ => ?_)
        obtain ⟨rfl, rfl, hR60, o61⟩ := hq_
        obtain ⟨A62, eA63⟩ : ∃ w, w = (aPas Ac 1).1 := ⟨_, rfl⟩
        rw [← eA63] at hR60
        have eD : A62 = aMin Ac := eA63.trans pas_1.1
        have hID : Inv A62 := by rw [eD]; exact hIc.min (by omega)
        have hSD : SN A62 := by rw [eD]; exact hSc.min hAc hIc.2.1
        have hLD : LX A62 := by rw [eD]; exact hLc.min hAc
        have hMD : Mo A A62 := by rw [eD]; exact hMo.tr (Mo.min hLc hAc) (by omega)
        have hPD : PsF A (i + 1) A62 := by rw [eD]; exact hPs.s (by omega) hAc hL.1.2
        have mk := fun k (hk : 0 ≤ k ∧ k < 2) => min_k hIc hLc (by omega) hk
        rw [← eD] at mk
        have bnm := nMin_bd hAc hLc.1.2
        have hnD := hID.1.n
        have h2D := hLD.1
        have n1D : A62 0 0 1 = tk := by have q := hPD.1 1; rw [if_neg (by omega)] at q; rw [q]; exact htk
        rw [pas_1.2]
        have hQ64 := hQ58.ot o61
        have hw7 : ∀ k, 0 ≤ k → k < 2 → M59 1 a1 k = oLi A k 4 + oLi A k 5 := fun k q1 q2 => by rw [o61.j (by omega)]; exact hw6 k q1 q2
        have hg7 : ∀ k, 0 ≤ k → k < 2 → M59 1 (a1 + 1) k = oLi Ac k 5 := fun k q1 q2 => by rw [o61.j (by omega)]; exact hg6 k q1 q2
        have hy7 : ∀ k, 0 ≤ k → k < 2 → M59 1 (a1 + 2 + i) k = bI (0 < oLi Ac k 2) := fun k q1 q2 => by rw [o61.j (by omega)]; exact hy k q1 q2
        refine pw_if_ge (tgt := 141) C dL_isPassed_136 (by decide) (by omega) (fun c_136 => ?_) (fun c_136 => ?_)
        rotate_left
        · exact absurd c_136 (by omega)
        refine pw_iconst C dL_isPassed_141 ?_
        refine pw_istore C dL_isPassed_142 (Nat.le_of_ble_eq_true rfl) rfl ?_
        suffices K_144 : ∀ (nn_144 : Nat) (k : Int) (Me : Mm), (0 ≤ k ∧ k ≤ 2) → (RC G47 Me B A62) → (∀ j, 0 ≤ j → j < k → Me 1 (a1 + 1) j = oLi A62 j 5) → (∀ j, k ≤ j → j < 2 → Me 1 (a1 + 1) j = oLi Ac j 5) → (∀ k, 0 ≤ k → k < 2 → Me 1 a1 k = oLi A k 4 + oLi A k 5) → (∀ j, 0 ≤ j → j < 2 → Me 1 (a1 + 2 + i) j = bI (0 < oLi Ac j 2)) → (PsQ B (G 4 0 0) G M G47 Me) → 2 - k < (nn_144 : Int) → PW E G47 Me ((2 + i.toNat) + 1) ((4 + 2 * i.toNat) + 2) 144 [(0, 1, vR B), (1, 1, vI l), (2, 1, vI tk), (3, 1, vR W), (4, 1, vI (tk - 1)), (5, 1, vI cm), (6, 1, vR a1), (7, 1, vR (a1 + 1)), (8, 1, vI i), (9, 1, vR (a1 + 2 + i)), (10, 1, vI k)] [] from pw_locs (by exact ⟨rfl, cat_vR _, rfl, rfl, rfl, rfl, rfl, cat_vR _, rfl, rfl, rfl, rfl, rfl, cat_vR _, rfl, cat_vR _, rfl, rfl, rfl, cat_vR _, rfl, rfl, trivial⟩) (K_144 (2 - 0 + 1 : Int).toNat 0 M59 (by omega) (by first | exact hR60 | omega) (by first | exact fun j q1 q2 => by omega | omega) (by first | exact fun j q1 q2 => hg7 j q1 q2 | omega) (by first | exact hw7 | omega) (by first | exact hy7 | omega) (by first | exact hQ64 | omega) (by omega))
        intro nn_144
        induction nn_144 with
        | zero => intro k Me h2 hRe hgE1 hgE2 hwE hyE hQe h_m144; exact absurd h_m144 (by omega)
        | succ nn_144 ih_144 =>
          intro k Me h2 hRe hgE1 hgE2 hwE hyE hQe h_m144
          refine pw_iload C dL_isPassed_144 rfl ?_
          refine pw_iconst C dL_isPassed_146 ?_
          refine pw_icmp_ge (tgt := 249) C dL_isPassed_147 (by decide) (by omega) (fun c_147 => ?_) (fun c_147 => ?_)
          · skip
            refine pw_iinc C dL_isPassed_249 rfl (Nat.le_of_ble_eq_true rfl) rfl ?_
            refine pw_goto (tgt := 86) C dL_isPassed_252 (by decide) ?_
            refine pw_widen (k' := 2 + (i + 1).toNat) (n' := 4 + 2 * (i + 1).toNat) (by omega) (by omega) ?_
            exact pw_locs (by exact ⟨rfl, cat_vR _, rfl, rfl, rfl, rfl, rfl, cat_vR _, rfl, rfl, rfl, rfl, rfl, cat_vR _, rfl, cat_vR _, rfl, rfl, trivial⟩) (ih_86 (i + 1) A62 G47 Me (by omega) (hRe) (hPD) (hID) (hSD) (hLD) (hMD) (fun k q1 q2 => ((mk k ⟨q1, q2⟩).1).trans (hcon k q1 q2)) (hQe) (⟨hj1, hj2⟩) (hwE) (fun j q1 q2 => hgE1 j q1 (by omega)) (by rw [h452]; omega) (by omega))
          · skip
            have bk := bo k (by omega)
            have bD := oLi_bd hID.1 hLD (k := k) (by omega)
            have mkk := mk k (by omega)
            have hck := hcon k (by omega) (by omega)
            refine pw_aload_n C dL_isPassed_150 rfl ?_
            refine pw_iload C dL_isPassed_151 rfl ?_
            refine pw_iconst C dL_isPassed_153 ?_
            refine pw_cVE C hX dL_isPassed_154 ml_L_98 mc_X5_ofLine (c_ofLine hRe hID.1 (l := k) (w := 5) (by omega) (by omega) (by omega)) kc_8 hRe.k rfl rfl ⟨Nat.le_of_ble_eq_true rfl, Nat.le_of_ble_eq_true rfl⟩ (Nat.le_of_ble_eq_true rfl) (by show ((2 + i.toNat) + 1) + 0 ≤ 5 ∧ ((4 + 2 * i.toNat) + 2) + 0 ≤ 10; omega) ?_
            refine pw_aload C dL_isPassed_157 rfl ?_
            refine pw_iload C dL_isPassed_159 rfl ?_
            refine pw_ialdE C dL_isPassed_161 hj2 (by omega) (hgE2 k (by omega) (by omega)) ?_
            refine pw_isub C dL_isPassed_162 ?_
            refine pw_istore C dL_isPassed_163 (Nat.le_of_ble_eq_true rfl) rfl ?_
            refine pw_aload C dL_isPassed_165 rfl ?_
            refine pw_iload C dL_isPassed_167 rfl ?_
            refine pw_dup2 C dL_isPassed_169 rfl (cat_vR _) ?_
            refine pw_ialdE C dL_isPassed_170 hj2 (by omega) (hgE2 k (by omega) (by omega)) ?_
            refine pw_iload C dL_isPassed_171 rfl ?_
            refine pw_iadd C dL_isPassed_173 ?_
            refine pw_iastG C dL_isPassed_174 hj2 (by omega) (fun M65 eM65 => ?_)
            have hR66 := hRe.o (lo := (a1 + 1)) (hi := (a1 + 1)) (M1 := M65) (by rw [eM65]; exact Ot.rf.u1 (by omega)) (by omega)
            have hQ67 := hQe.w (Or.inl (by omega)) eM65
            have hwF : ∀ k, 0 ≤ k → k < 2 → M65 1 a1 k = oLi A k 4 + oLi A k 5 := fun k q1 q2 => by rw [eM65, mup_n (by omega)]; exact hwE k q1 q2
            have hyF : ∀ j, 0 ≤ j → j < 2 → M65 1 (a1 + 2 + i) j = bI (0 < oLi Ac j 2) := fun j q1 q2 => by rw [eM65, mup_n (by omega)]; exact hyE j q1 q2
            have hgF1 : ∀ j, 0 ≤ j → j < k + 1 → M65 1 (a1 + 1) j = oLi A62 j 5 := fun j q1 q2 => by (by_cases z : j = k; (rw [z, eM65, mup_s]; omega); (rw [eM65, mup_n (by omega)]; exact hgE1 j q1 (by omega)))
            have hgF2 : ∀ j, k + 1 ≤ j → j < 2 → M65 1 (a1 + 1) j = oLi Ac j 5 := fun j q1 q2 => by rw [eM65, mup_n (by omega)]; exact hgE2 j (by omega) q2
            refine pw_aload_n C dL_isPassed_175 rfl ?_
            refine pw_iload C dL_isPassed_176 rfl ?_
            refine pw_iconst C dL_isPassed_178 ?_
            refine pw_cVE C hX dL_isPassed_179 ml_L_98 mc_X5_ofLine (c_ofLine hR66 hID.1 (l := k) (w := 4) (by omega) (by omega) (by omega)) kc_8 hR66.k rfl rfl ⟨Nat.le_of_ble_eq_true rfl, Nat.le_of_ble_eq_true rfl⟩ (Nat.le_of_ble_eq_true rfl) (by show ((2 + i.toNat) + 1) + 0 ≤ 5 ∧ ((4 + 2 * i.toNat) + 2) + 0 ≤ 10; omega) ?_
            refine pw_aload_n C dL_isPassed_182 rfl ?_
            refine pw_iload C dL_isPassed_183 rfl ?_
            refine pw_iconst C dL_isPassed_185 ?_
            refine pw_cVE C hX dL_isPassed_186 ml_L_98 mc_X5_ofLine (c_ofLine hR66 hID.1 (l := k) (w := 5) (by omega) (by omega) (by omega)) kc_8 hR66.k rfl rfl ⟨Nat.le_of_ble_eq_true rfl, Nat.le_of_ble_eq_true rfl⟩ (Nat.le_of_ble_eq_true rfl) (by show ((2 + i.toNat) + 1) + 0 ≤ 5 ∧ ((4 + 2 * i.toNat) + 2) + 0 ≤ 10; omega) ?_
            refine pw_iadd C dL_isPassed_189 ?_
            refine pw_aload C dL_isPassed_190 rfl ?_
            refine pw_iload C dL_isPassed_192 rfl ?_
            refine pw_ialdE C dL_isPassed_194 hj1 (by omega) (hwF k (by omega) (by omega)) ?_
            refine pw_icmp_ne (tgt := 241) C dL_isPassed_195 (by decide) (by omega) (fun c_195 => ?_) (fun c_195 => ?_)
            · exact absurd c_195 (by omega)
            refine pw_aload C dL_isPassed_198 rfl ?_
            refine pw_iload C dL_isPassed_200 rfl ?_
            refine pw_zaldE C dL_isPassed_202 hz3 (by omega) (hyF k (by omega) (by omega)) ?_
            refine pw_ifB_eq (tgt := 211) C dL_isPassed_203 (by decide) (fun c_203 => ?_) (fun c_203 => ?_)
            · skip
              refine pw_aload C dL_isPassed_211 rfl ?_
              refine pw_iload C dL_isPassed_213 rfl ?_
              refine pw_zaldE C dL_isPassed_215 hz3 (by omega) (hyF k (by omega) (by omega)) ?_
              refine pw_ifB_ne (tgt := 243) C dL_isPassed_216 (by decide) (fun c_216 => ?_) (fun c_216 => ?_)
              · exact absurd c_216 (by omega)
              refine pw_iload C dL_isPassed_219 rfl ?_
              refine pw_aload_n C dL_isPassed_221 rfl ?_
              refine pw_iload C dL_isPassed_222 rfl ?_
              refine pw_iconst C dL_isPassed_224 ?_
              refine pw_cVE C hX dL_isPassed_225 ml_L_98 mc_X5_ofLine (c_ofLine hR66 hID.1 (l := k) (w := 0) (by omega) (by omega) (by omega)) kc_8 hR66.k rfl rfl ⟨Nat.le_of_ble_eq_true rfl, Nat.le_of_ble_eq_true rfl⟩ (Nat.le_of_ble_eq_true rfl) (by show ((2 + i.toNat) + 1) + 0 ≤ 5 ∧ ((4 + 2 * i.toNat) + 2) + 0 ≤ 10; omega) ?_
              refine pw_icmp_eq (tgt := 243) C dL_isPassed_228 (by decide) (by omega) (fun c_228 => ?_) (fun c_228 => ?_)
              · skip
                refine pw_iinc C dL_isPassed_243 rfl (Nat.le_of_ble_eq_true rfl) rfl ?_
                refine pw_goto (tgt := 144) C dL_isPassed_246 (by decide) ?_
                exact pw_locs (by exact ⟨rfl, cat_vR _, rfl, rfl, rfl, rfl, rfl, cat_vR _, rfl, rfl, rfl, rfl, rfl, cat_vR _, rfl, cat_vR _, rfl, rfl, rfl, cat_vR _, rfl, rfl, trivial⟩) (ih_144 (k + 1) M65 (by omega) (hR66) (hgF1) (hgF2) (hwF) (hyF) (hQ67) (by omega))
              · skip
                refine pw_aload_n C dL_isPassed_231 rfl ?_
                refine pw_iload C dL_isPassed_232 rfl ?_
                refine pw_iconst C dL_isPassed_234 ?_
                refine pw_cVE C hX dL_isPassed_235 ml_L_98 mc_X5_ofLine (c_ofLine hR66 hID.1 (l := k) (w := 3) (by omega) (by omega) (by omega)) kc_8 hR66.k rfl rfl ⟨Nat.le_of_ble_eq_true rfl, Nat.le_of_ble_eq_true rfl⟩ (Nat.le_of_ble_eq_true rfl) (by show ((2 + i.toNat) + 1) + 0 ≤ 5 ∧ ((4 + 2 * i.toNat) + 2) + 0 ≤ 10; omega) ?_
                have mk3 := mkk.2.2 c_203
                refine pw_if_le (tgt := 243) C dL_isPassed_238 (by decide) (by omega) (fun c_238 => ?_) (fun c_238 => ?_)
                rotate_left
                · exact absurd c_238 (by omega)
                refine pw_iinc C dL_isPassed_243 rfl (Nat.le_of_ble_eq_true rfl) rfl ?_
                refine pw_goto (tgt := 144) C dL_isPassed_246 (by decide) ?_
                exact pw_locs (by exact ⟨rfl, cat_vR _, rfl, rfl, rfl, rfl, rfl, cat_vR _, rfl, rfl, rfl, rfl, rfl, cat_vR _, rfl, cat_vR _, rfl, rfl, rfl, cat_vR _, rfl, rfl, trivial⟩) (ih_144 (k + 1) M65 (by omega) (hR66) (hgF1) (hgF2) (hwF) (hyF) (hQ67) (by omega))
            · skip
              refine pw_iload C dL_isPassed_206 rfl ?_
              have mk2 := mkk.2.1 c_203
              refine pw_if_gt (tgt := 241) C dL_isPassed_208 (by decide) (by omega) (fun c_208 => ?_) (fun c_208 => ?_)
              · exact absurd c_208 (by omega)
              refine pw_aload C dL_isPassed_211 rfl ?_
              refine pw_iload C dL_isPassed_213 rfl ?_
              refine pw_zaldE C dL_isPassed_215 hz3 (by omega) (hyF k (by omega) (by omega)) ?_
              refine pw_ifB_ne (tgt := 243) C dL_isPassed_216 (by decide) (fun c_216 => ?_) (fun c_216 => ?_)
              rotate_left
              · exact absurd c_216 (by omega)
              refine pw_iinc C dL_isPassed_243 rfl (Nat.le_of_ble_eq_true rfl) rfl ?_
              refine pw_goto (tgt := 144) C dL_isPassed_246 (by decide) ?_
              exact pw_locs (by exact ⟨rfl, cat_vR _, rfl, rfl, rfl, rfl, rfl, cat_vR _, rfl, rfl, rfl, rfl, rfl, cat_vR _, rfl, cat_vR _, rfl, rfl, rfl, cat_vR _, rfl, rfl, trivial⟩) (ih_144 (k + 1) M65 (by omega) (hR66) (hgF1) (hgF2) (hwF) (hyF) (hQ67) (by omega))
  · skip
    refine pw_iconst C dL_isPassed_10 ?_
    refine pw_goto (tgt := 21) C dL_isPassed_11 (by decide) ?_
    refine pw_istore C dL_isPassed_21 (Nat.le_of_ble_eq_true rfl) rfl ?_
    refine pw_iconst C dL_isPassed_23 ?_
    refine pw_newI C dL_isPassed_24 (by omega) (ks := 2) rfl (by show 0 + 1 ≤ 5; omega) (by show 0 + 2 ≤ 10; omega) ?_
    rw [h40]
    have hai0 : AI (nG G 100 2) a1 2 := by rw [← h40]; exact ⟨nG_kind, nG_len⟩
    have h473 : nG G 100 2 4 0 0 = a1 + 1 := by rw [nG_next, h40]
    have hQ70 := hQ0.new (K := 100) (len := 2)
    have hR71 := hR0.og (G1 := nG G 100 2) (M1 := nM G M) (fun b q1 q2 => agr_n b (by omega))
    generalize nG G 100 2 = G68 at hai0 h473 hQ70 hR71 ⊢
    generalize nM G M = M69 at hai0 h473 hQ70 hR71 ⊢
    refine pw_dup C dL_isPassed_26 (cat_vR _) ?_
    refine pw_iconst C dL_isPassed_27 ?_
    refine pw_aload_n C dL_isPassed_28 rfl ?_
    refine pw_iconst C dL_isPassed_29 ?_
    refine pw_iconst C dL_isPassed_30 ?_
    refine pw_cVE C hX dL_isPassed_31 ml_L_98 mc_X5_ofLine (c_ofLine hR71 hA (l := 0) (w := 4) (by omega) (by omega) (by omega)) kc_8 hR71.k rfl rfl ⟨Nat.le_of_ble_eq_true rfl, Nat.le_of_ble_eq_true rfl⟩ (Nat.le_of_ble_eq_true rfl) (by show (0 + 1) + 0 ≤ 5 ∧ (0 + 2) + 0 ≤ 10; omega) ?_
    refine pw_aload_n C dL_isPassed_34 rfl ?_
    refine pw_iconst C dL_isPassed_35 ?_
    refine pw_iconst C dL_isPassed_36 ?_
    refine pw_cVE C hX dL_isPassed_37 ml_L_98 mc_X5_ofLine (c_ofLine hR71 hA (l := 0) (w := 5) (by omega) (by omega) (by omega)) kc_8 hR71.k rfl rfl ⟨Nat.le_of_ble_eq_true rfl, Nat.le_of_ble_eq_true rfl⟩ (Nat.le_of_ble_eq_true rfl) (by show (0 + 1) + 0 ≤ 5 ∧ (0 + 2) + 0 ≤ 10; omega) ?_
    refine pw_iadd C dL_isPassed_40 ?_
    refine pw_iastG C dL_isPassed_41 hai0 (by omega) (fun M74 eM74 => ?_)
    have hR75 := hR71.o (lo := a1) (hi := a1) (M1 := M74) (by rw [eM74]; exact Ot.rf.u1 (by omega)) (by omega)
    have hQ76 := hQ70.w (Or.inl (by omega)) eM74
    have hc0 : M74 1 a1 0 = ((oLi A 0 4) + (oLi A 0 5)) := by rw [eM74, mup_s]
    refine pw_dup C dL_isPassed_42 (cat_vR _) ?_
    refine pw_iconst C dL_isPassed_43 ?_
    refine pw_aload_n C dL_isPassed_44 rfl ?_
    refine pw_iconst C dL_isPassed_45 ?_
    refine pw_iconst C dL_isPassed_46 ?_
    refine pw_cVE C hX dL_isPassed_47 ml_L_98 mc_X5_ofLine (c_ofLine hR75 hA (l := 1) (w := 4) (by omega) (by omega) (by omega)) kc_8 hR75.k rfl rfl ⟨Nat.le_of_ble_eq_true rfl, Nat.le_of_ble_eq_true rfl⟩ (Nat.le_of_ble_eq_true rfl) (by show (0 + 1) + 0 ≤ 5 ∧ (0 + 2) + 0 ≤ 10; omega) ?_
    refine pw_aload_n C dL_isPassed_50 rfl ?_
    refine pw_iconst C dL_isPassed_51 ?_
    refine pw_iconst C dL_isPassed_52 ?_
    refine pw_cVE C hX dL_isPassed_53 ml_L_98 mc_X5_ofLine (c_ofLine hR75 hA (l := 1) (w := 5) (by omega) (by omega) (by omega)) kc_8 hR75.k rfl rfl ⟨Nat.le_of_ble_eq_true rfl, Nat.le_of_ble_eq_true rfl⟩ (Nat.le_of_ble_eq_true rfl) (by show (0 + 1) + 0 ≤ 5 ∧ (0 + 2) + 0 ≤ 10; omega) ?_
    refine pw_iadd C dL_isPassed_56 ?_
    refine pw_iastG C dL_isPassed_57 hai0 (by omega) (fun M77 eM77 => ?_)
    have hR78 := hR75.o (lo := a1) (hi := a1) (M1 := M77) (by rw [eM77]; exact Ot.rf.u1 (by omega)) (by omega)
    have hQ79 := hQ76.w (Or.inl (by omega)) eM77
    have hw : ∀ k, 0 ≤ k → k < 2 → M77 1 a1 k = oLi A k 4 + oLi A k 5 := fun k q1 q2 => by
      rcases (show k = 0 ∨ k = 1 by omega) with rfl | rfl
      · rw [eM77, mup_n (by omega)]; exact hc0
      · rw [eM77, mup_s]
    refine pw_astore C dL_isPassed_58 (Nat.le_of_ble_eq_true rfl) rfl ?_
    refine pw_iconst C dL_isPassed_60 ?_
    refine pw_newI C dL_isPassed_61 (by omega) (ks := 2) rfl (by show (0 + 1) + 1 ≤ 5; omega) (by show (0 + 2) + 2 ≤ 10; omega) ?_
    rw [h473]
    have hai2 : AI (nG G68 100 2) (a1 + 1) 2 := by rw [← h473]; exact ⟨nG_kind, nG_len⟩
    have h485 : nG G68 100 2 4 0 0 = (a1 + 1) + 1 := by rw [nG_next, h473]
    have hQ82 := hQ79.new (K := 100) (len := 2)
    have hR83 := hR78.og (G1 := nG G68 100 2) (M1 := nM G68 M77) (fun b q1 q2 => agr_n b (by omega))
    have hai1 : AI (nG G68 100 2) a1 2 := ⟨(nG_o0 (by omega)).trans hai0.1, (nG_o1 (by omega)).trans hai0.2⟩
    have hw1 : ∀ k, 0 ≤ k → k < 2 → nM G68 M77 1 a1 k = oLi A k 4 + oLi A k 5 := fun k q1 q2 => by rw [nM_o1 (by omega)]; exact hw k q1 q2
    generalize nG G68 100 2 = G80 at hai2 h485 hQ82 hR83 hai1 hw1 ⊢
    generalize nM G68 M77 = M81 at hai2 h485 hQ82 hR83 hai1 hw1 ⊢
    refine pw_dup C dL_isPassed_63 (cat_vR _) ?_
    refine pw_iconst C dL_isPassed_64 ?_
    refine pw_aload_n C dL_isPassed_65 rfl ?_
    refine pw_iconst C dL_isPassed_66 ?_
    refine pw_iconst C dL_isPassed_67 ?_
    refine pw_cVE C hX dL_isPassed_68 ml_L_98 mc_X5_ofLine (c_ofLine hR83 hA (l := 0) (w := 5) (by omega) (by omega) (by omega)) kc_8 hR83.k rfl rfl ⟨Nat.le_of_ble_eq_true rfl, Nat.le_of_ble_eq_true rfl⟩ (Nat.le_of_ble_eq_true rfl) (by show ((0 + 1) + 1) + 0 ≤ 5 ∧ ((0 + 2) + 2) + 0 ≤ 10; omega) ?_
    refine pw_iastG C dL_isPassed_71 hai2 (by omega) (fun M86 eM86 => ?_)
    have hR87 := hR83.o (lo := (a1 + 1)) (hi := (a1 + 1)) (M1 := M86) (by rw [eM86]; exact Ot.rf.u1 (by omega)) (by omega)
    have hQ88 := hQ82.w (Or.inl (by omega)) eM86
    have hw2 : ∀ k, 0 ≤ k → k < 2 → M86 1 a1 k = oLi A k 4 + oLi A k 5 := fun k q1 q2 => by rw [eM86, mup_n (by omega)]; exact hw1 k q1 q2
    have hd0 : M86 1 (a1 + 1) 0 = (oLi A 0 5) := by rw [eM86, mup_s]
    refine pw_dup C dL_isPassed_72 (cat_vR _) ?_
    refine pw_iconst C dL_isPassed_73 ?_
    refine pw_aload_n C dL_isPassed_74 rfl ?_
    refine pw_iconst C dL_isPassed_75 ?_
    refine pw_iconst C dL_isPassed_76 ?_
    refine pw_cVE C hX dL_isPassed_77 ml_L_98 mc_X5_ofLine (c_ofLine hR87 hA (l := 1) (w := 5) (by omega) (by omega) (by omega)) kc_8 hR87.k rfl rfl ⟨Nat.le_of_ble_eq_true rfl, Nat.le_of_ble_eq_true rfl⟩ (Nat.le_of_ble_eq_true rfl) (by show ((0 + 1) + 1) + 0 ≤ 5 ∧ ((0 + 2) + 2) + 0 ≤ 10; omega) ?_
    refine pw_iastG C dL_isPassed_80 hai2 (by omega) (fun M89 eM89 => ?_)
    have hR90 := hR87.o (lo := (a1 + 1)) (hi := (a1 + 1)) (M1 := M89) (by rw [eM89]; exact Ot.rf.u1 (by omega)) (by omega)
    have hQ91 := hQ88.w (Or.inl (by omega)) eM89
    have hw3 : ∀ k, 0 ≤ k → k < 2 → M89 1 a1 k = oLi A k 4 + oLi A k 5 := fun k q1 q2 => by rw [eM89, mup_n (by omega)]; exact hw2 k q1 q2
    have hg3 : ∀ k, 0 ≤ k → k < 2 → M89 1 (a1 + 1) k = oLi A k 5 := fun k q1 q2 => by
      rcases (show k = 0 ∨ k = 1 by omega) with rfl | rfl
      · rw [eM89, mup_n (by omega)]; exact hd0
      · rw [eM89, mup_s]
    refine pw_astore C dL_isPassed_81 (Nat.le_of_ble_eq_true rfl) rfl ?_
    refine pw_iconst C dL_isPassed_83 ?_
    refine pw_istore C dL_isPassed_84 (Nat.le_of_ble_eq_true rfl) rfl ?_
    suffices K_86 : ∀ (nn_86 : Nat) (i : Int) (Ac : An) (Gc : Mm) (Mc : Mm), (0 ≤ i ∧ i ≤ 3) → (RC Gc Mc B Ac) → (PsF A i Ac) → (Inv Ac) → (SN Ac) → (LX Ac) → (Mo A Ac) → (∀ k, 0 ≤ k → k < 2 → oLi Ac k 4 + oLi Ac k 5 = oLi A k 4 + oLi A k 5) → (PsQ B (G 4 0 0) G M Gc Mc) → (AI Gc a1 2 ∧ AI Gc (a1 + 1) 2) → (∀ k, 0 ≤ k → k < 2 → Mc 1 a1 k = oLi A k 4 + oLi A k 5) → (∀ k, 0 ≤ k → k < 2 → Mc 1 (a1 + 1) k = oLi Ac k 5) → (Gc 4 0 0 = a1 + 2 + i) → 3 - i < (nn_86 : Int) → PW E Gc Mc (2 + i.toNat) (4 + 2 * i.toNat) 86 [(0, 1, vR B), (1, 1, vI l), (2, 1, vI tk), (3, 1, vR W), (4, 1, vI (tk - 1)), (5, 1, vI (-1)), (6, 1, vR a1), (7, 1, vR (a1 + 1)), (8, 1, vI i)] [] from pw_locs (by exact ⟨rfl, cat_vR _, rfl, rfl, rfl, rfl, rfl, cat_vR _, rfl, rfl, rfl, rfl, rfl, cat_vR _, rfl, cat_vR _, rfl, rfl, trivial⟩) (K_86 (3 - 0 + 1 : Int).toNat 0 A G80 M89 (by omega) (by first | exact hR90 | omega) (by first | exact PsF.z | omega) (by first | exact hI | omega) (by first | exact hS | omega) (by first | exact hL | omega) (by first | exact Mo.rf | omega) (by first | exact fun k _ _ => rfl | omega) (by first | exact hQ91 | omega) (by first | exact ⟨hai1, hai2⟩ | omega) (by first | exact hw3 | omega) (by first | exact hg3 | omega) (by omega) (by omega))
    intro nn_86
    induction nn_86 with
    | zero => intro i Ac Gc Mc h1 hRc hPs hIc hSc hLc hMo hcon hQc hai hwc hgc h4c h_m86; exact absurd h_m86 (by omega)
    | succ nn_86 ih_86 =>
      intro i Ac Gc Mc h1 hRc hPs hIc hSc hLc hMo hcon hQc hai hwc hgc h4c h_m86
      have hAc := hIc.1
      have hnc := hAc.n
      have h2c := hLc.1
      have n1c : Ac 0 0 1 = tk := by have q := hPs.1 1; rw [if_neg (by omega)] at q; rw [q]; exact htk
      have n3c : Ac 0 0 3 = A 0 0 3 + i := by have q := hPs.1 3; rw [if_pos rfl] at q; exact q
      have bo := fun k (hk : 0 ≤ k ∧ k < 2) => oLi_bd hAc hLc hk
      have bo0 := bo 0 (by omega)
      have bo1 := bo 1 (by omega)
      refine pw_iload C dL_isPassed_86 rfl ?_
      refine pw_iconst C dL_isPassed_88 ?_
      refine pw_icmp_ge (tgt := 255) C dL_isPassed_89 (by decide) (by omega) (fun c_89 => ?_) (fun c_89 => ?_)
      · skip
        refine pw_iload C dL_isPassed_255 rfl ?_
        have e3 : i = 3 := by omega
        rw [e3] at hPs
        have hQx : PsQ B W G M Gc Mc := hQc.wk
        have hWx : WC Mc W Ac := (hWC.m (fun t k q1 q2 => hQc.row hWB hWG ⟨q1, q2⟩ k)).mo hMo (by omega)
        have hMXc : MX Gc W 60 2 := hMX.q hQx (by omega) (by omega)
        refine pw_if_lt (tgt := 297) C dL_isPassed_257 (by decide) (by omega) (fun c_257 => ?_) (fun c_257 => ?_)
        rotate_left
        · exact absurd c_257 (by omega)
        refine pw_iconst C dL_isPassed_297 ?_
        refine pw_istore C dL_isPassed_298 (Nat.le_of_ble_eq_true rfl) rfl ?_
        suffices K_300 : ∀ (nn_300 : Nat) (t : Int) (Mf : Mm), (0 ≤ t ∧ t ≤ tk) → (RC Gc Mf B Ac) → (WC Mf W Ac) → (PsQ B W G M Gc Mf) → tk - t < (nn_300 : Int) → PW E Gc Mf (2 + i.toNat) (4 + 2 * i.toNat) 300 [(0, 1, vR B), (1, 1, vI l), (2, 1, vI tk), (3, 1, vR W), (4, 1, vI (tk - 1)), (5, 1, vI (-1)), (6, 1, vR a1), (7, 1, vR (a1 + 1)), (8, 1, vI i), (9, 1, vI t)] [] from pw_locs (by exact ⟨rfl, cat_vR _, rfl, rfl, rfl, rfl, rfl, cat_vR _, rfl, rfl, rfl, rfl, rfl, cat_vR _, rfl, cat_vR _, rfl, rfl, rfl, rfl, trivial⟩) (K_300 (tk - 0 + 1 : Int).toNat 0 Mc (by omega) (by first | exact hRc | omega) (by first | exact hWx | omega) (by first | exact hQx | omega) (by omega))
        intro nn_300
        induction nn_300 with
        | zero => intro t Mf h5 hRf hWf hQf h_m300; exact absurd h_m300 (by omega)
        | succ nn_300 ih_300 =>
          intro t Mf h5 hRf hWf hQf h_m300
          refine pw_iload C dL_isPassed_300 rfl ?_
          refine pw_iload_n C dL_isPassed_302 rfl ?_
          refine pw_icmp_ge (tgt := 365) C dL_isPassed_303 (by decide) (by omega) (fun c_303 => ?_) (fun c_303 => ?_)
          · skip
            refine pw_iconst C dL_isPassed_365 ?_
            exact pw_zret C hR dL_isPassed_366 (by omega) (⟨_, rfl, rfl, Ac, hPs, ⟨hIc, hSc, hLc⟩, hMo, hRf, hWf, hQf⟩) (by omega) (by omega)
          · skip
            refine pw_iconst C dL_isPassed_306 ?_
            refine pw_istore C dL_isPassed_307 (Nat.le_of_ble_eq_true rfl) rfl ?_
            suffices K_309 : ∀ (nn_309 : Nat) (k : Int) (Mg : Mm), (0 ≤ k ∧ k ≤ 2) → (RC Gc Mg B Ac) → (WC Mg W Ac) → (PsQ B W G M Gc Mg) → 2 - k < (nn_309 : Int) → PW E Gc Mg (2 + i.toNat) (4 + 2 * i.toNat) 309 [(0, 1, vR B), (1, 1, vI l), (2, 1, vI tk), (3, 1, vR W), (4, 1, vI (tk - 1)), (5, 1, vI (-1)), (6, 1, vR a1), (7, 1, vR (a1 + 1)), (8, 1, vI i), (9, 1, vI t), (10, 1, vI k)] [] from pw_locs (by exact ⟨rfl, cat_vR _, rfl, rfl, rfl, rfl, rfl, cat_vR _, rfl, rfl, rfl, rfl, rfl, cat_vR _, rfl, cat_vR _, rfl, rfl, rfl, rfl, rfl, rfl, trivial⟩) (K_309 (2 - 0 + 1 : Int).toNat 0 Mf (by omega) (by first | exact hRf | omega) (by first | exact hWf | omega) (by first | exact hQf | omega) (by omega))
            intro nn_309
            induction nn_309 with
            | zero => intro k Mg h6 hRg hWg hQg h_m309; exact absurd h_m309 (by omega)
            | succ nn_309 ih_309 =>
              intro k Mg h6 hRg hWg hQg h_m309
              refine pw_iload C dL_isPassed_309 rfl ?_
              refine pw_iconst C dL_isPassed_311 ?_
              refine pw_icmp_ge (tgt := 359) C dL_isPassed_312 (by decide) (by omega) (fun c_312 => ?_) (fun c_312 => ?_)
              · skip
                refine pw_iinc C dL_isPassed_359 rfl (Nat.le_of_ble_eq_true rfl) rfl ?_
                refine pw_goto (tgt := 300) C dL_isPassed_362 (by decide) ?_
                exact pw_locs (by exact ⟨rfl, cat_vR _, rfl, rfl, rfl, rfl, rfl, cat_vR _, rfl, rfl, rfl, rfl, rfl, cat_vR _, rfl, cat_vR _, rfl, rfl, rfl, rfl, trivial⟩) (ih_300 (t + 1) Mg (by omega) (hRg) (hWg) (hQg) (by omega))
              · skip
                refine pw_aload_n C dL_isPassed_315 rfl ?_
                refine pw_iload C dL_isPassed_316 rfl ?_
                refine pw_iload C dL_isPassed_318 rfl ?_
                refine pw_cVE C hX dL_isPassed_320 ml_L_92 mc_X5_state (c_state hRg hAc (l := k) (t := t) (by omega) (by omega) (by omega)) kc_8 hRg.k rfl rfl ⟨Nat.le_of_ble_eq_true rfl, Nat.le_of_ble_eq_true rfl⟩ (Nat.le_of_ble_eq_true rfl) (by show (2 + i.toNat) + 0 ≤ 5 ∧ (4 + 2 * i.toNat) + 0 ≤ 10; omega) ?_
                obtain ⟨sv, hsv⟩ : ∃ w, w = stt Ac k t := ⟨_, rfl⟩
                rw [← hsv]
                have bsv : 0 ≤ sv ∧ sv ≤ 5 := by rw [hsv]; exact stt_bd
                refine pw_istore C dL_isPassed_323 (Nat.le_of_ble_eq_true rfl) rfl ?_
                refine pw_iload C dL_isPassed_325 rfl ?_
                refine pw_aload_n C dL_isPassed_327 rfl ?_
                refine pw_iload C dL_isPassed_328 rfl ?_
                refine pw_aaldE C dL_isPassed_330 hMXc.1 (by omega) (by omega) (hMXc.2 t (by omega) (by omega)).1 ?_
                refine pw_iload C dL_isPassed_331 rfl ?_
                obtain ⟨wv, hwv⟩ : ∃ w, Mg 1 (W + 1 + t) k = w := ⟨_, rfl⟩
                refine pw_ialdE C dL_isPassed_333 (hMXc.2 t (by omega) (by omega)).2 (by omega) hwv ?_
                have hww := hWg t k (by omega) (by omega) (by omega) (by omega)
                rw [hwv, ← hsv] at hww
                refine pw_icmp_ge (tgt := 344) C dL_isPassed_334 (by decide) (by omega) (fun c_334 => ?_) (fun c_334 => ?_)
                · skip
                  refine pw_aload_n C dL_isPassed_344 rfl ?_
                  refine pw_iload C dL_isPassed_345 rfl ?_
                  refine pw_aaldE C dL_isPassed_347 hMXc.1 (by omega) (by omega) (hMXc.2 t (by omega) (by omega)).1 ?_
                  refine pw_iload C dL_isPassed_348 rfl ?_
                  refine pw_iload C dL_isPassed_350 rfl ?_
                  refine pw_iastG C dL_isPassed_352 (hMXc.2 t (by omega) (by omega)).2 (by omega) (fun M92 eM92 => ?_)
                  have hR93 := hRg.o (lo := (W + 1 + t)) (hi := (W + 1 + t)) (M1 := M92) (by rw [eM92]; exact Ot.rf.u1 (by omega)) (by omega)
                  have hQ94 := hQg.w (Or.inr (by omega)) eM92
                  have hWh : WC M92 W Ac := hWg.set (t := t) (k := k) (by omega) (by rw [eM92, hsv])
                  refine pw_iinc C dL_isPassed_353 rfl (Nat.le_of_ble_eq_true rfl) rfl ?_
                  refine pw_goto (tgt := 309) C dL_isPassed_356 (by decide) ?_
                  exact pw_locs (by exact ⟨rfl, cat_vR _, rfl, rfl, rfl, rfl, rfl, cat_vR _, rfl, rfl, rfl, rfl, rfl, cat_vR _, rfl, cat_vR _, rfl, rfl, rfl, rfl, rfl, rfl, trivial⟩) (ih_309 (k + 1) M92 (by omega) (hR93) (hWh) (hQ94) (by omega))
                · skip
                  refine pw_iload C dL_isPassed_337 rfl ?_
                  refine pw_if_le (tgt := 344) C dL_isPassed_339 (by decide) (by omega) (fun c_339 => ?_) (fun c_339 => ?_)
                  rotate_left
                  · exact absurd c_339 (by omega)
                  refine pw_aload_n C dL_isPassed_344 rfl ?_
                  refine pw_iload C dL_isPassed_345 rfl ?_
                  refine pw_aaldE C dL_isPassed_347 hMXc.1 (by omega) (by omega) (hMXc.2 t (by omega) (by omega)).1 ?_
                  refine pw_iload C dL_isPassed_348 rfl ?_
                  refine pw_iload C dL_isPassed_350 rfl ?_
                  refine pw_iastG C dL_isPassed_352 (hMXc.2 t (by omega) (by omega)).2 (by omega) (fun M95 eM95 => ?_)
                  have hR96 := hRg.o (lo := (W + 1 + t)) (hi := (W + 1 + t)) (M1 := M95) (by rw [eM95]; exact Ot.rf.u1 (by omega)) (by omega)
                  have hQ97 := hQg.w (Or.inr (by omega)) eM95
                  have hWh : WC M95 W Ac := hWg.set (t := t) (k := k) (by omega) (by rw [eM95, hsv])
                  refine pw_iinc C dL_isPassed_353 rfl (Nat.le_of_ble_eq_true rfl) rfl ?_
                  refine pw_goto (tgt := 309) C dL_isPassed_356 (by decide) ?_
                  exact pw_locs (by exact ⟨rfl, cat_vR _, rfl, rfl, rfl, rfl, rfl, cat_vR _, rfl, rfl, rfl, rfl, rfl, cat_vR _, rfl, cat_vR _, rfl, rfl, rfl, rfl, rfl, rfl, trivial⟩) (ih_309 (k + 1) M95 (by omega) (hR96) (hWh) (hQ97) (by omega))
      · skip
        refine pw_iconst C dL_isPassed_92 ?_
        refine pw_newZ C wa_bool dL_isPassed_93 (by omega) (ks := 2) rfl (by show (2 + i.toNat) + 1 ≤ 5; omega) (by show (4 + 2 * i.toNat) + 2 ≤ 10; omega) ?_
        rw [h4c]
        have hz3 : AZ (nG Gc 101 2) (a1 + 2 + i) 2 := by rw [← h4c]; exact ⟨nG_kind, nG_len⟩
        have h4103 : nG Gc 101 2 4 0 0 = (a1 + 2 + i) + 1 := by rw [nG_next, h4c]
        have hQ100 := hQc.new (K := 101) (len := 2)
        have hR101 := hRc.og (G1 := nG Gc 101 2) (M1 := nM Gc Mc) (fun b q1 q2 => agr_n b (by omega))
        have hj1 : AI (nG Gc 101 2) a1 2 := ⟨(nG_o0 (by omega)).trans hai.1.1, (nG_o1 (by omega)).trans hai.1.2⟩
        have hj2 : AI (nG Gc 101 2) (a1 + 1) 2 := ⟨(nG_o0 (by omega)).trans hai.2.1, (nG_o1 (by omega)).trans hai.2.2⟩
        have hw4 : ∀ k, 0 ≤ k → k < 2 → nM Gc Mc 1 a1 k = oLi A k 4 + oLi A k 5 := fun k q1 q2 => by rw [nM_o1 (by omega)]; exact hwc k q1 q2
        have hg4 : ∀ k, 0 ≤ k → k < 2 → nM Gc Mc 1 (a1 + 1) k = oLi Ac k 5 := fun k q1 q2 => by rw [nM_o1 (by omega)]; exact hgc k q1 q2
        generalize nG Gc 101 2 = G98 at hz3 h4103 hQ100 hR101 hj1 hj2 hw4 hg4 ⊢
        generalize nM Gc Mc = M99 at hz3 h4103 hQ100 hR101 hj1 hj2 hw4 hg4 ⊢
        refine pw_dup C dL_isPassed_95 (cat_vR _) ?_
        refine pw_iconst C dL_isPassed_96 ?_
        refine pw_aload_n C dL_isPassed_97 rfl ?_
        refine pw_iconst C dL_isPassed_98 ?_
        refine pw_iconst C dL_isPassed_99 ?_
        refine pw_cVE C hX dL_isPassed_100 ml_L_98 mc_X5_ofLine (c_ofLine hR101 hAc (l := 0) (w := 2) (by omega) (by omega) (by omega)) kc_8 hR101.k rfl rfl ⟨Nat.le_of_ble_eq_true rfl, Nat.le_of_ble_eq_true rfl⟩ (Nat.le_of_ble_eq_true rfl) (by show ((2 + i.toNat) + 1) + 0 ≤ 5 ∧ ((4 + 2 * i.toNat) + 2) + 0 ≤ 10; omega) ?_
        refine pw_gt01 (t1 := 110) (t2 := 111) C dL_isPassed_103 dL_isPassed_106 dL_isPassed_107 dL_isPassed_110 (by decide) (by decide) rfl (by omega) ?_
        refine pw_zastG C dL_isPassed_111 hz3 (by omega) (bI_01 _) (fun M104 eM104 => ?_)
        have hR105 := hR101.o (lo := (a1 + 2 + i)) (hi := (a1 + 2 + i)) (M1 := M104) (by rw [eM104]; exact Ot.rf.u1 (by omega)) (by omega)
        have hQ106 := hQ100.w (Or.inl (by omega)) eM104
        have hw5 : ∀ k, 0 ≤ k → k < 2 → M104 1 a1 k = oLi A k 4 + oLi A k 5 := fun k q1 q2 => by rw [eM104, mup_n (by omega)]; exact hw4 k q1 q2
        have hg5 : ∀ k, 0 ≤ k → k < 2 → M104 1 (a1 + 1) k = oLi Ac k 5 := fun k q1 q2 => by rw [eM104, mup_n (by omega)]; exact hg4 k q1 q2
        have hy0 : M104 1 (a1 + 2 + i) 0 = bI (0 < (oLi Ac 0 2)) := by rw [eM104, mup_s]
        refine pw_dup C dL_isPassed_112 (cat_vR _) ?_
        refine pw_iconst C dL_isPassed_113 ?_
        refine pw_aload_n C dL_isPassed_114 rfl ?_
        refine pw_iconst C dL_isPassed_115 ?_
        refine pw_iconst C dL_isPassed_116 ?_
        refine pw_cVE C hX dL_isPassed_117 ml_L_98 mc_X5_ofLine (c_ofLine hR105 hAc (l := 1) (w := 2) (by omega) (by omega) (by omega)) kc_8 hR105.k rfl rfl ⟨Nat.le_of_ble_eq_true rfl, Nat.le_of_ble_eq_true rfl⟩ (Nat.le_of_ble_eq_true rfl) (by show ((2 + i.toNat) + 1) + 0 ≤ 5 ∧ ((4 + 2 * i.toNat) + 2) + 0 ≤ 10; omega) ?_
        refine pw_gt01 (t1 := 127) (t2 := 128) C dL_isPassed_120 dL_isPassed_123 dL_isPassed_124 dL_isPassed_127 (by decide) (by decide) rfl (by omega) ?_
        refine pw_zastG C dL_isPassed_128 hz3 (by omega) (bI_01 _) (fun M107 eM107 => ?_)
        have hR108 := hR105.o (lo := (a1 + 2 + i)) (hi := (a1 + 2 + i)) (M1 := M107) (by rw [eM107]; exact Ot.rf.u1 (by omega)) (by omega)
        have hQ109 := hQ106.w (Or.inl (by omega)) eM107
        have hw6 : ∀ k, 0 ≤ k → k < 2 → M107 1 a1 k = oLi A k 4 + oLi A k 5 := fun k q1 q2 => by rw [eM107, mup_n (by omega)]; exact hw5 k q1 q2
        have hg6 : ∀ k, 0 ≤ k → k < 2 → M107 1 (a1 + 1) k = oLi Ac k 5 := fun k q1 q2 => by rw [eM107, mup_n (by omega)]; exact hg5 k q1 q2
        have hy : ∀ k, 0 ≤ k → k < 2 → M107 1 (a1 + 2 + i) k = bI (0 < oLi Ac k 2) := fun k q1 q2 => by
          rcases (show k = 0 ∨ k = 1 by omega) with rfl | rfl
          · rw [eM107, mup_n (by omega)]; exact hy0
          · rw [eM107, mup_s]
        refine pw_astore C dL_isPassed_129 (Nat.le_of_ble_eq_true rfl) rfl ?_
        refine pw_aload_n C dL_isPassed_131 rfl ?_
        refine pw_iconst C dL_isPassed_132 ?_
        refine pw_cVI C hX dL_isPassed_133 ml_L_101 mc_X5_pass (c_pass hR108 hAc (m := 1) (by omega)  (by omega)) kc_8 hR108.k rfl rfl ⟨Nat.le_of_ble_eq_true rfl, Nat.le_of_ble_eq_true rfl⟩ (Nat.le_of_ble_eq_true rfl) (by show ((2 + i.toNat) + 1) + 0 ≤ 5 ∧ ((4 + 2 * i.toNat) + 2) + 0 ≤ 10; omega) (fun r_ G98 M110 hq_ => ?_)
        obtain ⟨rfl, rfl, hR111, o112⟩ := hq_
        obtain ⟨A113, eA114⟩ : ∃ w, w = (aPas Ac 1).1 := ⟨_, rfl⟩
        rw [← eA114] at hR111
        have eD : A113 = aMin Ac := eA114.trans pas_1.1
        have hID : Inv A113 := by rw [eD]; exact hIc.min (by omega)
        have hSD : SN A113 := by rw [eD]; exact hSc.min hAc hIc.2.1
        have hLD : LX A113 := by rw [eD]; exact hLc.min hAc
        have hMD : Mo A A113 := by rw [eD]; exact hMo.tr (Mo.min hLc hAc) (by omega)
        have hPD : PsF A (i + 1) A113 := by rw [eD]; exact hPs.s (by omega) hAc hL.1.2
        have mk := fun k (hk : 0 ≤ k ∧ k < 2) => min_k hIc hLc (by omega) hk
        rw [← eD] at mk
        have bnm := nMin_bd hAc hLc.1.2
        have hnD := hID.1.n
        have h2D := hLD.1
        have n1D : A113 0 0 1 = tk := by have q := hPD.1 1; rw [if_neg (by omega)] at q; rw [q]; exact htk
        rw [pas_1.2]
        have hQ115 := hQ109.ot o112
        have hw7 : ∀ k, 0 ≤ k → k < 2 → M110 1 a1 k = oLi A k 4 + oLi A k 5 := fun k q1 q2 => by rw [o112.j (by omega)]; exact hw6 k q1 q2
        have hg7 : ∀ k, 0 ≤ k → k < 2 → M110 1 (a1 + 1) k = oLi Ac k 5 := fun k q1 q2 => by rw [o112.j (by omega)]; exact hg6 k q1 q2
        have hy7 : ∀ k, 0 ≤ k → k < 2 → M110 1 (a1 + 2 + i) k = bI (0 < oLi Ac k 2) := fun k q1 q2 => by rw [o112.j (by omega)]; exact hy k q1 q2
        refine pw_if_ge (tgt := 141) C dL_isPassed_136 (by decide) (by omega) (fun c_136 => ?_) (fun c_136 => ?_)
        rotate_left
        · exact absurd c_136 (by omega)
        refine pw_iconst C dL_isPassed_141 ?_
        refine pw_istore C dL_isPassed_142 (Nat.le_of_ble_eq_true rfl) rfl ?_
        suffices K_144 : ∀ (nn_144 : Nat) (k : Int) (Me : Mm), (0 ≤ k ∧ k ≤ 2) → (RC G98 Me B A113) → (∀ j, 0 ≤ j → j < k → Me 1 (a1 + 1) j = oLi A113 j 5) → (∀ j, k ≤ j → j < 2 → Me 1 (a1 + 1) j = oLi Ac j 5) → (∀ k, 0 ≤ k → k < 2 → Me 1 a1 k = oLi A k 4 + oLi A k 5) → (∀ j, 0 ≤ j → j < 2 → Me 1 (a1 + 2 + i) j = bI (0 < oLi Ac j 2)) → (PsQ B (G 4 0 0) G M G98 Me) → 2 - k < (nn_144 : Int) → PW E G98 Me ((2 + i.toNat) + 1) ((4 + 2 * i.toNat) + 2) 144 [(0, 1, vR B), (1, 1, vI l), (2, 1, vI tk), (3, 1, vR W), (4, 1, vI (tk - 1)), (5, 1, vI (-1)), (6, 1, vR a1), (7, 1, vR (a1 + 1)), (8, 1, vI i), (9, 1, vR (a1 + 2 + i)), (10, 1, vI k)] [] from pw_locs (by exact ⟨rfl, cat_vR _, rfl, rfl, rfl, rfl, rfl, cat_vR _, rfl, rfl, rfl, rfl, rfl, cat_vR _, rfl, cat_vR _, rfl, rfl, rfl, cat_vR _, rfl, rfl, trivial⟩) (K_144 (2 - 0 + 1 : Int).toNat 0 M110 (by omega) (by first | exact hR111 | omega) (by first | exact fun j q1 q2 => by omega | omega) (by first | exact fun j q1 q2 => hg7 j q1 q2 | omega) (by first | exact hw7 | omega) (by first | exact hy7 | omega) (by first | exact hQ115 | omega) (by omega))
        intro nn_144
        induction nn_144 with
        | zero => intro k Me h2 hRe hgE1 hgE2 hwE hyE hQe h_m144; exact absurd h_m144 (by omega)
        | succ nn_144 ih_144 =>
          intro k Me h2 hRe hgE1 hgE2 hwE hyE hQe h_m144
          refine pw_iload C dL_isPassed_144 rfl ?_
          refine pw_iconst C dL_isPassed_146 ?_
          refine pw_icmp_ge (tgt := 249) C dL_isPassed_147 (by decide) (by omega) (fun c_147 => ?_) (fun c_147 => ?_)
          · skip
            refine pw_iinc C dL_isPassed_249 rfl (Nat.le_of_ble_eq_true rfl) rfl ?_
            refine pw_goto (tgt := 86) C dL_isPassed_252 (by decide) ?_
            refine pw_widen (k' := 2 + (i + 1).toNat) (n' := 4 + 2 * (i + 1).toNat) (by omega) (by omega) ?_
            exact pw_locs (by exact ⟨rfl, cat_vR _, rfl, rfl, rfl, rfl, rfl, cat_vR _, rfl, rfl, rfl, rfl, rfl, cat_vR _, rfl, cat_vR _, rfl, rfl, trivial⟩) (ih_86 (i + 1) A113 G98 Me (by omega) (hRe) (hPD) (hID) (hSD) (hLD) (hMD) (fun k q1 q2 => ((mk k ⟨q1, q2⟩).1).trans (hcon k q1 q2)) (hQe) (⟨hj1, hj2⟩) (hwE) (fun j q1 q2 => hgE1 j q1 (by omega)) (by rw [h4103]; omega) (by omega))
          · skip
            have bk := bo k (by omega)
            have bD := oLi_bd hID.1 hLD (k := k) (by omega)
            have mkk := mk k (by omega)
            have hck := hcon k (by omega) (by omega)
            refine pw_aload_n C dL_isPassed_150 rfl ?_
            refine pw_iload C dL_isPassed_151 rfl ?_
            refine pw_iconst C dL_isPassed_153 ?_
            refine pw_cVE C hX dL_isPassed_154 ml_L_98 mc_X5_ofLine (c_ofLine hRe hID.1 (l := k) (w := 5) (by omega) (by omega) (by omega)) kc_8 hRe.k rfl rfl ⟨Nat.le_of_ble_eq_true rfl, Nat.le_of_ble_eq_true rfl⟩ (Nat.le_of_ble_eq_true rfl) (by show ((2 + i.toNat) + 1) + 0 ≤ 5 ∧ ((4 + 2 * i.toNat) + 2) + 0 ≤ 10; omega) ?_
            refine pw_aload C dL_isPassed_157 rfl ?_
            refine pw_iload C dL_isPassed_159 rfl ?_
            refine pw_ialdE C dL_isPassed_161 hj2 (by omega) (hgE2 k (by omega) (by omega)) ?_
            refine pw_isub C dL_isPassed_162 ?_
            refine pw_istore C dL_isPassed_163 (Nat.le_of_ble_eq_true rfl) rfl ?_
            refine pw_aload C dL_isPassed_165 rfl ?_
            refine pw_iload C dL_isPassed_167 rfl ?_
            refine pw_dup2 C dL_isPassed_169 rfl (cat_vR _) ?_
            refine pw_ialdE C dL_isPassed_170 hj2 (by omega) (hgE2 k (by omega) (by omega)) ?_
            refine pw_iload C dL_isPassed_171 rfl ?_
            refine pw_iadd C dL_isPassed_173 ?_
            refine pw_iastG C dL_isPassed_174 hj2 (by omega) (fun M116 eM116 => ?_)
            have hR117 := hRe.o (lo := (a1 + 1)) (hi := (a1 + 1)) (M1 := M116) (by rw [eM116]; exact Ot.rf.u1 (by omega)) (by omega)
            have hQ118 := hQe.w (Or.inl (by omega)) eM116
            have hwF : ∀ k, 0 ≤ k → k < 2 → M116 1 a1 k = oLi A k 4 + oLi A k 5 := fun k q1 q2 => by rw [eM116, mup_n (by omega)]; exact hwE k q1 q2
            have hyF : ∀ j, 0 ≤ j → j < 2 → M116 1 (a1 + 2 + i) j = bI (0 < oLi Ac j 2) := fun j q1 q2 => by rw [eM116, mup_n (by omega)]; exact hyE j q1 q2
            have hgF1 : ∀ j, 0 ≤ j → j < k + 1 → M116 1 (a1 + 1) j = oLi A113 j 5 := fun j q1 q2 => by (by_cases z : j = k; (rw [z, eM116, mup_s]; omega); (rw [eM116, mup_n (by omega)]; exact hgE1 j q1 (by omega)))
            have hgF2 : ∀ j, k + 1 ≤ j → j < 2 → M116 1 (a1 + 1) j = oLi Ac j 5 := fun j q1 q2 => by rw [eM116, mup_n (by omega)]; exact hgE2 j (by omega) q2
            refine pw_aload_n C dL_isPassed_175 rfl ?_
            refine pw_iload C dL_isPassed_176 rfl ?_
            refine pw_iconst C dL_isPassed_178 ?_
            refine pw_cVE C hX dL_isPassed_179 ml_L_98 mc_X5_ofLine (c_ofLine hR117 hID.1 (l := k) (w := 4) (by omega) (by omega) (by omega)) kc_8 hR117.k rfl rfl ⟨Nat.le_of_ble_eq_true rfl, Nat.le_of_ble_eq_true rfl⟩ (Nat.le_of_ble_eq_true rfl) (by show ((2 + i.toNat) + 1) + 0 ≤ 5 ∧ ((4 + 2 * i.toNat) + 2) + 0 ≤ 10; omega) ?_
            refine pw_aload_n C dL_isPassed_182 rfl ?_
            refine pw_iload C dL_isPassed_183 rfl ?_
            refine pw_iconst C dL_isPassed_185 ?_
            refine pw_cVE C hX dL_isPassed_186 ml_L_98 mc_X5_ofLine (c_ofLine hR117 hID.1 (l := k) (w := 5) (by omega) (by omega) (by omega)) kc_8 hR117.k rfl rfl ⟨Nat.le_of_ble_eq_true rfl, Nat.le_of_ble_eq_true rfl⟩ (Nat.le_of_ble_eq_true rfl) (by show ((2 + i.toNat) + 1) + 0 ≤ 5 ∧ ((4 + 2 * i.toNat) + 2) + 0 ≤ 10; omega) ?_
            refine pw_iadd C dL_isPassed_189 ?_
            refine pw_aload C dL_isPassed_190 rfl ?_
            refine pw_iload C dL_isPassed_192 rfl ?_
            refine pw_ialdE C dL_isPassed_194 hj1 (by omega) (hwF k (by omega) (by omega)) ?_
            refine pw_icmp_ne (tgt := 241) C dL_isPassed_195 (by decide) (by omega) (fun c_195 => ?_) (fun c_195 => ?_)
            · exact absurd c_195 (by omega)
            refine pw_aload C dL_isPassed_198 rfl ?_
            refine pw_iload C dL_isPassed_200 rfl ?_
            refine pw_zaldE C dL_isPassed_202 hz3 (by omega) (hyF k (by omega) (by omega)) ?_
            refine pw_ifB_eq (tgt := 211) C dL_isPassed_203 (by decide) (fun c_203 => ?_) (fun c_203 => ?_)
            · skip
              refine pw_aload C dL_isPassed_211 rfl ?_
              refine pw_iload C dL_isPassed_213 rfl ?_
              refine pw_zaldE C dL_isPassed_215 hz3 (by omega) (hyF k (by omega) (by omega)) ?_
              refine pw_ifB_ne (tgt := 243) C dL_isPassed_216 (by decide) (fun c_216 => ?_) (fun c_216 => ?_)
              · exact absurd c_216 (by omega)
              refine pw_iload C dL_isPassed_219 rfl ?_
              refine pw_aload_n C dL_isPassed_221 rfl ?_
              refine pw_iload C dL_isPassed_222 rfl ?_
              refine pw_iconst C dL_isPassed_224 ?_
              refine pw_cVE C hX dL_isPassed_225 ml_L_98 mc_X5_ofLine (c_ofLine hR117 hID.1 (l := k) (w := 0) (by omega) (by omega) (by omega)) kc_8 hR117.k rfl rfl ⟨Nat.le_of_ble_eq_true rfl, Nat.le_of_ble_eq_true rfl⟩ (Nat.le_of_ble_eq_true rfl) (by show ((2 + i.toNat) + 1) + 0 ≤ 5 ∧ ((4 + 2 * i.toNat) + 2) + 0 ≤ 10; omega) ?_
              refine pw_icmp_eq (tgt := 243) C dL_isPassed_228 (by decide) (by omega) (fun c_228 => ?_) (fun c_228 => ?_)
              · skip
                refine pw_iinc C dL_isPassed_243 rfl (Nat.le_of_ble_eq_true rfl) rfl ?_
                refine pw_goto (tgt := 144) C dL_isPassed_246 (by decide) ?_
                exact pw_locs (by exact ⟨rfl, cat_vR _, rfl, rfl, rfl, rfl, rfl, cat_vR _, rfl, rfl, rfl, rfl, rfl, cat_vR _, rfl, cat_vR _, rfl, rfl, rfl, cat_vR _, rfl, rfl, trivial⟩) (ih_144 (k + 1) M116 (by omega) (hR117) (hgF1) (hgF2) (hwF) (hyF) (hQ118) (by omega))
              · skip
                refine pw_aload_n C dL_isPassed_231 rfl ?_
                refine pw_iload C dL_isPassed_232 rfl ?_
                refine pw_iconst C dL_isPassed_234 ?_
                refine pw_cVE C hX dL_isPassed_235 ml_L_98 mc_X5_ofLine (c_ofLine hR117 hID.1 (l := k) (w := 3) (by omega) (by omega) (by omega)) kc_8 hR117.k rfl rfl ⟨Nat.le_of_ble_eq_true rfl, Nat.le_of_ble_eq_true rfl⟩ (Nat.le_of_ble_eq_true rfl) (by show ((2 + i.toNat) + 1) + 0 ≤ 5 ∧ ((4 + 2 * i.toNat) + 2) + 0 ≤ 10; omega) ?_
                have mk3 := mkk.2.2 c_203
                refine pw_if_le (tgt := 243) C dL_isPassed_238 (by decide) (by omega) (fun c_238 => ?_) (fun c_238 => ?_)
                rotate_left
                · exact absurd c_238 (by omega)
                refine pw_iinc C dL_isPassed_243 rfl (Nat.le_of_ble_eq_true rfl) rfl ?_
                refine pw_goto (tgt := 144) C dL_isPassed_246 (by decide) ?_
                exact pw_locs (by exact ⟨rfl, cat_vR _, rfl, rfl, rfl, rfl, rfl, cat_vR _, rfl, rfl, rfl, rfl, rfl, cat_vR _, rfl, cat_vR _, rfl, rfl, rfl, cat_vR _, rfl, rfl, trivial⟩) (ih_144 (k + 1) M116 (by omega) (hR117) (hgF1) (hgF2) (hwF) (hyF) (hQ118) (by omega))
            · skip
              refine pw_iload C dL_isPassed_206 rfl ?_
              have mk2 := mkk.2.1 c_203
              refine pw_if_gt (tgt := 241) C dL_isPassed_208 (by decide) (by omega) (fun c_208 => ?_) (fun c_208 => ?_)
              · exact absurd c_208 (by omega)
              refine pw_aload C dL_isPassed_211 rfl ?_
              refine pw_iload C dL_isPassed_213 rfl ?_
              refine pw_zaldE C dL_isPassed_215 hz3 (by omega) (hyF k (by omega) (by omega)) ?_
              refine pw_ifB_ne (tgt := 243) C dL_isPassed_216 (by decide) (fun c_216 => ?_) (fun c_216 => ?_)
              rotate_left
              · exact absurd c_216 (by omega)
              refine pw_iinc C dL_isPassed_243 rfl (Nat.le_of_ble_eq_true rfl) rfl ?_
              refine pw_goto (tgt := 144) C dL_isPassed_246 (by decide) ?_
              exact pw_locs (by exact ⟨rfl, cat_vR _, rfl, rfl, rfl, rfl, rfl, cat_vR _, rfl, rfl, rfl, rfl, rfl, cat_vR _, rfl, cat_vR _, rfl, rfl, rfl, cat_vR _, rfl, rfl, trivial⟩) (ih_144 (k + 1) M116 (by omega) (hR117) (hgF1) (hgF2) (hwF) (hyF) (hQ118) (by omega))

