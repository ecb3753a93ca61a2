set_option maxHeartbeats 4000000 in
set_option maxRecDepth 100000 in
theorem law_report {E : Ev} {tb : List ExceptionTableEntry} {X : Xv} {B sb i tk x y sy fa so li : Int} {k n : Nat} {G M : Mm} {A : An} (C : Cx E code 22 RL tb room_1) (hX : E.1 = X) (hJ : LJ B i tk k n G M A) (hi : 0 ≤ i ∧ i < 64) (hB : 0 ≤ B) (hsy : 0 ≤ sy ∧ sy < 2) (hfa : 0 ≤ fa ∧ fa < 4) (hso : 0 ≤ so ∧ so < 6) (hli : 0 ≤ li ∧ li < 2) (kk : ∀ (G' M' : Mm) (k' n' : Nat) (A' : An) (tk' : Int), LJ B (i + 1) tk' k' n' G' M' A' → PW E G' M' k' n' 994 [(0, 1, vR sb), (1, 1, vR B), (2, 1, vR (B + 202)), (3, 1, vR (B + 263)), (4, 1, vI tk'), (5, 1, vI i)] []) : PW E G M k n 320 [(0, 1, vR sb), (1, 1, vR B), (2, 1, vR (B + 202)), (3, 1, vR (B + 263)), (4, 1, vI tk), (5, 1, vI i), (6, 1, vI x), (7, 1, vI y), (8, 1, vI sy), (9, 1, vI fa), (10, 1, vI so), (11, 1, vI li)] [] := by
  obtain ⟨hR, ⟨⟨hI, hS⟩, hL⟩, ⟨hc6, htk⟩, ht9, hnow, ⟨hMV, hMW⟩, hG4, hVC, hWC, hk9, hn9⟩ := id hJ
  have hA := hI.1
  have hW := hI.2.1
  have hnA := hA.n
  have hnS := hA.so.c
  have h00 := hL.1.1
  have h02 := hL.1.2
  have hO0 : Ot B (B + 201) M M := Ot.rf
  refine pw_iload C dL_law_320 rfl ?_
  refine pw_iconst C dL_law_322 ?_
  refine pw_ishr C dL_law_323 ?_
  refine pw_top (v' := vI (shr x 4)) shr_v ?_
  refine pw_iconst C dL_law_324 ?_
  refine pw_cSE C hX dL_law_325 ml_L_18 mc_L_below (c_below (x := (shr x 4)) (n := 4) (by omega)) rfl rfl ⟨Nat.le_of_ble_eq_true rfl, Nat.le_of_ble_eq_true rfl⟩ (Nat.le_of_ble_eq_true rfl) (by show k + 0 ≤ 916994 ∧ n + 0 ≤ 6350716; omega) ?_
  have bw_325 := bw_bd (x := (shr x 4)) (n := 4) (by omega)
  obtain ⟨v, hv⟩ : ∃ w, w = bw (shr x 4) 4 := ⟨_, rfl⟩
  rw [← hv] at bw_325 ⊢
  refine pw_istore C dL_law_328 (Nat.le_of_ble_eq_true rfl) rfl ?_
  refine pw_aload_n C dL_law_330 rfl ?_
  refine pw_iload C dL_law_331 rfl ?_
  refine pw_iload C dL_law_333 rfl ?_
  refine pw_iload C dL_law_335 rfl ?_
  refine pw_iload C dL_law_337 rfl ?_
  refine pw_cVI C hX dL_law_339 ml_L_34 mc_X5_report (c_report hR hA (so := so) (s := sy) (f := fa) (v := v) (by omega) (by omega) (by omega) (by omega)  (by omega)) kc_8 hR.k rfl rfl ⟨Nat.le_of_ble_eq_true rfl, Nat.le_of_ble_eq_true rfl⟩ (Nat.le_of_ble_eq_true rfl) (by show k + 0 ≤ 916994 ∧ n + 0 ≤ 6350716; omega) (fun r_ G M1 hq_ => ?_)
  obtain ⟨rfl, rfl, hR2, o3⟩ := hq_
  obtain ⟨A4, eA5⟩ : ∃ w, w = aSay A so (sy * 4 + fa) v := ⟨_, rfl⟩
  rw [← eA5] at hR2
  have hI1 : Inv A4 := by rw [eA5]; exact hI.say (by omega) (by omega) (by omega)
  have hS1 : SN A4 := by rw [eA5]; exact hS.say (by omega) hA
  have hL1 : LX A4 := by rw [eA5]; exact hL.say (by omega)
  have hM1 : Mo A A4 := by rw [eA5]; exact Mo.say (by omega)
  have z1 : A4 0 = A 0 := by rw [eA5]; exact say_o (by omega)
  have y1 : A4 10 = A 10 := by rw [eA5]; exact say_o (by omega)
  have t1 : ∀ t, 0 ≤ t → A4 (200 + t) = A (200 + t) := fun t q => by rw [eA5]; exact say_o (by omega)
  have f1 : A4 (100 + (sy * 4 + fa)) = setl (A 10) (lup (A (100 + (sy * 4 + fa))) 0 so v) := by rw [eA5]; exact say_i
  have n10 : A4 0 0 0 = 2 := by rw [z1]; exact h00
  have hOT6 := hO0.tr o3
  refine pw_aload_n C dL_law_342 rfl ?_
  refine pw_iload C dL_law_343 rfl ?_
  refine pw_iload C dL_law_345 rfl ?_
  refine pw_iload C dL_law_347 rfl ?_
  refine pw_iconst C dL_law_349 ?_
  refine pw_cVI C hX dL_law_350 ml_L_38 mc_X5_proof (c_proof hR2 hI1.1 (s := sy) (f := fa) (v := v) (z := 0) (by omega) (by omega) (by omega) (by omega) (by omega)) kc_8 hR2.k rfl rfl ⟨Nat.le_of_ble_eq_true rfl, Nat.le_of_ble_eq_true rfl⟩ (Nat.le_of_ble_eq_true rfl) (by show k + 0 ≤ 916994 ∧ n + 0 ≤ 6350716; omega) (fun r_ G M7 hq_ => ?_)
  obtain ⟨rfl, rfl, hR8, o9⟩ := hq_
  rw [if_pos (show (0 : Int) = 0 from rfl)]
  have hOT10 := hOT6.tr o9
  have e1 : pG (A4 10) (A4 (100 + (sy * 4 + fa))) v = pG (A 10) (lup (A (100 + (sy * 4 + fa))) 0 so v) v := by rw [y1, f1]; exact pG_up (fun t => setl_0 t)
  have bp := pG_bd (S := A 10) (F := lup (A (100 + (sy * 4 + fa))) 0 so v) (v := v)
  refine pw_icmp_ne (tgt := 371) C dL_law_353 (by decide) (by omega) (fun c_353 => ?_) (fun c_353 => ?_)
  · exact absurd c_353 (by omega)
  refine pw_aload_n C dL_law_356 rfl ?_
  refine pw_iload C dL_law_357 rfl ?_
  refine pw_iload C dL_law_359 rfl ?_
  refine pw_iload C dL_law_361 rfl ?_
  refine pw_iconst C dL_law_363 ?_
  refine pw_cVI C hX dL_law_364 ml_L_38 mc_X5_proof (c_proof hR8 hI1.1 (s := sy) (f := fa) (v := v) (z := 1) (by omega) (by omega) (by omega) (by omega) (by omega)) kc_8 hR8.k rfl rfl ⟨Nat.le_of_ble_eq_true rfl, Nat.le_of_ble_eq_true rfl⟩ (Nat.le_of_ble_eq_true rfl) (by show k + 0 ≤ 916994 ∧ n + 0 ≤ 6350716; omega) (fun r_ G M11 hq_ => ?_)
  obtain ⟨rfl, rfl, hR12, o13⟩ := hq_
  rw [if_neg (show ¬ (1 : Int) = 0 by omega)]
  have hOT14 := hOT10.tr o13
  refine pw_iconst C dL_law_367 ?_
  have p1 := tF_pos (S := A4 10) (F := A4 (100 + (sy * 4 + fa))) (v := v) (k := so) hI1.1.so (by rw [y1]; omega) (by rw [f1, setl_0, lup_s])
  have bt := tF_bd (F := A4 (100 + (sy * 4 + fa))) (v := v) hI1.1.so
  refine pw_icmp_ge (tgt := 994) C dL_law_368 (by decide) (by omega) (fun c_368 => ?_) (fun c_368 => ?_)
  rotate_left
  · exact absurd c_368 (by omega)
  exact pw_locs (by exact ⟨rfl, cat_vR _, rfl, cat_vR _, rfl, cat_vR _, rfl, cat_vR _, rfl, rfl, rfl, rfl, trivial⟩) (kk _ _ _ _ _ _ (hJ.go hR12 hOT14 ⟨⟨hI1, hS1⟩, hL1⟩ hM1 (by rw [z1]) (by rw [z1]) (by rw [y1]) (fun t f q1 _ => by rw [t1 t q1])))

set_option maxHeartbeats 4000000 in
set_option maxRecDepth 100000 in
theorem law_retract {E : Ev} {tb : List ExceptionTableEntry} {X : Xv} {B sb i tk x y sy fa so li : Int} {k n : Nat} {G M : Mm} {A : An} (C : Cx E code 22 RL tb room_1) (hX : E.1 = X) (hJ : LJ B i tk k n G M A) (hi : 0 ≤ i ∧ i < 64) (hB : 0 ≤ B) (hsy : 0 ≤ sy ∧ sy < 2) (hfa : 0 ≤ fa ∧ fa < 4) (hso : 0 ≤ so ∧ so < 6) (hli : 0 ≤ li ∧ li < 2) (kk : ∀ (G' M' : Mm) (k' n' : Nat) (A' : An) (tk' : Int), LJ B (i + 1) tk' k' n' G' M' A' → PW E G' M' k' n' 994 [(0, 1, vR sb), (1, 1, vR B), (2, 1, vR (B + 202)), (3, 1, vR (B + 263)), (4, 1, vI tk'), (5, 1, vI i)] []) : PW E G M k n 373 [(0, 1, vR sb), (1, 1, vR B), (2, 1, vR (B + 202)), (3, 1, vR (B + 263)), (4, 1, vI tk), (5, 1, vI i), (6, 1, vI x), (7, 1, vI y), (8, 1, vI sy), (9, 1, vI fa), (10, 1, vI so), (11, 1, vI li)] [] := by
  obtain ⟨hR, ⟨⟨hI, hS⟩, hL⟩, ⟨hc6, htk⟩, ht9, hnow, ⟨hMV, hMW⟩, hG4, hVC, hWC, hk9, hn9⟩ := id hJ
  have hA := hI.1
  have hW := hI.2.1
  have hnA := hA.n
  have hnS := hA.so.c
  have h00 := hL.1.1
  have h02 := hL.1.2
  have hO0 : Ot B (B + 201) M M := Ot.rf
  refine pw_aload_n C dL_law_373 rfl ?_
  refine pw_iload C dL_law_374 rfl ?_
  refine pw_iload C dL_law_376 rfl ?_
  refine pw_iconst C dL_law_378 ?_
  refine pw_cVE C hX dL_law_379 ml_L_42 mc_X5_ofFact (c_ofFact hR hA (s := sy) (f := fa) (w := 2) (by omega) (by omega) (by omega) (by omega)) kc_8 hR.k rfl rfl ⟨Nat.le_of_ble_eq_true rfl, Nat.le_of_ble_eq_true rfl⟩ (Nat.le_of_ble_eq_true rfl) (by show k + 0 ≤ 916994 ∧ n + 0 ≤ 6350716; omega) ?_
  obtain ⟨Cs, hCs⟩ : ∃ w, w = oFa A sy fa 2 := ⟨_, rfl⟩
  rw [← hCs]
  have bC : 0 ≤ Cs ∧ Cs ≤ 10 := by rw [hCs]; exact cSay_bd
  refine pw_bipush C dL_law_382 rfl ?_
  refine pw_icmp_ne (tgt := 994) C dL_law_384 (by decide) (by omega) (fun c_384 => ?_) (fun c_384 => ?_)
  · skip
    exact pw_locs (by exact ⟨rfl, cat_vR _, rfl, cat_vR _, rfl, cat_vR _, rfl, cat_vR _, rfl, rfl, rfl, rfl, trivial⟩) (kk _ _ _ _ _ _ (hJ.go hR hO0 ⟨⟨hI, hS⟩, hL⟩ Mo.rf rfl rfl rfl (fun t f _ _ => rfl)))
  · skip
    have hsn := say_all (F := A (100 + (sy * 4 + fa))) (hCs.symm.trans c_384) (fun k q1 q2 => hW.b (sy * 4 + fa) k (by omega) (by omega) (by omega) q2) so (by omega) (by omega)
    have bsn := (hA.fa (sy * 4 + fa) (by omega)).v0 so (by omega) (by omega)
    refine pw_aload_n C dL_law_387 rfl ?_
    refine pw_iload C dL_law_388 rfl ?_
    refine pw_iload C dL_law_390 rfl ?_
    refine pw_iload C dL_law_392 rfl ?_
    refine pw_cVI C hX dL_law_394 ml_L_46 mc_X5_retract (c_retract hR hA (so := so) (s := sy) (f := fa) (by omega) (by omega) (by omega)  (by omega)) kc_8 hR.k rfl rfl ⟨Nat.le_of_ble_eq_true rfl, Nat.le_of_ble_eq_true rfl⟩ (Nat.le_of_ble_eq_true rfl) (by show k + 0 ≤ 916994 ∧ n + 0 ≤ 6350716; omega) (fun r_ G M1 hq_ => ?_)
    obtain ⟨rfl, rfl, hR2, o3⟩ := hq_
    obtain ⟨A4, eA5⟩ : ∃ w, w = aSay A so (sy * 4 + fa) (-1) := ⟨_, rfl⟩
    rw [← eA5] at hR2
    have hI1 : Inv A4 := by rw [eA5]; exact hI.say (by omega) (by omega) (by omega)
    have hS1 : SN A4 := by rw [eA5]; exact hS.say (by omega) hA
    have hL1 : LX A4 := by rw [eA5]; exact hL.say (by omega)
    have hM1 : Mo A A4 := by rw [eA5]; exact Mo.say (by omega)
    have z1 : A4 0 = A 0 := by rw [eA5]; exact say_o (by omega)
    have y1 : A4 10 = A 10 := by rw [eA5]; exact say_o (by omega)
    have t1 : ∀ t, 0 ≤ t → A4 (200 + t) = A (200 + t) := fun t q => by rw [eA5]; exact say_o (by omega)
    have f1 : A4 (100 + (sy * 4 + fa)) = setl (A 10) (lup (A (100 + (sy * 4 + fa))) 0 so (-1)) := by rw [eA5]; exact say_i
    have n10 : A4 0 0 0 = 2 := by rw [z1]; exact h00
    have hOT6 := hO0.tr o3
    refine pw_if_ge (tgt := 994) C dL_law_397 (by decide) (by omega) (fun c_397 => ?_) (fun c_397 => ?_)
    rotate_left
    · exact absurd c_397 (by omega)
    exact pw_locs (by exact ⟨rfl, cat_vR _, rfl, cat_vR _, rfl, cat_vR _, rfl, cat_vR _, rfl, rfl, rfl, rfl, trivial⟩) (kk _ _ _ _ _ _ (hJ.go hR2 hOT6 ⟨⟨hI1, hS1⟩, hL1⟩ hM1 (by rw [z1]) (by rw [z1]) (by rw [y1]) (fun t f q1 _ => by rw [t1 t q1])))

set_option maxHeartbeats 4000000 in
set_option maxRecDepth 100000 in
theorem law_rival {E : Ev} {tb : List ExceptionTableEntry} {X : Xv} {B sb i tk x y sy fa so li : Int} {k n : Nat} {G M : Mm} {A : An} (C : Cx E code 22 RL tb room_1) (hX : E.1 = X) (hJ : LJ B i tk k n G M A) (hi : 0 ≤ i ∧ i < 64) (hB : 0 ≤ B) (hsy : 0 ≤ sy ∧ sy < 2) (hfa : 0 ≤ fa ∧ fa < 4) (hso : 0 ≤ so ∧ so < 6) (hli : 0 ≤ li ∧ li < 2) (kk : ∀ (G' M' : Mm) (k' n' : Nat) (A' : An) (tk' : Int), LJ B (i + 1) tk' k' n' G' M' A' → PW E G' M' k' n' 994 [(0, 1, vR sb), (1, 1, vR B), (2, 1, vR (B + 202)), (3, 1, vR (B + 263)), (4, 1, vI tk'), (5, 1, vI i)] []) : PW E G M k n 402 [(0, 1, vR sb), (1, 1, vR B), (2, 1, vR (B + 202)), (3, 1, vR (B + 263)), (4, 1, vI tk), (5, 1, vI i), (6, 1, vI x), (7, 1, vI y), (8, 1, vI sy), (9, 1, vI fa), (10, 1, vI so), (11, 1, vI li)] [] := by
  obtain ⟨hR, ⟨⟨hI, hS⟩, hL⟩, ⟨hc6, htk⟩, ht9, hnow, ⟨hMV, hMW⟩, hG4, hVC, hWC, hk9, hn9⟩ := id hJ
  have hA := hI.1
  have hW := hI.2.1
  have hnA := hA.n
  have hnS := hA.so.c
  have h00 := hL.1.1
  have h02 := hL.1.2
  have hO0 : Ot B (B + 201) M M := Ot.rf
  have b60 : oFa A sy fa 6 = 0 ∨ oFa A sy fa 6 = 1 := bI_01 _
  have e40 : oFa A sy fa 4 = A (100 + (sy * 4 + fa)) 1 3 := rfl
  have b40 := (hA.fa (sy * 4 + fa) (by omega)).s3
  refine pw_aload_n C dL_law_402 rfl ?_
  refine pw_iload C dL_law_403 rfl ?_
  refine pw_iload C dL_law_405 rfl ?_
  refine pw_bipush C dL_law_407 rfl ?_
  refine pw_cVE C hX dL_law_409 ml_L_42 mc_X5_ofFact (c_ofFact hR hA (s := sy) (f := fa) (w := 6) (by omega) (by omega) (by omega) (by omega)) kc_8 hR.k rfl rfl ⟨Nat.le_of_ble_eq_true rfl, Nat.le_of_ble_eq_true rfl⟩ (Nat.le_of_ble_eq_true rfl) (by show k + 0 ≤ 916994 ∧ n + 0 ≤ 6350716; omega) ?_
  refine pw_iconst C dL_law_412 ?_
  refine pw_icmp_ne (tgt := 420) C dL_law_413 (by decide) (by omega) (fun c_413 => ?_) (fun c_413 => ?_)
  · skip
    refine pw_iconst C dL_law_420 ?_
    refine pw_istore C dL_law_421 (Nat.le_of_ble_eq_true rfl) rfl ?_
    refine pw_aload_n C dL_law_423 rfl ?_
    refine pw_iload C dL_law_424 rfl ?_
    refine pw_iload C dL_law_426 rfl ?_
    refine pw_iconst C dL_law_428 ?_
    refine pw_cVE C hX dL_law_429 ml_L_42 mc_X5_ofFact (c_ofFact hR hA (s := sy) (f := fa) (w := 4) (by omega) (by omega) (by omega) (by omega)) kc_8 hR.k rfl rfl ⟨Nat.le_of_ble_eq_true rfl, Nat.le_of_ble_eq_true rfl⟩ (Nat.le_of_ble_eq_true rfl) (by show k + 0 ≤ 916994 ∧ n + 0 ≤ 6350716; omega) ?_
    refine pw_if_ge (tgt := 439) C dL_law_432 (by decide) (by omega) (fun c_432 => ?_) (fun c_432 => ?_)
    · skip
      refine pw_iconst C dL_law_439 ?_
      refine pw_istore C dL_law_440 (Nat.le_of_ble_eq_true rfl) rfl ?_
      refine pw_aload_n C dL_law_442 rfl ?_
      refine pw_iload C dL_law_443 rfl ?_
      refine pw_iload C dL_law_445 rfl ?_
      refine pw_cVI C hX dL_law_447 ml_L_49 mc_X5_rival (c_rival hR hA (s := sy) (f := fa) (by omega) (by omega)  (by omega)) kc_8 hR.k rfl rfl ⟨Nat.le_of_ble_eq_true rfl, Nat.le_of_ble_eq_true rfl⟩ (Nat.le_of_ble_eq_true rfl) (by show k + 0 ≤ 916994 ∧ n + 0 ≤ 6350716; omega) (fun r_ G M1 hq_ => ?_)
      obtain ⟨rfl, rfl, hR2, o3⟩ := hq_
      obtain ⟨A4, eA5⟩ : ∃ w, w = if A (100 + (sy * 4 + fa)) 1 3 = -1 then aRiv A (sy * 4 + fa) else A := ⟨_, rfl⟩
      rw [← eA5] at hR2
      have hI1 : Inv A4 := by rw [eA5]; split <;> first | exact hI.riv (by omega) | exact hI
      have hS1 : SN A4 := by rw [eA5]; split <;> first | exact hS.riv (by omega) hA | exact hS
      have hL1 : LX A4 := by rw [eA5]; split <;> first | exact hL.riv (by omega) | exact hL
      have hM1 : Mo A A4 := by rw [eA5]; split <;> first | exact Mo.riv (by omega) | exact Mo.rf
      have z1 : A4 0 = A 0 := by rw [eA5]; split <;> first | exact riv_o (by omega) | exact rfl
      have y1 : A4 10 = A 10 := by rw [eA5]; split <;> first | exact riv_o (by omega) | exact rfl
      have t1 : ∀ t, 0 ≤ t → A4 (200 + t) = A (200 + t) := fun t q => by rw [eA5]; split <;> first | exact riv_o (by omega) | exact rfl
      have hkey : A (100 + (sy * 4 + fa)) 1 3 = -1 → (oFa A4 sy fa 6 = 1 ↔ (oFa A sy fa 6 = 1 ∧ oFa A4 sy fa 5 < mny A4 0)) := fun q => by
        have e : A4 = aRiv A (sy * 4 + fa) := by rw [eA5, if_pos q]
        have m0 : mny (aRiv A (sy * 4 + fa)) 0 = A 0 0 3 := by show aRiv A (sy * 4 + fa) 0 0 3 = _; rw [riv_o (by omega)]
        rw [e, m0]; exact riv_key hA (by omega) q
      have lx5 := hL1.2.2.2.2 (sy * 4 + fa) (by omega) (by omega)
      have e41 : oFa A4 sy fa 4 = A4 (100 + (sy * 4 + fa)) 1 3 := rfl
      have m01 : mny A4 0 = A4 0 0 3 := rfl
      have hn1 := hI1.1.n
      have b41 := (hI1.1.fa (sy * 4 + fa) (by omega)).s3
      have n10 : A4 0 0 0 = 2 := by rw [z1]; exact h00
      have b61 : oFa A4 sy fa 6 = 0 ∨ oFa A4 sy fa 6 = 1 := bI_01 _
      have b51 : -1 ≤ oFa A4 sy fa 5 ∧ oFa A4 sy fa 5 ≤ 9999 := fh_bd (s := sy) (f := fa) hI1.1
      have hOT6 := hO0.tr o3
      refine pw_iload C dL_law_450 rfl ?_
      have brv : bI (A (100 + (sy * 4 + fa)) 1 3 = -1) = 0 := bI_f (by omega)
      refine pw_icmp_ne (tgt := 526) C dL_law_452 (by decide) (by omega) (fun c_452 => ?_) (fun c_452 => ?_)
      · exact absurd c_452 (by omega)
      refine pw_aload_n C dL_law_455 rfl ?_
      refine pw_iload C dL_law_456 rfl ?_
      refine pw_iload C dL_law_458 rfl ?_
      refine pw_iconst C dL_law_460 ?_
      refine pw_cVE C hX dL_law_461 ml_L_42 mc_X5_ofFact (c_ofFact hR2 hI1.1 (s := sy) (f := fa) (w := 4) (by omega) (by omega) (by omega) (by omega)) kc_8 hR2.k rfl rfl ⟨Nat.le_of_ble_eq_true rfl, Nat.le_of_ble_eq_true rfl⟩ (Nat.le_of_ble_eq_true rfl) (by show k + 0 ≤ 916994 ∧ n + 0 ≤ 6350716; omega) ?_
      refine pw_aload_n C dL_law_464 rfl ?_
      refine pw_iconst C dL_law_465 ?_
      refine pw_cVE C hX dL_law_466 ml_L_53 mc_X5_many (c_many hR2 hI1.1 (w := 0) (by omega) (by omega)) kc_8 hR2.k rfl rfl ⟨Nat.le_of_ble_eq_true rfl, Nat.le_of_ble_eq_true rfl⟩ (Nat.le_of_ble_eq_true rfl) (by show k + 0 ≤ 916994 ∧ n + 0 ≤ 6350716; omega) ?_
      refine pw_icmp_gt (tgt := 526) C dL_law_469 (by decide) (by omega) (fun c_469 => ?_) (fun c_469 => ?_)
      · exact absurd c_469 (by omega)
      refine pw_iload C dL_law_472 rfl ?_
      refine pw_ifL_eq (tgt := 994) C dL_law_474 (by decide) rfl ?_
      exact pw_locs (by exact ⟨rfl, cat_vR _, rfl, cat_vR _, rfl, cat_vR _, rfl, cat_vR _, rfl, rfl, rfl, rfl, trivial⟩) (kk _ _ _ _ _ _ (hJ.go hR2 hOT6 ⟨⟨hI1, hS1⟩, hL1⟩ hM1 (by rw [z1]) (by rw [z1]) (by rw [y1]) (fun t f q1 _ => by rw [t1 t q1])))
    · skip
      refine pw_iconst C dL_law_435 ?_
      refine pw_goto (tgt := 440) C dL_law_436 (by decide) ?_
      refine pw_istore C dL_law_440 (Nat.le_of_ble_eq_true rfl) rfl ?_
      refine pw_aload_n C dL_law_442 rfl ?_
      refine pw_iload C dL_law_443 rfl ?_
      refine pw_iload C dL_law_445 rfl ?_
      refine pw_cVI C hX dL_law_447 ml_L_49 mc_X5_rival (c_rival hR hA (s := sy) (f := fa) (by omega) (by omega)  (by omega)) kc_8 hR.k rfl rfl ⟨Nat.le_of_ble_eq_true rfl, Nat.le_of_ble_eq_true rfl⟩ (Nat.le_of_ble_eq_true rfl) (by show k + 0 ≤ 916994 ∧ n + 0 ≤ 6350716; omega) (fun r_ G M7 hq_ => ?_)
      obtain ⟨rfl, rfl, hR8, o9⟩ := hq_
      obtain ⟨A10, eA11⟩ : ∃ w, w = if A (100 + (sy * 4 + fa)) 1 3 = -1 then aRiv A (sy * 4 + fa) else A := ⟨_, rfl⟩
      rw [← eA11] at hR8
      have hI1 : Inv A10 := by rw [eA11]; split <;> first | exact hI.riv (by omega) | exact hI
      have hS1 : SN A10 := by rw [eA11]; split <;> first | exact hS.riv (by omega) hA | exact hS
      have hL1 : LX A10 := by rw [eA11]; split <;> first | exact hL.riv (by omega) | exact hL
      have hM1 : Mo A A10 := by rw [eA11]; split <;> first | exact Mo.riv (by omega) | exact Mo.rf
      have z1 : A10 0 = A 0 := by rw [eA11]; split <;> first | exact riv_o (by omega) | exact rfl
      have y1 : A10 10 = A 10 := by rw [eA11]; split <;> first | exact riv_o (by omega) | exact rfl
      have t1 : ∀ t, 0 ≤ t → A10 (200 + t) = A (200 + t) := fun t q => by rw [eA11]; split <;> first | exact riv_o (by omega) | exact rfl
      have hkey : A (100 + (sy * 4 + fa)) 1 3 = -1 → (oFa A10 sy fa 6 = 1 ↔ (oFa A sy fa 6 = 1 ∧ oFa A10 sy fa 5 < mny A10 0)) := fun q => by
        have e : A10 = aRiv A (sy * 4 + fa) := by rw [eA11, if_pos q]
        have m0 : mny (aRiv A (sy * 4 + fa)) 0 = A 0 0 3 := by show aRiv A (sy * 4 + fa) 0 0 3 = _; rw [riv_o (by omega)]
        rw [e, m0]; exact riv_key hA (by omega) q
      have lx5 := hL1.2.2.2.2 (sy * 4 + fa) (by omega) (by omega)
      have e41 : oFa A10 sy fa 4 = A10 (100 + (sy * 4 + fa)) 1 3 := rfl
      have m01 : mny A10 0 = A10 0 0 3 := rfl
      have hn1 := hI1.1.n
      have b41 := (hI1.1.fa (sy * 4 + fa) (by omega)).s3
      have n10 : A10 0 0 0 = 2 := by rw [z1]; exact h00
      have b61 : oFa A10 sy fa 6 = 0 ∨ oFa A10 sy fa 6 = 1 := bI_01 _
      have b51 : -1 ≤ oFa A10 sy fa 5 ∧ oFa A10 sy fa 5 ≤ 9999 := fh_bd (s := sy) (f := fa) hI1.1
      have hOT12 := hO0.tr o9
      refine pw_iload C dL_law_450 rfl ?_
      have brv : bI (A (100 + (sy * 4 + fa)) 1 3 = -1) = 1 := bI_t (by omega)
      refine pw_icmp_ne (tgt := 526) C dL_law_452 (by decide) (by omega) (fun c_452 => ?_) (fun c_452 => ?_)
      · exact absurd c_452 (by omega)
      refine pw_aload_n C dL_law_455 rfl ?_
      refine pw_iload C dL_law_456 rfl ?_
      refine pw_iload C dL_law_458 rfl ?_
      refine pw_iconst C dL_law_460 ?_
      refine pw_cVE C hX dL_law_461 ml_L_42 mc_X5_ofFact (c_ofFact hR8 hI1.1 (s := sy) (f := fa) (w := 4) (by omega) (by omega) (by omega) (by omega)) kc_8 hR8.k rfl rfl ⟨Nat.le_of_ble_eq_true rfl, Nat.le_of_ble_eq_true rfl⟩ (Nat.le_of_ble_eq_true rfl) (by show k + 0 ≤ 916994 ∧ n + 0 ≤ 6350716; omega) ?_
      refine pw_aload_n C dL_law_464 rfl ?_
      refine pw_iconst C dL_law_465 ?_
      refine pw_cVE C hX dL_law_466 ml_L_53 mc_X5_many (c_many hR8 hI1.1 (w := 0) (by omega) (by omega)) kc_8 hR8.k rfl rfl ⟨Nat.le_of_ble_eq_true rfl, Nat.le_of_ble_eq_true rfl⟩ (Nat.le_of_ble_eq_true rfl) (by show k + 0 ≤ 916994 ∧ n + 0 ≤ 6350716; omega) ?_
      refine pw_icmp_gt (tgt := 526) C dL_law_469 (by decide) (by omega) (fun c_469 => ?_) (fun c_469 => ?_)
      · exact absurd c_469 (by omega)
      refine pw_iload C dL_law_472 rfl ?_
      refine pw_ifL_eqn (tgt := 994) C dL_law_474 (by decide) rfl ?_
      refine pw_aload_n C dL_law_477 rfl ?_
      refine pw_iload C dL_law_478 rfl ?_
      refine pw_iload C dL_law_480 rfl ?_
      refine pw_bipush C dL_law_482 rfl ?_
      refine pw_cVE C hX dL_law_484 ml_L_42 mc_X5_ofFact (c_ofFact hR8 hI1.1 (s := sy) (f := fa) (w := 6) (by omega) (by omega) (by omega) (by omega)) kc_8 hR8.k rfl rfl ⟨Nat.le_of_ble_eq_true rfl, Nat.le_of_ble_eq_true rfl⟩ (Nat.le_of_ble_eq_true rfl) (by show k + 0 ≤ 916994 ∧ n + 0 ≤ 6350716; omega) ?_
      refine pw_iconst C dL_law_487 ?_
      refine pw_icmp_ne (tgt := 495) C dL_law_488 (by decide) (by omega) (fun c_488 => ?_) (fun c_488 => ?_)
      · skip
        refine pw_iconst C dL_law_495 ?_
        refine pw_iload C dL_law_496 rfl ?_
        refine pw_ifL_eq (tgt := 522) C dL_law_498 (by decide) rfl ?_
        refine pw_iconst C dL_law_522 ?_
        refine pw_icmp_eq (tgt := 994) C dL_law_523 (by decide) (by omega) (fun c_523 => ?_) (fun c_523 => ?_)
        rotate_left
        · exact absurd c_523 (by omega)
        exact pw_locs (by exact ⟨rfl, cat_vR _, rfl, cat_vR _, rfl, cat_vR _, rfl, cat_vR _, rfl, rfl, rfl, rfl, trivial⟩) (kk _ _ _ _ _ _ (hJ.go hR8 hOT12 ⟨⟨hI1, hS1⟩, hL1⟩ hM1 (by rw [z1]) (by rw [z1]) (by rw [y1]) (fun t f q1 _ => by rw [t1 t q1])))
      · skip
        refine pw_iconst C dL_law_491 ?_
        refine pw_goto (tgt := 496) C dL_law_492 (by decide) ?_
        refine pw_iload C dL_law_496 rfl ?_
        refine pw_ifL_eq (tgt := 522) C dL_law_498 (by decide) rfl ?_
        refine pw_iconst C dL_law_522 ?_
        refine pw_icmp_eq (tgt := 994) C dL_law_523 (by decide) (by omega) (fun c_523 => ?_) (fun c_523 => ?_)
        · exact absurd c_523 (by omega)
        have hk9_ := hkey (by omega)
        exfalso; omega
  · skip
    refine pw_iconst C dL_law_416 ?_
    refine pw_goto (tgt := 421) C dL_law_417 (by decide) ?_
    refine pw_istore C dL_law_421 (Nat.le_of_ble_eq_true rfl) rfl ?_
    refine pw_aload_n C dL_law_423 rfl ?_
    refine pw_iload C dL_law_424 rfl ?_
    refine pw_iload C dL_law_426 rfl ?_
    refine pw_iconst C dL_law_428 ?_
    refine pw_cVE C hX dL_law_429 ml_L_42 mc_X5_ofFact (c_ofFact hR hA (s := sy) (f := fa) (w := 4) (by omega) (by omega) (by omega) (by omega)) kc_8 hR.k rfl rfl ⟨Nat.le_of_ble_eq_true rfl, Nat.le_of_ble_eq_true rfl⟩ (Nat.le_of_ble_eq_true rfl) (by show k + 0 ≤ 916994 ∧ n + 0 ≤ 6350716; omega) ?_
    refine pw_if_ge (tgt := 439) C dL_law_432 (by decide) (by omega) (fun c_432 => ?_) (fun c_432 => ?_)
    · skip
      refine pw_iconst C dL_law_439 ?_
      refine pw_istore C dL_law_440 (Nat.le_of_ble_eq_true rfl) rfl ?_
      refine pw_aload_n C dL_law_442 rfl ?_
      refine pw_iload C dL_law_443 rfl ?_
      refine pw_iload C dL_law_445 rfl ?_
      refine pw_cVI C hX dL_law_447 ml_L_49 mc_X5_rival (c_rival hR hA (s := sy) (f := fa) (by omega) (by omega)  (by omega)) kc_8 hR.k rfl rfl ⟨Nat.le_of_ble_eq_true rfl, Nat.le_of_ble_eq_true rfl⟩ (Nat.le_of_ble_eq_true rfl) (by show k + 0 ≤ 916994 ∧ n + 0 ≤ 6350716; omega) (fun r_ G M13 hq_ => ?_)
      obtain ⟨rfl, rfl, hR14, o15⟩ := hq_
      obtain ⟨A16, eA17⟩ : ∃ w, w = if A (100 + (sy * 4 + fa)) 1 3 = -1 then aRiv A (sy * 4 + fa) else A := ⟨_, rfl⟩
      rw [← eA17] at hR14
      have hI1 : Inv A16 := by rw [eA17]; split <;> first | exact hI.riv (by omega) | exact hI
      have hS1 : SN A16 := by rw [eA17]; split <;> first | exact hS.riv (by omega) hA | exact hS
      have hL1 : LX A16 := by rw [eA17]; split <;> first | exact hL.riv (by omega) | exact hL
      have hM1 : Mo A A16 := by rw [eA17]; split <;> first | exact Mo.riv (by omega) | exact Mo.rf
      have z1 : A16 0 = A 0 := by rw [eA17]; split <;> first | exact riv_o (by omega) | exact rfl
      have y1 : A16 10 = A 10 := by rw [eA17]; split <;> first | exact riv_o (by omega) | exact rfl
      have t1 : ∀ t, 0 ≤ t → A16 (200 + t) = A (200 + t) := fun t q => by rw [eA17]; split <;> first | exact riv_o (by omega) | exact rfl
      have hkey : A (100 + (sy * 4 + fa)) 1 3 = -1 → (oFa A16 sy fa 6 = 1 ↔ (oFa A sy fa 6 = 1 ∧ oFa A16 sy fa 5 < mny A16 0)) := fun q => by
        have e : A16 = aRiv A (sy * 4 + fa) := by rw [eA17, if_pos q]
        have m0 : mny (aRiv A (sy * 4 + fa)) 0 = A 0 0 3 := by show aRiv A (sy * 4 + fa) 0 0 3 = _; rw [riv_o (by omega)]
        rw [e, m0]; exact riv_key hA (by omega) q
      have lx5 := hL1.2.2.2.2 (sy * 4 + fa) (by omega) (by omega)
      have e41 : oFa A16 sy fa 4 = A16 (100 + (sy * 4 + fa)) 1 3 := rfl
      have m01 : mny A16 0 = A16 0 0 3 := rfl
      have hn1 := hI1.1.n
      have b41 := (hI1.1.fa (sy * 4 + fa) (by omega)).s3
      have n10 : A16 0 0 0 = 2 := by rw [z1]; exact h00
      have b61 : oFa A16 sy fa 6 = 0 ∨ oFa A16 sy fa 6 = 1 := bI_01 _
      have b51 : -1 ≤ oFa A16 sy fa 5 ∧ oFa A16 sy fa 5 ≤ 9999 := fh_bd (s := sy) (f := fa) hI1.1
      have hOT18 := hO0.tr o15
      refine pw_iload C dL_law_450 rfl ?_
      have brv : bI (A (100 + (sy * 4 + fa)) 1 3 = -1) = 0 := bI_f (by omega)
      refine pw_icmp_ne (tgt := 526) C dL_law_452 (by decide) (by omega) (fun c_452 => ?_) (fun c_452 => ?_)
      · exact absurd c_452 (by omega)
      refine pw_aload_n C dL_law_455 rfl ?_
      refine pw_iload C dL_law_456 rfl ?_
      refine pw_iload C dL_law_458 rfl ?_
      refine pw_iconst C dL_law_460 ?_
      refine pw_cVE C hX dL_law_461 ml_L_42 mc_X5_ofFact (c_ofFact hR14 hI1.1 (s := sy) (f := fa) (w := 4) (by omega) (by omega) (by omega) (by omega)) kc_8 hR14.k rfl rfl ⟨Nat.le_of_ble_eq_true rfl, Nat.le_of_ble_eq_true rfl⟩ (Nat.le_of_ble_eq_true rfl) (by show k + 0 ≤ 916994 ∧ n + 0 ≤ 6350716; omega) ?_
      refine pw_aload_n C dL_law_464 rfl ?_
      refine pw_iconst C dL_law_465 ?_
      refine pw_cVE C hX dL_law_466 ml_L_53 mc_X5_many (c_many hR14 hI1.1 (w := 0) (by omega) (by omega)) kc_8 hR14.k rfl rfl ⟨Nat.le_of_ble_eq_true rfl, Nat.le_of_ble_eq_true rfl⟩ (Nat.le_of_ble_eq_true rfl) (by show k + 0 ≤ 916994 ∧ n + 0 ≤ 6350716; omega) ?_
      refine pw_icmp_gt (tgt := 526) C dL_law_469 (by decide) (by omega) (fun c_469 => ?_) (fun c_469 => ?_)
      · exact absurd c_469 (by omega)
      refine pw_iload C dL_law_472 rfl ?_
      refine pw_ifL_eq (tgt := 994) C dL_law_474 (by decide) rfl ?_
      exact pw_locs (by exact ⟨rfl, cat_vR _, rfl, cat_vR _, rfl, cat_vR _, rfl, cat_vR _, rfl, rfl, rfl, rfl, trivial⟩) (kk _ _ _ _ _ _ (hJ.go hR14 hOT18 ⟨⟨hI1, hS1⟩, hL1⟩ hM1 (by rw [z1]) (by rw [z1]) (by rw [y1]) (fun t f q1 _ => by rw [t1 t q1])))
    · skip
      refine pw_iconst C dL_law_435 ?_
      refine pw_goto (tgt := 440) C dL_law_436 (by decide) ?_
      refine pw_istore C dL_law_440 (Nat.le_of_ble_eq_true rfl) rfl ?_
      refine pw_aload_n C dL_law_442 rfl ?_
      refine pw_iload C dL_law_443 rfl ?_
      refine pw_iload C dL_law_445 rfl ?_
      refine pw_cVI C hX dL_law_447 ml_L_49 mc_X5_rival (c_rival hR hA (s := sy) (f := fa) (by omega) (by omega)  (by omega)) kc_8 hR.k rfl rfl ⟨Nat.le_of_ble_eq_true rfl, Nat.le_of_ble_eq_true rfl⟩ (Nat.le_of_ble_eq_true rfl) (by show k + 0 ≤ 916994 ∧ n + 0 ≤ 6350716; omega) (fun r_ G M19 hq_ => ?_)
      obtain ⟨rfl, rfl, hR20, o21⟩ := hq_
      obtain ⟨A22, eA23⟩ : ∃ w, w = if A (100 + (sy * 4 + fa)) 1 3 = -1 then aRiv A (sy * 4 + fa) else A := ⟨_, rfl⟩
      rw [← eA23] at hR20
      have hI1 : Inv A22 := by rw [eA23]; split <;> first | exact hI.riv (by omega) | exact hI
      have hS1 : SN A22 := by rw [eA23]; split <;> first | exact hS.riv (by omega) hA | exact hS
      have hL1 : LX A22 := by rw [eA23]; split <;> first | exact hL.riv (by omega) | exact hL
      have hM1 : Mo A A22 := by rw [eA23]; split <;> first | exact Mo.riv (by omega) | exact Mo.rf
      have z1 : A22 0 = A 0 := by rw [eA23]; split <;> first | exact riv_o (by omega) | exact rfl
      have y1 : A22 10 = A 10 := by rw [eA23]; split <;> first | exact riv_o (by omega) | exact rfl
      have t1 : ∀ t, 0 ≤ t → A22 (200 + t) = A (200 + t) := fun t q => by rw [eA23]; split <;> first | exact riv_o (by omega) | exact rfl
      have hkey : A (100 + (sy * 4 + fa)) 1 3 = -1 → (oFa A22 sy fa 6 = 1 ↔ (oFa A sy fa 6 = 1 ∧ oFa A22 sy fa 5 < mny A22 0)) := fun q => by
        have e : A22 = aRiv A (sy * 4 + fa) := by rw [eA23, if_pos q]
        have m0 : mny (aRiv A (sy * 4 + fa)) 0 = A 0 0 3 := by show aRiv A (sy * 4 + fa) 0 0 3 = _; rw [riv_o (by omega)]
        rw [e, m0]; exact riv_key hA (by omega) q
      have lx5 := hL1.2.2.2.2 (sy * 4 + fa) (by omega) (by omega)
      have e41 : oFa A22 sy fa 4 = A22 (100 + (sy * 4 + fa)) 1 3 := rfl
      have m01 : mny A22 0 = A22 0 0 3 := rfl
      have hn1 := hI1.1.n
      have b41 := (hI1.1.fa (sy * 4 + fa) (by omega)).s3
      have n10 : A22 0 0 0 = 2 := by rw [z1]; exact h00
      have b61 : oFa A22 sy fa 6 = 0 ∨ oFa A22 sy fa 6 = 1 := bI_01 _
      have b51 : -1 ≤ oFa A22 sy fa 5 ∧ oFa A22 sy fa 5 ≤ 9999 := fh_bd (s := sy) (f := fa) hI1.1
      have hOT24 := hO0.tr o21
      refine pw_iload C dL_law_450 rfl ?_
      have brv : bI (A (100 + (sy * 4 + fa)) 1 3 = -1) = 1 := bI_t (by omega)
      refine pw_icmp_ne (tgt := 526) C dL_law_452 (by decide) (by omega) (fun c_452 => ?_) (fun c_452 => ?_)
      · exact absurd c_452 (by omega)
      refine pw_aload_n C dL_law_455 rfl ?_
      refine pw_iload C dL_law_456 rfl ?_
      refine pw_iload C dL_law_458 rfl ?_
      refine pw_iconst C dL_law_460 ?_
      refine pw_cVE C hX dL_law_461 ml_L_42 mc_X5_ofFact (c_ofFact hR20 hI1.1 (s := sy) (f := fa) (w := 4) (by omega) (by omega) (by omega) (by omega)) kc_8 hR20.k rfl rfl ⟨Nat.le_of_ble_eq_true rfl, Nat.le_of_ble_eq_true rfl⟩ (Nat.le_of_ble_eq_true rfl) (by show k + 0 ≤ 916994 ∧ n + 0 ≤ 6350716; omega) ?_
      refine pw_aload_n C dL_law_464 rfl ?_
      refine pw_iconst C dL_law_465 ?_
      refine pw_cVE C hX dL_law_466 ml_L_53 mc_X5_many (c_many hR20 hI1.1 (w := 0) (by omega) (by omega)) kc_8 hR20.k rfl rfl ⟨Nat.le_of_ble_eq_true rfl, Nat.le_of_ble_eq_true rfl⟩ (Nat.le_of_ble_eq_true rfl) (by show k + 0 ≤ 916994 ∧ n + 0 ≤ 6350716; omega) ?_
      refine pw_icmp_gt (tgt := 526) C dL_law_469 (by decide) (by omega) (fun c_469 => ?_) (fun c_469 => ?_)
      · exact absurd c_469 (by omega)
      refine pw_iload C dL_law_472 rfl ?_
      refine pw_ifL_eqn (tgt := 994) C dL_law_474 (by decide) rfl ?_
      refine pw_aload_n C dL_law_477 rfl ?_
      refine pw_iload C dL_law_478 rfl ?_
      refine pw_iload C dL_law_480 rfl ?_
      refine pw_bipush C dL_law_482 rfl ?_
      refine pw_cVE C hX dL_law_484 ml_L_42 mc_X5_ofFact (c_ofFact hR20 hI1.1 (s := sy) (f := fa) (w := 6) (by omega) (by omega) (by omega) (by omega)) kc_8 hR20.k rfl rfl ⟨Nat.le_of_ble_eq_true rfl, Nat.le_of_ble_eq_true rfl⟩ (Nat.le_of_ble_eq_true rfl) (by show k + 0 ≤ 916994 ∧ n + 0 ≤ 6350716; omega) ?_
      refine pw_iconst C dL_law_487 ?_
      refine pw_icmp_ne (tgt := 495) C dL_law_488 (by decide) (by omega) (fun c_488 => ?_) (fun c_488 => ?_)
      · skip
        refine pw_iconst C dL_law_495 ?_
        refine pw_iload C dL_law_496 rfl ?_
        refine pw_ifL_eqn (tgt := 522) C dL_law_498 (by decide) rfl ?_
        refine pw_aload_n C dL_law_501 rfl ?_
        refine pw_iload C dL_law_502 rfl ?_
        refine pw_iload C dL_law_504 rfl ?_
        refine pw_iconst C dL_law_506 ?_
        refine pw_cVE C hX dL_law_507 ml_L_42 mc_X5_ofFact (c_ofFact hR20 hI1.1 (s := sy) (f := fa) (w := 5) (by omega) (by omega) (by omega) (by omega)) kc_8 hR20.k rfl rfl ⟨Nat.le_of_ble_eq_true rfl, Nat.le_of_ble_eq_true rfl⟩ (Nat.le_of_ble_eq_true rfl) (by show k + 0 ≤ 916994 ∧ n + 0 ≤ 6350716; omega) ?_
        refine pw_aload_n C dL_law_510 rfl ?_
        refine pw_iconst C dL_law_511 ?_
        refine pw_cVE C hX dL_law_512 ml_L_53 mc_X5_many (c_many hR20 hI1.1 (w := 0) (by omega) (by omega)) kc_8 hR20.k rfl rfl ⟨Nat.le_of_ble_eq_true rfl, Nat.le_of_ble_eq_true rfl⟩ (Nat.le_of_ble_eq_true rfl) (by show k + 0 ≤ 916994 ∧ n + 0 ≤ 6350716; omega) ?_
        refine pw_icmp_ge (tgt := 522) C dL_law_515 (by decide) (by omega) (fun c_515 => ?_) (fun c_515 => ?_)
        · skip
          refine pw_iconst C dL_law_522 ?_
          refine pw_icmp_eq (tgt := 994) C dL_law_523 (by decide) (by omega) (fun c_523 => ?_) (fun c_523 => ?_)
          rotate_left
          · exact absurd c_523 (by omega)
          exact pw_locs (by exact ⟨rfl, cat_vR _, rfl, cat_vR _, rfl, cat_vR _, rfl, cat_vR _, rfl, rfl, rfl, rfl, trivial⟩) (kk _ _ _ _ _ _ (hJ.go hR20 hOT24 ⟨⟨hI1, hS1⟩, hL1⟩ hM1 (by rw [z1]) (by rw [z1]) (by rw [y1]) (fun t f q1 _ => by rw [t1 t q1])))
        · skip
          refine pw_iconst C dL_law_518 ?_
          refine pw_goto (tgt := 523) C dL_law_519 (by decide) ?_
          refine pw_icmp_eq (tgt := 994) C dL_law_523 (by decide) (by omega) (fun c_523 => ?_) (fun c_523 => ?_)
          · exact absurd c_523 (by omega)
          have hk9_ := hkey (by omega)
          exfalso; omega
      · skip
        refine pw_iconst C dL_law_491 ?_
        refine pw_goto (tgt := 496) C dL_law_492 (by decide) ?_
        refine pw_iload C dL_law_496 rfl ?_
        refine pw_ifL_eqn (tgt := 522) C dL_law_498 (by decide) rfl ?_
        refine pw_aload_n C dL_law_501 rfl ?_
        refine pw_iload C dL_law_502 rfl ?_
        refine pw_iload C dL_law_504 rfl ?_
        refine pw_iconst C dL_law_506 ?_
        refine pw_cVE C hX dL_law_507 ml_L_42 mc_X5_ofFact (c_ofFact hR20 hI1.1 (s := sy) (f := fa) (w := 5) (by omega) (by omega) (by omega) (by omega)) kc_8 hR20.k rfl rfl ⟨Nat.le_of_ble_eq_true rfl, Nat.le_of_ble_eq_true rfl⟩ (Nat.le_of_ble_eq_true rfl) (by show k + 0 ≤ 916994 ∧ n + 0 ≤ 6350716; omega) ?_
        refine pw_aload_n C dL_law_510 rfl ?_
        refine pw_iconst C dL_law_511 ?_
        refine pw_cVE C hX dL_law_512 ml_L_53 mc_X5_many (c_many hR20 hI1.1 (w := 0) (by omega) (by omega)) kc_8 hR20.k rfl rfl ⟨Nat.le_of_ble_eq_true rfl, Nat.le_of_ble_eq_true rfl⟩ (Nat.le_of_ble_eq_true rfl) (by show k + 0 ≤ 916994 ∧ n + 0 ≤ 6350716; omega) ?_
        refine pw_icmp_ge (tgt := 522) C dL_law_515 (by decide) (by omega) (fun c_515 => ?_) (fun c_515 => ?_)
        · skip
          refine pw_iconst C dL_law_522 ?_
          refine pw_icmp_eq (tgt := 994) C dL_law_523 (by decide) (by omega) (fun c_523 => ?_) (fun c_523 => ?_)
          · exact absurd c_523 (by omega)
          have hk9_ := hkey (by omega)
          exfalso; omega
        · skip
          refine pw_iconst C dL_law_518 ?_
          refine pw_goto (tgt := 523) C dL_law_519 (by decide) ?_
          refine pw_icmp_eq (tgt := 994) C dL_law_523 (by decide) (by omega) (fun c_523 => ?_) (fun c_523 => ?_)
          rotate_left
          · exact absurd c_523 (by omega)
          exact pw_locs (by exact ⟨rfl, cat_vR _, rfl, cat_vR _, rfl, cat_vR _, rfl, cat_vR _, rfl, rfl, rfl, rfl, trivial⟩) (kk _ _ _ _ _ _ (hJ.go hR20 hOT24 ⟨⟨hI1, hS1⟩, hL1⟩ hM1 (by rw [z1]) (by rw [z1]) (by rw [y1]) (fun t f q1 _ => by rw [t1 t q1])))

set_option maxHeartbeats 4000000 in
set_option maxRecDepth 100000 in
theorem law_down {E : Ev} {tb : List ExceptionTableEntry} {X : Xv} {B sb i tk x y sy fa so li : Int} {k n : Nat} {G M : Mm} {A : An} (C : Cx E code 22 RL tb room_1) (hX : E.1 = X) (hJ : LJ B i tk k n G M A) (hi : 0 ≤ i ∧ i < 64) (hB : 0 ≤ B) (hsy : 0 ≤ sy ∧ sy < 2) (hfa : 0 ≤ fa ∧ fa < 4) (hso : 0 ≤ so ∧ so < 6) (hli : 0 ≤ li ∧ li < 2) (kk : ∀ (G' M' : Mm) (k' n' : Nat) (A' : An) (tk' : Int), LJ B (i + 1) tk' k' n' G' M' A' → PW E G' M' k' n' 994 [(0, 1, vR sb), (1, 1, vR B), (2, 1, vR (B + 202)), (3, 1, vR (B + 263)), (4, 1, vI tk'), (5, 1, vI i)] []) : PW E G M k n 528 [(0, 1, vR sb), (1, 1, vR B), (2, 1, vR (B + 202)), (3, 1, vR (B + 263)), (4, 1, vI tk), (5, 1, vI i), (6, 1, vI x), (7, 1, vI y), (8, 1, vI sy), (9, 1, vI fa), (10, 1, vI so), (11, 1, vI li)] [] := by
  obtain ⟨hR, ⟨⟨hI, hS⟩, hL⟩, ⟨hc6, htk⟩, ht9, hnow, ⟨hMV, hMW⟩, hG4, hVC, hWC, hk9, hn9⟩ := id hJ
  have hA := hI.1
  have hW := hI.2.1
  have hnA := hA.n
  have hnS := hA.so.c
  have h00 := hL.1.1
  have h02 := hL.1.2
  have hO0 : Ot B (B + 201) M M := Ot.rf
  refine pw_aload_n C dL_law_528 rfl ?_
  refine pw_iload C dL_law_529 rfl ?_
  refine pw_iload C dL_law_531 rfl ?_
  refine pw_iconst C dL_law_533 ?_
  refine pw_ishr C dL_law_534 ?_
  refine pw_top (v' := vI (shr y 3)) shr_v ?_
  refine pw_iconst C dL_law_535 ?_
  refine pw_cSE C hX dL_law_536 ml_L_18 mc_L_below (c_below (x := (shr y 3)) (n := 4) (by omega)) rfl rfl ⟨Nat.le_of_ble_eq_true rfl, Nat.le_of_ble_eq_true rfl⟩ (Nat.le_of_ble_eq_true rfl) (by show k + 0 ≤ 916994 ∧ n + 0 ≤ 6350716; omega) ?_
  have bw_536 := bw_bd (x := (shr y 3)) (n := 4) (by omega)
  obtain ⟨m, hm⟩ : ∃ w, w = bw (shr y 3) 4 := ⟨_, rfl⟩
  rw [← hm] at bw_536 ⊢
  refine pw_cVI C hX dL_law_539 ml_L_57 mc_X5_down (c_down hR hA (l := li) (m := m) (by omega) (by omega)  (by omega)) kc_8 hR.k rfl rfl ⟨Nat.le_of_ble_eq_true rfl, Nat.le_of_ble_eq_true rfl⟩ (Nat.le_of_ble_eq_true rfl) (by show k + 0 ≤ 916994 ∧ n + 0 ≤ 6350716; omega) (fun r_ G M1 hq_ => ?_)
  obtain ⟨rfl, rfl, hR2, o3⟩ := hq_
  obtain ⟨A4, eA5⟩ : ∃ w, w = aDwn A li m := ⟨_, rfl⟩
  rw [← eA5] at hR2
  have hI1 : Inv A4 := by rw [eA5]; exact hI.dwn (by omega) (by omega)
  have hS1 : SN A4 := by rw [eA5]; exact hS.dwn (by omega)
  have hL1 : LX A4 := by rw [eA5]; exact hL.dwn (by omega)
  have hM1 : Mo A A4 := by rw [eA5]; exact Mo.dwn (by omega)
  have z1 : A4 0 = A 0 := by rw [eA5]; exact dwn_o (by omega)
  have y1 : A4 10 = A 10 := by rw [eA5]; exact dwn_o (by omega)
  have t1 : ∀ t, 0 ≤ t → A4 (200 + t) = A (200 + t) := fun t q => by rw [eA5]; exact dwn_o (by omega)
  have bd := (hA.li li (by omega)).s2
  have hOT6 := hO0.tr o3
  refine pw_if_ge (tgt := 994) C dL_law_542 (by decide) (by omega) (fun c_542 => ?_) (fun c_542 => ?_)
  rotate_left
  · exact absurd c_542 (by omega)
  exact pw_locs (by exact ⟨rfl, cat_vR _, rfl, cat_vR _, rfl, cat_vR _, rfl, cat_vR _, rfl, rfl, rfl, rfl, trivial⟩) (kk _ _ _ _ _ _ (hJ.go hR2 hOT6 ⟨⟨hI1, hS1⟩, hL1⟩ hM1 (by rw [z1]) (by rw [z1]) (by rw [y1]) (fun t f q1 _ => by rw [t1 t q1])))

set_option maxHeartbeats 4000000 in
set_option maxRecDepth 100000 in
theorem law_pass {E : Ev} {tb : List ExceptionTableEntry} {X : Xv} {B sb i tk x y sy fa so li : Int} {k n : Nat} {G M : Mm} {A : An} (C : Cx E code 22 RL tb room_1) (hX : E.1 = X) (hJ : LJ B i tk k n G M A) (hi : 0 ≤ i ∧ i < 64) (hB : 0 ≤ B) (hsy : 0 ≤ sy ∧ sy < 2) (hfa : 0 ≤ fa ∧ fa < 4) (hso : 0 ≤ so ∧ so < 6) (hli : 0 ≤ li ∧ li < 2) (kk : ∀ (G' M' : Mm) (k' n' : Nat) (A' : An) (tk' : Int), LJ B (i + 1) tk' k' n' G' M' A' → PW E G' M' k' n' 994 [(0, 1, vR sb), (1, 1, vR B), (2, 1, vR (B + 202)), (3, 1, vR (B + 263)), (4, 1, vI tk'), (5, 1, vI i)] []) : PW E G M k n 980 [(0, 1, vR sb), (1, 1, vR B), (2, 1, vR (B + 202)), (3, 1, vR (B + 263)), (4, 1, vI tk), (5, 1, vI i), (6, 1, vI x), (7, 1, vI y), (8, 1, vI sy), (9, 1, vI fa), (10, 1, vI so), (11, 1, vI li)] [] := by
  obtain ⟨hR, ⟨⟨hI, hS⟩, hL⟩, ⟨hc6, htk⟩, ht9, hnow, ⟨hMV, hMW⟩, hG4, hVC, hWC, hk9, hn9⟩ := id hJ
  have hA := hI.1
  have hW := hI.2.1
  have hnA := hA.n
  have hnS := hA.so.c
  have h00 := hL.1.1
  have h02 := hL.1.2
  have hO0 : Ot B (B + 201) M M := Ot.rf
  refine pw_aload_n C dL_law_980 rfl ?_
  refine pw_iload C dL_law_981 rfl ?_
  refine pw_iload C dL_law_983 rfl ?_
  refine pw_aload_n C dL_law_985 rfl ?_
  refine pw_cSI C hX dL_law_986 ml_L_76 mc_L_isPassed (c_isPassed hR hA (l := li) (tk := tk) (W := B + 263) (a1 := G 4 0 0) hI hS hL (by omega) htk (by omega) (by omega) hMW hWC hB (by omega) (by omega) rfl) rfl rfl ⟨Nat.le_of_ble_eq_true rfl, Nat.le_of_ble_eq_true rfl⟩ (Nat.le_of_ble_eq_true rfl) (by show k + 5 ≤ 916994 ∧ n + 10 ≤ 6350716; omega) (fun r_ G1 M1 hq_ => ?_)
  obtain ⟨rfl, A1, hP, hI1, hM1, hR1, hW1, hQ1⟩ := hq_
  refine pw_ifL_ne (tgt := 994) C dL_law_989 (by decide) rfl ?_
  exact pw_locs (by exact ⟨rfl, cat_vR _, rfl, cat_vR _, rfl, cat_vR _, rfl, cat_vR _, rfl, rfl, rfl, rfl, trivial⟩) (kk _ _ _ _ _ _ (hJ.pas hP ⟨⟨hI1.1, hI1.2.1⟩, hI1.2.2⟩ hR1 hW1 hQ1))

