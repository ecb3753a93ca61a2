set_option maxHeartbeats 4000000 in
set_option maxRecDepth 100000 in
theorem c_addTake {X : Xv} {G M : Mm} {B : Int} {A : An} (hR0 : RC G M B A) (hA : AB A) {s k set g hd tg : Int} (h60 : A 0 0 1 < 60) (hs9 : 0 ≤ s ∧ s < 6) (hk9 : 0 ≤ k ∧ k ≤ 4) (hset : 0 ≤ set ∧ set < 16) (hg9 : g = 0 ∨ g = 1) (hh9 : 0 ≤ hd ∧ hd ≤ 9999) (htg9 : -1 ≤ tg ∧ tg < 60) : CT X yX5_addTake prog_1_method_51_code 10 (some .int) 2 41 0 0 [vR B, vI s, vI k, vI set, vI g, vI hd, vI tg] G M (PI (fun r G1 M1 => G1 = G ∧ r = A 0 0 1 ∧ RC G M1 B (aTk A s k set g hd tg) ∧ Ot B (B + 201) M M1)) := by
  refine CT.by (by decide +kernel) [1, 1, 1, 1, 1, 1, 1] ⟨cat_vR _, cat_vI _, cat_vI _, cat_vI _, cat_vI _, cat_vI _, cat_vI _, trivial⟩ (Nat.le_of_ble_eq_true rfl) (fun E hX C hR hIni => ?_)
  have hn := hA.n
  have hnS := hA.so.c
  have hO0 : Ot B (B + 201) M M := Ot.rf
  refine pw_aload_n C dX5_addTake_0 rfl ?_
  refine pw_getE C dX5_addTake_1 fl_X5_284 rfl hR0.k (hR0.n 1 (by omega)) ?_
  refine pw_istore C dX5_addTake_4 (Nat.le_of_ble_eq_true rfl) rfl ?_
  refine pw_aload_n C dX5_addTake_6 rfl ?_
  refine pw_dup C dX5_addTake_7 (cat_vR _) ?_
  refine pw_getE C dX5_addTake_8 fl_X5_284 rfl hR0.k (hR0.n 1 (by omega)) ?_
  refine pw_iconst C dX5_addTake_11 ?_
  refine pw_iadd C dX5_addTake_12 ?_
  refine pw_putIG C dX5_addTake_13 fl_X5_284 (fun h => by cases h) rfl hR0.k (fun M2 eM2 => ?_)
  have o3 : Ot B B M M2 := by rw [eM2]; exact Ot.rf.u0 (by omega)
  have hR4 := hR0.wn 1 (by omega) eM2
  have hO5 := hO0.tr (o3.mono (by omega) (by omega))
  clear eM2
  refine pw_aload_n C dX5_addTake_16 rfl ?_
  refine pw_getR C dX5_addTake_17 fl_X5_32 hR4.k rfl hR4.r3 ?_
  refine pw_iload C dX5_addTake_20 rfl ?_
  refine pw_aaldE C dX5_addTake_22 hR4.a3 (by omega) (by omega) (hR4.e3 (A 0 0 1) (by omega)) ?_
  refine pw_astore C dX5_addTake_23 (Nat.le_of_ble_eq_true rfl) rfl ?_
  refine pw_aload C dX5_addTake_25 rfl ?_
  refine pw_iload_n C dX5_addTake_27 rfl ?_
  refine pw_putIG C dX5_addTake_28 fl_X5_172 (fun h => by cases h) rfl (show OR 6 1 9 4 _ _ _ (A (200 + (A 0 0 1))) by have q := (hR4.ta (A 0 0 1) (by omega)); rw [aup_n (by omega)] at q; exact q).k (fun M6 eM6 => ?_)
  have hX7 := (show OR 6 1 9 4 _ _ _ (A (200 + (A 0 0 1))) by have q := (hR4.ta (A 0 0 1) (by omega)); rw [aup_n (by omega)] at q; exact q).ws 0 (by omega) eM6
  have o8 : Ot (B + 56 + 2 * (A 0 0 1)) (B + 56 + 2 * (A 0 0 1)) M2 M6 := by rw [eM6]; exact Ot.rf.u0 (by omega)
  have hR9 := hR4.uT (A 0 0 1) (by omega) hX7 (o8.mono (by omega) (by omega))
  have hO10 := hO5.tr (o8.mono (by omega) (by omega))
  clear eM6
  refine pw_aload C dX5_addTake_31 rfl ?_
  refine pw_iload_n C dX5_addTake_33 rfl ?_
  refine pw_putIG C dX5_addTake_34 fl_X5_178 (fun h => by cases h) rfl (show OR 6 1 9 4 _ _ _ (lup (A (200 + (A 0 0 1))) 1 0 s) by have q := (hR9.ta (A 0 0 1) (by omega)); rw [aup_s] at q; exact q).k (fun M11 eM11 => ?_)
  have hX12 := (show OR 6 1 9 4 _ _ _ (lup (A (200 + (A 0 0 1))) 1 0 s) by have q := (hR9.ta (A 0 0 1) (by omega)); rw [aup_s] at q; exact q).ws 1 (by omega) eM11
  have o13 : Ot (B + 56 + 2 * (A 0 0 1)) (B + 56 + 2 * (A 0 0 1)) M6 M11 := by rw [eM11]; exact Ot.rf.u0 (by omega)
  have hR14 := hR9.uT (A 0 0 1) (by omega) hX12 (o13.mono (by omega) (by omega))
  have hO15 := hO10.tr (o13.mono (by omega) (by omega))
  clear eM11
  have hR16 : RC G M11 B (aup (aup A 0 (lup (A 0) 0 1 ((A 0 0 1) + 1))) (200 + (A 0 0 1)) (lup (lup (A (200 + (A 0 0 1))) 1 0 s) 1 1 k)) := by have q := hR14; rw [aup_2] at q; exact q
  refine pw_aload C dX5_addTake_37 rfl ?_
  refine pw_iload_n C dX5_addTake_39 rfl ?_
  refine pw_putIG C dX5_addTake_40 fl_X5_225 (fun h => by cases h) rfl (show OR 6 1 9 4 _ _ _ (lup (lup (A (200 + (A 0 0 1))) 1 0 s) 1 1 k) by have q := (hR16.ta (A 0 0 1) (by omega)); rw [aup_s] at q; exact q).k (fun M17 eM17 => ?_)
  have hX18 := (show OR 6 1 9 4 _ _ _ (lup (lup (A (200 + (A 0 0 1))) 1 0 s) 1 1 k) by have q := (hR16.ta (A 0 0 1) (by omega)); rw [aup_s] at q; exact q).ws 2 (by omega) eM17
  have o19 : Ot (B + 56 + 2 * (A 0 0 1)) (B + 56 + 2 * (A 0 0 1)) M11 M17 := by rw [eM17]; exact Ot.rf.u0 (by omega)
  have hR20 := hR16.uT (A 0 0 1) (by omega) hX18 (o19.mono (by omega) (by omega))
  have hO21 := hO15.tr (o19.mono (by omega) (by omega))
  clear eM17
  have hR22 : RC G M17 B (aup (aup A 0 (lup (A 0) 0 1 ((A 0 0 1) + 1))) (200 + (A 0 0 1)) (lup (lup (lup (A (200 + (A 0 0 1))) 1 0 s) 1 1 k) 1 2 set)) := by have q := hR20; rw [aup_2] at q; exact q
  refine pw_aload C dX5_addTake_43 rfl ?_
  refine pw_iload_n C dX5_addTake_45 rfl ?_
  refine pw_iload_n C dX5_addTake_46 rfl ?_
  refine pw_cSE C hX dX5_addTake_47 ml_X5_337 mc_X5_wordsFor (c_wordsFor (k := k) (set := set) (by omega) (by omega)) rfl rfl ⟨Nat.le_of_ble_eq_true rfl, Nat.le_of_ble_eq_true rfl⟩ (Nat.le_of_ble_eq_true rfl) ⟨Nat.le_of_ble_eq_true rfl, Nat.le_of_ble_eq_true rfl⟩ ?_
  refine pw_putIG C dX5_addTake_50 fl_X5_228 (fun h => by cases h) rfl (show OR 6 1 9 4 _ _ _ (lup (lup (lup (A (200 + (A 0 0 1))) 1 0 s) 1 1 k) 1 2 set) by have q := (hR22.ta (A 0 0 1) (by omega)); rw [aup_s] at q; exact q).k (fun M23 eM23 => ?_)
  have hX24 := (show OR 6 1 9 4 _ _ _ (lup (lup (lup (A (200 + (A 0 0 1))) 1 0 s) 1 1 k) 1 2 set) by have q := (hR22.ta (A 0 0 1) (by omega)); rw [aup_s] at q; exact q).ws 3 (by omega) eM23
  have o25 : Ot (B + 56 + 2 * (A 0 0 1)) (B + 56 + 2 * (A 0 0 1)) M17 M23 := by rw [eM23]; exact Ot.rf.u0 (by omega)
  have hR26 := hR22.uT (A 0 0 1) (by omega) hX24 (o25.mono (by omega) (by omega))
  have hO27 := hO21.tr (o25.mono (by omega) (by omega))
  clear eM23
  have hR28 : RC G M23 B (aup (aup A 0 (lup (A 0) 0 1 ((A 0 0 1) + 1))) (200 + (A 0 0 1)) (lup (lup (lup (lup (A (200 + (A 0 0 1))) 1 0 s) 1 1 k) 1 2 set) 1 3 (wdf k (bc set)))) := by have q := hR26; rw [aup_2] at q; exact q
  refine pw_aload C dX5_addTake_53 rfl ?_
  refine pw_iload C dX5_addTake_55 rfl ?_
  refine pw_putZG C dX5_addTake_57 fl_X5_234 (fun h => by cases h) rfl (by omega) (show OR 6 1 9 4 _ _ _ (lup (lup (lup (lup (A (200 + (A 0 0 1))) 1 0 s) 1 1 k) 1 2 set) 1 3 (wdf k (bc set))) by have q := (hR28.ta (A 0 0 1) (by omega)); rw [aup_s] at q; exact q).k (fun M29 eM29 => ?_)
  have hX30 := (show OR 6 1 9 4 _ _ _ (lup (lup (lup (lup (A (200 + (A 0 0 1))) 1 0 s) 1 1 k) 1 2 set) 1 3 (wdf k (bc set))) by have q := (hR28.ta (A 0 0 1) (by omega)); rw [aup_s] at q; exact q).ws 5 (by omega) eM29
  have o31 : Ot (B + 56 + 2 * (A 0 0 1)) (B + 56 + 2 * (A 0 0 1)) M23 M29 := by rw [eM29]; exact Ot.rf.u0 (by omega)
  have hR32 := hR28.uT (A 0 0 1) (by omega) hX30 (o31.mono (by omega) (by omega))
  have hO33 := hO27.tr (o31.mono (by omega) (by omega))
  clear eM29
  have hR34 : RC G M29 B (aup (aup A 0 (lup (A 0) 0 1 ((A 0 0 1) + 1))) (200 + (A 0 0 1)) (lup (lup (lup (lup (lup (A (200 + (A 0 0 1))) 1 0 s) 1 1 k) 1 2 set) 1 3 (wdf k (bc set))) 1 5 g)) := by have q := hR32; rw [aup_2] at q; exact q
  refine pw_aload C dX5_addTake_60 rfl ?_
  refine pw_iload C dX5_addTake_62 rfl ?_
  refine pw_putIG C dX5_addTake_64 fl_X5_231 (fun h => by cases h) rfl (show OR 6 1 9 4 _ _ _ (lup (lup (lup (lup (lup (A (200 + (A 0 0 1))) 1 0 s) 1 1 k) 1 2 set) 1 3 (wdf k (bc set))) 1 5 g) by have q := (hR34.ta (A 0 0 1) (by omega)); rw [aup_s] at q; exact q).k (fun M35 eM35 => ?_)
  have hX36 := (show OR 6 1 9 4 _ _ _ (lup (lup (lup (lup (lup (A (200 + (A 0 0 1))) 1 0 s) 1 1 k) 1 2 set) 1 3 (wdf k (bc set))) 1 5 g) by have q := (hR34.ta (A 0 0 1) (by omega)); rw [aup_s] at q; exact q).ws 4 (by omega) eM35
  have o37 : Ot (B + 56 + 2 * (A 0 0 1)) (B + 56 + 2 * (A 0 0 1)) M29 M35 := by rw [eM35]; exact Ot.rf.u0 (by omega)
  have hR38 := hR34.uT (A 0 0 1) (by omega) hX36 (o37.mono (by omega) (by omega))
  have hO39 := hO33.tr (o37.mono (by omega) (by omega))
  clear eM35
  have hR40 : RC G M35 B (aup (aup A 0 (lup (A 0) 0 1 ((A 0 0 1) + 1))) (200 + (A 0 0 1)) (lup (lup (lup (lup (lup (lup (A (200 + (A 0 0 1))) 1 0 s) 1 1 k) 1 2 set) 1 3 (wdf k (bc set))) 1 5 g) 1 4 hd)) := by have q := hR38; rw [aup_2] at q; exact q
  refine pw_aload C dX5_addTake_67 rfl ?_
  refine pw_iload C dX5_addTake_69 rfl ?_
  refine pw_putIG C dX5_addTake_71 fl_X5_238 (fun h => by cases h) rfl (show OR 6 1 9 4 _ _ _ (lup (lup (lup (lup (lup (lup (A (200 + (A 0 0 1))) 1 0 s) 1 1 k) 1 2 set) 1 3 (wdf k (bc set))) 1 5 g) 1 4 hd) by have q := (hR40.ta (A 0 0 1) (by omega)); rw [aup_s] at q; exact q).k (fun M41 eM41 => ?_)
  have hX42 := (show OR 6 1 9 4 _ _ _ (lup (lup (lup (lup (lup (lup (A (200 + (A 0 0 1))) 1 0 s) 1 1 k) 1 2 set) 1 3 (wdf k (bc set))) 1 5 g) 1 4 hd) by have q := (hR40.ta (A 0 0 1) (by omega)); rw [aup_s] at q; exact q).ws 6 (by omega) eM41
  have o43 : Ot (B + 56 + 2 * (A 0 0 1)) (B + 56 + 2 * (A 0 0 1)) M35 M41 := by rw [eM41]; exact Ot.rf.u0 (by omega)
  have hR44 := hR40.uT (A 0 0 1) (by omega) hX42 (o43.mono (by omega) (by omega))
  have hO45 := hO39.tr (o43.mono (by omega) (by omega))
  clear eM41
  have hR46 : RC G M41 B (aup (aup A 0 (lup (A 0) 0 1 ((A 0 0 1) + 1))) (200 + (A 0 0 1)) (lup (lup (lup (lup (lup (lup (lup (A (200 + (A 0 0 1))) 1 0 s) 1 1 k) 1 2 set) 1 3 (wdf k (bc set))) 1 5 g) 1 4 hd) 1 6 tg)) := by have q := hR44; rw [aup_2] at q; exact q
  refine pw_aload C dX5_addTake_74 rfl ?_
  refine pw_aload_n C dX5_addTake_76 rfl ?_
  refine pw_getE C dX5_addTake_77 fl_X5_123 rfl hR46.k ((hR46.n 3 (by omega)).trans (by rw [aup_n (by omega), aup_s, lup_n (by omega)])) ?_
  refine pw_putIG C dX5_addTake_80 fl_X5_241 (fun h => by cases h) rfl (show OR 6 1 9 4 _ _ _ (lup (lup (lup (lup (lup (lup (lup (A (200 + (A 0 0 1))) 1 0 s) 1 1 k) 1 2 set) 1 3 (wdf k (bc set))) 1 5 g) 1 4 hd) 1 6 tg) by have q := (hR46.ta (A 0 0 1) (by omega)); rw [aup_s] at q; exact q).k (fun M47 eM47 => ?_)
  have hX48 := (show OR 6 1 9 4 _ _ _ (lup (lup (lup (lup (lup (lup (lup (A (200 + (A 0 0 1))) 1 0 s) 1 1 k) 1 2 set) 1 3 (wdf k (bc set))) 1 5 g) 1 4 hd) 1 6 tg) by have q := (hR46.ta (A 0 0 1) (by omega)); rw [aup_s] at q; exact q).ws 8 (by omega) eM47
  have o49 : Ot (B + 56 + 2 * (A 0 0 1)) (B + 56 + 2 * (A 0 0 1)) M41 M47 := by rw [eM47]; exact Ot.rf.u0 (by omega)
  have hR50 := hR46.uT (A 0 0 1) (by omega) hX48 (o49.mono (by omega) (by omega))
  have hO51 := hO45.tr (o49.mono (by omega) (by omega))
  clear eM47
  have hR52 : RC G M47 B (aup (aup A 0 (lup (A 0) 0 1 ((A 0 0 1) + 1))) (200 + (A 0 0 1)) (lup (lup (lup (lup (lup (lup (lup (lup (A (200 + (A 0 0 1))) 1 0 s) 1 1 k) 1 2 set) 1 3 (wdf k (bc set))) 1 5 g) 1 4 hd) 1 6 tg) 1 8 (A 0 0 3))) := by have q := hR50; rw [aup_2] at q; exact q
  refine pw_iconst C dX5_addTake_83 ?_
  refine pw_istore C dX5_addTake_84 (Nat.le_of_ble_eq_true rfl) rfl ?_
  suffices K_86 : ∀ (nn_86 : Nat) (f : Int) (Tc : Fn) (Mc : Mm), (0 ≤ f ∧ f ≤ 4) → (RC G Mc B (aup (aup A 0 (lup (A 0) 0 1 ((A 0 0 1) + 1))) (200 + (A 0 0 1)) Tc)) → (Ot B (B + 201) M Mc) → (∀ j, 0 ≤ j → j < f → Tc 0 j = (if ins set j then vtf A g (s * 4 + j) else -1)) → (∀ c, Tc 1 c = (lup (lup (lup (lup (lup (lup (lup (lup (A (200 + (A 0 0 1))) 1 0 s) 1 1 k) 1 2 set) 1 3 (wdf k (bc set))) 1 5 g) 1 4 hd) 1 6 tg) 1 8 (A 0 0 3)) 1 c) → 4 - f < (nn_86 : Int) → PW E G Mc 0 0 86 [(0, 1, vR B), (1, 1, vI s), (2, 1, vI k), (3, 1, vI set), (4, 1, vI g), (5, 1, vI hd), (6, 1, vI tg), (7, 1, vI (A 0 0 1)), (8, 1, vR (B + 56 + 2 * (A 0 0 1))), (9, 1, vI f)] [] from pw_locs (by exact ⟨rfl, cat_vR _, rfl, rfl, rfl, rfl, rfl, rfl, rfl, rfl, rfl, rfl, rfl, rfl, rfl, rfl, rfl, cat_vR _, rfl, rfl, trivial⟩) (K_86 (4 - 0 + 1 : Int).toNat 0 (lup (lup (lup (lup (lup (lup (lup (lup (A (200 + (A 0 0 1))) 1 0 s) 1 1 k) 1 2 set) 1 3 (wdf k (bc set))) 1 5 g) 1 4 hd) 1 6 tg) 1 8 (A 0 0 3)) M47 (by omega) (by first | exact hR52 | omega) (by first | exact hO51 | omega) (by first | exact fun j q1 q2 => by omega | omega) (by first | exact fun c => rfl | omega) (by omega))
  intro nn_86
  induction nn_86 with
  | zero => intro f Tc Mc h1 hRc hOc hv hw h_m86; exact absurd h_m86 (by omega)
  | succ nn_86 ih_86 =>
    intro f Tc Mc h1 hRc hOc hv hw h_m86
    refine pw_iload C dX5_addTake_86 rfl ?_
    refine pw_iconst C dX5_addTake_88 ?_
    refine pw_icmp_ge (tgt := 131) C dX5_addTake_89 (by decide) (by omega) (fun c_89 => ?_) (fun c_89 => ?_)
    · skip
      refine pw_iload C dX5_addTake_131 rfl ?_
      exact pw_iret C hR dX5_addTake_133 (⟨_, rfl, rfl, rfl, hRc.xT (by omega) (fun j q1 q2 => by rw [hv j q1 (by omega)]; unfold nT; rw [rup_s]) (fun c q1 q2 => by rw [hw c]; unfold nT; rw [rup_n (by omega)]), hOc⟩) (by omega) (by omega)
    · skip
      refine pw_aload C dX5_addTake_92 rfl ?_
      refine pw_getR C dX5_addTake_94 fl_X5_162 (show OR 6 1 9 4 _ _ _ Tc by have q := (hRc.ta (A 0 0 1) (by omega)); rw [aup_s] at q; exact q).k rfl ((show OR 6 1 9 4 _ _ _ Tc by have q := (hRc.ta (A 0 0 1) (by omega)); rw [aup_s] at q; exact q).r (b := ((B + 56 + 2 * (A 0 0 1)) + 1)) 0 (by omega)) ?_
      refine pw_iload C dX5_addTake_97 rfl ?_
      refine pw_iload_n C dX5_addTake_99 rfl ?_
      refine pw_iload C dX5_addTake_100 rfl ?_
      refine pw_cSE C hX dX5_addTake_102 ml_X5_405 mc_X5_isInSet (c_isInSet (set := set) (f := f) (by omega) (by omega)) rfl rfl ⟨Nat.le_of_ble_eq_true rfl, Nat.le_of_ble_eq_true rfl⟩ (Nat.le_of_ble_eq_true rfl) ⟨Nat.le_of_ble_eq_true rfl, Nat.le_of_ble_eq_true rfl⟩ ?_
      refine pw_ifB_eq (tgt := 123) C dX5_addTake_105 (by decide) (fun c_105 => ?_) (fun c_105 => ?_)
      · skip
        refine pw_iconst C dX5_addTake_123 ?_
        refine pw_iastG C dX5_addTake_124 ((show OR 6 1 9 4 _ _ _ Tc by have q := (hRc.ta (A 0 0 1) (by omega)); rw [aup_s] at q; exact q).ai 0 (by omega)) (by omega) (fun M53 eM53 => ?_)
        have hX54 := (show OR 6 1 9 4 _ _ _ Tc by have q := (hRc.ta (A 0 0 1) (by omega)); rw [aup_s] at q; exact q).wv 0 (by omega) eM53
        have o55 : Ot (B + 57 + 2 * A 0 0 1) (B + 57 + 2 * A 0 0 1) Mc M53 := by rw [eM53]; exact Ot.rf.u1 (by omega)
        have hR56 := hRc.uT (A 0 0 1) (by omega) hX54 (o55.mono (by omega) (by omega))
        have hO57 := hOc.tr (o55.mono (by omega) (by omega))
        clear eM53
        have hR58 : RC G M53 B (aup (aup A 0 (lup (A 0) 0 1 ((A 0 0 1) + 1))) (200 + (A 0 0 1)) (lup Tc 0 f (-1))) := by have q := hR56; rw [aup_2] at q; exact q
        refine pw_iinc C dX5_addTake_125 rfl (Nat.le_of_ble_eq_true rfl) rfl ?_
        refine pw_goto (tgt := 86) C dX5_addTake_128 (by decide) ?_
        exact pw_locs (by exact ⟨rfl, cat_vR _, rfl, rfl, rfl, rfl, rfl, rfl, rfl, rfl, rfl, rfl, rfl, rfl, rfl, rfl, rfl, cat_vR _, rfl, rfl, trivial⟩) (ih_86 (f + 1) (lup Tc 0 f (-1)) M53 (by omega) (hR58) (hO57) (fun j q1 q2 => (Decidable.em (j = f)).elim (fun e => by rw [e, lup_s, if_neg c_105]) (fun e => by rw [lup_n (by omega)]; exact hv j q1 (by omega))) (fun c => by rw [lup_n (by omega)]; exact hw c) (by omega))
      · skip
        refine pw_aload_n C dX5_addTake_108 rfl ?_
        refine pw_iload_n C dX5_addTake_109 rfl ?_
        refine pw_iload C dX5_addTake_110 rfl ?_
        refine pw_cVR C hX dX5_addTake_112 ml_X5_98 mc_X5_factAt (c_factAt hRc (s := s) (f := f) (by omega) (by omega)) kc_8 hRc.k rfl rfl ⟨Nat.le_of_ble_eq_true rfl, Nat.le_of_ble_eq_true rfl⟩ (Nat.le_of_ble_eq_true rfl) ⟨Nat.le_of_ble_eq_true rfl, Nat.le_of_ble_eq_true rfl⟩ ?_
        refine pw_iload C dX5_addTake_115 rfl ?_
        refine pw_cVE C hX dX5_addTake_117 ml_X5_408 mc_X0_valueToFile (c_X0_valueToFile (show OR 3 1 4 10 _ _ _ (A (100 + (s * 4 + f))) by have q := (hRc.fa (s * 4 + f) (by omega)); rw [aup_n (by omega), aup_n (by omega)] at q; exact q) (z := g) (by first | assumption | omega)) kc_3 (show OR 3 1 4 10 _ _ _ (A (100 + (s * 4 + f))) by have q := (hRc.fa (s * 4 + f) (by omega)); rw [aup_n (by omega), aup_n (by omega)] at q; exact q).k rfl rfl ⟨Nat.le_of_ble_eq_true rfl, Nat.le_of_ble_eq_true rfl⟩ (Nat.le_of_ble_eq_true rfl) ⟨Nat.le_of_ble_eq_true rfl, Nat.le_of_ble_eq_true rfl⟩ ?_
        refine pw_goto (tgt := 124) C dX5_addTake_120 (by decide) ?_
        refine pw_iastG C dX5_addTake_124 ((show OR 6 1 9 4 _ _ _ Tc by have q := (hRc.ta (A 0 0 1) (by omega)); rw [aup_s] at q; exact q).ai 0 (by omega)) (by omega) (fun M59 eM59 => ?_)
        have hX60 := (show OR 6 1 9 4 _ _ _ Tc by have q := (hRc.ta (A 0 0 1) (by omega)); rw [aup_s] at q; exact q).wv 0 (by omega) eM59
        have o61 : Ot (B + 57 + 2 * A 0 0 1) (B + 57 + 2 * A 0 0 1) Mc M59 := by rw [eM59]; exact Ot.rf.u1 (by omega)
        have hR62 := hRc.uT (A 0 0 1) (by omega) hX60 (o61.mono (by omega) (by omega))
        have hO63 := hOc.tr (o61.mono (by omega) (by omega))
        clear eM59
        have hR64 : RC G M59 B (aup (aup A 0 (lup (A 0) 0 1 ((A 0 0 1) + 1))) (200 + (A 0 0 1)) (lup Tc 0 f (if g = 0 then (A (100 + (s * 4 + f))) 1 0 else (A (100 + (s * 4 + f))) 1 2))) := by have q := hR62; rw [aup_2] at q; exact q
        refine pw_iinc C dX5_addTake_125 rfl (Nat.le_of_ble_eq_true rfl) rfl ?_
        refine pw_goto (tgt := 86) C dX5_addTake_128 (by decide) ?_
        exact pw_locs (by exact ⟨rfl, cat_vR _, rfl, rfl, rfl, rfl, rfl, rfl, rfl, rfl, rfl, rfl, rfl, rfl, rfl, rfl, rfl, cat_vR _, rfl, rfl, trivial⟩) (ih_86 (f + 1) (lup Tc 0 f (if g = 0 then (A (100 + (s * 4 + f))) 1 0 else (A (100 + (s * 4 + f))) 1 2)) M59 (by omega) (hR64) (hO63) (fun j q1 q2 => (Decidable.em (j = f)).elim (fun e => by rw [e, lup_s, if_pos c_105]) (fun e => by rw [lup_n (by omega)]; exact hv j q1 (by omega))) (fun c => by rw [lup_n (by omega)]; exact hw c) (by omega))

set_option maxHeartbeats 4000000 in
set_option maxRecDepth 100000 in
theorem c_runOnAllLines {X : Xv} {G M : Mm} {B : Int} {A : An} (hR0 : RC G M B A) (hA : AB A) {t : Int} (ht9 : 0 ≤ t ∧ t < A 0 0 1) : CT X yX5_runOnAllLines prog_1_method_52_code 3 (none) 2 46 0 0 [vR B, vI t] G M (PU (fun G1 M1 => G1 = G ∧ RC G M1 B (aRun A t) ∧ Ot B (B + 201) M M1)) := by
  refine CT.by (by decide +kernel) [1, 1] ⟨cat_vR _, cat_vI _, trivial⟩ (Nat.le_of_ble_eq_true rfl) (fun E hX C hR hIni => ?_)
  have hn := hA.n
  have hnS := hA.so.c
  have hO0 : Ot B (B + 201) M M := Ot.rf
  refine pw_iconst C dX5_runOnAllLines_0 ?_
  refine pw_istore_n C dX5_runOnAllLines_1 (Nat.le_of_ble_eq_true rfl) rfl ?_
  suffices K_2 : ∀ (nn_2 : Nat) (l : Int) (Ac : An) (Mc : Mm), (0 ≤ l ∧ l ≤ A 0 0 2) → (RC G Mc B Ac) → (Ac = onL A l (runF A t)) → (Ot B (B + 201) M Mc) → A 0 0 2 - l < (nn_2 : Int) → PW E G Mc 0 0 2 [(0, 1, vR B), (1, 1, vI t), (2, 1, vI l)] [] from pw_locs (by exact ⟨rfl, cat_vR _, rfl, rfl, rfl, rfl, trivial⟩) (K_2 (A 0 0 2 - 0 + 1 : Int).toNat 0 A M (by omega) (by first | exact hR0 | omega) (by first | exact onL_0.symm | omega) (by first | exact hO0 | omega) (by omega))
  intro nn_2
  induction nn_2 with
  | zero => intro l Ac Mc h1 hRc heA hOc h_m2; exact absurd h_m2 (by omega)
  | succ nn_2 ih_2 =>
    intro l Ac Mc h1 hRc heA hOc h_m2
    have bt := hA.ta t (by omega)
    have hAc : AB Ac := by rw [heA]; exact hA.run (by omega) (fun L hL => enq_LB hL bt.s1 bt.s3 bt.s4 (by omega))
    have q0 : Ac 0 = A 0 := by rw [heA]; exact onL_n (by omega)
    have q00 : Ac 0 0 2 = A 0 0 2 := by rw [q0]
    have q1 : Ac (20 + l) = A (20 + l) := by rw [heA]; exact onL_n (by omega)
    have q2 : Ac (200 + t) = A (200 + t) := by rw [heA]; exact onL_n (by omega)
    refine pw_iload_n C dX5_runOnAllLines_2 rfl ?_
    refine pw_aload_n C dX5_runOnAllLines_3 rfl ?_
    refine pw_getE C dX5_runOnAllLines_4 fl_X5_80 rfl hRc.k (hRc.n 2 (by omega)) ?_
    refine pw_icmp_ge (tgt := 32) C dX5_runOnAllLines_7 (by decide) (by omega) (fun c_7 => ?_) (fun c_7 => ?_)
    · skip
      exact pw_vret C hR dX5_runOnAllLines_32 (⟨rfl, rfl, by rw [heA] at hRc; rw [show l = A 0 0 2 by omega] at hRc; exact hRc, hOc⟩) (by omega) (by omega)
    · skip
      refine pw_aload_n C dX5_runOnAllLines_10 rfl ?_
      refine pw_getR C dX5_runOnAllLines_11 fl_X5_39 hRc.k rfl hRc.r4 ?_
      refine pw_iload_n C dX5_runOnAllLines_14 rfl ?_
      refine pw_aaldE C dX5_runOnAllLines_15 hRc.a4 (by omega) (by omega) (hRc.e4 l (by omega)) ?_
      refine pw_iload_n C dX5_runOnAllLines_16 rfl ?_
      refine pw_aload_n C dX5_runOnAllLines_17 rfl ?_
      refine pw_getR C dX5_runOnAllLines_18 fl_X5_32 hRc.k rfl hRc.r3 ?_
      refine pw_iload_n C dX5_runOnAllLines_21 rfl ?_
      refine pw_aaldE C dX5_runOnAllLines_22 hRc.a3 (by omega) (by omega) (hRc.e3 t (by omega)) ?_
      refine pw_cVU C hX dX5_runOnAllLines_23 ml_X5_187 mc_X1_start (c_X1_start (hRc.li l (by omega)) (hAc.li l (by omega)) (t := t) (by omega) (hRc.ta t (by omega))) kc_4 (hRc.li l (by omega)).k rfl rfl ⟨Nat.le_of_ble_eq_true rfl, Nat.le_of_ble_eq_true rfl⟩ (Nat.le_of_ble_eq_true rfl) ⟨Nat.le_of_ble_eq_true rfl, Nat.le_of_ble_eq_true rfl⟩ (fun G M1 hq_ => ?_)
      obtain ⟨rfl, hL2, o3⟩ := hq_
      have hR4 := hRc.uL l (by omega) hL2 (o3.mono (by omega) (by omega))
      have hO5 := hOc.tr (o3.mono (by omega) (by omega))
      refine pw_iinc C dX5_runOnAllLines_26 rfl (Nat.le_of_ble_eq_true rfl) rfl ?_
      refine pw_goto (tgt := 2) C dX5_runOnAllLines_29 (by decide) ?_
      exact pw_locs (by exact ⟨rfl, cat_vR _, rfl, rfl, rfl, rfl, trivial⟩) (ih_2 (l + 1) (aup Ac (20 + l) (enq (Ac (20 + l)) t ((Ac (200 + t)) 1 1) ((Ac (200 + t)) 1 3) ((Ac (200 + t)) 1 4))) M1 (by omega) (hR4) (by rw [q1, q2, heA]; exact onL_1 (by omega)) (hO5) (by omega))

set_option maxHeartbeats 4000000 in
set_option maxRecDepth 100000 in
theorem c_file {X : Xv} {G M : Mm} {B : Int} {A : An} (hR0 : RC G M B A) (hA : AB A) {s k set g hd : Int} (r_s : -2147483648 ≤ s ∧ s ≤ 2147483647) (r_k : -2147483648 ≤ k ∧ k ≤ 2147483647) (r_set : -2147483648 ≤ set ∧ set ≤ 2147483647) (r_hd : -2147483648 ≤ hd ∧ hd ≤ 2147483647) (z_g : g = 0 ∨ g = 1) (hok : (0 ≤ s ∧ s < A 0 0 0) ∧ ((k = 0 ∨ k = 3 ∨ k = 4) ∧ (1 ≤ set ∧ set ≤ 15) ∧ 0 ≤ hd ∧ hd ≤ 9999) ∧ (A 0 0 1 < 60)) : CT X yX5_file prog_1_method_9_code 8 (some .int) 3 70 0 0 [vR B, vI s, vI k, vI set, vI g, vI hd] G M (PI (fun r G1 M1 => G1 = G ∧ r = (if ¬ hv A s set g = 4 then -2 else if k = 0 ∧ ¬ bc set = 1 then -3 else A 0 0 1) ∧ RC G M1 B (if ¬ hv A s set g = 4 then A else if k = 0 ∧ ¬ bc set = 1 then A else aFil A s k set g hd (-1)) ∧ Ot B (B + 201) M M1)) := by
  refine CT.by (by decide +kernel) [1, 1, 1, 1, 1, 1] ⟨cat_vR _, cat_vI _, cat_vI _, cat_vI _, cat_vI _, cat_vI _, trivial⟩ (Nat.le_of_ble_eq_true rfl) (fun E hX C hR hIni => ?_)
  have hn := hA.n
  have hnS := hA.so.c
  have hO0 : Ot B (B + 201) M M := Ot.rf
  refine pw_aload_n C dX5_file_0 rfl ?_
  refine pw_iload_n C dX5_file_1 rfl ?_
  refine pw_cVV C hX dX5_file_2 ml_X5_134 mc_X5_checkStory (c_checkStory hR0 hA (s := s) (by omega) (by omega)) kc_8 hR0.k rfl rfl ⟨Nat.le_of_ble_eq_true rfl, Nat.le_of_ble_eq_true rfl⟩ (Nat.le_of_ble_eq_true rfl) ⟨Nat.le_of_ble_eq_true rfl, Nat.le_of_ble_eq_true rfl⟩ ?_
  refine pw_iload_n C dX5_file_5 rfl ?_
  refine pw_if_eq (tgt := 19) C dX5_file_6 (by decide) (by omega) (fun c_6 => ?_) (fun c_6 => ?_)
  · skip
    refine pw_iconst C dX5_file_19 ?_
    refine pw_goto (tgt := 24) C dX5_file_20 (by decide) ?_
    refine pw_istore C dX5_file_24 (Nat.le_of_ble_eq_true rfl) rfl ?_
    refine pw_iload C dX5_file_26 rfl ?_
    refine pw_ifL_eqn (tgt := 55) C dX5_file_28 (by decide) rfl ?_
    refine pw_iload_n C dX5_file_31 rfl ?_
    refine pw_iconst C dX5_file_32 ?_
    refine pw_icmp_lt (tgt := 55) C dX5_file_33 (by decide) (by omega) (fun c_33 => ?_) (fun c_33 => ?_)
    · skip
      exfalso; omega
    · skip
      refine pw_iload_n C dX5_file_36 rfl ?_
      refine pw_bipush C dX5_file_37 rfl ?_
      refine pw_icmp_gt (tgt := 55) C dX5_file_39 (by decide) (by omega) (fun c_39 => ?_) (fun c_39 => ?_)
      · skip
        exfalso; omega
      · skip
        refine pw_iload C dX5_file_42 rfl ?_
        refine pw_if_lt (tgt := 55) C dX5_file_44 (by decide) (by omega) (fun c_44 => ?_) (fun c_44 => ?_)
        · skip
          exfalso; omega
        · skip
          refine pw_iload C dX5_file_47 rfl ?_
          refine pw_sipush C dX5_file_49 rfl ?_
          refine pw_icmp_le (tgt := 65) C dX5_file_52 (by decide) (by omega) (fun c_52 => ?_) (fun c_52 => ?_)
          · skip
            refine pw_aload_n C dX5_file_65 rfl ?_
            refine pw_cVV C hX dX5_file_66 ml_X5_139 mc_X5_checkRoomForTake (c_checkRoomForTake hR0 hA  (by omega)) kc_8 hR0.k rfl rfl ⟨Nat.le_of_ble_eq_true rfl, Nat.le_of_ble_eq_true rfl⟩ (Nat.le_of_ble_eq_true rfl) ⟨Nat.le_of_ble_eq_true rfl, Nat.le_of_ble_eq_true rfl⟩ ?_
            refine pw_aload_n C dX5_file_69 rfl ?_
            refine pw_iload_n C dX5_file_70 rfl ?_
            refine pw_iload_n C dX5_file_71 rfl ?_
            refine pw_iload C dX5_file_72 rfl ?_
            refine pw_cVE C hX dX5_file_74 ml_X5_142 mc_X5_hasValues (c_hasValues hR0 hA (s := s) (set := set) (z := g) (by omega) (by omega) (by omega)) kc_8 hR0.k rfl rfl ⟨Nat.le_of_ble_eq_true rfl, Nat.le_of_ble_eq_true rfl⟩ (Nat.le_of_ble_eq_true rfl) ⟨Nat.le_of_ble_eq_true rfl, Nat.le_of_ble_eq_true rfl⟩ ?_
            refine pw_ifB_ne (tgt := 83) C dX5_file_77 (by decide) (fun c_77 => ?_) (fun c_77 => ?_)
            · skip
              refine pw_iload_n C dX5_file_83 rfl ?_
              refine pw_if_ne (tgt := 98) C dX5_file_84 (by decide) (by omega) (fun c_84 => ?_) (fun c_84 => ?_)
              · skip
                refine pw_aload_n C dX5_file_98 rfl ?_
                refine pw_iload_n C dX5_file_99 rfl ?_
                refine pw_iload_n C dX5_file_100 rfl ?_
                refine pw_iload_n C dX5_file_101 rfl ?_
                refine pw_iload C dX5_file_102 rfl ?_
                refine pw_iload C dX5_file_104 rfl ?_
                refine pw_iconst C dX5_file_106 ?_
                refine pw_cVI C hX dX5_file_107 ml_X5_152 mc_X5_addTake (c_addTake hR0 hA (s := s) (k := k) (set := set) (g := g) (hd := hd) (tg := (-1)) (by omega) (by omega) (by omega) (by omega) (by omega) (by omega) (by omega)) kc_8 hR0.k rfl rfl ⟨Nat.le_of_ble_eq_true rfl, Nat.le_of_ble_eq_true rfl⟩ (Nat.le_of_ble_eq_true rfl) ⟨Nat.le_of_ble_eq_true rfl, Nat.le_of_ble_eq_true rfl⟩ (fun r_ G M1 hq_ => ?_)
                obtain ⟨rfl, rfl, hR1, o2⟩ := hq_
                have hA1 : AB (aTk A s k set g hd (-1)) := AB.tk hA (by omega) (by omega) (by omega) (by omega) (by omega) (by omega) (by omega)
                have hn1 : ∀ c, (aTk A s k set g hd (-1)) 0 0 c = if c = 1 then A 0 0 1 + 1 else A 0 0 c := fun c => aTk_0 (by omega)
                have ho1 : ∀ j, j ≠ 200 + A 0 0 1 → j ≠ 0 → (aTk A s k set g hd (-1)) j = A j := fun j q1 q2 => aTk_o q1 q2
                have ht1 : (aTk A s k set g hd (-1)) (200 + A 0 0 1) = nT A s k set g hd (-1) := aTk_t
                obtain ⟨A1, eA1⟩ : ∃ z, z = aTk A s k set g hd (-1) := ⟨_, rfl⟩
                rw [← eA1] at hR1 hA1 hn1 ho1 ht1
                have z10 : A1 0 0 0 = A 0 0 0 := by rw [hn1]; rfl
                have z11 : A1 0 0 1 = A 0 0 1 + 1 := by rw [hn1]; rfl
                have z12 : A1 0 0 2 = A 0 0 2 := by rw [hn1]; rfl
                have z13 : A1 0 0 3 = A 0 0 3 := by rw [hn1]; rfl
                have hO1 := hO0.tr o2
                refine pw_istore C dX5_file_110 (Nat.le_of_ble_eq_true rfl) rfl ?_
                refine pw_aload_n C dX5_file_112 rfl ?_
                refine pw_iload C dX5_file_113 rfl ?_
                refine pw_cVU C hX dX5_file_115 ml_X5_156 mc_X5_runOnAllLines (c_runOnAllLines hR1 hA1 (t := (A 0 0 1)) (by omega)) kc_8 hR1.k rfl rfl ⟨Nat.le_of_ble_eq_true rfl, Nat.le_of_ble_eq_true rfl⟩ (Nat.le_of_ble_eq_true rfl) ⟨Nat.le_of_ble_eq_true rfl, Nat.le_of_ble_eq_true rfl⟩ (fun G M3 hq_ => ?_)
                obtain ⟨rfl, hR2, o4⟩ := hq_
                have hO2 := hO1.tr o4
                refine pw_iload C dX5_file_118 rfl ?_
                exact pw_iret C hR dX5_file_120 (⟨_, rfl, rfl, by rw [if_neg (fun q => q c_77), if_neg (by omega)], by rw [if_neg (fun q => q c_77), if_neg (by omega)]; rw [eA1] at hR2; exact hR2, hO2⟩) (by omega) (by omega)
              · skip
                refine pw_iload_n C dX5_file_87 rfl ?_
                refine pw_cSE C hX dX5_file_88 ml_X5_146 mc_J6_bitCount_0f7a4 (c_bitCount (x := set) (by omega)) rfl rfl ⟨Nat.le_of_ble_eq_true rfl, Nat.le_of_ble_eq_true rfl⟩ (Nat.le_of_ble_eq_true rfl) ⟨Nat.le_of_ble_eq_true rfl, Nat.le_of_ble_eq_true rfl⟩ ?_
                have bbc := bc_bd set
                refine pw_iconst C dX5_file_91 ?_
                refine pw_icmp_eq (tgt := 98) C dX5_file_92 (by decide) (by omega) (fun c_92 => ?_) (fun c_92 => ?_)
                · skip
                  refine pw_aload_n C dX5_file_98 rfl ?_
                  refine pw_iload_n C dX5_file_99 rfl ?_
                  refine pw_iload_n C dX5_file_100 rfl ?_
                  refine pw_iload_n C dX5_file_101 rfl ?_
                  refine pw_iload C dX5_file_102 rfl ?_
                  refine pw_iload C dX5_file_104 rfl ?_
                  refine pw_iconst C dX5_file_106 ?_
                  refine pw_cVI C hX dX5_file_107 ml_X5_152 mc_X5_addTake (c_addTake hR0 hA (s := s) (k := k) (set := set) (g := g) (hd := hd) (tg := (-1)) (by omega) (by omega) (by omega) (by omega) (by omega) (by omega) (by omega)) kc_8 hR0.k rfl rfl ⟨Nat.le_of_ble_eq_true rfl, Nat.le_of_ble_eq_true rfl⟩ (Nat.le_of_ble_eq_true rfl) ⟨Nat.le_of_ble_eq_true rfl, Nat.le_of_ble_eq_true rfl⟩ (fun r_ G M5 hq_ => ?_)
                  obtain ⟨rfl, rfl, hR1, o6⟩ := hq_
                  have hA1 : AB (aTk A s k set g hd (-1)) := AB.tk hA (by omega) (by omega) (by omega) (by omega) (by omega) (by omega) (by omega)
                  have hn1 : ∀ c, (aTk A s k set g hd (-1)) 0 0 c = if c = 1 then A 0 0 1 + 1 else A 0 0 c := fun c => aTk_0 (by omega)
                  have ho1 : ∀ j, j ≠ 200 + A 0 0 1 → j ≠ 0 → (aTk A s k set g hd (-1)) j = A j := fun j q1 q2 => aTk_o q1 q2
                  have ht1 : (aTk A s k set g hd (-1)) (200 + A 0 0 1) = nT A s k set g hd (-1) := aTk_t
                  obtain ⟨A1, eA1⟩ : ∃ z, z = aTk A s k set g hd (-1) := ⟨_, rfl⟩
                  rw [← eA1] at hR1 hA1 hn1 ho1 ht1
                  have z10 : A1 0 0 0 = A 0 0 0 := by rw [hn1]; rfl
                  have z11 : A1 0 0 1 = A 0 0 1 + 1 := by rw [hn1]; rfl
                  have z12 : A1 0 0 2 = A 0 0 2 := by rw [hn1]; rfl
                  have z13 : A1 0 0 3 = A 0 0 3 := by rw [hn1]; rfl
                  have hO1 := hO0.tr o6
                  refine pw_istore C dX5_file_110 (Nat.le_of_ble_eq_true rfl) rfl ?_
                  refine pw_aload_n C dX5_file_112 rfl ?_
                  refine pw_iload C dX5_file_113 rfl ?_
                  refine pw_cVU C hX dX5_file_115 ml_X5_156 mc_X5_runOnAllLines (c_runOnAllLines hR1 hA1 (t := (A 0 0 1)) (by omega)) kc_8 hR1.k rfl rfl ⟨Nat.le_of_ble_eq_true rfl, Nat.le_of_ble_eq_true rfl⟩ (Nat.le_of_ble_eq_true rfl) ⟨Nat.le_of_ble_eq_true rfl, Nat.le_of_ble_eq_true rfl⟩ (fun G M7 hq_ => ?_)
                  obtain ⟨rfl, hR2, o8⟩ := hq_
                  have hO2 := hO1.tr o8
                  refine pw_iload C dX5_file_118 rfl ?_
                  exact pw_iret C hR dX5_file_120 (⟨_, rfl, rfl, by rw [if_neg (fun q => q c_77), if_neg (by omega)], by rw [if_neg (fun q => q c_77), if_neg (by omega)]; rw [eA1] at hR2; exact hR2, hO2⟩) (by omega) (by omega)
                · skip
                  refine pw_bipush C dX5_file_95 rfl ?_
                  exact pw_iret C hR dX5_file_97 (⟨_, rfl, rfl, by rw [if_neg (fun q => q c_77), if_pos ⟨by omega, c_92⟩], by rw [if_neg (fun q => q c_77), if_pos ⟨by omega, c_92⟩]; exact hR0, hO0⟩) (by omega) (by omega)
            · skip
              refine pw_bipush C dX5_file_80 rfl ?_
              exact pw_iret C hR dX5_file_82 (⟨_, rfl, rfl, by rw [if_pos c_77], by rw [if_pos c_77]; exact hR0, hO0⟩) (by omega) (by omega)
          · skip
            exfalso; omega
  · skip
    refine pw_iload_n C dX5_file_9 rfl ?_
    refine pw_iconst C dX5_file_10 ?_
    refine pw_icmp_eq (tgt := 19) C dX5_file_11 (by decide) (by omega) (fun c_11 => ?_) (fun c_11 => ?_)
    · skip
      refine pw_iconst C dX5_file_19 ?_
      refine pw_goto (tgt := 24) C dX5_file_20 (by decide) ?_
      refine pw_istore C dX5_file_24 (Nat.le_of_ble_eq_true rfl) rfl ?_
      refine pw_iload C dX5_file_26 rfl ?_
      refine pw_ifL_eqn (tgt := 55) C dX5_file_28 (by decide) rfl ?_
      refine pw_iload_n C dX5_file_31 rfl ?_
      refine pw_iconst C dX5_file_32 ?_
      refine pw_icmp_lt (tgt := 55) C dX5_file_33 (by decide) (by omega) (fun c_33 => ?_) (fun c_33 => ?_)
      · skip
        exfalso; omega
      · skip
        refine pw_iload_n C dX5_file_36 rfl ?_
        refine pw_bipush C dX5_file_37 rfl ?_
        refine pw_icmp_gt (tgt := 55) C dX5_file_39 (by decide) (by omega) (fun c_39 => ?_) (fun c_39 => ?_)
        · skip
          exfalso; omega
        · skip
          refine pw_iload C dX5_file_42 rfl ?_
          refine pw_if_lt (tgt := 55) C dX5_file_44 (by decide) (by omega) (fun c_44 => ?_) (fun c_44 => ?_)
          · skip
            exfalso; omega
          · skip
            refine pw_iload C dX5_file_47 rfl ?_
            refine pw_sipush C dX5_file_49 rfl ?_
            refine pw_icmp_le (tgt := 65) C dX5_file_52 (by decide) (by omega) (fun c_52 => ?_) (fun c_52 => ?_)
            · skip
              refine pw_aload_n C dX5_file_65 rfl ?_
              refine pw_cVV C hX dX5_file_66 ml_X5_139 mc_X5_checkRoomForTake (c_checkRoomForTake hR0 hA  (by omega)) kc_8 hR0.k rfl rfl ⟨Nat.le_of_ble_eq_true rfl, Nat.le_of_ble_eq_true rfl⟩ (Nat.le_of_ble_eq_true rfl) ⟨Nat.le_of_ble_eq_true rfl, Nat.le_of_ble_eq_true rfl⟩ ?_
              refine pw_aload_n C dX5_file_69 rfl ?_
              refine pw_iload_n C dX5_file_70 rfl ?_
              refine pw_iload_n C dX5_file_71 rfl ?_
              refine pw_iload C dX5_file_72 rfl ?_
              refine pw_cVE C hX dX5_file_74 ml_X5_142 mc_X5_hasValues (c_hasValues hR0 hA (s := s) (set := set) (z := g) (by omega) (by omega) (by omega)) kc_8 hR0.k rfl rfl ⟨Nat.le_of_ble_eq_true rfl, Nat.le_of_ble_eq_true rfl⟩ (Nat.le_of_ble_eq_true rfl) ⟨Nat.le_of_ble_eq_true rfl, Nat.le_of_ble_eq_true rfl⟩ ?_
              refine pw_ifB_ne (tgt := 83) C dX5_file_77 (by decide) (fun c_77 => ?_) (fun c_77 => ?_)
              · skip
                refine pw_iload_n C dX5_file_83 rfl ?_
                refine pw_if_ne (tgt := 98) C dX5_file_84 (by decide) (by omega) (fun c_84 => ?_) (fun c_84 => ?_)
                · skip
                  refine pw_aload_n C dX5_file_98 rfl ?_
                  refine pw_iload_n C dX5_file_99 rfl ?_
                  refine pw_iload_n C dX5_file_100 rfl ?_
                  refine pw_iload_n C dX5_file_101 rfl ?_
                  refine pw_iload C dX5_file_102 rfl ?_
                  refine pw_iload C dX5_file_104 rfl ?_
                  refine pw_iconst C dX5_file_106 ?_
                  refine pw_cVI C hX dX5_file_107 ml_X5_152 mc_X5_addTake (c_addTake hR0 hA (s := s) (k := k) (set := set) (g := g) (hd := hd) (tg := (-1)) (by omega) (by omega) (by omega) (by omega) (by omega) (by omega) (by omega)) kc_8 hR0.k rfl rfl ⟨Nat.le_of_ble_eq_true rfl, Nat.le_of_ble_eq_true rfl⟩ (Nat.le_of_ble_eq_true rfl) ⟨Nat.le_of_ble_eq_true rfl, Nat.le_of_ble_eq_true rfl⟩ (fun r_ G M9 hq_ => ?_)
                  obtain ⟨rfl, rfl, hR1, o10⟩ := hq_
                  have hA1 : AB (aTk A s k set g hd (-1)) := AB.tk hA (by omega) (by omega) (by omega) (by omega) (by omega) (by omega) (by omega)
                  have hn1 : ∀ c, (aTk A s k set g hd (-1)) 0 0 c = if c = 1 then A 0 0 1 + 1 else A 0 0 c := fun c => aTk_0 (by omega)
                  have ho1 : ∀ j, j ≠ 200 + A 0 0 1 → j ≠ 0 → (aTk A s k set g hd (-1)) j = A j := fun j q1 q2 => aTk_o q1 q2
                  have ht1 : (aTk A s k set g hd (-1)) (200 + A 0 0 1) = nT A s k set g hd (-1) := aTk_t
                  obtain ⟨A1, eA1⟩ : ∃ z, z = aTk A s k set g hd (-1) := ⟨_, rfl⟩
                  rw [← eA1] at hR1 hA1 hn1 ho1 ht1
                  have z10 : A1 0 0 0 = A 0 0 0 := by rw [hn1]; rfl
                  have z11 : A1 0 0 1 = A 0 0 1 + 1 := by rw [hn1]; rfl
                  have z12 : A1 0 0 2 = A 0 0 2 := by rw [hn1]; rfl
                  have z13 : A1 0 0 3 = A 0 0 3 := by rw [hn1]; rfl
                  have hO1 := hO0.tr o10
                  refine pw_istore C dX5_file_110 (Nat.le_of_ble_eq_true rfl) rfl ?_
                  refine pw_aload_n C dX5_file_112 rfl ?_
                  refine pw_iload C dX5_file_113 rfl ?_
                  refine pw_cVU C hX dX5_file_115 ml_X5_156 mc_X5_runOnAllLines (c_runOnAllLines hR1 hA1 (t := (A 0 0 1)) (by omega)) kc_8 hR1.k rfl rfl ⟨Nat.le_of_ble_eq_true rfl, Nat.le_of_ble_eq_true rfl⟩ (Nat.le_of_ble_eq_true rfl) ⟨Nat.le_of_ble_eq_true rfl, Nat.le_of_ble_eq_true rfl⟩ (fun G M11 hq_ => ?_)
                  obtain ⟨rfl, hR2, o12⟩ := hq_
                  have hO2 := hO1.tr o12
                  refine pw_iload C dX5_file_118 rfl ?_
                  exact pw_iret C hR dX5_file_120 (⟨_, rfl, rfl, by rw [if_neg (fun q => q c_77), if_neg (by omega)], by rw [if_neg (fun q => q c_77), if_neg (by omega)]; rw [eA1] at hR2; exact hR2, hO2⟩) (by omega) (by omega)
                · skip
                  refine pw_iload_n C dX5_file_87 rfl ?_
                  refine pw_cSE C hX dX5_file_88 ml_X5_146 mc_J6_bitCount_0f7a4 (c_bitCount (x := set) (by omega)) rfl rfl ⟨Nat.le_of_ble_eq_true rfl, Nat.le_of_ble_eq_true rfl⟩ (Nat.le_of_ble_eq_true rfl) ⟨Nat.le_of_ble_eq_true rfl, Nat.le_of_ble_eq_true rfl⟩ ?_
                  have bbc := bc_bd set
                  refine pw_iconst C dX5_file_91 ?_
                  refine pw_icmp_eq (tgt := 98) C dX5_file_92 (by decide) (by omega) (fun c_92 => ?_) (fun c_92 => ?_)
                  · skip
                    refine pw_aload_n C dX5_file_98 rfl ?_
                    refine pw_iload_n C dX5_file_99 rfl ?_
                    refine pw_iload_n C dX5_file_100 rfl ?_
                    refine pw_iload_n C dX5_file_101 rfl ?_
                    refine pw_iload C dX5_file_102 rfl ?_
                    refine pw_iload C dX5_file_104 rfl ?_
                    refine pw_iconst C dX5_file_106 ?_
                    refine pw_cVI C hX dX5_file_107 ml_X5_152 mc_X5_addTake (c_addTake hR0 hA (s := s) (k := k) (set := set) (g := g) (hd := hd) (tg := (-1)) (by omega) (by omega) (by omega) (by omega) (by omega) (by omega) (by omega)) kc_8 hR0.k rfl rfl ⟨Nat.le_of_ble_eq_true rfl, Nat.le_of_ble_eq_true rfl⟩ (Nat.le_of_ble_eq_true rfl) ⟨Nat.le_of_ble_eq_true rfl, Nat.le_of_ble_eq_true rfl⟩ (fun r_ G M13 hq_ => ?_)
                    obtain ⟨rfl, rfl, hR1, o14⟩ := hq_
                    have hA1 : AB (aTk A s k set g hd (-1)) := AB.tk hA (by omega) (by omega) (by omega) (by omega) (by omega) (by omega) (by omega)
                    have hn1 : ∀ c, (aTk A s k set g hd (-1)) 0 0 c = if c = 1 then A 0 0 1 + 1 else A 0 0 c := fun c => aTk_0 (by omega)
                    have ho1 : ∀ j, j ≠ 200 + A 0 0 1 → j ≠ 0 → (aTk A s k set g hd (-1)) j = A j := fun j q1 q2 => aTk_o q1 q2
                    have ht1 : (aTk A s k set g hd (-1)) (200 + A 0 0 1) = nT A s k set g hd (-1) := aTk_t
                    obtain ⟨A1, eA1⟩ : ∃ z, z = aTk A s k set g hd (-1) := ⟨_, rfl⟩
                    rw [← eA1] at hR1 hA1 hn1 ho1 ht1
                    have z10 : A1 0 0 0 = A 0 0 0 := by rw [hn1]; rfl
                    have z11 : A1 0 0 1 = A 0 0 1 + 1 := by rw [hn1]; rfl
                    have z12 : A1 0 0 2 = A 0 0 2 := by rw [hn1]; rfl
                    have z13 : A1 0 0 3 = A 0 0 3 := by rw [hn1]; rfl
                    have hO1 := hO0.tr o14
                    refine pw_istore C dX5_file_110 (Nat.le_of_ble_eq_true rfl) rfl ?_
                    refine pw_aload_n C dX5_file_112 rfl ?_
                    refine pw_iload C dX5_file_113 rfl ?_
                    refine pw_cVU C hX dX5_file_115 ml_X5_156 mc_X5_runOnAllLines (c_runOnAllLines hR1 hA1 (t := (A 0 0 1)) (by omega)) kc_8 hR1.k rfl rfl ⟨Nat.le_of_ble_eq_true rfl, Nat.le_of_ble_eq_true rfl⟩ (Nat.le_of_ble_eq_true rfl) ⟨Nat.le_of_ble_eq_true rfl, Nat.le_of_ble_eq_true rfl⟩ (fun G M15 hq_ => ?_)
                    obtain ⟨rfl, hR2, o16⟩ := hq_
                    have hO2 := hO1.tr o16
                    refine pw_iload C dX5_file_118 rfl ?_
                    exact pw_iret C hR dX5_file_120 (⟨_, rfl, rfl, by rw [if_neg (fun q => q c_77), if_neg (by omega)], by rw [if_neg (fun q => q c_77), if_neg (by omega)]; rw [eA1] at hR2; exact hR2, hO2⟩) (by omega) (by omega)
                  · skip
                    refine pw_bipush C dX5_file_95 rfl ?_
                    exact pw_iret C hR dX5_file_97 (⟨_, rfl, rfl, by rw [if_neg (fun q => q c_77), if_pos ⟨by omega, c_92⟩], by rw [if_neg (fun q => q c_77), if_pos ⟨by omega, c_92⟩]; exact hR0, hO0⟩) (by omega) (by omega)
              · skip
                refine pw_bipush C dX5_file_80 rfl ?_
                exact pw_iret C hR dX5_file_82 (⟨_, rfl, rfl, by rw [if_pos c_77], by rw [if_pos c_77]; exact hR0, hO0⟩) (by omega) (by omega)
            · skip
              exfalso; omega
    · skip
      refine pw_iload_n C dX5_file_14 rfl ?_
      refine pw_iconst C dX5_file_15 ?_
      refine pw_icmp_ne (tgt := 23) C dX5_file_16 (by decide) (by omega) (fun c_16 => ?_) (fun c_16 => ?_)
      · skip
        refine pw_iconst C dX5_file_23 ?_
        refine pw_istore C dX5_file_24 (Nat.le_of_ble_eq_true rfl) rfl ?_
        refine pw_iload C dX5_file_26 rfl ?_
        refine pw_ifL_eq (tgt := 55) C dX5_file_28 (by decide) rfl ?_
        exfalso; omega
      · skip
        refine pw_iconst C dX5_file_19 ?_
        refine pw_goto (tgt := 24) C dX5_file_20 (by decide) ?_
        refine pw_istore C dX5_file_24 (Nat.le_of_ble_eq_true rfl) rfl ?_
        refine pw_iload C dX5_file_26 rfl ?_
        refine pw_ifL_eqn (tgt := 55) C dX5_file_28 (by decide) rfl ?_
        refine pw_iload_n C dX5_file_31 rfl ?_
        refine pw_iconst C dX5_file_32 ?_
        refine pw_icmp_lt (tgt := 55) C dX5_file_33 (by decide) (by omega) (fun c_33 => ?_) (fun c_33 => ?_)
        · skip
          exfalso; omega
        · skip
          refine pw_iload_n C dX5_file_36 rfl ?_
          refine pw_bipush C dX5_file_37 rfl ?_
          refine pw_icmp_gt (tgt := 55) C dX5_file_39 (by decide) (by omega) (fun c_39 => ?_) (fun c_39 => ?_)
          · skip
            exfalso; omega
          · skip
            refine pw_iload C dX5_file_42 rfl ?_
            refine pw_if_lt (tgt := 55) C dX5_file_44 (by decide) (by omega) (fun c_44 => ?_) (fun c_44 => ?_)
            · skip
              exfalso; omega
            · skip
              refine pw_iload C dX5_file_47 rfl ?_
              refine pw_sipush C dX5_file_49 rfl ?_
              refine pw_icmp_le (tgt := 65) C dX5_file_52 (by decide) (by omega) (fun c_52 => ?_) (fun c_52 => ?_)
              · skip
                refine pw_aload_n C dX5_file_65 rfl ?_
                refine pw_cVV C hX dX5_file_66 ml_X5_139 mc_X5_checkRoomForTake (c_checkRoomForTake hR0 hA  (by omega)) kc_8 hR0.k rfl rfl ⟨Nat.le_of_ble_eq_true rfl, Nat.le_of_ble_eq_true rfl⟩ (Nat.le_of_ble_eq_true rfl) ⟨Nat.le_of_ble_eq_true rfl, Nat.le_of_ble_eq_true rfl⟩ ?_
                refine pw_aload_n C dX5_file_69 rfl ?_
                refine pw_iload_n C dX5_file_70 rfl ?_
                refine pw_iload_n C dX5_file_71 rfl ?_
                refine pw_iload C dX5_file_72 rfl ?_
                refine pw_cVE C hX dX5_file_74 ml_X5_142 mc_X5_hasValues (c_hasValues hR0 hA (s := s) (set := set) (z := g) (by omega) (by omega) (by omega)) kc_8 hR0.k rfl rfl ⟨Nat.le_of_ble_eq_true rfl, Nat.le_of_ble_eq_true rfl⟩ (Nat.le_of_ble_eq_true rfl) ⟨Nat.le_of_ble_eq_true rfl, Nat.le_of_ble_eq_true rfl⟩ ?_
                refine pw_ifB_ne (tgt := 83) C dX5_file_77 (by decide) (fun c_77 => ?_) (fun c_77 => ?_)
                · skip
                  refine pw_iload_n C dX5_file_83 rfl ?_
                  refine pw_if_ne (tgt := 98) C dX5_file_84 (by decide) (by omega) (fun c_84 => ?_) (fun c_84 => ?_)
                  · skip
                    refine pw_aload_n C dX5_file_98 rfl ?_
                    refine pw_iload_n C dX5_file_99 rfl ?_
                    refine pw_iload_n C dX5_file_100 rfl ?_
                    refine pw_iload_n C dX5_file_101 rfl ?_
                    refine pw_iload C dX5_file_102 rfl ?_
                    refine pw_iload C dX5_file_104 rfl ?_
                    refine pw_iconst C dX5_file_106 ?_
                    refine pw_cVI C hX dX5_file_107 ml_X5_152 mc_X5_addTake (c_addTake hR0 hA (s := s) (k := k) (set := set) (g := g) (hd := hd) (tg := (-1)) (by omega) (by omega) (by omega) (by omega) (by omega) (by omega) (by omega)) kc_8 hR0.k rfl rfl ⟨Nat.le_of_ble_eq_true rfl, Nat.le_of_ble_eq_true rfl⟩ (Nat.le_of_ble_eq_true rfl) ⟨Nat.le_of_ble_eq_true rfl, Nat.le_of_ble_eq_true rfl⟩ (fun r_ G M17 hq_ => ?_)
                    obtain ⟨rfl, rfl, hR1, o18⟩ := hq_
                    have hA1 : AB (aTk A s k set g hd (-1)) := AB.tk hA (by omega) (by omega) (by omega) (by omega) (by omega) (by omega) (by omega)
                    have hn1 : ∀ c, (aTk A s k set g hd (-1)) 0 0 c = if c = 1 then A 0 0 1 + 1 else A 0 0 c := fun c => aTk_0 (by omega)
                    have ho1 : ∀ j, j ≠ 200 + A 0 0 1 → j ≠ 0 → (aTk A s k set g hd (-1)) j = A j := fun j q1 q2 => aTk_o q1 q2
                    have ht1 : (aTk A s k set g hd (-1)) (200 + A 0 0 1) = nT A s k set g hd (-1) := aTk_t
                    obtain ⟨A1, eA1⟩ : ∃ z, z = aTk A s k set g hd (-1) := ⟨_, rfl⟩
                    rw [← eA1] at hR1 hA1 hn1 ho1 ht1
                    have z10 : A1 0 0 0 = A 0 0 0 := by rw [hn1]; rfl
                    have z11 : A1 0 0 1 = A 0 0 1 + 1 := by rw [hn1]; rfl
                    have z12 : A1 0 0 2 = A 0 0 2 := by rw [hn1]; rfl
                    have z13 : A1 0 0 3 = A 0 0 3 := by rw [hn1]; rfl
                    have hO1 := hO0.tr o18
                    refine pw_istore C dX5_file_110 (Nat.le_of_ble_eq_true rfl) rfl ?_
                    refine pw_aload_n C dX5_file_112 rfl ?_
                    refine pw_iload C dX5_file_113 rfl ?_
                    refine pw_cVU C hX dX5_file_115 ml_X5_156 mc_X5_runOnAllLines (c_runOnAllLines hR1 hA1 (t := (A 0 0 1)) (by omega)) kc_8 hR1.k rfl rfl ⟨Nat.le_of_ble_eq_true rfl, Nat.le_of_ble_eq_true rfl⟩ (Nat.le_of_ble_eq_true rfl) ⟨Nat.le_of_ble_eq_true rfl, Nat.le_of_ble_eq_true rfl⟩ (fun G M19 hq_ => ?_)
                    obtain ⟨rfl, hR2, o20⟩ := hq_
                    have hO2 := hO1.tr o20
                    refine pw_iload C dX5_file_118 rfl ?_
                    exact pw_iret C hR dX5_file_120 (⟨_, rfl, rfl, by rw [if_neg (fun q => q c_77), if_neg (by omega)], by rw [if_neg (fun q => q c_77), if_neg (by omega)]; rw [eA1] at hR2; exact hR2, hO2⟩) (by omega) (by omega)
                  · skip
                    refine pw_iload_n C dX5_file_87 rfl ?_
                    refine pw_cSE C hX dX5_file_88 ml_X5_146 mc_J6_bitCount_0f7a4 (c_bitCount (x := set) (by omega)) rfl rfl ⟨Nat.le_of_ble_eq_true rfl, Nat.le_of_ble_eq_true rfl⟩ (Nat.le_of_ble_eq_true rfl) ⟨Nat.le_of_ble_eq_true rfl, Nat.le_of_ble_eq_true rfl⟩ ?_
                    have bbc := bc_bd set
                    refine pw_iconst C dX5_file_91 ?_
                    refine pw_icmp_eq (tgt := 98) C dX5_file_92 (by decide) (by omega) (fun c_92 => ?_) (fun c_92 => ?_)
                    · skip
                      refine pw_aload_n C dX5_file_98 rfl ?_
                      refine pw_iload_n C dX5_file_99 rfl ?_
                      refine pw_iload_n C dX5_file_100 rfl ?_
                      refine pw_iload_n C dX5_file_101 rfl ?_
                      refine pw_iload C dX5_file_102 rfl ?_
                      refine pw_iload C dX5_file_104 rfl ?_
                      refine pw_iconst C dX5_file_106 ?_
                      refine pw_cVI C hX dX5_file_107 ml_X5_152 mc_X5_addTake (c_addTake hR0 hA (s := s) (k := k) (set := set) (g := g) (hd := hd) (tg := (-1)) (by omega) (by omega) (by omega) (by omega) (by omega) (by omega) (by omega)) kc_8 hR0.k rfl rfl ⟨Nat.le_of_ble_eq_true rfl, Nat.le_of_ble_eq_true rfl⟩ (Nat.le_of_ble_eq_true rfl) ⟨Nat.le_of_ble_eq_true rfl, Nat.le_of_ble_eq_true rfl⟩ (fun r_ G M21 hq_ => ?_)
                      obtain ⟨rfl, rfl, hR1, o22⟩ := hq_
                      have hA1 : AB (aTk A s k set g hd (-1)) := AB.tk hA (by omega) (by omega) (by omega) (by omega) (by omega) (by omega) (by omega)
                      have hn1 : ∀ c, (aTk A s k set g hd (-1)) 0 0 c = if c = 1 then A 0 0 1 + 1 else A 0 0 c := fun c => aTk_0 (by omega)
                      have ho1 : ∀ j, j ≠ 200 + A 0 0 1 → j ≠ 0 → (aTk A s k set g hd (-1)) j = A j := fun j q1 q2 => aTk_o q1 q2
                      have ht1 : (aTk A s k set g hd (-1)) (200 + A 0 0 1) = nT A s k set g hd (-1) := aTk_t
                      obtain ⟨A1, eA1⟩ : ∃ z, z = aTk A s k set g hd (-1) := ⟨_, rfl⟩
                      rw [← eA1] at hR1 hA1 hn1 ho1 ht1
                      have z10 : A1 0 0 0 = A 0 0 0 := by rw [hn1]; rfl
                      have z11 : A1 0 0 1 = A 0 0 1 + 1 := by rw [hn1]; rfl
                      have z12 : A1 0 0 2 = A 0 0 2 := by rw [hn1]; rfl
                      have z13 : A1 0 0 3 = A 0 0 3 := by rw [hn1]; rfl
                      have hO1 := hO0.tr o22
                      refine pw_istore C dX5_file_110 (Nat.le_of_ble_eq_true rfl) rfl ?_
                      refine pw_aload_n C dX5_file_112 rfl ?_
                      refine pw_iload C dX5_file_113 rfl ?_
                      refine pw_cVU C hX dX5_file_115 ml_X5_156 mc_X5_runOnAllLines (c_runOnAllLines hR1 hA1 (t := (A 0 0 1)) (by omega)) kc_8 hR1.k rfl rfl ⟨Nat.le_of_ble_eq_true rfl, Nat.le_of_ble_eq_true rfl⟩ (Nat.le_of_ble_eq_true rfl) ⟨Nat.le_of_ble_eq_true rfl, Nat.le_of_ble_eq_true rfl⟩ (fun G M23 hq_ => ?_)
                      obtain ⟨rfl, hR2, o24⟩ := hq_
                      have hO2 := hO1.tr o24
                      refine pw_iload C dX5_file_118 rfl ?_
                      exact pw_iret C hR dX5_file_120 (⟨_, rfl, rfl, by rw [if_neg (fun q => q c_77), if_neg (by omega)], by rw [if_neg (fun q => q c_77), if_neg (by omega)]; rw [eA1] at hR2; exact hR2, hO2⟩) (by omega) (by omega)
                    · skip
                      refine pw_bipush C dX5_file_95 rfl ?_
                      exact pw_iret C hR dX5_file_97 (⟨_, rfl, rfl, by rw [if_neg (fun q => q c_77), if_pos ⟨by omega, c_92⟩], by rw [if_neg (fun q => q c_77), if_pos ⟨by omega, c_92⟩]; exact hR0, hO0⟩) (by omega) (by omega)
                · skip
                  refine pw_bipush C dX5_file_80 rfl ?_
                  exact pw_iret C hR dX5_file_82 (⟨_, rfl, rfl, by rw [if_pos c_77], by rw [if_pos c_77]; exact hR0, hO0⟩) (by omega) (by omega)
              · skip
                exfalso; omega

set_option maxHeartbeats 4000000 in
set_option maxRecDepth 100000 in
theorem c_correct {X : Xv} {G M : Mm} {B : Int} {A : An} (hR0 : RC G M B A) (hA : AB A) {t f : Int} (r_t : -2147483648 ≤ t ∧ t ≤ 2147483647) (r_f : -2147483648 ≤ f ∧ f ≤ 2147483647) (hok : (0 ≤ t ∧ t < A 0 0 1) ∧ ((0 ≤ f ∧ f < 4) ∧ ¬ A (200 + t) 0 f = -1) ∧ (A (200 + t) 1 7 = -1 ∧ A 0 0 1 < 60)) : CT X yX5_correct prog_1_method_10_code 6 (some .int) 3 70 0 0 [vR B, vI t, vI f] G M (PI (fun r G1 M1 => G1 = G ∧ r = (if A (100 + (A (200 + t) 1 0 * 4 + f)) 1 0 = -1 ∨ A (100 + (A (200 + t) 1 0 * 4 + f)) 1 0 = A (200 + t) 0 f then -2 else A 0 0 1) ∧ RC G M1 B (if A (100 + (A (200 + t) 1 0 * 4 + f)) 1 0 = -1 ∨ A (100 + (A (200 + t) 1 0 * 4 + f)) 1 0 = A (200 + t) 0 f then A else aFil A (A (200 + t) 1 0) 2 (p2 f) 0 0 t) ∧ Ot B (B + 201) M M1)) := by
  refine CT.by (by decide +kernel) [1, 1, 1] ⟨cat_vR _, cat_vI _, cat_vI _, trivial⟩ (Nat.le_of_ble_eq_true rfl) (fun E hX C hR hIni => ?_)
  have hn := hA.n
  have hnS := hA.so.c
  have hO0 : Ot B (B + 201) M M := Ot.rf
  refine pw_aload_n C dX5_correct_0 rfl ?_
  refine pw_iload_n C dX5_correct_1 rfl ?_
  refine pw_cVV C hX dX5_correct_2 ml_X5_159 mc_X5_checkTake (c_checkTake hR0 hA (t := t) (by omega) (by omega)) kc_8 hR0.k rfl rfl ⟨Nat.le_of_ble_eq_true rfl, Nat.le_of_ble_eq_true rfl⟩ (Nat.le_of_ble_eq_true rfl) ⟨Nat.le_of_ble_eq_true rfl, Nat.le_of_ble_eq_true rfl⟩ ?_
  refine pw_iload_n C dX5_correct_5 rfl ?_
  refine pw_if_lt (tgt := 29) C dX5_correct_6 (by decide) (by omega) (fun c_6 => ?_) (fun c_6 => ?_)
  · skip
    exfalso; omega
  · skip
    refine pw_iload_n C dX5_correct_9 rfl ?_
    refine pw_iconst C dX5_correct_10 ?_
    refine pw_icmp_ge (tgt := 29) C dX5_correct_11 (by decide) (by omega) (fun c_11 => ?_) (fun c_11 => ?_)
    · skip
      exfalso; omega
    · skip
      refine pw_aload_n C dX5_correct_14 rfl ?_
      refine pw_getR C dX5_correct_15 fl_X5_32 hR0.k rfl hR0.r3 ?_
      refine pw_iload_n C dX5_correct_18 rfl ?_
      refine pw_aaldE C dX5_correct_19 hR0.a3 (by omega) (by omega) (hR0.e3 t (by omega)) ?_
      refine pw_getR C dX5_correct_20 fl_X5_162 (hR0.ta t (by omega)).k rfl ((hR0.ta t (by omega)).r (b := ((B + 56 + 2 * t) + 1)) 0 (by omega)) ?_
      refine pw_iload_n C dX5_correct_23 rfl ?_
      refine pw_ialdE C dX5_correct_24 ((hR0.ta t (by omega)).ai 0 (by omega)) (by omega) ((hR0.ta t (by omega)).v 0 (by omega)) ?_
      have b_24 := (hA.ta t (by omega)).v0 f (by omega) (by omega)
      refine pw_iconst C dX5_correct_25 ?_
      refine pw_icmp_ne (tgt := 39) C dX5_correct_26 (by decide) (by omega) (fun c_26 => ?_) (fun c_26 => ?_)
      · skip
        refine pw_aload_n C dX5_correct_39 rfl ?_
        refine pw_getR C dX5_correct_40 fl_X5_32 hR0.k rfl hR0.r3 ?_
        refine pw_iload_n C dX5_correct_43 rfl ?_
        refine pw_aaldE C dX5_correct_44 hR0.a3 (by omega) (by omega) (hR0.e3 t (by omega)) ?_
        refine pw_getE C dX5_correct_45 fl_X5_167 rfl (hR0.ta t (by omega)).k ((hR0.ta t (by omega)).s 7 (by omega)) ?_
        have b_45 := (hA.ta t (by omega)).s7
        refine pw_iconst C dX5_correct_48 ?_
        refine pw_icmp_eq (tgt := 62) C dX5_correct_49 (by decide) (by omega) (fun c_49 => ?_) (fun c_49 => ?_)
        · skip
          refine pw_aload_n C dX5_correct_62 rfl ?_
          refine pw_cVV C hX dX5_correct_63 ml_X5_139 mc_X5_checkRoomForTake (c_checkRoomForTake hR0 hA  (by omega)) kc_8 hR0.k rfl rfl ⟨Nat.le_of_ble_eq_true rfl, Nat.le_of_ble_eq_true rfl⟩ (Nat.le_of_ble_eq_true rfl) ⟨Nat.le_of_ble_eq_true rfl, Nat.le_of_ble_eq_true rfl⟩ ?_
          refine pw_aload_n C dX5_correct_66 rfl ?_
          refine pw_getR C dX5_correct_67 fl_X5_32 hR0.k rfl hR0.r3 ?_
          refine pw_iload_n C dX5_correct_70 rfl ?_
          refine pw_aaldE C dX5_correct_71 hR0.a3 (by omega) (by omega) (hR0.e3 t (by omega)) ?_
          refine pw_getE C dX5_correct_72 fl_X5_172 rfl (hR0.ta t (by omega)).k ((hR0.ta t (by omega)).s 0 (by omega)) ?_
          have b_72 := (hA.ta t (by omega)).s0
          refine pw_istore_n C dX5_correct_75 (Nat.le_of_ble_eq_true rfl) rfl ?_
          refine pw_aload_n C dX5_correct_76 rfl ?_
          refine pw_iload_n C dX5_correct_77 rfl ?_
          refine pw_iload_n C dX5_correct_78 rfl ?_
          refine pw_cVR C hX dX5_correct_79 ml_X5_98 mc_X5_factAt (c_factAt hR0 (s := ((A (200 + t)) 1 0)) (f := f) (by omega) (by omega)) kc_8 hR0.k rfl rfl ⟨Nat.le_of_ble_eq_true rfl, Nat.le_of_ble_eq_true rfl⟩ (Nat.le_of_ble_eq_true rfl) ⟨Nat.le_of_ble_eq_true rfl, Nat.le_of_ble_eq_true rfl⟩ ?_
          refine pw_getE C dX5_correct_82 fl_X5_175 rfl (hR0.fa (((A (200 + t)) 1 0) * 4 + f) (by omega)).k ((hR0.fa (((A (200 + t)) 1 0) * 4 + f) (by omega)).s 0 (by omega)) ?_
          have b_82 := (hA.fa (((A (200 + t)) 1 0) * 4 + f) (by omega)).s0
          refine pw_istore C dX5_correct_85 (Nat.le_of_ble_eq_true rfl) rfl ?_
          refine pw_iload C dX5_correct_87 rfl ?_
          refine pw_iconst C dX5_correct_89 ?_
          refine pw_icmp_eq (tgt := 109) C dX5_correct_90 (by decide) (by omega) (fun c_90 => ?_) (fun c_90 => ?_)
          · skip
            refine pw_bipush C dX5_correct_109 rfl ?_
            exact pw_iret C hR dX5_correct_111 (⟨_, rfl, rfl, by rw [if_pos (Or.inl c_90)], by rw [if_pos (Or.inl c_90)]; exact hR0, hO0⟩) (by omega) (by omega)
          · skip
            refine pw_iload C dX5_correct_93 rfl ?_
            refine pw_aload_n C dX5_correct_95 rfl ?_
            refine pw_getR C dX5_correct_96 fl_X5_32 hR0.k rfl hR0.r3 ?_
            refine pw_iload_n C dX5_correct_99 rfl ?_
            refine pw_aaldE C dX5_correct_100 hR0.a3 (by omega) (by omega) (hR0.e3 t (by omega)) ?_
            refine pw_getR C dX5_correct_101 fl_X5_162 (hR0.ta t (by omega)).k rfl ((hR0.ta t (by omega)).r (b := ((B + 56 + 2 * t) + 1)) 0 (by omega)) ?_
            refine pw_iload_n C dX5_correct_104 rfl ?_
            refine pw_ialdE C dX5_correct_105 ((hR0.ta t (by omega)).ai 0 (by omega)) (by omega) ((hR0.ta t (by omega)).v 0 (by omega)) ?_
            have b_105 := (hA.ta t (by omega)).v0 f (by omega) (by omega)
            refine pw_icmp_ne (tgt := 112) C dX5_correct_106 (by decide) (by omega) (fun c_106 => ?_) (fun c_106 => ?_)
            · skip
              refine pw_aload_n C dX5_correct_112 rfl ?_
              refine pw_iload_n C dX5_correct_113 rfl ?_
              refine pw_iconst C dX5_correct_114 ?_
              refine pw_iconst C dX5_correct_115 ?_
              refine pw_iload_n C dX5_correct_116 rfl ?_
              refine pw_ishl C dX5_correct_117 ?_
              refine pw_top (v' := vI (p2 f)) (congrArg Value.int (shl_eq (by omega))) ?_
              have bp2 := p2_bd (f := f) (by omega)
              refine pw_iconst C dX5_correct_118 ?_
              refine pw_iconst C dX5_correct_119 ?_
              refine pw_iload_n C dX5_correct_120 rfl ?_
              refine pw_cVI C hX dX5_correct_121 ml_X5_152 mc_X5_addTake (c_addTake hR0 hA (s := ((A (200 + t)) 1 0)) (k := 2) (set := (p2 f)) (g := 0) (hd := 0) (tg := t) (by omega) (by omega) (by omega) (by omega) (by omega) (by omega) (by omega)) kc_8 hR0.k rfl rfl ⟨Nat.le_of_ble_eq_true rfl, Nat.le_of_ble_eq_true rfl⟩ (Nat.le_of_ble_eq_true rfl) ⟨Nat.le_of_ble_eq_true rfl, Nat.le_of_ble_eq_true rfl⟩ (fun r_ G M1 hq_ => ?_)
              obtain ⟨rfl, rfl, hR1, o2⟩ := hq_
              have hA1 : AB (aTk A ((A (200 + t)) 1 0) 2 (p2 f) 0 0 t) := AB.tk hA (by omega) (by omega) (by omega) (by omega) (by omega) (by omega) (by omega)
              have hn1 : ∀ c, (aTk A ((A (200 + t)) 1 0) 2 (p2 f) 0 0 t) 0 0 c = if c = 1 then A 0 0 1 + 1 else A 0 0 c := fun c => aTk_0 (by omega)
              have ho1 : ∀ j, j ≠ 200 + A 0 0 1 → j ≠ 0 → (aTk A ((A (200 + t)) 1 0) 2 (p2 f) 0 0 t) j = A j := fun j q1 q2 => aTk_o q1 q2
              have ht1 : (aTk A ((A (200 + t)) 1 0) 2 (p2 f) 0 0 t) (200 + A 0 0 1) = nT A ((A (200 + t)) 1 0) 2 (p2 f) 0 0 t := aTk_t
              obtain ⟨A1, eA1⟩ : ∃ z, z = aTk A ((A (200 + t)) 1 0) 2 (p2 f) 0 0 t := ⟨_, rfl⟩
              rw [← eA1] at hR1 hA1 hn1 ho1 ht1
              have z10 : A1 0 0 0 = A 0 0 0 := by rw [hn1]; rfl
              have z11 : A1 0 0 1 = A 0 0 1 + 1 := by rw [hn1]; rfl
              have z12 : A1 0 0 2 = A 0 0 2 := by rw [hn1]; rfl
              have z13 : A1 0 0 3 = A 0 0 3 := by rw [hn1]; rfl
              have hO1 := hO0.tr o2
              refine pw_istore C dX5_correct_124 (Nat.le_of_ble_eq_true rfl) rfl ?_
              refine pw_aload_n C dX5_correct_126 rfl ?_
              refine pw_iload C dX5_correct_127 rfl ?_
              refine pw_cVU C hX dX5_correct_129 ml_X5_156 mc_X5_runOnAllLines (c_runOnAllLines hR1 hA1 (t := (A 0 0 1)) (by omega)) kc_8 hR1.k rfl rfl ⟨Nat.le_of_ble_eq_true rfl, Nat.le_of_ble_eq_true rfl⟩ (Nat.le_of_ble_eq_true rfl) ⟨Nat.le_of_ble_eq_true rfl, Nat.le_of_ble_eq_true rfl⟩ (fun G M3 hq_ => ?_)
              obtain ⟨rfl, hR2, o4⟩ := hq_
              have hO2 := hO1.tr o4
              refine pw_iload C dX5_correct_132 rfl ?_
              exact pw_iret C hR dX5_correct_134 (⟨_, rfl, rfl, by rw [if_neg (by omega)], by rw [if_neg (by omega)]; rw [eA1] at hR2; exact hR2, hO2⟩) (by omega) (by omega)
            · skip
              refine pw_bipush C dX5_correct_109 rfl ?_
              exact pw_iret C hR dX5_correct_111 (⟨_, rfl, rfl, by rw [if_pos (Or.inr c_106)], by rw [if_pos (Or.inr c_106)]; exact hR0, hO0⟩) (by omega) (by omega)
        · skip
          exfalso; omega
      · skip
        exfalso; omega

set_option maxHeartbeats 4000000 in
set_option maxRecDepth 100000 in
theorem c_kill {X : Xv} {G M : Mm} {B : Int} {A : An} (hR0 : RC G M B A) (hA : AB A) {t : Int} (r_t : -2147483648 ≤ t ∧ t ≤ 2147483647) (hok : (0 ≤ t ∧ t < A 0 0 1) ∧ ((¬ A (200 + t) 1 1 = 1 ∧ A (200 + t) 1 7 = -1) ∧ A 0 0 1 < 60)) : CT X yX5_kill prog_1_method_11_code 5 (some .int) 3 70 0 0 [vR B, vI t] G M (PI (fun r G1 M1 => G1 = G ∧ r = nKil A t ∧ RC G M1 B (aKil A t) ∧ Ot B (B + 201) M M1)) := by
  refine CT.by (by decide +kernel) [1, 1] ⟨cat_vR _, cat_vI _, trivial⟩ (Nat.le_of_ble_eq_true rfl) (fun E hX C hR hIni => ?_)
  have hn := hA.n
  have hnS := hA.so.c
  have hO0 : Ot B (B + 201) M M := Ot.rf
  refine pw_aload_n C dX5_kill_0 rfl ?_
  refine pw_iload_n C dX5_kill_1 rfl ?_
  refine pw_cVV C hX dX5_kill_2 ml_X5_159 mc_X5_checkTake (c_checkTake hR0 hA (t := t) (by omega) (by omega)) kc_8 hR0.k rfl rfl ⟨Nat.le_of_ble_eq_true rfl, Nat.le_of_ble_eq_true rfl⟩ (Nat.le_of_ble_eq_true rfl) ⟨Nat.le_of_ble_eq_true rfl, Nat.le_of_ble_eq_true rfl⟩ ?_
  refine pw_aload_n C dX5_kill_5 rfl ?_
  refine pw_getR C dX5_kill_6 fl_X5_32 hR0.k rfl hR0.r3 ?_
  refine pw_iload_n C dX5_kill_9 rfl ?_
  refine pw_aaldE C dX5_kill_10 hR0.a3 (by omega) (by omega) (hR0.e3 t (by omega)) ?_
  refine pw_getE C dX5_kill_11 fl_X5_178 rfl (hR0.ta t (by omega)).k ((hR0.ta t (by omega)).s 1 (by omega)) ?_
  have b_11 := (hA.ta t (by omega)).s1
  refine pw_iconst C dX5_kill_14 ?_
  refine pw_icmp_eq (tgt := 31) C dX5_kill_15 (by decide) (by omega) (fun c_15 => ?_) (fun c_15 => ?_)
  · skip
    exfalso; omega
  · skip
    refine pw_aload_n C dX5_kill_18 rfl ?_
    refine pw_getR C dX5_kill_19 fl_X5_32 hR0.k rfl hR0.r3 ?_
    refine pw_iload_n C dX5_kill_22 rfl ?_
    refine pw_aaldE C dX5_kill_23 hR0.a3 (by omega) (by omega) (hR0.e3 t (by omega)) ?_
    refine pw_getE C dX5_kill_24 fl_X5_167 rfl (hR0.ta t (by omega)).k ((hR0.ta t (by omega)).s 7 (by omega)) ?_
    have b_24 := (hA.ta t (by omega)).s7
    refine pw_iconst C dX5_kill_27 ?_
    refine pw_icmp_eq (tgt := 41) C dX5_kill_28 (by decide) (by omega) (fun c_28 => ?_) (fun c_28 => ?_)
    · skip
      refine pw_aload_n C dX5_kill_41 rfl ?_
      refine pw_cVV C hX dX5_kill_42 ml_X5_139 mc_X5_checkRoomForTake (c_checkRoomForTake hR0 hA  (by omega)) kc_8 hR0.k rfl rfl ⟨Nat.le_of_ble_eq_true rfl, Nat.le_of_ble_eq_true rfl⟩ (Nat.le_of_ble_eq_true rfl) ⟨Nat.le_of_ble_eq_true rfl, Nat.le_of_ble_eq_true rfl⟩ ?_
      refine pw_aload_n C dX5_kill_45 rfl ?_
      refine pw_aload_n C dX5_kill_46 rfl ?_
      refine pw_getR C dX5_kill_47 fl_X5_32 hR0.k rfl hR0.r3 ?_
      refine pw_iload_n C dX5_kill_50 rfl ?_
      refine pw_aaldE C dX5_kill_51 hR0.a3 (by omega) (by omega) (hR0.e3 t (by omega)) ?_
      refine pw_getE C dX5_kill_52 fl_X5_172 rfl (hR0.ta t (by omega)).k ((hR0.ta t (by omega)).s 0 (by omega)) ?_
      have b_52 := (hA.ta t (by omega)).s0
      refine pw_iconst C dX5_kill_55 ?_
      refine pw_iconst C dX5_kill_56 ?_
      refine pw_iconst C dX5_kill_57 ?_
      refine pw_iconst C dX5_kill_58 ?_
      refine pw_iload_n C dX5_kill_59 rfl ?_
      refine pw_cVI C hX dX5_kill_60 ml_X5_152 mc_X5_addTake (c_addTake hR0 hA (s := ((A (200 + t)) 1 0)) (k := 1) (set := 0) (g := 0) (hd := 0) (tg := t) (by omega) (by omega) (by omega) (by omega) (by omega) (by omega) (by omega)) kc_8 hR0.k rfl rfl ⟨Nat.le_of_ble_eq_true rfl, Nat.le_of_ble_eq_true rfl⟩ (Nat.le_of_ble_eq_true rfl) ⟨Nat.le_of_ble_eq_true rfl, Nat.le_of_ble_eq_true rfl⟩ (fun r_ G M1 hq_ => ?_)
      obtain ⟨rfl, rfl, hR1, o2⟩ := hq_
      have hA1 : AB (aTk A ((A (200 + t)) 1 0) 1 0 0 0 t) := AB.tk hA (by omega) (by omega) (by omega) (by omega) (by omega) (by omega) (by omega)
      have hn1 : ∀ c, (aTk A ((A (200 + t)) 1 0) 1 0 0 0 t) 0 0 c = if c = 1 then A 0 0 1 + 1 else A 0 0 c := fun c => aTk_0 (by omega)
      have ho1 : ∀ j, j ≠ 200 + A 0 0 1 → j ≠ 0 → (aTk A ((A (200 + t)) 1 0) 1 0 0 0 t) j = A j := fun j q1 q2 => aTk_o q1 q2
      have ht1 : (aTk A ((A (200 + t)) 1 0) 1 0 0 0 t) (200 + A 0 0 1) = nT A ((A (200 + t)) 1 0) 1 0 0 0 t := aTk_t
      obtain ⟨A1, eA1⟩ : ∃ z, z = aTk A ((A (200 + t)) 1 0) 1 0 0 0 t := ⟨_, rfl⟩
      rw [← eA1] at hR1 hA1 hn1 ho1 ht1
      have z10 : A1 0 0 0 = A 0 0 0 := by rw [hn1]; rfl
      have z11 : A1 0 0 1 = A 0 0 1 + 1 := by rw [hn1]; rfl
      have z12 : A1 0 0 2 = A 0 0 2 := by rw [hn1]; rfl
      have z13 : A1 0 0 3 = A 0 0 3 := by rw [hn1]; rfl
      have hO1 := hO0.tr o2
      refine pw_istore_n C dX5_kill_63 (Nat.le_of_ble_eq_true rfl) rfl ?_
      refine pw_aload_n C dX5_kill_64 rfl ?_
      refine pw_getR C dX5_kill_65 fl_X5_32 hR1.k rfl hR1.r3 ?_
      refine pw_iload_n C dX5_kill_68 rfl ?_
      refine pw_aaldE C dX5_kill_69 hR1.a3 (by omega) (by omega) (hR1.e3 t (by omega)) ?_
      refine pw_iload_n C dX5_kill_70 rfl ?_
      refine pw_putIG C dX5_kill_71 fl_X5_167 (fun h => by cases h) rfl (hR1.ta t (by omega)).k (fun M3 eM3 => ?_)
      have hX4 := (hR1.ta t (by omega)).ws 7 (by omega) eM3
      have o5 : Ot (B + 56 + 2 * t) (B + 56 + 2 * t) M1 M3 := by rw [eM3]; exact Ot.rf.u0 (by omega)
      have hR6 := hR1.uT t (by omega) hX4 (o5.mono (by omega) (by omega))
      have hO7 := hO1.tr (o5.mono (by omega) (by omega))
      clear eM3
      have hR3 : RC G M3 B (aKl0 A t) := by have q := hR6; rw [ho1 (200 + t) (by omega) (by omega), eA1] at q; exact q
      obtain ⟨A2, eA2⟩ : ∃ z, z = aKl0 A t := ⟨_, rfl⟩
      rw [← eA2] at hR3
      have hA2 : AB A2 := by rw [eA2]; unfold aKl0; rw [← eA1]; exact hA1.uT t (by omega) (tb_k (hA.ta t (by omega)) (by omega))
      have y2 : A2 0 = A1 0 := by rw [eA2]; unfold aKl0; rw [aup_n (by omega), ← eA1]
      have y20 : A2 0 0 2 = A 0 0 2 := by rw [y2]; exact z12
      have y21 : A2 0 0 1 = A 0 0 1 + 1 := by rw [y2]; exact z11
      have yl : ∀ l, 0 ≤ l → l < 4 → A2 (20 + l) = A (20 + l) := fun l q1 q2 => by rw [eA2]; unfold aKl0; rw [aup_n (by omega), ← eA1]; exact ho1 _ (by omega) (by omega)
      refine pw_iconst C dX5_kill_74 ?_
      refine pw_istore_n C dX5_kill_75 (Nat.le_of_ble_eq_true rfl) rfl ?_
      refine pw_iconst C dX5_kill_76 ?_
      refine pw_istore C dX5_kill_77 (Nat.le_of_ble_eq_true rfl) rfl ?_
      suffices K_79 : ∀ (nn_79 : Nat) (c l : Int) (Ac : An) (Mc : Mm), (0 ≤ l ∧ l ≤ A 0 0 2) → (RC G Mc B Ac) → (Ac = onL A2 l (klF A2 t (A 0 0 1))) → (Ot B (B + 201) M Mc) → (fr (fun l c => if A (20 + l) 0 t = 0 then c + 1 else c) l (A 0 0 2) c = nKil A t) → A 0 0 2 - l < (nn_79 : Int) → PW E G Mc 0 0 79 [(0, 1, vR B), (1, 1, vI t), (2, 1, vI (A 0 0 1)), (3, 1, vI c), (4, 1, vI l)] [] from pw_locs (by exact ⟨rfl, cat_vR _, rfl, rfl, rfl, rfl, rfl, rfl, rfl, rfl, trivial⟩) (K_79 (A 0 0 2 - 0 + 1 : Int).toNat 0 0 A2 M3 (by omega) (by first | exact hR3 | omega) (by first | exact onL_0.symm | omega) (by first | exact hO7 | omega) (by first | exact rfl | omega) (by omega))
      intro nn_79
      induction nn_79 with
      | zero => intro c l Ac Mc h1 hRc heA hOc hf h_m79; exact absurd h_m79 (by omega)
      | succ nn_79 ih_79 =>
        intro c l Ac Mc h1 hRc heA hOc hf h_m79
        have bt := hA2.ta (A 0 0 1) (by omega)
        have hAc : AB Ac := by rw [heA]; exact hA2.run (by omega) (fun L hL => by unfold klF; split; exact enq_LB hL bt.s1 bt.s3 bt.s4 (by omega); exact hL.u0 (by omega))
        have q0 : Ac 0 = A2 0 := by rw [heA]; exact onL_n (by omega)
        have q00 : Ac 0 0 2 = A 0 0 2 := by rw [q0]; exact y20
        have q2 : Ac (200 + A 0 0 1) = A2 (200 + A 0 0 1) := by rw [heA]; exact onL_n (by omega)
        refine pw_iload C dX5_kill_79 rfl ?_
        refine pw_aload_n C dX5_kill_81 rfl ?_
        refine pw_getE C dX5_kill_82 fl_X5_80 rfl hRc.k (hRc.n 2 (by omega)) ?_
        refine pw_icmp_ge (tgt := 142) C dX5_kill_85 (by decide) (by omega) (fun c_85 => ?_) (fun c_85 => ?_)
        · skip
          refine pw_iload_n C dX5_kill_142 rfl ?_
          exact pw_iret C hR dX5_kill_143 (⟨_, rfl, rfl, fr_done (by omega) hf, by rw [heA, show l = A 0 0 2 by omega, eA2] at hRc; exact hRc, hOc⟩) (by omega) (by omega)
        · skip
          refine pw_aload_n C dX5_kill_88 rfl ?_
          refine pw_getR C dX5_kill_89 fl_X5_39 hRc.k rfl hRc.r4 ?_
          refine pw_iload C dX5_kill_92 rfl ?_
          refine pw_aaldE C dX5_kill_94 hRc.a4 (by omega) (by omega) (hRc.e4 l (by omega)) ?_
          refine pw_iload_n C dX5_kill_95 rfl ?_
          refine pw_cVE C hX dX5_kill_96 ml_X5_183 mc_X1_isSent (c_X1_isSent (hRc.li l (by omega)) (hAc.li l (by omega)) (t := t) (by omega)) kc_4 (hRc.li l (by omega)).k rfl rfl ⟨Nat.le_of_ble_eq_true rfl, Nat.le_of_ble_eq_true rfl⟩ (Nat.le_of_ble_eq_true rfl) ⟨Nat.le_of_ble_eq_true rfl, Nat.le_of_ble_eq_true rfl⟩ ?_
          refine pw_ifB_eq (tgt := 125) C dX5_kill_99 (by decide) (fun c_99 => ?_) (fun c_99 => ?_)
          · skip
            refine pw_aload_n C dX5_kill_125 rfl ?_
            refine pw_getR C dX5_kill_126 fl_X5_39 hRc.k rfl hRc.r4 ?_
            refine pw_iload C dX5_kill_129 rfl ?_
            refine pw_aaldE C dX5_kill_131 hRc.a4 (by omega) (by omega) (hRc.e4 l (by omega)) ?_
            refine pw_iload_n C dX5_kill_132 rfl ?_
            refine pw_cVU C hX dX5_kill_133 ml_X5_191 mc_X1_stop (c_X1_stop (hRc.li l (by omega)) (hAc.li l (by omega)) (t := t) (by omega)) kc_4 (hRc.li l (by omega)).k rfl rfl ⟨Nat.le_of_ble_eq_true rfl, Nat.le_of_ble_eq_true rfl⟩ (Nat.le_of_ble_eq_true rfl) ⟨Nat.le_of_ble_eq_true rfl, Nat.le_of_ble_eq_true rfl⟩ (fun G M8 hq_ => ?_)
            obtain ⟨rfl, hL9, o10⟩ := hq_
            have hR11 := hRc.uL l (by omega) hL9 (o10.mono (by omega) (by omega))
            have hO12 := hOc.tr (o10.mono (by omega) (by omega))
            refine pw_iinc C dX5_kill_136 rfl (Nat.le_of_ble_eq_true rfl) rfl ?_
            refine pw_goto (tgt := 79) C dX5_kill_139 (by decide) ?_
            exact pw_locs (by exact ⟨rfl, cat_vR _, rfl, rfl, rfl, rfl, rfl, rfl, rfl, rfl, trivial⟩) (ih_79 c (l + 1) (aup Ac (20 + l) (lup (Ac (20 + l)) 0 t (-1))) M8 (by omega) (hR11) (by rw [heA] at c_99 q2 ⊢; rw [onL_n (by omega)] at c_99; rw [onL_n (show 20 + l < 20 ∨ 20 + l ≤ 20 + l by omega)]; rw [← onL_1 (by omega)]; congr 1; unfold klF; rw [if_neg c_99]) (hO12) (fr_go (by omega) hf (by rw [heA, onL_n (by omega), yl l (by omega) (by omega)] at c_99; exact if_neg c_99)) (by omega))
          · skip
            refine pw_aload_n C dX5_kill_102 rfl ?_
            refine pw_getR C dX5_kill_103 fl_X5_39 hRc.k rfl hRc.r4 ?_
            refine pw_iload C dX5_kill_106 rfl ?_
            refine pw_aaldE C dX5_kill_108 hRc.a4 (by omega) (by omega) (hRc.e4 l (by omega)) ?_
            refine pw_iload_n C dX5_kill_109 rfl ?_
            refine pw_aload_n C dX5_kill_110 rfl ?_
            refine pw_getR C dX5_kill_111 fl_X5_32 hRc.k rfl hRc.r3 ?_
            refine pw_iload_n C dX5_kill_114 rfl ?_
            refine pw_aaldE C dX5_kill_115 hRc.a3 (by omega) (by omega) (hRc.e3 (A 0 0 1) (by omega)) ?_
            refine pw_cVU C hX dX5_kill_116 ml_X5_187 mc_X1_start (c_X1_start (hRc.li l (by omega)) (hAc.li l (by omega)) (t := (A 0 0 1)) (by omega) (hRc.ta (A 0 0 1) (by omega))) kc_4 (hRc.li l (by omega)).k rfl rfl ⟨Nat.le_of_ble_eq_true rfl, Nat.le_of_ble_eq_true rfl⟩ (Nat.le_of_ble_eq_true rfl) ⟨Nat.le_of_ble_eq_true rfl, Nat.le_of_ble_eq_true rfl⟩ (fun G M13 hq_ => ?_)
            obtain ⟨rfl, hL14, o15⟩ := hq_
            have hR16 := hRc.uL l (by omega) hL14 (o15.mono (by omega) (by omega))
            have hO17 := hOc.tr (o15.mono (by omega) (by omega))
            refine pw_iinc C dX5_kill_119 rfl (Nat.le_of_ble_eq_true rfl) rfl ?_
            refine pw_goto (tgt := 136) C dX5_kill_122 (by decide) ?_
            refine pw_iinc C dX5_kill_136 rfl (Nat.le_of_ble_eq_true rfl) rfl ?_
            refine pw_goto (tgt := 79) C dX5_kill_139 (by decide) ?_
            exact pw_locs (by exact ⟨rfl, cat_vR _, rfl, rfl, rfl, rfl, rfl, rfl, rfl, rfl, trivial⟩) (ih_79 (c + 1) (l + 1) (aup Ac (20 + l) (enq (Ac (20 + l)) (A 0 0 1) ((Ac (200 + (A 0 0 1))) 1 1) ((Ac (200 + (A 0 0 1))) 1 3) ((Ac (200 + (A 0 0 1))) 1 4))) M13 (by omega) (hR16) (by rw [heA] at c_99 q2 ⊢; rw [onL_n (by omega)] at c_99; rw [onL_n (show 20 + l < 20 ∨ 20 + l ≤ 20 + l by omega)]; rw [q2]; rw [← onL_1 (by omega)]; congr 1; unfold klF; rw [if_pos c_99]) (hO17) (fr_go (by omega) hf (by rw [heA, onL_n (by omega), yl l (by omega) (by omega)] at c_99; exact if_pos c_99)) (by omega))
    · skip
      exfalso; omega

set_option maxHeartbeats 4000000 in
set_option maxRecDepth 100000 in
theorem c_pass {X : Xv} {G M : Mm} {B : Int} {A : An} (hR0 : RC G M B A) (hA : AB A) {m : Int} (r_m : -2147483648 ≤ m ∧ m ≤ 2147483647) (hok : (1 ≤ m ∧ m ≤ 99) ∧ (A 0 0 3 + m ≤ 9999)) : CT X yX5_pass prog_1_method_12_code 5 (some .int) 2 50 0 0 [vR B, vI m] G M (PI (fun r G1 M1 => G1 = G ∧ r = (aPas A m).2 ∧ RC G M1 B ((aPas A m).1) ∧ Ot B (B + 201) M M1)) := by
  refine CT.by (by decide +kernel) [1, 1] ⟨cat_vR _, cat_vI _, trivial⟩ (Nat.le_of_ble_eq_true rfl) (fun E hX C hR hIni => ?_)
  have hn := hA.n
  have hnS := hA.so.c
  have hO0 : Ot B (B + 201) M M := Ot.rf
  refine pw_iload_n C dX5_pass_0 rfl ?_
  refine pw_iconst C dX5_pass_1 ?_
  refine pw_icmp_lt (tgt := 11) C dX5_pass_2 (by decide) (by omega) (fun c_2 => ?_) (fun c_2 => ?_)
  · skip
    exfalso; omega
  · skip
    refine pw_iload_n C dX5_pass_5 rfl ?_
    refine pw_bipush C dX5_pass_6 rfl ?_
    refine pw_icmp_le (tgt := 21) C dX5_pass_8 (by decide) (by omega) (fun c_8 => ?_) (fun c_8 => ?_)
    · skip
      refine pw_aload_n C dX5_pass_21 rfl ?_
      refine pw_getE C dX5_pass_22 fl_X5_123 rfl hR0.k (hR0.n 3 (by omega)) ?_
      refine pw_iload_n C dX5_pass_25 rfl ?_
      refine pw_iadd C dX5_pass_26 ?_
      refine pw_sipush C dX5_pass_27 rfl ?_
      refine pw_icmp_le (tgt := 43) C dX5_pass_30 (by decide) (by omega) (fun c_30 => ?_) (fun c_30 => ?_)
      · skip
        refine pw_iconst C dX5_pass_43 ?_
        refine pw_istore_n C dX5_pass_44 (Nat.le_of_ble_eq_true rfl) rfl ?_
        refine pw_iconst C dX5_pass_45 ?_
        refine pw_istore_n C dX5_pass_46 (Nat.le_of_ble_eq_true rfl) rfl ?_
        suffices K_47 : ∀ (nn_47 : Nat) (c i : Int) (Ac : An) (Mc : Mm), (0 ≤ i ∧ i ≤ m) → (RC G Mc B Ac) → (AB Ac) → (Ac 0 0 3 = A 0 0 3 + i) → (Ot B (B + 201) M Mc) → (fr (fun _ s => (aMin s.1, s.2 + nMin s.1)) i m (Ac, c) = aPas A m) → m - i < (nn_47 : Int) → PW E G Mc 0 0 47 [(0, 1, vR B), (1, 1, vI m), (2, 1, vI c), (3, 1, vI i)] [] from pw_locs (by exact ⟨rfl, cat_vR _, rfl, rfl, rfl, rfl, rfl, rfl, trivial⟩) (K_47 (m - 0 + 1 : Int).toNat 0 0 A M (by omega) (by first | exact hR0 | omega) (by first | exact hA | omega) (by first | exact by omega | omega) (by first | exact hO0 | omega) (by first | exact rfl | omega) (by omega))
        intro nn_47
        induction nn_47 with
        | zero => intro c i Ac Mc h1 hRc hAc hw hOc hf h_m47; exact absurd h_m47 (by omega)
        | succ nn_47 ih_47 =>
          intro c i Ac Mc h1 hRc hAc hw hOc hf h_m47
          have hnc := hAc.n
          refine pw_iload_n C dX5_pass_47 rfl ?_
          refine pw_iload_n C dX5_pass_48 rfl ?_
          refine pw_icmp_ge (tgt := 103) C dX5_pass_49 (by decide) (by omega) (fun c_49 => ?_) (fun c_49 => ?_)
          · skip
            refine pw_iload_n C dX5_pass_103 rfl ?_
            exact pw_iret C hR dX5_pass_104 (⟨_, rfl, rfl, by rw [← fr_done (by omega) hf], by rw [← fr_done (by omega) hf]; exact hRc, hOc⟩) (by omega) (by omega)
          · skip
            refine pw_aload_n C dX5_pass_52 rfl ?_
            refine pw_dup C dX5_pass_53 (cat_vR _) ?_
            refine pw_getE C dX5_pass_54 fl_X5_123 rfl hRc.k (hRc.n 3 (by omega)) ?_
            refine pw_iconst C dX5_pass_57 ?_
            refine pw_iadd C dX5_pass_58 ?_
            refine pw_putIG C dX5_pass_59 fl_X5_123 (fun h => by cases h) rfl hRc.k (fun M2 eM2 => ?_)
            have o3 : Ot B B Mc M2 := by rw [eM2]; exact Ot.rf.u0 (by omega)
            have hR4 := hRc.wn 3 (by omega) eM2
            have hO5 := hOc.tr (o3.mono (by omega) (by omega))
            clear eM2
            refine pw_iconst C dX5_pass_62 ?_
            refine pw_istore C dX5_pass_63 (Nat.le_of_ble_eq_true rfl) rfl ?_
            suffices K_65 : ∀ (nn_65 : Nat) (d l : Int) (Ad : An) (Md : Mm), (0 ≤ l ∧ l ≤ Ac 0 0 2) → (RC G Md B Ad) → (Ad = onL (aup Ac 0 (lup (Ac 0) 0 3 ((Ac 0 0 3) + 1))) l (fun L => (rM L (Ac 0 0 3 + 1)).1)) → (Ot B (B + 201) M Md) → (fr (fun l c => c + (rM (Ac (20 + l)) (Ac 0 0 3 + 1)).2) l (Ac 0 0 2) d = c + nMin Ac) → Ac 0 0 2 - l < (nn_65 : Int) → PW E G Md 0 0 65 [(0, 1, vR B), (1, 1, vI m), (2, 1, vI d), (3, 1, vI i), (4, 1, vI l)] [] from pw_locs (by exact ⟨rfl, cat_vR _, rfl, rfl, rfl, rfl, rfl, rfl, rfl, rfl, trivial⟩) (K_65 (Ac 0 0 2 - 0 + 1 : Int).toNat c 0 (aup Ac 0 (lup (Ac 0) 0 3 ((Ac 0 0 3) + 1))) M2 (by omega) (by first | exact hR4 | omega) (by first | exact onL_0.symm | omega) (by first | exact hO5 | omega) (by first | exact nM_eq | omega) (by omega))
            intro nn_65
            induction nn_65 with
            | zero => intro d l Ad Md h2 hRd heA hOd hg h_m65; exact absurd h_m65 (by omega)
            | succ nn_65 ih_65 =>
              intro d l Ad Md h2 hRd heA hOd hg h_m65
              have hAd : AB Ad := by rw [heA]; exact AB.run (hAc.un (by omega)) (by omega) (fun L hL => rM_LB hL (by omega))
              have q0 : Ad 0 = (aup Ac 0 (lup (Ac 0) 0 3 ((Ac 0 0 3) + 1))) 0 := by rw [heA]; exact onL_n (by omega)
              have q02 : Ad 0 0 2 = Ac 0 0 2 := by rw [q0, aup_s, lup_n (by omega)]
              have q03 : Ad 0 0 3 = Ac 0 0 3 + 1 := by rw [q0, aup_s, lup_s]
              have q1 : Ad (20 + l) = Ac (20 + l) := by rw [heA, onL_n (by omega), aup_n (by omega)]
              refine pw_iload C dX5_pass_65 rfl ?_
              refine pw_aload_n C dX5_pass_67 rfl ?_
              refine pw_getE C dX5_pass_68 fl_X5_80 rfl hRd.k (hRd.n 2 (by omega)) ?_
              refine pw_icmp_ge (tgt := 97) C dX5_pass_71 (by decide) (by omega) (fun c_71 => ?_) (fun c_71 => ?_)
              · skip
                refine pw_iinc C dX5_pass_97 rfl (Nat.le_of_ble_eq_true rfl) rfl ?_
                refine pw_goto (tgt := 47) C dX5_pass_100 (by decide) ?_
                have el : l = Ac 0 0 2 := by omega
                have hRe : RC G Md B (aMin Ac) := by rw [heA, el] at hRd; exact hRd
                have hAe : AB (aMin Ac) := by rw [heA, el] at hAd; exact hAd
                have hfe : (aMin (Ac, c).1, (Ac, c).2 + nMin (Ac, c).1) = (aMin Ac, d) := by rw [fr_done (by omega) hg]
                exact pw_locs (by exact ⟨rfl, cat_vR _, rfl, rfl, rfl, rfl, rfl, rfl, trivial⟩) (ih_47 d (i + 1) (aMin Ac) Md (by omega) (hRe) (hAe) (by unfold aMin; rw [onL_n (by omega), aup_s, lup_s]; omega) (hOd) (fr_go (by omega) hf hfe) (by omega))
              · skip
                refine pw_iload_n C dX5_pass_74 rfl ?_
                refine pw_aload_n C dX5_pass_75 rfl ?_
                refine pw_getR C dX5_pass_76 fl_X5_39 hRd.k rfl hRd.r4 ?_
                refine pw_iload C dX5_pass_79 rfl ?_
                refine pw_aaldE C dX5_pass_81 hRd.a4 (by omega) (by omega) (hRd.e4 l (by omega)) ?_
                refine pw_aload_n C dX5_pass_82 rfl ?_
                refine pw_getE C dX5_pass_83 fl_X5_123 rfl hRd.k (hRd.n 3 (by omega)) ?_
                refine pw_cVI C hX dX5_pass_86 ml_X5_198 mc_X1_runMinute (c_X1_runMinute (hRd.li l (by omega)) (hAd.li l (by omega)) (m := (Ad 0 0 3)) (by omega)) kc_4 (hRd.li l (by omega)).k rfl rfl ⟨Nat.le_of_ble_eq_true rfl, Nat.le_of_ble_eq_true rfl⟩ (Nat.le_of_ble_eq_true rfl) ⟨Nat.le_of_ble_eq_true rfl, Nat.le_of_ble_eq_true rfl⟩ (fun r_ G M6 hq_ => ?_)
                obtain ⟨rfl, rfl, hL7, hB8, o9⟩ := hq_
                have hR10 := hRd.uL l (by omega) hL7 (o9.mono (by omega) (by omega))
                have hO11 := hOd.tr (o9.mono (by omega) (by omega))
                refine pw_iadd C dX5_pass_89 ?_
                refine pw_istore_n C dX5_pass_90 (Nat.le_of_ble_eq_true rfl) rfl ?_
                refine pw_iinc C dX5_pass_91 rfl (Nat.le_of_ble_eq_true rfl) rfl ?_
                refine pw_goto (tgt := 65) C dX5_pass_94 (by decide) ?_
                exact pw_locs (by exact ⟨rfl, cat_vR _, rfl, rfl, rfl, rfl, rfl, rfl, rfl, rfl, trivial⟩) (ih_65 (d + ((rM (Ad (20 + l)) (Ad 0 0 3)).2)) (l + 1) (aup Ad (20 + l) ((rM (Ad (20 + l)) (Ad 0 0 3)).1)) M6 (by omega) (hR10) (by rw [q1, q03, ← onL_1 (by omega), ← heA, aup_n (show 20 + l ≠ 0 by omega)]) (hO11) (fr_go (by omega) hg (by rw [q1, q03])) (by omega))
      · skip
        exfalso; omega
    · skip
      exfalso; omega

