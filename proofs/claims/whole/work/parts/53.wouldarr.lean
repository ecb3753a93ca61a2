/-! ===== the model: would arrive ===== -/
def mWo (A : An) (l k w : Int) : Int := mAr (enq (lup (A (20 + l)) 4 3 0) (A 0 0 1) k w 0) (A 0 0 1) (A 0 0 3)
theorem Kp.ot {G M G1 M1 M2 : Mm} {a : Int} (h : Kp G M G1 M1) (ha : G 4 0 0 ≤ a) (hO : Ot a (a + 3) M1 M2) : Kp G M G1 M2 :=
  ⟨fun b hb => (h.1 b hb).tr ⟨rfl, rfl, fun _ => rfl, fun _ => rfl, fun f => hO.f (by omega) f, fun j => hO.j (by omega) j⟩, h.2⟩
theorem okT {G : Mm} {v : Int} (h1 : v < G 4 0 0) (h2 : G 0 v 0 = 12) : OkO G v := ⟨h1, Or.inl ⟨_, by rw [h2]; exact kc_12, List.mem_of_getElem? (i := 1516) (by decide +kernel)⟩⟩
theorem wo_LW {A : An} {l k w : Int} {T' : Int → Fn} (hA : AB A) (hW : WF A) (hl : 0 ≤ l ∧ l < A 0 0 2) (hw : 1 ≤ w ∧ w ≤ 200) (hT : ∀ i, i < A 0 0 1 → T' i = A (200 + i)) (hN : T' (A 0 0 1) 1 1 = k ∧ T' (A 0 0 1) 1 4 = 0) : LW (enq (lup (A (20 + l)) 4 3 0) (A 0 0 1) k w 0) T' (A 0 0 1 + 1) := by
  have hn := hA.n
  have he := hW.e l hl.1 hl.2
  refine ⟨fun t q1 q2 => ?_, ?_, by omega⟩
  · have hx := hW.l l t hl.1 hl.2 q1 q2
    have hy := hW.n l t hl.1 hl.2
    unfold enq
    by_cases e : t = A 0 0 1
    · subst e
      have hz := hy (Int.le_refl _) q2
      rw [lup_n (i' := 3) (by omega), lup_n (i' := 3) (by omega), lup_n (i' := 3) (by omega), lup_n (i' := 3) (by omega), lup_n (i' := 3) (by omega), lup_n (i' := 0) (by omega), lup_n (i' := 0) (by omega), lup_n (i' := 0) (by omega), lup_s, lup_s, lup_n (i' := 1) (by omega), lup_n (i' := 1) (by omega), lup_s, lup_n (i' := 2) (by omega), lup_s]
      exact ⟨by have := hx.1; omega, fun _ => ⟨by omega, hN.1.symm, hN.2.symm⟩⟩
    · rw [lup_n (i' := 3) (by omega), lup_n (i' := 3) (by omega), lup_n (i' := 3) (by omega), lup_n (i' := 3) (by omega), lup_n (i' := 3) (by omega), lup_n (i' := 0) (by omega), lup_n (i' := 0) (by omega), lup_n (i' := 0) (by omega), lup_n (i' := 0) (by omega), lup_n (i' := 0) (by omega), lup_s, lup_n (i' := 1) (by omega), lup_n (i' := 1) (by omega), lup_n (i' := 1) (by omega), lup_n (i' := 1) (by omega), lup_n (i' := 1) (by omega), lup_n (i' := 2) (by omega), lup_n (i' := 2) (by omega), lup_n (i' := 2) (by omega), lup_n (i' := 2) (by omega), lup_n (i' := 2) (by omega)]
      refine ⟨hx.1, fun z => ?_⟩
      have hz := hx.2 z
      rw [hT t (by omega)]
      exact ⟨by omega, hz.1, hz.2.1⟩
  · unfold enq; rw [lup_s]; omega
set_option maxHeartbeats 4000000 in
set_option maxRecDepth 100000 in
theorem m_wouldArriveNow {X : Xv} {G M : Mm} {Q : Int} {A : An} {D : Fn} {I : Int → Int} (hM : RM G M Q A D I) (hA : AB A) (hW : WF A) (hE : EM X G) {l k w : Int} (hl9 : 0 ≤ l ∧ l < A 0 0 2) (hk9 : 0 ≤ k ∧ k ≤ 4) (hw9 : 1 ≤ w ∧ w ≤ 200) : CT X yX10_wouldArriveNow prog_8_method_63_code 6 (some .int) 7 176 9 367 [vR Q, vI l, vI k, vI w] G M (PI (fun r G1 M1 => r = mWo A l k w ∧ Kp G M G1 M1)) := by
  refine CT.by (by decide +kernel) [1, 1, 1, 1] ⟨cat_vR _, cat_vI _, cat_vI _, cat_vI _, trivial⟩ (Nat.le_of_ble_eq_true rfl) (fun E hX C hR hIni => ?_)
  have hn := hA.n
  have hnS := hA.so.c
  have hq9 := hM.q
  have hd9 := hM.l3.2.1
  obtain ⟨c1, hc1⟩ : ∃ c, emX X 1 = c := ⟨_, rfl⟩
  refine pw_new C dX10_wouldArriveNow_0 nl_X10_7 (Nat.le_of_ble_eq_true rfl) (Nat.le_of_ble_eq_true rfl) ?_
  have hK1 : Kp G M (nG G 2 0) (nM G M) := Kp.rf.new
  have kq : nG G 2 0 0 (G 4 0 0) 0 = 2 := nG_kind
  have tq : nG G 2 0 4 0 0 = G 4 0 0 + 1 := nG_next
  obtain ⟨q, eq⟩ : ∃ q, G 4 0 0 = q := ⟨_, rfl⟩
  have eq9 := Int.le_of_eq eq
  rw [eq] at kq tq ⊢
  generalize nG G 2 0 = G1 at hK1 kq tq ⊢
  generalize nM G M = M1 at hK1 ⊢
  have hM1 := hM.kp hK1
  have hE1 := hE.kp hK1
  refine pw_dup C dX10_wouldArriveNow_3 (cat_vR _) ?_
  refine pw_aload_n C dX10_wouldArriveNow_4 rfl ?_
  refine pw_getR C dX10_wouldArriveNow_5 fl_X10_19 hM1.k rfl hM1.r3 ?_
  refine pw_cIU C hX dX10_wouldArriveNow_8 ml_X10_299 mc_Jx4a65c_init_4bcb3 (c_listC (ks := (A 0 0 1).toNat) hE1 hc1 hM1.l3 (by omega) (by omega) (by omega) (by omega) kq (fun j q1 q2 => by rw [hM1.e3 j q1 q2]; have z := (hM1.p.t j q1 q2).1; exact okT (by omega) (hM1.ta j q1 q2).1)) (by omega) rfl rfl ⟨Nat.le_of_ble_eq_true rfl, Nat.le_of_ble_eq_true rfl⟩ (Nat.le_of_ble_eq_true rfl) (show 1 + 1 ≤ 9 ∧ 3 + (A 0 0 1).toNat ≤ 367 by omega) (fun G2 M2 hq_ => ?_)
  obtain ⟨e1, hA2, he2, hz2, ht2, ho2⟩ := hq_
  have hK2 : Kp G M G2 M2 := ⟨fun b hb => (hK1.1 b hb).tr (ho2 b (by omega) (by omega)), by omega⟩
  have hM2 := hM.kp hK2
  have hE2 := hE.kp hK2
  clear ho2
  refine pw_astore C dX10_wouldArriveNow_11 (Nat.le_of_ble_eq_true rfl) rfl ?_
  refine pw_aload C dX10_wouldArriveNow_13 rfl ?_
  refine pw_new C dX10_wouldArriveNow_15 nl_X10_154 (by show _ ≤ 9; omega) (by show _ ≤ 367; omega) ?_
  have hKt : Kp G2 M2 (nG G2 12 0) (nM G2 M2) := Kp.rf.new
  have kt : nG G2 12 0 0 (G2 4 0 0) 0 = 12 := nG_kind
  have tt : nG G2 12 0 4 0 0 = G2 4 0 0 + 1 := nG_next
  have zt : ∀ f, nM G2 M2 0 f (G2 4 0 0) = 0 := fun f => nM_fld
  obtain ⟨t2, et2⟩ : ∃ t, G2 4 0 0 = t := ⟨_, rfl⟩
  have et9 := Int.le_of_eq et2
  rw [et2] at kt tt zt ⊢
  generalize nG G2 12 0 = G3 at hKt kt tt ⊢
  generalize nM G2 M2 = M3 at hKt zt ⊢
  have hK3 := hK2.tr hKt
  have hM3 := hM.kp hK3
  refine pw_dup C dX10_wouldArriveNow_18 (cat_vR _) ?_
  refine pw_iconst C dX10_wouldArriveNow_19 ?_
  refine pw_iload_n C dX10_wouldArriveNow_20 rfl ?_
  refine pw_iconst C dX10_wouldArriveNow_21 ?_
  refine pw_iconst C dX10_wouldArriveNow_22 ?_
  refine pw_iload_n C dX10_wouldArriveNow_23 rfl ?_
  refine pw_iconst C dX10_wouldArriveNow_24 ?_
  refine pw_iconst C dX10_wouldArriveNow_25 ?_
  refine pw_aload_n C dX10_wouldArriveNow_26 rfl ?_
  refine pw_getE C dX10_wouldArriveNow_27 fl_X10_130 rfl hM3.k hM3.w ?_
  refine pw_cIU C hX dX10_wouldArriveNow_30 ml_X10_163 mc_X9_init (m_takeInit (a := t2) (by omega) kt tt zt (Or.inl rfl)) (by omega) rfl rfl ⟨Nat.le_of_ble_eq_true rfl, Nat.le_of_ble_eq_true rfl⟩ (Nat.le_of_ble_eq_true rfl) (show 1 + 1 + 1 + 1 ≤ 9 ∧ 3 + (A 0 0 1).toNat + 10 + 4 ≤ 367 by omega) (fun G4 M4 hq_ => ?_)
  obtain ⟨hT4, tt4, hb4⟩ := hq_
  have hK4 : Kp G M G4 M4 := ⟨fun b hb => (hK3.1 b hb).tr (hb4 b (by have := hK2.2; omega)), by have := hK3.2; omega⟩
  have hM4 := hM.kp hK4
  have hk42 : Kp G2 M2 G4 M4 := ⟨fun b hb => (hKt.1 b hb).tr (hb4 b (by omega)), by have := hKt.2; omega⟩
  have hA4 := hA2.kp hk42
  have he4 : ∀ j, 0 ≤ j → j < A 0 0 1 → G4 3 e1 j = D 4 j := fun j q1 q2 => by rw [(hk42.1 e1 hA2.2.1.2).2.2.2.1, he2 j q1 q2, hM1.e3 j q1 q2]
  have hc4 : G4 0 c1 0 = 99 := by have := (hE.kp hK4).2.1; rwa [hc1] at this
  refine pw_cVI C hX dX10_wouldArriveNow_33 ml_X10_109 mc_Jx4a65c_add_9ea2d (c_add hA4 (by omega) (fun j q1 q2 => by rw [he4 j q1 q2]; have z := (hM4.p.t j q1 q2).1; exact okT (by omega) (hM4.ta j q1 q2).1) (v := t2) (okT (by omega) hT4.1) (by omega)) kc_2 hA4.k rfl rfl ⟨Nat.le_of_ble_eq_true rfl, Nat.le_of_ble_eq_true rfl⟩ (Nat.le_of_ble_eq_true rfl) (show 1 + 1 + 1 + 1 + 1 ≤ 9 ∧ 3 + (A 0 0 1).toNat + 10 + 4 + 100 ≤ 367 by omega) (fun r_ G5 M5 hq_ => ?_)
  obtain ⟨rfl, e5, hA5, he5, hn5, hz5, ho5⟩ := hq_
  have hq5 : q < e5 ∧ e5 ≠ t2 ∧ e5 ≠ t2 + 1 ∧ G4 4 0 0 ≤ G5 4 0 0 := by
    rcases hz5 with ⟨z1, z2, z3⟩ | ⟨z1, z2⟩
    · rcases hz2 with z | ⟨z, z4⟩
      · omega
      · rw [z4, hc4] at z2; omega
    · omega
  have hK5 : Kp G M G5 M5 := ⟨fun b hb => (hK4.1 b hb).tr (ho5 b (by have := hK4.2; omega) (by omega) (by omega)), by have := hK4.2; omega⟩
  have hM5 := hM.kp hK5
  have hT5 : MTa G5 M5 t2 (Tmk (-1) k 0 0 w 0 (-1) (A 0 0 3)) := hT4.o (ho5 _ (by omega) (by omega) (by omega)) (ho5 _ (by omega) (by omega) (by omega))
  have hl5 := (hM5.p.l l (by omega) (by omega)).1
  refine pw_pop C dX10_wouldArriveNow_36 rfl ?_
  refine pw_aload_n C dX10_wouldArriveNow_37 rfl ?_
  refine pw_getR C dX10_wouldArriveNow_38 fl_X10_22 hM5.k rfl hM5.r4 ?_
  refine pw_iload_n C dX10_wouldArriveNow_41 rfl ?_
  refine pw_cVR C hX dX10_wouldArriveNow_42 ml_X10_45 mc_Jx4a65c_get_915e3 (hM5.g4 (i := l) (by omega)) kc_2 hM5.l4.k rfl rfl ⟨Nat.le_of_ble_eq_true rfl, Nat.le_of_ble_eq_true rfl⟩ (Nat.le_of_ble_eq_true rfl) (by show _ ≤ 9 ∧ _ ≤ 367; omega) ?_
  refine pw_cast (Cn := "SlugwireModel$Line") C dX10_wouldArriveNow_45 (List.mem_of_getElem? (i := 1067) (by decide +kernel)) (by rw [(hM5.li l (by omega) (by omega)).1]; exact kc_10) ?_
  refine pw_cVQ C hX dX10_wouldArriveNow_48 ml_X10_291 mc_X7_copy (m_copy (hM5.li l (by omega) (by omega)) (by omega)) kc_10 (hM5.li l (by omega) (by omega)).1 rfl rfl ⟨Nat.le_of_ble_eq_true rfl, Nat.le_of_ble_eq_true rfl⟩ (Nat.le_of_ble_eq_true rfl) (show 1 + 1 + 1 + 1 + 1 + 4 ≤ 9 ∧ 3 + (A 0 0 1).toNat + 10 + 4 + 100 + 190 ≤ 367 by omega) (fun b G6 M6 hq_ => ?_)
  obtain ⟨hb6, tt6, hL6, hK56⟩ := hq_
  have hK6 := hK5.tr hK56
  have hM6 := hM.kp hK6
  refine pw_astore C dX10_wouldArriveNow_51 (Nat.le_of_ble_eq_true rfl) rfl ?_
  refine pw_aload C dX10_wouldArriveNow_53 rfl ?_
  refine pw_aload_n C dX10_wouldArriveNow_55 rfl ?_
  refine pw_getR C dX10_wouldArriveNow_56 fl_X10_19 hM6.k rfl hM6.r3 ?_
  refine pw_cVE C hX dX10_wouldArriveNow_59 ml_X10_33 mc_Jx4a65c_size_8abf5 (c_size hM6.l3) kc_2 hM6.l3.k rfl rfl ⟨Nat.le_of_ble_eq_true rfl, Nat.le_of_ble_eq_true rfl⟩ (Nat.le_of_ble_eq_true rfl) (by show _ ≤ 9 ∧ _ ≤ 367; omega) ?_
  refine pw_iload_n C dX10_wouldArriveNow_62 rfl ?_
  refine pw_cVU C hX dX10_wouldArriveNow_63 ml_X10_158 mc_X7_run (m_run hL6 (t := (A 0 0 1)) (x := w) (by omega)) kc_10 hL6.1 rfl rfl ⟨Nat.le_of_ble_eq_true rfl, Nat.le_of_ble_eq_true rfl⟩ (Nat.le_of_ble_eq_true rfl) (by show _ ≤ 9 ∧ _ ≤ 367; omega) (fun G6 M7 hq_ => ?_)
  obtain ⟨rfl, e7⟩ := hq_
  have hL7 : MLi G6 M7 b (enq (lup (A (20 + l)) 4 3 0) (A 0 0 1) k w 0) := by
    rw [e7]
    refine (hL6.on (t := A 0 0 1) (x := w) (by omega)).ext ⟨rfl, rfl, rfl, rfl⟩ (fun t q1 q2 => ⟨?_, ?_⟩)
    · unfold enq; simp [lup_c]
    · unfold enq; simp [lup_c]
  have hO7 : Ot b (b + 3) M6 M7 := by rw [e7]; exact (Ot.rf.u1 (by omega)).u1 (by omega)
  have hK7 : Kp G M G6 M7 := hK6.ot (by have := hK5.2; omega) hO7
  have hM7 := hM.kp hK7
  refine pw_aload_n C dX10_wouldArriveNow_66 rfl ?_
  refine pw_aload C dX10_wouldArriveNow_67 rfl ?_
  refine pw_aload C dX10_wouldArriveNow_69 rfl ?_
  refine pw_aload_n C dX10_wouldArriveNow_71 rfl ?_
  refine pw_getR C dX10_wouldArriveNow_72 fl_X10_19 hM7.k rfl hM7.r3 ?_
  refine pw_cVE C hX dX10_wouldArriveNow_75 ml_X10_33 mc_Jx4a65c_size_8abf5 (c_size hM7.l3) kc_2 hM7.l3.k rfl rfl ⟨Nat.le_of_ble_eq_true rfl, Nat.le_of_ble_eq_true rfl⟩ (Nat.le_of_ble_eq_true rfl) (by show _ ≤ 9 ∧ _ ≤ 367; omega) ?_
  have hD7 : DJ q (A 0 0 1 + 1) (fun i => if i < A 0 0 1 then D 4 i else t2) b := by
    refine ⟨by omega, fun i q1 q2 => ?_⟩
    dsimp only
    by_cases e : i < A 0 0 1
    · rw [if_pos e]; have z := (hM5.p.t i q1 e).1; omega
    · rw [if_neg e]; omega
  have hT7 : TK G6 M7 q (A 0 0 1 + 1) e5 (fun i => if i < A 0 0 1 then D 4 i else t2) (fun i => if i < A 0 0 1 then A (200 + i) else Tmk (-1) k 0 0 w 0 (-1) (A 0 0 3)) := by
    refine TK.ot (M := M6) ⟨hA5.kp hK56, fun i q1 q2 => ?_⟩ hO7 hD7
    dsimp only
    rw [(hK56.1 e5 hA5.2.1.2).2.2.2.1]
    by_cases e : i < A 0 0 1
    · rw [if_pos e, if_pos e, he5 i q1 e, he4 i q1 e]
      have hB := hA.ta i (by omega)
      exact ⟨rfl, hM6.ta i q1 e, hB.s1, hB.s4⟩
    · have e2 : i = A 0 0 1 := by omega
      rw [if_neg e, if_neg e, e2, hn5]
      exact ⟨rfl, hT5.o (hK56.1 _ (by omega)) (hK56.1 _ (by omega)), hk9, (show (0 : Int) ≤ 0 by omega), (show (0 : Int) ≤ 9999 by omega)⟩
  have hB7 : LB (enq (lup (A (20 + l)) 4 3 0) (A 0 0 1) k w 0) := enq_LB ((hA.li l (by omega)).u4 (by omega)) (by omega) (by omega) (by omega) (by omega)
  have hW7 := wo_LW (T' := fun i => if i < A 0 0 1 then A (200 + i) else Tmk (-1) k 0 0 w 0 (-1) (A 0 0 3)) (k := k) (w := w) hA hW hl9 hw9 (fun i h => if_pos h) ⟨by (try dsimp only); rw [if_neg (by omega)]; rfl, by (try dsimp only); rw [if_neg (by omega)]; rfl⟩
  refine pw_cVI C hX dX10_wouldArriveNow_78 ml_X10_295 mc_X10_arrivesNow (m_arrivesNow hM7 hA hL7 hB7 hT7 hW7 hD7 (by have := hK5.2; omega) (t := (A 0 0 1)) (by omega)) kc_13 hM7.k rfl rfl ⟨Nat.le_of_ble_eq_true rfl, Nat.le_of_ble_eq_true rfl⟩ (Nat.le_of_ble_eq_true rfl) (by show _ ≤ 9 ∧ _ ≤ 367; omega) (fun r_ G8 M8 hq_ => ?_)
  obtain ⟨rfl, rfl, hO8⟩ := hq_
  exact pw_iret C hR dX10_wouldArriveNow_81 (⟨_, rfl, rfl, hK7.ot (by have := hK5.2; omega) hO8⟩) (by show _ ≤ 9; omega) (by show _ ≤ 367; omega)

