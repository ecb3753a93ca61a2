/-! ===== what always holds of the house ===== -/
def WF (A : An) : Prop := (∀ t f, 0 ≤ t → t < A 0 0 1 → 0 ≤ f → f < 4 → (ins (A (200 + t) 1 2) f ↔ ¬ A (200 + t) 0 f = -1)) ∧ (∀ l t, 0 ≤ l → l < A 0 0 2 → 0 ≤ t → t < 61 → (A (20 + l) 3 t = -1 ↔ ¬ A (20 + l) 0 t = 0) ∧ (0 < A (20 + l) 0 t → A (20 + l) 1 t = A (200 + t) 1 1 ∧ A (20 + l) 2 t = A (200 + t) 1 4 ∧ t < A (20 + l) 4 4)) ∧ (∀ l, 0 ≤ l → l < A 0 0 2 → A (20 + l) 4 4 ≤ A 0 0 1) ∧ (∀ l t, 0 ≤ l → l < A 0 0 2 → A 0 0 1 ≤ t → t < 61 → A (20 + l) 0 t = -1) ∧ (∀ t, 0 ≤ t → t < A 0 0 1 → ¬ A (200 + t) 1 7 = -1 → (t < A (200 + t) 1 7 ∧ A (200 + t) 1 7 < A 0 0 1) ∧ A (200 + A (200 + t) 1 7) 1 1 = 1 ∧ A (200 + A (200 + t) 1 7) 1 6 = t) ∧ (∀ k t, 0 ≤ k → k < A 0 0 1 → 0 ≤ t → t < k → A (200 + k) 1 1 = 1 → A (200 + k) 1 6 = t → A (200 + t) 1 7 = k) ∧ (∀ i, 0 ≤ i → i < A 0 0 0 * 4 → A (100 + i) 1 0 = mst (A 10) (A (100 + i)) 1 ∧ A (100 + i) 1 2 = mhd (A 10) (A (100 + i)) ∧ A (100 + i) 1 1 = (if A (100 + i) 1 0 = -1 then 0 else mfo (A 10) (A (100 + i)) (A (100 + i) 1 0))) ∧ (∀ i k, 0 ≤ i → i < A 0 0 0 * 4 → A 10 2 0 ≤ k → k < 10 → A (100 + i) 0 k = -1)
theorem WF.i {A : An} (h : WF A) : ∀ t f, 0 ≤ t → t < A 0 0 1 → 0 ≤ f → f < 4 → (ins (A (200 + t) 1 2) f ↔ ¬ A (200 + t) 0 f = -1) := h.1
theorem WF.l {A : An} (h : WF A) : ∀ l t, 0 ≤ l → l < A 0 0 2 → 0 ≤ t → t < 61 → (A (20 + l) 3 t = -1 ↔ ¬ A (20 + l) 0 t = 0) ∧ (0 < A (20 + l) 0 t → A (20 + l) 1 t = A (200 + t) 1 1 ∧ A (20 + l) 2 t = A (200 + t) 1 4 ∧ t < A (20 + l) 4 4) := h.2.1
theorem WF.e {A : An} (h : WF A) : ∀ l, 0 ≤ l → l < A 0 0 2 → A (20 + l) 4 4 ≤ A 0 0 1 := h.2.2.1
theorem WF.n {A : An} (h : WF A) : ∀ l t, 0 ≤ l → l < A 0 0 2 → A 0 0 1 ≤ t → t < 61 → A (20 + l) 0 t = -1 := h.2.2.2.1
theorem WF.k {A : An} (h : WF A) : ∀ t, 0 ≤ t → t < A 0 0 1 → ¬ A (200 + t) 1 7 = -1 → (t < A (200 + t) 1 7 ∧ A (200 + t) 1 7 < A 0 0 1) ∧ A (200 + A (200 + t) 1 7) 1 1 = 1 ∧ A (200 + A (200 + t) 1 7) 1 6 = t := h.2.2.2.2.1
theorem WF.u {A : An} (h : WF A) : ∀ k t, 0 ≤ k → k < A 0 0 1 → 0 ≤ t → t < k → A (200 + k) 1 1 = 1 → A (200 + k) 1 6 = t → A (200 + t) 1 7 = k := h.2.2.2.2.2.1
theorem WF.f {A : An} (h : WF A) : ∀ i, 0 ≤ i → i < A 0 0 0 * 4 → A (100 + i) 1 0 = mst (A 10) (A (100 + i)) 1 ∧ A (100 + i) 1 2 = mhd (A 10) (A (100 + i)) ∧ A (100 + i) 1 1 = (if A (100 + i) 1 0 = -1 then 0 else mfo (A 10) (A (100 + i)) (A (100 + i) 1 0)) := h.2.2.2.2.2.2.1
theorem WF.b {A : An} (h : WF A) : ∀ i k, 0 ≤ i → i < A 0 0 0 * 4 → A 10 2 0 ≤ k → k < 10 → A (100 + i) 0 k = -1 := h.2.2.2.2.2.2.2
theorem hs_of {A : An} {l t : Int} (hW : WF A) (hl : 0 ≤ l ∧ l < A 0 0 2) (ht : 0 ≤ t ∧ t < 61) : (¬ A (20 + l) 3 t = -1 ∧ A (20 + l) 3 t + A (20 + l) 4 1 ≤ A 0 0 3) ↔ hs A l t := by
  have := (hW.l l t hl.1 hl.2 ht.1 ht.2).1
  unfold hs
  omega
theorem stt4 {A : An} {l t : Int} : stt A l t = 4 ↔ hs A l t ∧ ¬ dr A l t := by
  unfold stt
  constructor
  · intro h
    split at h
    · omega
    · split at h
      · split at h <;> omega
      · split at h
        · omega
        · next hh => split at h
                     · omega
                     · next hd => exact ⟨Decidable.not_not.mp hh, hd⟩
  · rintro ⟨h1, h2⟩
    rw [if_neg (by have := h1.1; omega), if_neg (by have := h1.1; omega), if_neg (fun q => q h1), if_neg h2]
theorem dr_of {A : An} {l t : Int} (hW : WF A) (ht : 0 ≤ t ∧ t < A 0 0 1) : fnd (fun k => (A (200 + k) 1 1 = 1 ∧ A (200 + k) 1 6 = t) ∧ hs A l k) (t + 1) (A 0 0 1) < A 0 0 1 ↔ dr A l t := by
  rw [fnd_lt (by omega)]
  constructor
  · rintro ⟨k, h1, h2, ⟨h3, h4⟩, h5⟩
    have := hW.u k t (by omega) h2 ht.1 (by omega) h3 h4
    unfold dr
    rw [this]
    exact ⟨by omega, h5⟩
  · rintro ⟨h1, h2⟩
    obtain ⟨z1, z2, z3⟩ := hW.k t ht.1 ht.2 h1
    exact ⟨_, by omega, z1.2, ⟨z2, z3⟩, h2⟩
theorem stt_bd {A : An} {l t : Int} : 0 ≤ stt A l t ∧ stt A l t ≤ 5 := by
  unfold stt
  repeat' split
  all_goals omega
theorem cW_of {A : An} {l : Int} (hA : AB A) (hW : WF A) (hl : 0 ≤ l ∧ l < A 0 0 2) : cW (A (20 + l)) = fr (fun t c => if ¬ A (20 + l) 0 t = -1 ∧ A (20 + l) 3 t = -1 then c + 1 else c) 0 (A 0 0 1) 0 ∧ cL (A (20 + l)) = fr (fun t c => if ¬ A (20 + l) 0 t = -1 ∧ A (20 + l) 3 t = -1 then c + A (20 + l) 0 t else c) 0 (A 0 0 1) 0 := by
  have hn := hA.n
  have hB := hA.li l (by omega)
  have he := hW.e l hl.1 hl.2
  have h4 := hB.s4
  have key : ∀ (g : Int → Int → Int), fr (fun t c => if 0 < A (20 + l) 0 t then g t c else c) 0 (A (20 + l) 4 4) 0 = fr (fun t c => if ¬ A (20 + l) 0 t = -1 ∧ A (20 + l) 3 t = -1 then g t c else c) 0 (A 0 0 1) 0 := fun g => by
    have e1 : fr (fun t c => if 0 < A (20 + l) 0 t then g t c else c) 0 (A 0 0 1) 0 = fr (fun t c => if 0 < A (20 + l) 0 t then g t c else c) 0 (A (20 + l) 4 4) 0 :=
      fr_inv (f := fun t c => if 0 < A (20 + l) 0 t then g t c else c) (hi := A 0 0 1) (P := fun i x => i ≤ A (20 + l) 4 4 ∧ x = fr (fun t c => if 0 < A (20 + l) 0 t then g t c else c) 0 i 0 ∨ A (20 + l) 4 4 ≤ i ∧ x = fr (fun t c => if 0 < A (20 + l) 0 t then g t c else c) 0 (A (20 + l) 4 4) 0) (lo := 0) (s := 0) (by omega) (Or.inl ⟨h4.1, (fr_end (by omega)).symm⟩) (fun i x h1 h2 hp => by
        have hx := hW.l l i hl.1 hl.2 h1 (by omega)
        rcases hp with ⟨p1, p2⟩ | ⟨p1, p2⟩
        · by_cases e : i = A (20 + l) 4 4
          · right
            refine ⟨by omega, ?_⟩
            rw [if_neg (by omega), p2, e]
          · left
            exact ⟨by omega, by rw [p2, fr_last h1]⟩
        · right
          exact ⟨by omega, by rw [if_neg (by omega)]; exact p2⟩) |>.elim (fun ⟨p1, p2⟩ => by rw [p2, show A 0 0 1 = A (20 + l) 4 4 by omega]) (fun ⟨_, p2⟩ => p2)
    rw [← e1]
    refine fr_congr fun t s h1 h2 => ?_
    have hx := (hW.l l t hl.1 hl.2 h1 (by omega)).1
    have hv := hB.v0 t h1 (by omega)
    by_cases h : 0 < A (20 + l) 0 t
    · rw [if_pos h, if_pos (by omega)]
    · rw [if_neg h, if_neg (by omega)]
  exact ⟨key (fun _ c => c + 1), key (fun t c => c + A (20 + l) 0 t)⟩
set_option maxHeartbeats 4000000 in
set_option maxRecDepth 100000 in
theorem m_hasIt {X : Xv} {G M : Mm} {a : Int} {L : Fn} (hL : MLi G M a L) (hB : LB L) {t m : Int} (ht : 0 ≤ t ∧ t < 61) (hm : 0 ≤ m ∧ m ≤ 20000) : CT X yX7_hasIt prog_10_method_7_code 3 (some .boolean) 0 0 0 0 [vR a, vI t, vI m] G M (PE G M (bI (¬ L 3 t = -1 ∧ L 3 t + L 4 1 ≤ m))) := by
  refine CT.by (by decide +kernel) [1, 1, 1] ⟨cat_vR _, cat_vI _, cat_vI _, trivial⟩ (Nat.le_of_ble_eq_true rfl) (fun E hX C hR hIni => ?_)
  refine pw_aload_n C dX7_hasIt_0 rfl ?_
  refine pw_getR C dX7_hasIt_1 fl_X7_19 hL.1 rfl hL.2.1.2.2 ?_
  refine pw_iload_n C dX7_hasIt_4 rfl ?_
  refine pw_ialdE C dX7_hasIt_5 hL.2.2.2.2.1 (by omega) (hL.2.2.2.2.2.2 t (by omega) (by omega)).2.2 ?_
  have b_5 := hB.v3 t (by omega) (by omega)
  refine pw_iconst C dX7_hasIt_6 ?_
  refine pw_icmp_eq (tgt := 29) C dX7_hasIt_7 (by decide) (by omega) (fun c_7 => ?_) (fun c_7 => ?_)
  · skip
    refine pw_iconst C dX7_hasIt_29 ?_
    exact pw_zretE C hR dX7_hasIt_30 (by omega) rfl rfl (by first | exact (bI_t (by omega)).symm | exact (bI_f (by omega)).symm) (Nat.zero_le _) (Nat.zero_le _)
  · skip
    refine pw_aload_n C dX7_hasIt_10 rfl ?_
    refine pw_getR C dX7_hasIt_11 fl_X7_19 hL.1 rfl hL.2.1.2.2 ?_
    refine pw_iload_n C dX7_hasIt_14 rfl ?_
    refine pw_ialdE C dX7_hasIt_15 hL.2.2.2.2.1 (by omega) (hL.2.2.2.2.2.2 t (by omega) (by omega)).2.2 ?_
    have b_15 := hB.v3 t (by omega) (by omega)
    refine pw_aload_n C dX7_hasIt_16 rfl ?_
    refine pw_getE C dX7_hasIt_17 fl_X7_26 rfl hL.1 hL.2.2.2.2.2.1.2.1 ?_
    have b_17 := hB.s1
    refine pw_iadd C dX7_hasIt_20 ?_
    refine pw_iload_n C dX7_hasIt_21 rfl ?_
    refine pw_icmp_gt (tgt := 29) C dX7_hasIt_22 (by decide) (by omega) (fun c_22 => ?_) (fun c_22 => ?_)
    · skip
      refine pw_iconst C dX7_hasIt_29 ?_
      exact pw_zretE C hR dX7_hasIt_30 (by omega) rfl rfl (by first | exact (bI_t (by omega)).symm | exact (bI_f (by omega)).symm) (Nat.zero_le _) (Nat.zero_le _)
    · skip
      refine pw_iconst C dX7_hasIt_25 ?_
      refine pw_goto (tgt := 30) C dX7_hasIt_26 (by decide) ?_
      exact pw_zretE C hR dX7_hasIt_30 (by omega) rfl rfl (by first | exact (bI_t (by omega)).symm | exact (bI_f (by omega)).symm) (Nat.zero_le _) (Nat.zero_le _)

set_option maxHeartbeats 4000000 in
set_option maxRecDepth 100000 in
theorem m_isWaiting {X : Xv} {G M : Mm} {a : Int} {L : Fn} (hL : MLi G M a L) (hB : LB L) {t : Int} (ht : 0 ≤ t ∧ t < 61) : CT X yX7_isWaiting prog_10_method_4_code 2 (some .boolean) 0 0 0 0 [vR a, vI t] G M (PE G M (bI (¬ L 0 t = -1 ∧ L 3 t = -1))) := by
  refine CT.by (by decide +kernel) [1, 1] ⟨cat_vR _, cat_vI _, trivial⟩ (Nat.le_of_ble_eq_true rfl) (fun E hX C hR hIni => ?_)
  refine pw_aload_n C dX7_isWaiting_0 rfl ?_
  refine pw_getR C dX7_isWaiting_1 fl_X7_9 hL.1 rfl hL.2.1.1 ?_
  refine pw_iload_n C dX7_isWaiting_4 rfl ?_
  refine pw_zaldE C dX7_isWaiting_5 hL.2.2.1 (by omega) (hL.2.2.2.2.2.2 t (by omega) (by omega)).1 ?_
  refine pw_ifB_eq (tgt := 23) C dX7_isWaiting_6 (by decide) (fun c_6 => ?_) (fun c_6 => ?_)
  · skip
    refine pw_iconst C dX7_isWaiting_23 ?_
    exact pw_zretE C hR dX7_isWaiting_24 (by omega) rfl rfl (by first | exact (bI_t (by omega)).symm | exact (bI_f (by omega)).symm) (Nat.zero_le _) (Nat.zero_le _)
  · skip
    refine pw_aload_n C dX7_isWaiting_9 rfl ?_
    refine pw_getR C dX7_isWaiting_10 fl_X7_19 hL.1 rfl hL.2.1.2.2 ?_
    refine pw_iload_n C dX7_isWaiting_13 rfl ?_
    refine pw_ialdE C dX7_isWaiting_14 hL.2.2.2.2.1 (by omega) (hL.2.2.2.2.2.2 t (by omega) (by omega)).2.2 ?_
    have b_14 := hB.v3 t (by omega) (by omega)
    refine pw_iconst C dX7_isWaiting_15 ?_
    refine pw_icmp_ne (tgt := 23) C dX7_isWaiting_16 (by decide) (by omega) (fun c_16 => ?_) (fun c_16 => ?_)
    · skip
      refine pw_iconst C dX7_isWaiting_23 ?_
      exact pw_zretE C hR dX7_isWaiting_24 (by omega) rfl rfl (by first | exact (bI_t (by omega)).symm | exact (bI_f (by omega)).symm) (Nat.zero_le _) (Nat.zero_le _)
    · skip
      refine pw_iconst C dX7_isWaiting_19 ?_
      refine pw_goto (tgt := 24) C dX7_isWaiting_20 (by decide) ?_
      exact pw_zretE C hR dX7_isWaiting_24 (by omega) rfl rfl (by first | exact (bI_t (by omega)).symm | exact (bI_f (by omega)).symm) (Nat.zero_le _) (Nat.zero_le _)

set_option maxHeartbeats 4000000 in
set_option maxRecDepth 100000 in
theorem m_isWith {X : Xv} {G M : Mm} {Q : Int} {A : An} {D : Fn} {I : Int → Int} (hM : RM G M Q A D I) (hA : AB A) (hW : WF A) {t s f : Int} (ht9 : 0 ≤ t ∧ t < A 0 0 1) (hs9 : 0 ≤ s ∧ s < 6) (hf9 : 0 ≤ f ∧ f < 4) : CT X yX10_isWith prog_8_method_36_code 4 (some .boolean) 3 64 0 0 [vR Q, vI t, vI s, vI f] G M (PE G M (bI (wth A s f t))) := by
  refine CT.by (by decide +kernel) [1, 1, 1, 1] ⟨cat_vR _, cat_vI _, cat_vI _, cat_vI _, trivial⟩ (Nat.le_of_ble_eq_true rfl) (fun E hX C hR hIni => ?_)
  have hn := hA.n
  have hnS := hA.so.c
  have hi9 := hW.i t f (by omega) (by omega) (by omega) (by omega)
  refine pw_aload_n C dX10_isWith_0 rfl ?_
  refine pw_getR C dX10_isWith_1 fl_X10_19 hM.k rfl hM.r3 ?_
  refine pw_iload_n C dX10_isWith_4 rfl ?_
  refine pw_cVR C hX dX10_isWith_5 ml_X10_45 mc_Jx4a65c_get_915e3 (hM.g3 (i := t) (by omega)) kc_2 hM.l3.k rfl rfl ⟨Nat.le_of_ble_eq_true rfl, Nat.le_of_ble_eq_true rfl⟩ (Nat.le_of_ble_eq_true rfl) ⟨Nat.le_of_ble_eq_true rfl, Nat.le_of_ble_eq_true rfl⟩ ?_
  refine pw_cast (Cn := "SlugwireModel$Take") C dX10_isWith_8 (List.mem_of_getElem? (i := 1149) (by decide +kernel)) (by rw [(hM.ta t (by omega) (by omega)).1]; exact kc_12) ?_
  refine pw_getE C dX10_isWith_11 fl_X10_188 rfl (hM.ta t (by omega) (by omega)).1 (hM.ta t (by omega) (by omega)).2.2.2.1.1 ?_
  have b_11 := (hA.ta t (by omega)).s0
  refine pw_iload_n C dX10_isWith_14 rfl ?_
  refine pw_icmp_ne (tgt := 43) C dX10_isWith_15 (by decide) (by omega) (fun c_15 => ?_) (fun c_15 => ?_)
  · skip
    refine pw_iconst C dX10_isWith_43 ?_
    exact pw_zretE C hR dX10_isWith_44 (by omega) rfl rfl ((bI_f (fun q => c_15 q.1)).symm) (Nat.zero_le _) (Nat.zero_le _)
  · skip
    refine pw_aload_n C dX10_isWith_18 rfl ?_
    refine pw_getR C dX10_isWith_19 fl_X10_19 hM.k rfl hM.r3 ?_
    refine pw_iload_n C dX10_isWith_22 rfl ?_
    refine pw_cVR C hX dX10_isWith_23 ml_X10_45 mc_Jx4a65c_get_915e3 (hM.g3 (i := t) (by omega)) kc_2 hM.l3.k rfl rfl ⟨Nat.le_of_ble_eq_true rfl, Nat.le_of_ble_eq_true rfl⟩ (Nat.le_of_ble_eq_true rfl) ⟨Nat.le_of_ble_eq_true rfl, Nat.le_of_ble_eq_true rfl⟩ ?_
    refine pw_cast (Cn := "SlugwireModel$Take") C dX10_isWith_26 (List.mem_of_getElem? (i := 1149) (by decide +kernel)) (by rw [(hM.ta t (by omega) (by omega)).1]; exact kc_12) ?_
    refine pw_getE C dX10_isWith_29 fl_X10_181 rfl (hM.ta t (by omega) (by omega)).1 (hM.ta t (by omega) (by omega)).2.2.2.1.2.2.1 ?_
    have b_29 := (hA.ta t (by omega)).s2
    refine pw_iload_n C dX10_isWith_32 rfl ?_
    refine pw_cSE C hX dX10_isWith_33 ml_X10_166 mc_X10_has (m_has (set := (A (200 + t) 1 2)) (f := f) (by omega) (by omega)) rfl rfl ⟨Nat.le_of_ble_eq_true rfl, Nat.le_of_ble_eq_true rfl⟩ (Nat.le_of_ble_eq_true rfl) ⟨Nat.le_of_ble_eq_true rfl, Nat.le_of_ble_eq_true rfl⟩ ?_
    refine pw_ifB_eq (tgt := 43) C dX10_isWith_36 (by decide) (fun c_36 => ?_) (fun c_36 => ?_)
    · skip
      refine pw_iconst C dX10_isWith_43 ?_
      exact pw_zretE C hR dX10_isWith_44 (by omega) rfl rfl ((bI_f (fun q => c_36 (hi9.mpr q.2))).symm) (Nat.zero_le _) (Nat.zero_le _)
    · skip
      refine pw_iconst C dX10_isWith_39 ?_
      refine pw_goto (tgt := 44) C dX10_isWith_40 (by decide) ?_
      exact pw_zretE C hR dX10_isWith_44 (by omega) rfl rfl ((bI_t ⟨by omega, hi9.mp c_36⟩).symm) (Nat.zero_le _) (Nat.zero_le _)

set_option maxHeartbeats 4000000 in
set_option maxRecDepth 100000 in
theorem m_saysNow {X : Xv} {G M : Mm} {Q : Int} {A : An} {D : Fn} {I : Int → Int} (hM : RM G M Q A D I) (hA : AB A) (hW : WF A) {t f : Int} (ht9 : 0 ≤ t ∧ t < A 0 0 1) (hf9 : 0 ≤ f ∧ f < 4) : CT X yX10_saysNow prog_8_method_44_code 3 (some .int) 3 64 0 0 [vR Q, vI t, vI f] G M (PE G M (A (200 + t) 0 f)) := by
  refine CT.by (by decide +kernel) [1, 1, 1] ⟨cat_vR _, cat_vI _, cat_vI _, trivial⟩ (Nat.le_of_ble_eq_true rfl) (fun E hX C hR hIni => ?_)
  have hn := hA.n
  have hnS := hA.so.c
  have hi9 := hW.i t f (by omega) (by omega) (by omega) (by omega)
  refine pw_aload_n C dX10_saysNow_0 rfl ?_
  refine pw_getR C dX10_saysNow_1 fl_X10_19 hM.k rfl hM.r3 ?_
  refine pw_iload_n C dX10_saysNow_4 rfl ?_
  refine pw_cVR C hX dX10_saysNow_5 ml_X10_45 mc_Jx4a65c_get_915e3 (hM.g3 (i := t) (by omega)) kc_2 hM.l3.k rfl rfl ⟨Nat.le_of_ble_eq_true rfl, Nat.le_of_ble_eq_true rfl⟩ (Nat.le_of_ble_eq_true rfl) ⟨Nat.le_of_ble_eq_true rfl, Nat.le_of_ble_eq_true rfl⟩ ?_
  refine pw_cast (Cn := "SlugwireModel$Take") C dX10_saysNow_8 (List.mem_of_getElem? (i := 1149) (by decide +kernel)) (by rw [(hM.ta t (by omega) (by omega)).1]; exact kc_12) ?_
  refine pw_getE C dX10_saysNow_11 fl_X10_181 rfl (hM.ta t (by omega) (by omega)).1 (hM.ta t (by omega) (by omega)).2.2.2.1.2.2.1 ?_
  have b_11 := (hA.ta t (by omega)).s2
  refine pw_iload_n C dX10_saysNow_14 rfl ?_
  refine pw_cSE C hX dX10_saysNow_15 ml_X10_166 mc_X10_has (m_has (set := (A (200 + t) 1 2)) (f := f) (by omega) (by omega)) rfl rfl ⟨Nat.le_of_ble_eq_true rfl, Nat.le_of_ble_eq_true rfl⟩ (Nat.le_of_ble_eq_true rfl) ⟨Nat.le_of_ble_eq_true rfl, Nat.le_of_ble_eq_true rfl⟩ ?_
  refine pw_ifB_eq (tgt := 40) C dX10_saysNow_18 (by decide) (fun c_18 => ?_) (fun c_18 => ?_)
  · skip
    have hv9 : A (200 + t) 0 f = -1 := Decidable.not_not.mp (fun q => c_18 (hi9.mpr q))
    refine pw_iconst C dX10_saysNow_40 ?_
    exact pw_iretE C hR dX10_saysNow_41 rfl rfl (hv9.symm) (Nat.zero_le _) (Nat.zero_le _)
  · skip
    have hv9 := hi9.mp c_18
    refine pw_aload_n C dX10_saysNow_21 rfl ?_
    refine pw_getR C dX10_saysNow_22 fl_X10_19 hM.k rfl hM.r3 ?_
    refine pw_iload_n C dX10_saysNow_25 rfl ?_
    refine pw_cVR C hX dX10_saysNow_26 ml_X10_45 mc_Jx4a65c_get_915e3 (hM.g3 (i := t) (by omega)) kc_2 hM.l3.k rfl rfl ⟨Nat.le_of_ble_eq_true rfl, Nat.le_of_ble_eq_true rfl⟩ (Nat.le_of_ble_eq_true rfl) ⟨Nat.le_of_ble_eq_true rfl, Nat.le_of_ble_eq_true rfl⟩ ?_
    refine pw_cast (Cn := "SlugwireModel$Take") C dX10_saysNow_29 (List.mem_of_getElem? (i := 1149) (by decide +kernel)) (by rw [(hM.ta t (by omega) (by omega)).1]; exact kc_12) ?_
    refine pw_getR C dX10_saysNow_32 fl_X10_169 (hM.ta t (by omega) (by omega)).1 rfl (hM.ta t (by omega) (by omega)).2.1 ?_
    refine pw_iload_n C dX10_saysNow_35 rfl ?_
    refine pw_ialdE C dX10_saysNow_36 (hM.ta t (by omega) (by omega)).2.2.1 (by omega) ((hM.ta t (by omega) (by omega)).2.2.2.2 f (by omega) (by omega) (by omega)) ?_
    have b_36 := (hA.ta t (by omega)).v0 f (by omega) (by omega)
    refine pw_goto (tgt := 41) C dX10_saysNow_37 (by decide) ?_
    exact pw_iretE C hR dX10_saysNow_41 rfl rfl (rfl) (Nat.zero_le _) (Nat.zero_le _)

set_option maxHeartbeats 4000000 in
set_option maxRecDepth 100000 in
theorem m_isDropped {X : Xv} {G M : Mm} {Q : Int} {A : An} {D : Fn} {I : Int → Int} (hM : RM G M Q A D I) (hA : AB A) (hW : WF A) {l t : Int} (hl9 : 0 ≤ l ∧ l < A 0 0 2) (ht9 : 0 ≤ t ∧ t < A 0 0 1) : CT X yX10_isDropped prog_8_method_46_code 4 (some .boolean) 3 64 0 0 [vR Q, vR (D 5 l), vI t] G M (PE G M (bI (dr A l t))) := by
  refine CT.by (by decide +kernel) [1, 1, 1] ⟨cat_vR _, cat_vR _, cat_vI _, trivial⟩ (Nat.le_of_ble_eq_true rfl) (fun E hX C hR hIni => ?_)
  have hn := hA.n
  have hnS := hA.so.c
  refine pw_iload_n C dX10_isDropped_0 rfl ?_
  refine pw_iconst C dX10_isDropped_1 ?_
  refine pw_iadd C dX10_isDropped_2 ?_
  refine pw_istore_n C dX10_isDropped_3 (Nat.le_of_ble_eq_true rfl) rfl ?_
  suffices K_4 : ∀ (nn_4 : Nat) (k : Int) , (t + 1 ≤ k ∧ k ≤ A 0 0 1) → (fnd (fun k => (A (200 + k) 1 1 = 1 ∧ A (200 + k) 1 6 = t) ∧ hs A l k) k (A 0 0 1) = fnd (fun k => (A (200 + k) 1 1 = 1 ∧ A (200 + k) 1 6 = t) ∧ hs A l k) (t + 1) (A 0 0 1)) → A 0 0 1 - k < (nn_4 : Int) → PW E G M 0 0 4 [(0, 1, vR Q), (1, 1, vR (D 5 l)), (2, 1, vI t), (3, 1, vI k)] [] from pw_locs (by exact ⟨rfl, cat_vR _, rfl, cat_vR _, rfl, rfl, rfl, rfl, trivial⟩) (K_4 (A 0 0 1 - (t + 1) + 1 : Int).toNat (t + 1)  (by omega) (by first | exact rfl | omega) (by omega))
  intro nn_4
  induction nn_4 with
  | zero => intro k h1 hf h_m4; exact absurd h_m4 (by omega)
  | succ nn_4 ih_4 =>
    intro k h1 hf h_m4
    refine pw_iload_n C dX10_isDropped_4 rfl ?_
    refine pw_aload_n C dX10_isDropped_5 rfl ?_
    refine pw_getR C dX10_isDropped_6 fl_X10_19 hM.k rfl hM.r3 ?_
    refine pw_cVE C hX dX10_isDropped_9 ml_X10_33 mc_Jx4a65c_size_8abf5 (c_size hM.l3) kc_2 hM.l3.k rfl rfl ⟨Nat.le_of_ble_eq_true rfl, Nat.le_of_ble_eq_true rfl⟩ (Nat.le_of_ble_eq_true rfl) ⟨Nat.le_of_ble_eq_true rfl, Nat.le_of_ble_eq_true rfl⟩ ?_
    refine pw_icmp_ge (tgt := 71) C dX10_isDropped_12 (by decide) (by omega) (fun c_12 => ?_) (fun c_12 => ?_)
    · skip
      refine pw_iconst C dX10_isDropped_71 ?_
      exact pw_zretE C hR dX10_isDropped_72 (by omega) rfl rfl ((bI_f (fun q => by have := (dr_of hW ht9).mpr q; rw [← fnd_no (by omega) hf] at this; omega)).symm) (Nat.zero_le _) (Nat.zero_le _)
    · skip
      refine pw_aload_n C dX10_isDropped_15 rfl ?_
      refine pw_getR C dX10_isDropped_16 fl_X10_19 hM.k rfl hM.r3 ?_
      refine pw_iload_n C dX10_isDropped_19 rfl ?_
      refine pw_cVR C hX dX10_isDropped_20 ml_X10_45 mc_Jx4a65c_get_915e3 (hM.g3 (i := k) (by omega)) kc_2 hM.l3.k rfl rfl ⟨Nat.le_of_ble_eq_true rfl, Nat.le_of_ble_eq_true rfl⟩ (Nat.le_of_ble_eq_true rfl) ⟨Nat.le_of_ble_eq_true rfl, Nat.le_of_ble_eq_true rfl⟩ ?_
      refine pw_cast (Cn := "SlugwireModel$Take") C dX10_isDropped_23 (List.mem_of_getElem? (i := 1149) (by decide +kernel)) (by rw [(hM.ta k (by omega) (by omega)).1]; exact kc_12) ?_
      refine pw_getE C dX10_isDropped_26 fl_X10_191 rfl (hM.ta k (by omega) (by omega)).1 (hM.ta k (by omega) (by omega)).2.2.2.1.2.1 ?_
      have b_26 := (hA.ta k (by omega)).s1
      refine pw_iconst C dX10_isDropped_29 ?_
      refine pw_icmp_ne (tgt := 65) C dX10_isDropped_30 (by decide) (by omega) (fun c_30 => ?_) (fun c_30 => ?_)
      · skip
        refine pw_iinc C dX10_isDropped_65 rfl (Nat.le_of_ble_eq_true rfl) rfl ?_
        refine pw_goto (tgt := 4) C dX10_isDropped_68 (by decide) ?_
        exact pw_locs (by exact ⟨rfl, cat_vR _, rfl, cat_vR _, rfl, rfl, rfl, rfl, trivial⟩) (ih_4 (k + 1)  (by omega) (fnd_go (by omega) hf (fun q => c_30 q.1.1)) (by omega))
      · skip
        refine pw_aload_n C dX10_isDropped_33 rfl ?_
        refine pw_getR C dX10_isDropped_34 fl_X10_19 hM.k rfl hM.r3 ?_
        refine pw_iload_n C dX10_isDropped_37 rfl ?_
        refine pw_cVR C hX dX10_isDropped_38 ml_X10_45 mc_Jx4a65c_get_915e3 (hM.g3 (i := k) (by omega)) kc_2 hM.l3.k rfl rfl ⟨Nat.le_of_ble_eq_true rfl, Nat.le_of_ble_eq_true rfl⟩ (Nat.le_of_ble_eq_true rfl) ⟨Nat.le_of_ble_eq_true rfl, Nat.le_of_ble_eq_true rfl⟩ ?_
        refine pw_cast (Cn := "SlugwireModel$Take") C dX10_isDropped_41 (List.mem_of_getElem? (i := 1149) (by decide +kernel)) (by rw [(hM.ta k (by omega) (by omega)).1]; exact kc_12) ?_
        refine pw_getE C dX10_isDropped_44 fl_X10_235 rfl (hM.ta k (by omega) (by omega)).1 (hM.ta k (by omega) (by omega)).2.2.2.1.2.2.2.2.2.2.1 ?_
        have b_44 := (hA.ta k (by omega)).s6
        refine pw_iload_n C dX10_isDropped_47 rfl ?_
        refine pw_icmp_ne (tgt := 65) C dX10_isDropped_48 (by decide) (by omega) (fun c_48 => ?_) (fun c_48 => ?_)
        · skip
          refine pw_iinc C dX10_isDropped_65 rfl (Nat.le_of_ble_eq_true rfl) rfl ?_
          refine pw_goto (tgt := 4) C dX10_isDropped_68 (by decide) ?_
          exact pw_locs (by exact ⟨rfl, cat_vR _, rfl, cat_vR _, rfl, rfl, rfl, rfl, trivial⟩) (ih_4 (k + 1)  (by omega) (fnd_go (by omega) hf (fun q => c_48 q.1.2)) (by omega))
        · skip
          refine pw_aload_n C dX10_isDropped_51 rfl ?_
          refine pw_iload_n C dX10_isDropped_52 rfl ?_
          refine pw_aload_n C dX10_isDropped_53 rfl ?_
          refine pw_getE C dX10_isDropped_54 fl_X10_130 rfl hM.k hM.w ?_
          refine pw_cVE C hX dX10_isDropped_57 ml_X10_211 mc_X7_hasIt (m_hasIt (hM.li l (by omega) (by omega)) (hA.li l (by omega)) (t := k) (m := (A 0 0 3)) (by omega) (by omega)) kc_10 (hM.li l (by omega) (by omega)).1 rfl rfl ⟨Nat.le_of_ble_eq_true rfl, Nat.le_of_ble_eq_true rfl⟩ (Nat.le_of_ble_eq_true rfl) ⟨Nat.le_of_ble_eq_true rfl, Nat.le_of_ble_eq_true rfl⟩ ?_
          refine pw_ifB_eq (tgt := 65) C dX10_isDropped_60 (by decide) (fun c_60 => ?_) (fun c_60 => ?_)
          · skip
            refine pw_iinc C dX10_isDropped_65 rfl (Nat.le_of_ble_eq_true rfl) rfl ?_
            refine pw_goto (tgt := 4) C dX10_isDropped_68 (by decide) ?_
            exact pw_locs (by exact ⟨rfl, cat_vR _, rfl, cat_vR _, rfl, rfl, rfl, rfl, trivial⟩) (ih_4 (k + 1)  (by omega) (fnd_go (by omega) hf (fun q => c_60 ((hs_of hW hl9 (by omega)).mpr q.2))) (by omega))
          · skip
            refine pw_iconst C dX10_isDropped_63 ?_
            exact pw_zretE C hR dX10_isDropped_64 (by omega) rfl rfl ((bI_t ((dr_of hW ht9).mp (by rw [← fnd_at (by omega) hf ⟨⟨by omega, by omega⟩, (hs_of hW hl9 (by omega)).mp c_60⟩]; omega))).symm) (Nat.zero_le _) (Nat.zero_le _)

set_option maxHeartbeats 4000000 in
set_option maxRecDepth 100000 in
theorem m_stateNow {X : Xv} {G M : Mm} {Q : Int} {A : An} {D : Fn} {I : Int → Int} (hM : RM G M Q A D I) (hA : AB A) (hW : WF A) {l t : Int} (hl9 : 0 ≤ l ∧ l < A 0 0 2) (ht9 : 0 ≤ t ∧ t < A 0 0 1) : CT X yX10_stateNow prog_8_method_47_code 4 (some .int) 4 87 0 0 [vR Q, vI l, vI t] G M (PE G M (stt A l t)) := by
  refine CT.by (by decide +kernel) [1, 1, 1] ⟨cat_vR _, cat_vI _, cat_vI _, trivial⟩ (Nat.le_of_ble_eq_true rfl) (fun E hX C hR hIni => ?_)
  have hn := hA.n
  have hnS := hA.so.c
  have hw9 := (hW.l l t (by omega) (by omega) (by omega) (by omega)).1
  refine pw_aload_n C dX10_stateNow_0 rfl ?_
  refine pw_getR C dX10_stateNow_1 fl_X10_22 hM.k rfl hM.r4 ?_
  refine pw_iload_n C dX10_stateNow_4 rfl ?_
  refine pw_cVR C hX dX10_stateNow_5 ml_X10_45 mc_Jx4a65c_get_915e3 (hM.g4 (i := l) (by omega)) kc_2 hM.l4.k rfl rfl ⟨Nat.le_of_ble_eq_true rfl, Nat.le_of_ble_eq_true rfl⟩ (Nat.le_of_ble_eq_true rfl) ⟨Nat.le_of_ble_eq_true rfl, Nat.le_of_ble_eq_true rfl⟩ ?_
  refine pw_cast (Cn := "SlugwireModel$Line") C dX10_stateNow_8 (List.mem_of_getElem? (i := 1067) (by decide +kernel)) (by rw [(hM.li l (by omega) (by omega)).1]; exact kc_10) ?_
  refine pw_astore_n C dX10_stateNow_11 (Nat.le_of_ble_eq_true rfl) rfl ?_
  refine pw_aload_n C dX10_stateNow_12 rfl ?_
  refine pw_getR C dX10_stateNow_13 fl_X10_197 (hM.li l (by omega) (by omega)).1 rfl (hM.li l (by omega) (by omega)).2.1.1 ?_
  refine pw_iload_n C dX10_stateNow_16 rfl ?_
  refine pw_zaldE C dX10_stateNow_17 (hM.li l (by omega) (by omega)).2.2.1 (by omega) ((hM.li l (by omega) (by omega)).2.2.2.2.2.2 t (by omega) (by omega)).1 ?_
  refine pw_ifB_ne (tgt := 23) C dX10_stateNow_18 (by decide) (fun c_18 => ?_) (fun c_18 => ?_)
  · skip
    refine pw_aload_n C dX10_stateNow_23 rfl ?_
    refine pw_getR C dX10_stateNow_24 fl_X10_194 (hM.li l (by omega) (by omega)).1 rfl (hM.li l (by omega) (by omega)).2.1.2.2 ?_
    refine pw_iload_n C dX10_stateNow_27 rfl ?_
    refine pw_ialdE C dX10_stateNow_28 (hM.li l (by omega) (by omega)).2.2.2.2.1 (by omega) ((hM.li l (by omega) (by omega)).2.2.2.2.2.2 t (by omega) (by omega)).2.2 ?_
    have b_28 := (hA.li l (by omega)).v3 t (by omega) (by omega)
    refine pw_iconst C dX10_stateNow_29 ?_
    refine pw_icmp_ne (tgt := 62) C dX10_stateNow_30 (by decide) (by omega) (fun c_30 => ?_) (fun c_30 => ?_)
    · skip
      refine pw_aload_n C dX10_stateNow_62 rfl ?_
      refine pw_iload_n C dX10_stateNow_63 rfl ?_
      refine pw_aload_n C dX10_stateNow_64 rfl ?_
      refine pw_getE C dX10_stateNow_65 fl_X10_130 rfl hM.k hM.w ?_
      refine pw_cVE C hX dX10_stateNow_68 ml_X10_211 mc_X7_hasIt (m_hasIt (hM.li l (by omega) (by omega)) (hA.li l (by omega)) (t := t) (m := (A 0 0 3)) (by omega) (by omega)) kc_10 (hM.li l (by omega) (by omega)).1 rfl rfl ⟨Nat.le_of_ble_eq_true rfl, Nat.le_of_ble_eq_true rfl⟩ (Nat.le_of_ble_eq_true rfl) ⟨Nat.le_of_ble_eq_true rfl, Nat.le_of_ble_eq_true rfl⟩ ?_
      refine pw_ifB_ne (tgt := 78) C dX10_stateNow_71 (by decide) (fun c_71 => ?_) (fun c_71 => ?_)
      · skip
        refine pw_aload_n C dX10_stateNow_78 rfl ?_
        refine pw_aload_n C dX10_stateNow_79 rfl ?_
        refine pw_iload_n C dX10_stateNow_80 rfl ?_
        refine pw_cVE C hX dX10_stateNow_81 ml_X10_250 mc_X10_isDropped (m_isDropped hM hA hW (l := l) (t := t) (by omega) (by omega)) kc_13 hM.k rfl rfl ⟨Nat.le_of_ble_eq_true rfl, Nat.le_of_ble_eq_true rfl⟩ (Nat.le_of_ble_eq_true rfl) ⟨Nat.le_of_ble_eq_true rfl, Nat.le_of_ble_eq_true rfl⟩ ?_
        refine pw_ifB_eq (tgt := 91) C dX10_stateNow_84 (by decide) (fun c_84 => ?_) (fun c_84 => ?_)
        · skip
          refine pw_iconst C dX10_stateNow_91 ?_
          exact pw_iretE C hR dX10_stateNow_92 rfl rfl (by unfold stt; rw [if_neg (by omega)]; rw [if_neg (by omega)]; rw [if_neg (fun q => q ((hs_of hW hl9 (by omega)).mp c_71))]; rw [if_neg c_84]) (Nat.zero_le _) (Nat.zero_le _)
        · skip
          refine pw_iconst C dX10_stateNow_87 ?_
          refine pw_goto (tgt := 92) C dX10_stateNow_88 (by decide) ?_
          exact pw_iretE C hR dX10_stateNow_92 rfl rfl (by unfold stt; rw [if_neg (by omega)]; rw [if_neg (by omega)]; rw [if_neg (fun q => q ((hs_of hW hl9 (by omega)).mp c_71))]; rw [if_pos c_84]) (Nat.zero_le _) (Nat.zero_le _)
      · skip
        refine pw_iconst C dX10_stateNow_74 ?_
        refine pw_goto (tgt := 92) C dX10_stateNow_75 (by decide) ?_
        exact pw_iretE C hR dX10_stateNow_92 rfl rfl (by unfold stt; rw [if_neg (by omega)]; rw [if_neg (by omega)]; rw [if_pos (fun q => c_71 ((hs_of hW hl9 (by omega)).mpr q))]) (Nat.zero_le _) (Nat.zero_le _)
    · skip
      refine pw_aload_n C dX10_stateNow_33 rfl ?_
      refine pw_getR C dX10_stateNow_34 fl_X10_247 (hM.li l (by omega) (by omega)).1 rfl (hM.li l (by omega) (by omega)).2.1.2.1 ?_
      refine pw_iload_n C dX10_stateNow_37 rfl ?_
      refine pw_ialdE C dX10_stateNow_38 (hM.li l (by omega) (by omega)).2.2.2.1 (by omega) (((hM.li l (by omega) (by omega)).2.2.2.2.2.2 t (by omega) (by omega)).2.1 (by omega)) ?_
      have b_38 := (hA.li l (by omega)).v0 t (by omega) (by omega)
      refine pw_aload_n C dX10_stateNow_39 rfl ?_
      refine pw_getR C dX10_stateNow_40 fl_X10_19 hM.k rfl hM.r3 ?_
      refine pw_iload_n C dX10_stateNow_43 rfl ?_
      refine pw_cVR C hX dX10_stateNow_44 ml_X10_45 mc_Jx4a65c_get_915e3 (hM.g3 (i := t) (by omega)) kc_2 hM.l3.k rfl rfl ⟨Nat.le_of_ble_eq_true rfl, Nat.le_of_ble_eq_true rfl⟩ (Nat.le_of_ble_eq_true rfl) ⟨Nat.le_of_ble_eq_true rfl, Nat.le_of_ble_eq_true rfl⟩ ?_
      refine pw_cast (Cn := "SlugwireModel$Take") C dX10_stateNow_47 (List.mem_of_getElem? (i := 1149) (by decide +kernel)) (by rw [(hM.ta t (by omega) (by omega)).1]; exact kc_12) ?_
      refine pw_getE C dX10_stateNow_50 fl_X10_153 rfl (hM.ta t (by omega) (by omega)).1 (hM.ta t (by omega) (by omega)).2.2.2.1.2.2.2.2.1 ?_
      have b_50 := (hA.ta t (by omega)).s3
      refine pw_icmp_ne (tgt := 60) C dX10_stateNow_53 (by decide) (by omega) (fun c_53 => ?_) (fun c_53 => ?_)
      · skip
        refine pw_iconst C dX10_stateNow_60 ?_
        exact pw_iretE C hR dX10_stateNow_61 rfl rfl (by unfold stt; rw [if_neg (by omega)]; rw [if_pos (by omega)]; rw [if_neg c_53]) (Nat.zero_le _) (Nat.zero_le _)
      · skip
        refine pw_iconst C dX10_stateNow_56 ?_
        refine pw_goto (tgt := 61) C dX10_stateNow_57 (by decide) ?_
        exact pw_iretE C hR dX10_stateNow_61 rfl rfl (by unfold stt; rw [if_neg (by omega)]; rw [if_pos (by omega)]; rw [if_pos (by omega)]) (Nat.zero_le _) (Nat.zero_le _)
  · skip
    refine pw_iconst C dX10_stateNow_21 ?_
    exact pw_iretE C hR dX10_stateNow_22 rfl rfl (by unfold stt; rw [if_pos (by omega)]) (Nat.zero_le _) (Nat.zero_le _)

set_option maxHeartbeats 4000000 in
set_option maxRecDepth 100000 in
theorem m_tellsNow {X : Xv} {G M : Mm} {Q : Int} {A : An} {D : Fn} {I : Int → Int} (hM : RM G M Q A D I) (hA : AB A) (hW : WF A) {l s f : Int} (hl9 : 0 ≤ l ∧ l < A 0 0 2) (hs9 : 0 ≤ s ∧ s < A 0 0 0) (hf9 : 0 ≤ f ∧ f < 4) : CT X yX10_tellsNow prog_8_method_49_code 5 (some .int) 5 110 0 0 [vR Q, vI l, vI s, vI f] G M (PE G M (tld A l s f)) := by
  refine CT.by (by decide +kernel) [1, 1, 1, 1] ⟨cat_vR _, cat_vI _, cat_vI _, cat_vI _, trivial⟩ (Nat.le_of_ble_eq_true rfl) (fun E hX C hR hIni => ?_)
  have hn := hA.n
  have hnS := hA.so.c
  refine pw_aload_n C dX10_tellsNow_0 rfl ?_
  refine pw_getR C dX10_tellsNow_1 fl_X10_19 hM.k rfl hM.r3 ?_
  refine pw_cVE C hX dX10_tellsNow_4 ml_X10_33 mc_Jx4a65c_size_8abf5 (c_size hM.l3) kc_2 hM.l3.k rfl rfl ⟨Nat.le_of_ble_eq_true rfl, Nat.le_of_ble_eq_true rfl⟩ (Nat.le_of_ble_eq_true rfl) ⟨Nat.le_of_ble_eq_true rfl, Nat.le_of_ble_eq_true rfl⟩ ?_
  refine pw_iconst C dX10_tellsNow_7 ?_
  refine pw_isub C dX10_tellsNow_8 ?_
  refine pw_istore C dX10_tellsNow_9 (Nat.le_of_ble_eq_true rfl) rfl ?_
  suffices K_11 : ∀ (nn_11 : Nat) (t : Int) , (-1 ≤ t ∧ t < A 0 0 1) → (fnd (fun j => tp A l s f (A 0 0 1 - 1 - j)) (A 0 0 1 - 1 - t) (A 0 0 1) = tlI A l s f) → t + 1 < (nn_11 : Int) → PW E G M 0 0 11 [(0, 1, vR Q), (1, 1, vI l), (2, 1, vI s), (3, 1, vI f), (4, 1, vI t)] [] from pw_locs (by exact ⟨rfl, cat_vR _, rfl, rfl, rfl, rfl, rfl, rfl, rfl, rfl, trivial⟩) (K_11 (((A 0 0 1) - 1) + 1 + 1 : Int).toNat ((A 0 0 1) - 1)  (by omega) (by first | exact by rw [show A 0 0 1 - 1 - (A 0 0 1 - 1) = 0 by omega]; rfl | omega) (by omega))
  intro nn_11
  induction nn_11 with
  | zero => intro t h1 hf h_m11; exact absurd h_m11 (by omega)
  | succ nn_11 ih_11 =>
    intro t h1 hf h_m11
    refine pw_iload C dX10_tellsNow_11 rfl ?_
    refine pw_if_lt (tgt := 62) C dX10_tellsNow_13 (by decide) (by omega) (fun c_13 => ?_) (fun c_13 => ?_)
    · skip
      refine pw_iconst C dX10_tellsNow_62 ?_
      exact pw_iretE C hR dX10_tellsNow_63 rfl rfl (by have hg := fnd_no (by omega) hf; unfold tld; rw [if_neg (by omega)]) (Nat.zero_le _) (Nat.zero_le _)
    · skip
      refine pw_aload_n C dX10_tellsNow_16 rfl ?_
      refine pw_iload C dX10_tellsNow_17 rfl ?_
      refine pw_iload_n C dX10_tellsNow_19 rfl ?_
      refine pw_iload_n C dX10_tellsNow_20 rfl ?_
      refine pw_cVE C hX dX10_tellsNow_21 ml_X10_205 mc_X10_isWith (m_isWith hM hA hW (t := t) (s := s) (f := f) (by omega) (by omega) (by omega)) kc_13 hM.k rfl rfl ⟨Nat.le_of_ble_eq_true rfl, Nat.le_of_ble_eq_true rfl⟩ (Nat.le_of_ble_eq_true rfl) ⟨Nat.le_of_ble_eq_true rfl, Nat.le_of_ble_eq_true rfl⟩ ?_
      refine pw_ifB_eq (tgt := 56) C dX10_tellsNow_24 (by decide) (fun c_24 => ?_) (fun c_24 => ?_)
      · skip
        refine pw_iinc C dX10_tellsNow_56 rfl (Nat.le_of_ble_eq_true rfl) rfl ?_
        refine pw_goto (tgt := 11) C dX10_tellsNow_59 (by decide) ?_
        exact pw_locs (by exact ⟨rfl, cat_vR _, rfl, rfl, rfl, rfl, rfl, rfl, rfl, rfl, trivial⟩) (ih_11 (t + (-1))  (by omega) (by have hg := fnd_go (by omega) hf (by (try dsimp only); rw [show A 0 0 1 - 1 - (A 0 0 1 - 1 - t) = t by omega]; exact (fun q => c_24 q.1)); rw [show A 0 0 1 - 1 - t + 1 = A 0 0 1 - 1 - (t + (-1)) by omega] at hg; exact hg) (by omega))
      · skip
        have hv9 := c_24.2
        refine pw_aload_n C dX10_tellsNow_27 rfl ?_
        refine pw_iload_n C dX10_tellsNow_28 rfl ?_
        refine pw_iload C dX10_tellsNow_29 rfl ?_
        refine pw_cVE C hX dX10_tellsNow_31 ml_X10_254 mc_X10_stateNow (m_stateNow hM hA hW (l := l) (t := t) (by omega) (by omega)) kc_13 hM.k rfl rfl ⟨Nat.le_of_ble_eq_true rfl, Nat.le_of_ble_eq_true rfl⟩ (Nat.le_of_ble_eq_true rfl) ⟨Nat.le_of_ble_eq_true rfl, Nat.le_of_ble_eq_true rfl⟩ ?_
        have b_stt10 := stt_bd (A := A) (l := l) (t := t)
        refine pw_iconst C dX10_tellsNow_34 ?_
        refine pw_icmp_ne (tgt := 56) C dX10_tellsNow_35 (by decide) (by omega) (fun c_35 => ?_) (fun c_35 => ?_)
        · skip
          refine pw_iinc C dX10_tellsNow_56 rfl (Nat.le_of_ble_eq_true rfl) rfl ?_
          refine pw_goto (tgt := 11) C dX10_tellsNow_59 (by decide) ?_
          exact pw_locs (by exact ⟨rfl, cat_vR _, rfl, rfl, rfl, rfl, rfl, rfl, rfl, rfl, trivial⟩) (ih_11 (t + (-1))  (by omega) (by have hg := fnd_go (by omega) hf (by (try dsimp only); rw [show A 0 0 1 - 1 - (A 0 0 1 - 1 - t) = t by omega]; exact (fun q => c_35 (stt4.mpr q.2))); rw [show A 0 0 1 - 1 - t + 1 = A 0 0 1 - 1 - (t + (-1)) by omega] at hg; exact hg) (by omega))
        · skip
          refine pw_aload_n C dX10_tellsNow_38 rfl ?_
          refine pw_getR C dX10_tellsNow_39 fl_X10_19 hM.k rfl hM.r3 ?_
          refine pw_iload C dX10_tellsNow_42 rfl ?_
          refine pw_cVR C hX dX10_tellsNow_44 ml_X10_45 mc_Jx4a65c_get_915e3 (hM.g3 (i := t) (by omega)) kc_2 hM.l3.k rfl rfl ⟨Nat.le_of_ble_eq_true rfl, Nat.le_of_ble_eq_true rfl⟩ (Nat.le_of_ble_eq_true rfl) ⟨Nat.le_of_ble_eq_true rfl, Nat.le_of_ble_eq_true rfl⟩ ?_
          refine pw_cast (Cn := "SlugwireModel$Take") C dX10_tellsNow_47 (List.mem_of_getElem? (i := 1149) (by decide +kernel)) (by rw [(hM.ta t (by omega) (by omega)).1]; exact kc_12) ?_
          refine pw_getR C dX10_tellsNow_50 fl_X10_169 (hM.ta t (by omega) (by omega)).1 rfl (hM.ta t (by omega) (by omega)).2.1 ?_
          refine pw_iload_n C dX10_tellsNow_53 rfl ?_
          refine pw_ialdE C dX10_tellsNow_54 (hM.ta t (by omega) (by omega)).2.2.1 (by omega) ((hM.ta t (by omega) (by omega)).2.2.2.2 f (by omega) (by omega) (by omega)) ?_
          have b_54 := (hA.ta t (by omega)).v0 f (by omega) (by omega)
          exact pw_iretE C hR dX10_tellsNow_55 rfl rfl (by have hg := fnd_at (by omega) hf (by (try dsimp only); rw [show A 0 0 1 - 1 - (A 0 0 1 - 1 - t) = t by omega]; exact ⟨c_24, (stt4.mp (by omega)).1, (stt4.mp (by omega)).2⟩); unfold tld; rw [if_pos (by omega), ← hg, show A 0 0 1 - 1 - (A 0 0 1 - 1 - t) = t by omega]) (Nat.zero_le _) (Nat.zero_le _)

set_option maxHeartbeats 4000000 in
set_option maxRecDepth 100000 in
theorem m_told0 {X : Xv} {G M : Mm} {Q : Int} {A : An} {D : Fn} {I : Int → Int} (hM : RM G M Q A D I) (hA : AB A) (hW : WF A) {l : Int} (hl9 : 0 ≤ l ∧ l < A 0 0 2) : CT X yX10_told prog_8_method_51_code 8 (some .int) 6 134 0 0 [vR Q, vI l, vI 0] G M (PE G M (cTo A l)) := by
  refine CT.by (by decide +kernel) [1, 1, 1] ⟨cat_vR _, cat_vI _, cat_vI _, trivial⟩ (Nat.le_of_ble_eq_true rfl) (fun E hX C hR hIni => ?_)
  have hn := hA.n
  have hnS := hA.so.c
  refine pw_iconst C dX10_told_0 ?_
  refine pw_istore_n C dX10_told_1 (Nat.le_of_ble_eq_true rfl) rfl ?_
  refine pw_iconst C dX10_told_2 ?_
  refine pw_istore C dX10_told_3 (Nat.le_of_ble_eq_true rfl) rfl ?_
  suffices K_5 : ∀ (nn_5 : Nat) (c s : Int) , (0 ≤ s ∧ s ≤ A 0 0 0) → (fr (fun s c => fr (fun f c => if ¬ tld A l s f = -1 then c + 1 else c) 0 4 c) s (A 0 0 0) c = cTo A l) → A 0 0 0 - s < (nn_5 : Int) → PW E G M 0 0 5 [(0, 1, vR Q), (1, 1, vI l), (2, 1, vI 0), (3, 1, vI c), (4, 1, vI s)] [] from pw_locs (by exact ⟨rfl, cat_vR _, rfl, rfl, rfl, rfl, rfl, rfl, rfl, rfl, trivial⟩) (K_5 (A 0 0 0 - 0 + 1 : Int).toNat 0 0  (by omega) (by first | exact rfl | omega) (by omega))
  intro nn_5
  induction nn_5 with
  | zero => intro c s h1 hf h_m5; exact absurd h_m5 (by omega)
  | succ nn_5 ih_5 =>
    intro c s h1 hf h_m5
    refine pw_iload C dX10_told_5 rfl ?_
    refine pw_aload_n C dX10_told_7 rfl ?_
    refine pw_getR C dX10_told_8 fl_X10_16 hM.k rfl hM.r2 ?_
    refine pw_cVE C hX dX10_told_11 ml_X10_33 mc_Jx4a65c_size_8abf5 (c_size hM.l2) kc_2 hM.l2.k rfl rfl ⟨Nat.le_of_ble_eq_true rfl, Nat.le_of_ble_eq_true rfl⟩ (Nat.le_of_ble_eq_true rfl) ⟨Nat.le_of_ble_eq_true rfl, Nat.le_of_ble_eq_true rfl⟩ ?_
    refine pw_icmp_ge (tgt := 106) C dX10_told_14 (by decide) (by omega) (fun c_14 => ?_) (fun c_14 => ?_)
    · skip
      refine pw_iload_n C dX10_told_106 rfl ?_
      exact pw_iretE C hR dX10_told_107 rfl rfl (fr_done (by omega) hf) (Nat.zero_le _) (Nat.zero_le _)
    · skip
      refine pw_iconst C dX10_told_17 ?_
      refine pw_istore C dX10_told_18 (Nat.le_of_ble_eq_true rfl) rfl ?_
      suffices K_20 : ∀ (nn_20 : Nat) (c2 f : Int) , (0 ≤ f ∧ f ≤ 4) → (fr (fun f c => if ¬ tld A l s f = -1 then c + 1 else c) f 4 c2 = fr (fun f c => if ¬ tld A l s f = -1 then c + 1 else c) 0 4 c) → 4 - f < (nn_20 : Int) → PW E G M 0 0 20 [(0, 1, vR Q), (1, 1, vI l), (2, 1, vI 0), (3, 1, vI c2), (4, 1, vI s), (5, 1, vI f)] [] from pw_locs (by exact ⟨rfl, cat_vR _, rfl, rfl, rfl, rfl, rfl, rfl, rfl, rfl, rfl, rfl, trivial⟩) (K_20 (4 - 0 + 1 : Int).toNat c 0  (by omega) (by first | exact rfl | omega) (by omega))
      intro nn_20
      induction nn_20 with
      | zero => intro c2 f h2 hf2 h_m20; exact absurd h_m20 (by omega)
      | succ nn_20 ih_20 =>
        intro c2 f h2 hf2 h_m20
        refine pw_iload C dX10_told_20 rfl ?_
        refine pw_iconst C dX10_told_22 ?_
        refine pw_icmp_ge (tgt := 100) C dX10_told_23 (by decide) (by omega) (fun c_23 => ?_) (fun c_23 => ?_)
        · skip
          refine pw_iinc C dX10_told_100 rfl (Nat.le_of_ble_eq_true rfl) rfl ?_
          refine pw_goto (tgt := 5) C dX10_told_103 (by decide) ?_
          exact pw_locs (by exact ⟨rfl, cat_vR _, rfl, rfl, rfl, rfl, rfl, rfl, rfl, rfl, trivial⟩) (ih_5 c2 (s + 1)  (by omega) (fr_go (by omega) hf (fr_done (by omega) hf2).symm) (by omega))
        · skip
          refine pw_aload_n C dX10_told_26 rfl ?_
          refine pw_iload_n C dX10_told_27 rfl ?_
          refine pw_iload C dX10_told_28 rfl ?_
          refine pw_iload C dX10_told_30 rfl ?_
          refine pw_cVE C hX dX10_told_32 ml_X10_257 mc_X10_tellsNow (m_tellsNow hM hA hW (l := l) (s := s) (f := f) (by omega) (by omega) (by omega)) kc_13 hM.k rfl rfl ⟨Nat.le_of_ble_eq_true rfl, Nat.le_of_ble_eq_true rfl⟩ (Nat.le_of_ble_eq_true rfl) ⟨Nat.le_of_ble_eq_true rfl, Nat.le_of_ble_eq_true rfl⟩ ?_
          have b_tld11 := tld_bd (l := l) (s := s) (f := f) hA (by omega)
          refine pw_istore C dX10_told_35 (Nat.le_of_ble_eq_true rfl) rfl ?_
          refine pw_iload C dX10_told_37 rfl ?_
          refine pw_iconst C dX10_told_39 ?_
          refine pw_icmp_ne (tgt := 46) C dX10_told_40 (by decide) (by omega) (fun c_40 => ?_) (fun c_40 => ?_)
          · skip
            refine pw_iload_n C dX10_told_46 rfl ?_
            refine pw_ifL_eq (tgt := 65) C dX10_told_47 (by decide) rfl ?_
            refine pw_iload C dX10_told_65 rfl ?_
            refine pw_istore C dX10_told_67 (Nat.le_of_ble_eq_true rfl) rfl ?_
            refine pw_iload_n C dX10_told_69 rfl ?_
            refine pw_iload_n C dX10_told_70 rfl ?_
            refine pw_ifL_eq (tgt := 87) C dX10_told_71 (by decide) rfl ?_
            refine pw_iconst C dX10_told_87 ?_
            refine pw_goto (tgt := 92) C dX10_told_88 (by decide) ?_
            refine pw_iadd C dX10_told_92 ?_
            refine pw_istore_n C dX10_told_93 (Nat.le_of_ble_eq_true rfl) rfl ?_
            refine pw_iinc C dX10_told_94 rfl (Nat.le_of_ble_eq_true rfl) rfl ?_
            refine pw_goto (tgt := 20) C dX10_told_97 (by decide) ?_
            exact pw_locs (by exact ⟨rfl, cat_vR _, rfl, rfl, rfl, rfl, rfl, rfl, rfl, rfl, rfl, rfl, trivial⟩) (ih_20 (c2 + 1) (f + 1)  (by omega) (fr_go (by omega) hf2 (by (try dsimp only); exact if_pos c_40)) (by omega))
          · skip
            refine pw_goto (tgt := 94) C dX10_told_43 (by decide) ?_
            refine pw_iinc C dX10_told_94 rfl (Nat.le_of_ble_eq_true rfl) rfl ?_
            refine pw_goto (tgt := 20) C dX10_told_97 (by decide) ?_
            exact pw_locs (by exact ⟨rfl, cat_vR _, rfl, rfl, rfl, rfl, rfl, rfl, rfl, rfl, rfl, rfl, trivial⟩) (ih_20 c2 (f + 1)  (by omega) (fr_go (by omega) hf2 (by (try dsimp only); exact if_neg (fun q => q c_40))) (by omega))

set_option maxHeartbeats 4000000 in
set_option maxRecDepth 100000 in
theorem m_told1 {X : Xv} {G M : Mm} {Q : Int} {A : An} {D : Fn} {I : Int → Int} (hM : RM G M Q A D I) (hA : AB A) (hW : WF A) {l : Int} (hl9 : 0 ≤ l ∧ l < A 0 0 2) : CT X yX10_told prog_8_method_51_code 8 (some .int) 7 158 0 0 [vR Q, vI l, vI 1] G M (PE G M (cWr A l)) := by
  refine CT.by (by decide +kernel) [1, 1, 1] ⟨cat_vR _, cat_vI _, cat_vI _, trivial⟩ (Nat.le_of_ble_eq_true rfl) (fun E hX C hR hIni => ?_)
  have hn := hA.n
  have hnS := hA.so.c
  refine pw_iconst C dX10_told_0 ?_
  refine pw_istore_n C dX10_told_1 (Nat.le_of_ble_eq_true rfl) rfl ?_
  refine pw_iconst C dX10_told_2 ?_
  refine pw_istore C dX10_told_3 (Nat.le_of_ble_eq_true rfl) rfl ?_
  suffices K_5 : ∀ (nn_5 : Nat) (c s : Int) , (0 ≤ s ∧ s ≤ A 0 0 0) → (fr (fun s c => fr (fun f c => if wrg A l s f then c + 1 else c) 0 4 c) s (A 0 0 0) c = cWr A l) → A 0 0 0 - s < (nn_5 : Int) → PW E G M 0 0 5 [(0, 1, vR Q), (1, 1, vI l), (2, 1, vI 1), (3, 1, vI c), (4, 1, vI s)] [] from pw_locs (by exact ⟨rfl, cat_vR _, rfl, rfl, rfl, rfl, rfl, rfl, rfl, rfl, trivial⟩) (K_5 (A 0 0 0 - 0 + 1 : Int).toNat 0 0  (by omega) (by first | exact rfl | omega) (by omega))
  intro nn_5
  induction nn_5 with
  | zero => intro c s h1 hf h_m5; exact absurd h_m5 (by omega)
  | succ nn_5 ih_5 =>
    intro c s h1 hf h_m5
    refine pw_iload C dX10_told_5 rfl ?_
    refine pw_aload_n C dX10_told_7 rfl ?_
    refine pw_getR C dX10_told_8 fl_X10_16 hM.k rfl hM.r2 ?_
    refine pw_cVE C hX dX10_told_11 ml_X10_33 mc_Jx4a65c_size_8abf5 (c_size hM.l2) kc_2 hM.l2.k rfl rfl ⟨Nat.le_of_ble_eq_true rfl, Nat.le_of_ble_eq_true rfl⟩ (Nat.le_of_ble_eq_true rfl) ⟨Nat.le_of_ble_eq_true rfl, Nat.le_of_ble_eq_true rfl⟩ ?_
    refine pw_icmp_ge (tgt := 106) C dX10_told_14 (by decide) (by omega) (fun c_14 => ?_) (fun c_14 => ?_)
    · skip
      refine pw_iload_n C dX10_told_106 rfl ?_
      exact pw_iretE C hR dX10_told_107 rfl rfl (fr_done (by omega) hf) (Nat.zero_le _) (Nat.zero_le _)
    · skip
      refine pw_iconst C dX10_told_17 ?_
      refine pw_istore C dX10_told_18 (Nat.le_of_ble_eq_true rfl) rfl ?_
      suffices K_20 : ∀ (nn_20 : Nat) (c2 f : Int) , (0 ≤ f ∧ f ≤ 4) → (fr (fun f c => if wrg A l s f then c + 1 else c) f 4 c2 = fr (fun f c => if wrg A l s f then c + 1 else c) 0 4 c) → 4 - f < (nn_20 : Int) → PW E G M 0 0 20 [(0, 1, vR Q), (1, 1, vI l), (2, 1, vI 1), (3, 1, vI c2), (4, 1, vI s), (5, 1, vI f)] [] from pw_locs (by exact ⟨rfl, cat_vR _, rfl, rfl, rfl, rfl, rfl, rfl, rfl, rfl, rfl, rfl, trivial⟩) (K_20 (4 - 0 + 1 : Int).toNat c 0  (by omega) (by first | exact rfl | omega) (by omega))
      intro nn_20
      induction nn_20 with
      | zero => intro c2 f h2 hf2 h_m20; exact absurd h_m20 (by omega)
      | succ nn_20 ih_20 =>
        intro c2 f h2 hf2 h_m20
        refine pw_iload C dX10_told_20 rfl ?_
        refine pw_iconst C dX10_told_22 ?_
        refine pw_icmp_ge (tgt := 100) C dX10_told_23 (by decide) (by omega) (fun c_23 => ?_) (fun c_23 => ?_)
        · skip
          refine pw_iinc C dX10_told_100 rfl (Nat.le_of_ble_eq_true rfl) rfl ?_
          refine pw_goto (tgt := 5) C dX10_told_103 (by decide) ?_
          exact pw_locs (by exact ⟨rfl, cat_vR _, rfl, rfl, rfl, rfl, rfl, rfl, rfl, rfl, trivial⟩) (ih_5 c2 (s + 1)  (by omega) (fr_go (by omega) hf (fr_done (by omega) hf2).symm) (by omega))
        · skip
          refine pw_aload_n C dX10_told_26 rfl ?_
          refine pw_iload_n C dX10_told_27 rfl ?_
          refine pw_iload C dX10_told_28 rfl ?_
          refine pw_iload C dX10_told_30 rfl ?_
          refine pw_cVE C hX dX10_told_32 ml_X10_257 mc_X10_tellsNow (m_tellsNow hM hA hW (l := l) (s := s) (f := f) (by omega) (by omega) (by omega)) kc_13 hM.k rfl rfl ⟨Nat.le_of_ble_eq_true rfl, Nat.le_of_ble_eq_true rfl⟩ (Nat.le_of_ble_eq_true rfl) ⟨Nat.le_of_ble_eq_true rfl, Nat.le_of_ble_eq_true rfl⟩ ?_
          have b_tld12 := tld_bd (l := l) (s := s) (f := f) hA (by omega)
          refine pw_istore C dX10_told_35 (Nat.le_of_ble_eq_true rfl) rfl ?_
          refine pw_iload C dX10_told_37 rfl ?_
          refine pw_iconst C dX10_told_39 ?_
          refine pw_icmp_ne (tgt := 46) C dX10_told_40 (by decide) (by omega) (fun c_40 => ?_) (fun c_40 => ?_)
          · skip
            refine pw_iload_n C dX10_told_46 rfl ?_
            refine pw_ifL_eqn (tgt := 65) C dX10_told_47 (by decide) rfl ?_
            refine pw_aload_n C dX10_told_50 rfl ?_
            refine pw_aload_n C dX10_told_51 rfl ?_
            refine pw_iload C dX10_told_52 rfl ?_
            refine pw_iload C dX10_told_54 rfl ?_
            refine pw_cVR C hX dX10_told_56 ml_X10_123 mc_X10_fact (m_fact hM hA (s := s) (f := f) (by omega) (by omega)) kc_13 hM.k rfl rfl ⟨Nat.le_of_ble_eq_true rfl, Nat.le_of_ble_eq_true rfl⟩ (Nat.le_of_ble_eq_true rfl) ⟨Nat.le_of_ble_eq_true rfl, Nat.le_of_ble_eq_true rfl⟩ ?_
            refine pw_cVE C hX dX10_told_59 ml_X10_96 mc_X10_truth (m_truth hM hA (hM.fa (s * 4 + f) (by omega) (by omega)) (hA.fa (s * 4 + f) (by omega)).f0) kc_13 hM.k rfl rfl ⟨Nat.le_of_ble_eq_true rfl, Nat.le_of_ble_eq_true rfl⟩ (Nat.le_of_ble_eq_true rfl) ⟨Nat.le_of_ble_eq_true rfl, Nat.le_of_ble_eq_true rfl⟩ ?_
            have b_mst13 := mst_bd (S := A 10) (F := A (100 + (s * 4 + f))) (z := 1)
            have ht9 := (hW.f (s * 4 + f) (by omega) (by omega)).1
            refine pw_goto (tgt := 67) C dX10_told_62 (by decide) ?_
            refine pw_istore C dX10_told_67 (Nat.le_of_ble_eq_true rfl) rfl ?_
            refine pw_iload_n C dX10_told_69 rfl ?_
            refine pw_iload_n C dX10_told_70 rfl ?_
            refine pw_ifL_eqn (tgt := 87) C dX10_told_71 (by decide) rfl ?_
            refine pw_iload C dX10_told_74 rfl ?_
            refine pw_iconst C dX10_told_76 ?_
            refine pw_icmp_eq (tgt := 91) C dX10_told_77 (by decide) (by omega) (fun c_77 => ?_) (fun c_77 => ?_)
            · skip
              refine pw_iconst C dX10_told_91 ?_
              refine pw_iadd C dX10_told_92 ?_
              refine pw_istore_n C dX10_told_93 (Nat.le_of_ble_eq_true rfl) rfl ?_
              refine pw_iinc C dX10_told_94 rfl (Nat.le_of_ble_eq_true rfl) rfl ?_
              refine pw_goto (tgt := 20) C dX10_told_97 (by decide) ?_
              exact pw_locs (by exact ⟨rfl, cat_vR _, rfl, rfl, rfl, rfl, rfl, rfl, rfl, rfl, rfl, rfl, trivial⟩) (ih_20 (c2 + 0) (f + 1)  (by omega) (fr_go (by omega) hf2 (by (try dsimp only); rw [if_neg (show ¬ wrg A l s f from fun q => q.2.1 (by omega))]; omega)) (by omega))
            · skip
              refine pw_iload C dX10_told_80 rfl ?_
              refine pw_iload C dX10_told_82 rfl ?_
              refine pw_icmp_eq (tgt := 91) C dX10_told_84 (by decide) (by omega) (fun c_84 => ?_) (fun c_84 => ?_)
              · skip
                refine pw_iconst C dX10_told_91 ?_
                refine pw_iadd C dX10_told_92 ?_
                refine pw_istore_n C dX10_told_93 (Nat.le_of_ble_eq_true rfl) rfl ?_
                refine pw_iinc C dX10_told_94 rfl (Nat.le_of_ble_eq_true rfl) rfl ?_
                refine pw_goto (tgt := 20) C dX10_told_97 (by decide) ?_
                exact pw_locs (by exact ⟨rfl, cat_vR _, rfl, rfl, rfl, rfl, rfl, rfl, rfl, rfl, rfl, rfl, trivial⟩) (ih_20 (c2 + 0) (f + 1)  (by omega) (fr_go (by omega) hf2 (by (try dsimp only); rw [if_neg (show ¬ wrg A l s f from fun q => q.2.2 (by omega))]; omega)) (by omega))
              · skip
                refine pw_iconst C dX10_told_87 ?_
                refine pw_goto (tgt := 92) C dX10_told_88 (by decide) ?_
                refine pw_iadd C dX10_told_92 ?_
                refine pw_istore_n C dX10_told_93 (Nat.le_of_ble_eq_true rfl) rfl ?_
                refine pw_iinc C dX10_told_94 rfl (Nat.le_of_ble_eq_true rfl) rfl ?_
                refine pw_goto (tgt := 20) C dX10_told_97 (by decide) ?_
                exact pw_locs (by exact ⟨rfl, cat_vR _, rfl, rfl, rfl, rfl, rfl, rfl, rfl, rfl, rfl, rfl, trivial⟩) (ih_20 (c2 + 1) (f + 1)  (by omega) (fr_go (by omega) hf2 (by (try dsimp only); exact if_pos ⟨c_40, by omega, by omega⟩)) (by omega))
          · skip
            refine pw_goto (tgt := 94) C dX10_told_43 (by decide) ?_
            refine pw_iinc C dX10_told_94 rfl (Nat.le_of_ble_eq_true rfl) rfl ?_
            refine pw_goto (tgt := 20) C dX10_told_97 (by decide) ?_
            exact pw_locs (by exact ⟨rfl, cat_vR _, rfl, rfl, rfl, rfl, rfl, rfl, rfl, rfl, rfl, rfl, trivial⟩) (ih_20 c2 (f + 1)  (by omega) (fr_go (by omega) hf2 (by (try dsimp only); exact if_neg (fun q => q.1 c_40))) (by omega))

set_option maxHeartbeats 4000000 in
set_option maxRecDepth 100000 in
theorem m_waiting0 {X : Xv} {G M : Mm} {Q : Int} {A : An} {D : Fn} {I : Int → Int} (hM : RM G M Q A D I) (hA : AB A) (hW : WF A) {l : Int} (hl9 : 0 ≤ l ∧ l < A 0 0 2) : CT X yX10_waiting prog_8_method_52_code 5 (some .int) 1 21 0 0 [vR Q, vR (D 5 l), vI 0] G M (PE G M (cW (A (20 + l)))) := by
  refine CT.by (by decide +kernel) [1, 1, 1] ⟨cat_vR _, cat_vR _, cat_vI _, trivial⟩ (Nat.le_of_ble_eq_true rfl) (fun E hX C hR hIni => ?_)
  have hn := hA.n
  have hnS := hA.so.c
  refine pw_iconst C dX10_waiting_0 ?_
  refine pw_istore_n C dX10_waiting_1 (Nat.le_of_ble_eq_true rfl) rfl ?_
  refine pw_iconst C dX10_waiting_2 ?_
  refine pw_istore C dX10_waiting_3 (Nat.le_of_ble_eq_true rfl) rfl ?_
  suffices K_5 : ∀ (nn_5 : Nat) (c t : Int) , (0 ≤ t ∧ t ≤ A 0 0 1) → (fr (fun t c => if ¬ A (20 + l) 0 t = -1 ∧ A (20 + l) 3 t = -1 then c + 1 else c) t (A 0 0 1) c = fr (fun t c => if ¬ A (20 + l) 0 t = -1 ∧ A (20 + l) 3 t = -1 then c + 1 else c) 0 (A 0 0 1) 0) → A 0 0 1 - t < (nn_5 : Int) → PW E G M 0 0 5 [(0, 1, vR Q), (1, 1, vR (D 5 l)), (2, 1, vI 0), (3, 1, vI c), (4, 1, vI t)] [] from pw_locs (by exact ⟨rfl, cat_vR _, rfl, cat_vR _, rfl, rfl, rfl, rfl, rfl, rfl, trivial⟩) (K_5 (A 0 0 1 - 0 + 1 : Int).toNat 0 0  (by omega) (by first | exact rfl | omega) (by omega))
  intro nn_5
  induction nn_5 with
  | zero => intro c t h1 hf h_m5; exact absurd h_m5 (by omega)
  | succ nn_5 ih_5 =>
    intro c t h1 hf h_m5
    refine pw_iload C dX10_waiting_5 rfl ?_
    refine pw_aload_n C dX10_waiting_7 rfl ?_
    refine pw_getR C dX10_waiting_8 fl_X10_19 hM.k rfl hM.r3 ?_
    refine pw_cVE C hX dX10_waiting_11 ml_X10_33 mc_Jx4a65c_size_8abf5 (c_size hM.l3) kc_2 hM.l3.k rfl rfl ⟨Nat.le_of_ble_eq_true rfl, Nat.le_of_ble_eq_true rfl⟩ (Nat.le_of_ble_eq_true rfl) ⟨Nat.le_of_ble_eq_true rfl, Nat.le_of_ble_eq_true rfl⟩ ?_
    refine pw_icmp_ge (tgt := 50) C dX10_waiting_14 (by decide) (by omega) (fun c_14 => ?_) (fun c_14 => ?_)
    · skip
      refine pw_iload_n C dX10_waiting_50 rfl ?_
      exact pw_iretE C hR dX10_waiting_51 rfl rfl ((fr_done (by omega) hf).trans (cW_of hA hW hl9).1.symm) (Nat.zero_le _) (Nat.zero_le _)
    · skip
      refine pw_aload_n C dX10_waiting_17 rfl ?_
      refine pw_iload C dX10_waiting_18 rfl ?_
      refine pw_cVE C hX dX10_waiting_20 ml_X10_260 mc_X7_isWaiting (m_isWaiting (hM.li l (by omega) (by omega)) (hA.li l (by omega)) (t := t) (by omega)) kc_10 (hM.li l (by omega) (by omega)).1 rfl rfl ⟨Nat.le_of_ble_eq_true rfl, Nat.le_of_ble_eq_true rfl⟩ (Nat.le_of_ble_eq_true rfl) ⟨Nat.le_of_ble_eq_true rfl, Nat.le_of_ble_eq_true rfl⟩ ?_
      refine pw_ifB_eq (tgt := 44) C dX10_waiting_23 (by decide) (fun c_23 => ?_) (fun c_23 => ?_)
      · skip
        refine pw_iinc C dX10_waiting_44 rfl (Nat.le_of_ble_eq_true rfl) rfl ?_
        refine pw_goto (tgt := 5) C dX10_waiting_47 (by decide) ?_
        exact pw_locs (by exact ⟨rfl, cat_vR _, rfl, cat_vR _, rfl, rfl, rfl, rfl, rfl, rfl, trivial⟩) (ih_5 c (t + 1)  (by omega) (fr_go (by omega) hf (by (try dsimp only); rw [if_neg c_23])) (by omega))
      · skip
        refine pw_iload_n C dX10_waiting_26 rfl ?_
        refine pw_iload_n C dX10_waiting_27 rfl ?_
        refine pw_ifL_eq (tgt := 41) C dX10_waiting_28 (by decide) rfl ?_
        refine pw_iconst C dX10_waiting_41 ?_
        refine pw_iadd C dX10_waiting_42 ?_
        refine pw_istore_n C dX10_waiting_43 (Nat.le_of_ble_eq_true rfl) rfl ?_
        refine pw_iinc C dX10_waiting_44 rfl (Nat.le_of_ble_eq_true rfl) rfl ?_
        refine pw_goto (tgt := 5) C dX10_waiting_47 (by decide) ?_
        exact pw_locs (by exact ⟨rfl, cat_vR _, rfl, cat_vR _, rfl, rfl, rfl, rfl, rfl, rfl, trivial⟩) (ih_5 (c + 1) (t + 1)  (by omega) (fr_go (by omega) hf (by (try dsimp only); rw [if_pos c_23])) (by omega))

set_option maxHeartbeats 4000000 in
set_option maxRecDepth 100000 in
theorem m_waiting1 {X : Xv} {G M : Mm} {Q : Int} {A : An} {D : Fn} {I : Int → Int} (hM : RM G M Q A D I) (hA : AB A) (hW : WF A) {l : Int} (hl9 : 0 ≤ l ∧ l < A 0 0 2) : CT X yX10_waiting prog_8_method_52_code 5 (some .int) 1 21 0 0 [vR Q, vR (D 5 l), vI 1] G M (PE G M (cL (A (20 + l)))) := by
  refine CT.by (by decide +kernel) [1, 1, 1] ⟨cat_vR _, cat_vR _, cat_vI _, trivial⟩ (Nat.le_of_ble_eq_true rfl) (fun E hX C hR hIni => ?_)
  have hn := hA.n
  have hnS := hA.so.c
  refine pw_iconst C dX10_waiting_0 ?_
  refine pw_istore_n C dX10_waiting_1 (Nat.le_of_ble_eq_true rfl) rfl ?_
  refine pw_iconst C dX10_waiting_2 ?_
  refine pw_istore C dX10_waiting_3 (Nat.le_of_ble_eq_true rfl) rfl ?_
  suffices K_5 : ∀ (nn_5 : Nat) (c t : Int) , (0 ≤ t ∧ t ≤ A 0 0 1) → (fr (fun t c => if ¬ A (20 + l) 0 t = -1 ∧ A (20 + l) 3 t = -1 then c + A (20 + l) 0 t else c) t (A 0 0 1) c = fr (fun t c => if ¬ A (20 + l) 0 t = -1 ∧ A (20 + l) 3 t = -1 then c + A (20 + l) 0 t else c) 0 (A 0 0 1) 0) → A 0 0 1 - t < (nn_5 : Int) → PW E G M 0 0 5 [(0, 1, vR Q), (1, 1, vR (D 5 l)), (2, 1, vI 1), (3, 1, vI c), (4, 1, vI t)] [] from pw_locs (by exact ⟨rfl, cat_vR _, rfl, cat_vR _, rfl, rfl, rfl, rfl, rfl, rfl, trivial⟩) (K_5 (A 0 0 1 - 0 + 1 : Int).toNat 0 0  (by omega) (by first | exact rfl | omega) (by omega))
  intro nn_5
  induction nn_5 with
  | zero => intro c t h1 hf h_m5; exact absurd h_m5 (by omega)
  | succ nn_5 ih_5 =>
    intro c t h1 hf h_m5
    refine pw_iload C dX10_waiting_5 rfl ?_
    refine pw_aload_n C dX10_waiting_7 rfl ?_
    refine pw_getR C dX10_waiting_8 fl_X10_19 hM.k rfl hM.r3 ?_
    refine pw_cVE C hX dX10_waiting_11 ml_X10_33 mc_Jx4a65c_size_8abf5 (c_size hM.l3) kc_2 hM.l3.k rfl rfl ⟨Nat.le_of_ble_eq_true rfl, Nat.le_of_ble_eq_true rfl⟩ (Nat.le_of_ble_eq_true rfl) ⟨Nat.le_of_ble_eq_true rfl, Nat.le_of_ble_eq_true rfl⟩ ?_
    refine pw_icmp_ge (tgt := 50) C dX10_waiting_14 (by decide) (by omega) (fun c_14 => ?_) (fun c_14 => ?_)
    · skip
      refine pw_iload_n C dX10_waiting_50 rfl ?_
      exact pw_iretE C hR dX10_waiting_51 rfl rfl ((fr_done (by omega) hf).trans (cW_of hA hW hl9).2.symm) (Nat.zero_le _) (Nat.zero_le _)
    · skip
      refine pw_aload_n C dX10_waiting_17 rfl ?_
      refine pw_iload C dX10_waiting_18 rfl ?_
      refine pw_cVE C hX dX10_waiting_20 ml_X10_260 mc_X7_isWaiting (m_isWaiting (hM.li l (by omega) (by omega)) (hA.li l (by omega)) (t := t) (by omega)) kc_10 (hM.li l (by omega) (by omega)).1 rfl rfl ⟨Nat.le_of_ble_eq_true rfl, Nat.le_of_ble_eq_true rfl⟩ (Nat.le_of_ble_eq_true rfl) ⟨Nat.le_of_ble_eq_true rfl, Nat.le_of_ble_eq_true rfl⟩ ?_
      refine pw_ifB_eq (tgt := 44) C dX10_waiting_23 (by decide) (fun c_23 => ?_) (fun c_23 => ?_)
      · skip
        refine pw_iinc C dX10_waiting_44 rfl (Nat.le_of_ble_eq_true rfl) rfl ?_
        refine pw_goto (tgt := 5) C dX10_waiting_47 (by decide) ?_
        exact pw_locs (by exact ⟨rfl, cat_vR _, rfl, cat_vR _, rfl, rfl, rfl, rfl, rfl, rfl, trivial⟩) (ih_5 c (t + 1)  (by omega) (fr_go (by omega) hf (by (try dsimp only); rw [if_neg c_23])) (by omega))
      · skip
        refine pw_iload_n C dX10_waiting_26 rfl ?_
        refine pw_iload_n C dX10_waiting_27 rfl ?_
        refine pw_ifL_eqn (tgt := 41) C dX10_waiting_28 (by decide) rfl ?_
        refine pw_aload_n C dX10_waiting_31 rfl ?_
        refine pw_getR C dX10_waiting_32 fl_X10_247 (hM.li l (by omega) (by omega)).1 rfl (hM.li l (by omega) (by omega)).2.1.2.1 ?_
        refine pw_iload C dX10_waiting_35 rfl ?_
        refine pw_ialdE C dX10_waiting_37 (hM.li l (by omega) (by omega)).2.2.2.1 (by omega) (((hM.li l (by omega) (by omega)).2.2.2.2.2.2 t (by omega) (by omega)).2.1 (by omega)) ?_
        have b_37 := (hA.li l (by omega)).v0 t (by omega) (by omega)
        refine pw_goto (tgt := 42) C dX10_waiting_38 (by decide) ?_
        refine pw_iadd C dX10_waiting_42 ?_
        refine pw_istore_n C dX10_waiting_43 (Nat.le_of_ble_eq_true rfl) rfl ?_
        refine pw_iinc C dX10_waiting_44 rfl (Nat.le_of_ble_eq_true rfl) rfl ?_
        refine pw_goto (tgt := 5) C dX10_waiting_47 (by decide) ?_
        exact pw_locs (by exact ⟨rfl, cat_vR _, rfl, cat_vR _, rfl, rfl, rfl, rfl, rfl, rfl, trivial⟩) (ih_5 (c + (A (20 + l) 0 t)) (t + 1)  (by omega) (fr_go (by omega) hf (by (try dsimp only); rw [if_pos c_23])) (by omega))

set_option maxHeartbeats 4000000 in
set_option maxRecDepth 100000 in
theorem m_ofLineNow {X : Xv} {G M : Mm} {Q : Int} {A : An} {D : Fn} {I : Int → Int} (hM : RM G M Q A D I) (hA : AB A) (hW : WF A) {l w : Int} (hl9 : 0 ≤ l ∧ l < A 0 0 2) (hw : 0 ≤ w ∧ w ≤ 7) : CT X yX10_ofLineNow prog_8_method_53_code 4 (some .int) 8 185 0 0 [vR Q, vI l, vI w] G M (PE G M (oLi A l w)) := by
  refine CT.by (by decide +kernel) [1, 1, 1] ⟨cat_vR _, cat_vI _, cat_vI _, trivial⟩ (Nat.le_of_ble_eq_true rfl) (fun E hX C hR hIni => ?_)
  have hn := hA.n
  have hnS := hA.so.c
  refine pw_aload_n C dX10_ofLineNow_0 rfl ?_
  refine pw_getR C dX10_ofLineNow_1 fl_X10_22 hM.k rfl hM.r4 ?_
  refine pw_iload_n C dX10_ofLineNow_4 rfl ?_
  refine pw_cVR C hX dX10_ofLineNow_5 ml_X10_45 mc_Jx4a65c_get_915e3 (hM.g4 (i := l) (by omega)) kc_2 hM.l4.k rfl rfl ⟨Nat.le_of_ble_eq_true rfl, Nat.le_of_ble_eq_true rfl⟩ (Nat.le_of_ble_eq_true rfl) ⟨Nat.le_of_ble_eq_true rfl, Nat.le_of_ble_eq_true rfl⟩ ?_
  refine pw_cast (Cn := "SlugwireModel$Line") C dX10_ofLineNow_8 (List.mem_of_getElem? (i := 1067) (by decide +kernel)) (by rw [(hM.li l (by omega) (by omega)).1]; exact kc_10) ?_
  refine pw_astore_n C dX10_ofLineNow_11 (Nat.le_of_ble_eq_true rfl) rfl ?_
  refine pw_iload_n C dX10_ofLineNow_12 rfl ?_
  by_cases c_13 : 0 ≤ w ∧ w ≤ 6
  · rcases (show w = 0 ∨ w = 1 ∨ w = 2 ∨ w = 3 ∨ w = 4 ∨ w = 5 ∨ w = 6 from by omega) with c_13 | c_13 | c_13 | c_13 | c_13 | c_13 | c_13
    · refine pw_swin (tgt := 56) (off := 43) C dX10_ofLineNow_13 (by omega) (by omega) (by omega) (by rw [c_13]; rfl) (by decide) ?_
      refine pw_aload_n C dX10_ofLineNow_56 rfl ?_
      refine pw_getE C dX10_ofLineNow_57 fl_X10_263 rfl (hM.li l (by omega) (by omega)).1 (hM.li l (by omega) (by omega)).2.2.2.2.2.1.1 ?_
      have b_57 := (hA.li l (by omega)).s0
      exact pw_iretE C hR dX10_ofLineNow_60 rfl rfl (by first | (subst c_13; rfl) | (have e : w = 7 := (by omega); subst e; rfl)) (Nat.zero_le _) (Nat.zero_le _)
    · refine pw_swin (tgt := 61) (off := 48) C dX10_ofLineNow_13 (by omega) (by omega) (by omega) (by rw [c_13]; rfl) (by decide) ?_
      refine pw_aload_n C dX10_ofLineNow_61 rfl ?_
      refine pw_getE C dX10_ofLineNow_62 fl_X10_208 rfl (hM.li l (by omega) (by omega)).1 (hM.li l (by omega) (by omega)).2.2.2.2.2.1.2.1 ?_
      have b_62 := (hA.li l (by omega)).s1
      exact pw_iretE C hR dX10_ofLineNow_65 rfl rfl (by first | (subst c_13; rfl) | (have e : w = 7 := (by omega); subst e; rfl)) (Nat.zero_le _) (Nat.zero_le _)
    · refine pw_swin (tgt := 66) (off := 53) C dX10_ofLineNow_13 (by omega) (by omega) (by omega) (by rw [c_13]; rfl) (by decide) ?_
      refine pw_aload_n C dX10_ofLineNow_66 rfl ?_
      refine pw_getE C dX10_ofLineNow_67 fl_X10_136 rfl (hM.li l (by omega) (by omega)).1 (hM.li l (by omega) (by omega)).2.2.2.2.2.1.2.2.1 ?_
      have b_67 := (hA.li l (by omega)).s2
      exact pw_iretE C hR dX10_ofLineNow_70 rfl rfl (by first | (subst c_13; rfl) | (have e : w = 7 := (by omega); subst e; rfl)) (Nat.zero_le _) (Nat.zero_le _)
    · refine pw_swin (tgt := 71) (off := 58) C dX10_ofLineNow_13 (by omega) (by omega) (by omega) (by rw [c_13]; rfl) (by decide) ?_
      refine pw_aload_n C dX10_ofLineNow_71 rfl ?_
      refine pw_aload_n C dX10_ofLineNow_72 rfl ?_
      refine pw_iconst C dX10_ofLineNow_73 ?_
      refine pw_cVE C hX dX10_ofLineNow_74 ml_X10_266 mc_X10_waiting (m_waiting0 hM hA hW (l := l) (by omega)) kc_13 hM.k rfl rfl ⟨Nat.le_of_ble_eq_true rfl, Nat.le_of_ble_eq_true rfl⟩ (Nat.le_of_ble_eq_true rfl) ⟨Nat.le_of_ble_eq_true rfl, Nat.le_of_ble_eq_true rfl⟩ ?_
      exact pw_iretE C hR dX10_ofLineNow_77 rfl rfl (by first | (subst c_13; rfl) | (have e : w = 7 := (by omega); subst e; rfl)) (Nat.zero_le _) (Nat.zero_le _)
    · refine pw_swin (tgt := 78) (off := 65) C dX10_ofLineNow_13 (by omega) (by omega) (by omega) (by rw [c_13]; rfl) (by decide) ?_
      refine pw_aload_n C dX10_ofLineNow_78 rfl ?_
      refine pw_aload_n C dX10_ofLineNow_79 rfl ?_
      refine pw_iconst C dX10_ofLineNow_80 ?_
      refine pw_cVE C hX dX10_ofLineNow_81 ml_X10_266 mc_X10_waiting (m_waiting1 hM hA hW (l := l) (by omega)) kc_13 hM.k rfl rfl ⟨Nat.le_of_ble_eq_true rfl, Nat.le_of_ble_eq_true rfl⟩ (Nat.le_of_ble_eq_true rfl) ⟨Nat.le_of_ble_eq_true rfl, Nat.le_of_ble_eq_true rfl⟩ ?_
      exact pw_iretE C hR dX10_ofLineNow_84 rfl rfl (by first | (subst c_13; rfl) | (have e : w = 7 := (by omega); subst e; rfl)) (Nat.zero_le _) (Nat.zero_le _)
    · refine pw_swin (tgt := 85) (off := 72) C dX10_ofLineNow_13 (by omega) (by omega) (by omega) (by rw [c_13]; rfl) (by decide) ?_
      refine pw_aload_n C dX10_ofLineNow_85 rfl ?_
      refine pw_getE C dX10_ofLineNow_86 fl_X10_270 rfl (hM.li l (by omega) (by omega)).1 (hM.li l (by omega) (by omega)).2.2.2.2.2.1.2.2.2 ?_
      exact pw_iretE C hR dX10_ofLineNow_89 rfl rfl (by first | (subst c_13; rfl) | (have e : w = 7 := (by omega); subst e; rfl)) (Nat.zero_le _) (Nat.zero_le _)
    · refine pw_swin (tgt := 90) (off := 77) C dX10_ofLineNow_13 (by omega) (by omega) (by omega) (by rw [c_13]; rfl) (by decide) ?_
      refine pw_aload_n C dX10_ofLineNow_90 rfl ?_
      refine pw_iload_n C dX10_ofLineNow_91 rfl ?_
      refine pw_iconst C dX10_ofLineNow_92 ?_
      refine pw_cVE C hX dX10_ofLineNow_93 ml_X10_273 mc_X10_told (m_told0 hM hA hW (l := l) (by omega)) kc_13 hM.k rfl rfl ⟨Nat.le_of_ble_eq_true rfl, Nat.le_of_ble_eq_true rfl⟩ (Nat.le_of_ble_eq_true rfl) ⟨Nat.le_of_ble_eq_true rfl, Nat.le_of_ble_eq_true rfl⟩ ?_
      exact pw_iretE C hR dX10_ofLineNow_96 rfl rfl (by first | (subst c_13; rfl) | (have e : w = 7 := (by omega); subst e; rfl)) (Nat.zero_le _) (Nat.zero_le _)
  · refine pw_swout (tgt := 97) C dX10_ofLineNow_13 (by omega) (by omega) (by decide) ?_
    refine pw_aload_n C dX10_ofLineNow_97 rfl ?_
    refine pw_iload_n C dX10_ofLineNow_98 rfl ?_
    refine pw_iconst C dX10_ofLineNow_99 ?_
    refine pw_cVE C hX dX10_ofLineNow_100 ml_X10_273 mc_X10_told (m_told1 hM hA hW (l := l) (by omega)) kc_13 hM.k rfl rfl ⟨Nat.le_of_ble_eq_true rfl, Nat.le_of_ble_eq_true rfl⟩ (Nat.le_of_ble_eq_true rfl) ⟨Nat.le_of_ble_eq_true rfl, Nat.le_of_ble_eq_true rfl⟩ ?_
    exact pw_iretE C hR dX10_ofLineNow_103 rfl rfl (by first | (subst c_13; rfl) | (have e : w = 7 := (by omega); subst e; rfl)) (Nat.zero_le _) (Nat.zero_le _)

