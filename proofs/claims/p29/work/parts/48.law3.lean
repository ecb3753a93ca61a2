set_option maxHeartbeats 4000000 in
set_option maxRecDepth 100000 in
theorem c_isFiled {X : Xv} {G M : Mm} {B : Int} {A : An} (hR0 : RC G M B A) (hA : AB A) {s k set z tk : Int} (hI : Inv A) (hL : LX A) (hs9 : 0 ≤ s ∧ s < 2) (hk9 : k = 3 ∨ k = 4) (hset : 1 ≤ set ∧ set ≤ 15) (hz : z = 0 ∨ z = 1) (htk : A 0 0 1 = tk) (ht9 : 0 ≤ tk ∧ tk ≤ 57) : CT X yL_isFiled method_5_code 9 (some .boolean) 6 139 0 0 [vR B, vI s, vI k, vI set, vI z, vI tk] G M (PI (fun r G1 M1 => r = 1 ∧ G1 = G ∧ RC G M1 B (if hv A s set z = 4 then aFil A s k set z 0 (-1) else A) ∧ Ot B (B + 201) M M1)) := by
  refine CT.by (by decide +kernel) [1, 1, 1, 1, 1, 1] ⟨cat_vR _, cat_vI _, cat_vI _, cat_vI _, cat_vI _, cat_vI _, trivial⟩ (Nat.le_of_ble_eq_true rfl) (fun E hX C hR hIni => ?_)
  have hn := hA.n
  have hnS := hA.so.c
  have hW := hI.2.1
  have h00 := hL.1.1
  have h02 := hL.1.2
  refine pw_aload_n C dL_isFiled_0 rfl ?_
  refine pw_iload_n C dL_isFiled_1 rfl ?_
  refine pw_iload_n C dL_isFiled_2 rfl ?_
  refine pw_iload_n C dL_isFiled_3 rfl ?_
  refine pw_iload C dL_isFiled_4 rfl ?_
  refine pw_iconst C dL_isFiled_6 ?_
  refine pw_cVI C hX dL_isFiled_7 ml_L_88 mc_X5_file (c_file hR0 hA (s := s) (k := k) (set := set) (g := z) (hd := 0) (by omega) (by omega) (by omega) (by omega) (by omega) (by omega)) kc_8 hR0.k rfl rfl ⟨Nat.le_of_ble_eq_true rfl, Nat.le_of_ble_eq_true rfl⟩ (Nat.le_of_ble_eq_true rfl) ⟨Nat.le_of_ble_eq_true rfl, Nat.le_of_ble_eq_true rfl⟩ (fun r_ G M1 hq_ => ?_)
  obtain ⟨rfl, hr, hR1, o1⟩ := hq_
  have hk0 : ¬ (k = 0 ∧ ¬ bc set = 1) := by omega
  have hr' : r_ = if hv A s set z = 4 then tk else -2 := by
    rw [hr]
    by_cases h4 : hv A s set z = 4
    · rw [if_neg (fun q => q h4), if_neg hk0, if_pos h4, htk]
    · rw [if_pos h4, if_neg h4]
  have hR2 : RC G M1 B (if hv A s set z = 4 then aFil A s k set z 0 (-1) else A) := by
    by_cases h4 : hv A s set z = 4
    · rw [if_neg (fun q => q h4), if_neg hk0] at hR1
      rw [if_pos h4]; exact hR1
    · rw [if_pos h4] at hR1
      rw [if_neg h4]; exact hR1
  clear hR1 hr
  obtain ⟨A1, eA1⟩ : ∃ w, w = (if hv A s set z = 4 then aFil A s k set z 0 (-1) else A) := ⟨_, rfl⟩
  rw [← eA1] at hR2
  have tf := fil_f (s := s) (k := k) (set := set) (g := z) (hd := 0) (tg := -1) hA
  have hI1 : Inv A1 := by
    rw [eA1]
    split
    · next h4 => exact hI.fil (by omega) (by omega) (by omega) (by omega) (by omega) hz (by omega) (by omega) h4
    · exact hI
  have f1 : ∀ i, 0 ≤ i → i < 8 → A1 (100 + i) = A (100 + i) := fun i q1 q2 => by
    rw [eA1]
    split
    · exact tf.2.1 _ (by omega) (by omega) (by omega)
    · rfl
  have n1 : ∀ c, A1 0 0 c = if hv A s set z = 4 then (if c = 1 then tk + 1 else A 0 0 c) else A 0 0 c := fun c => by
    rw [eA1]
    by_cases h4 : hv A s set z = 4
    · rw [if_pos h4, if_pos h4, tf.1, htk]
    · rw [if_neg h4, if_neg h4]
  have n10 : A1 0 0 0 = 2 := by rw [n1, if_neg (show ¬ (0 : Int) = 1 by omega)]; split <;> omega
  have n12 : A1 0 0 2 = 2 := by rw [n1, if_neg (show ¬ (2 : Int) = 1 by omega)]; split <;> omega
  have hA1 := hI1.1
  have hb4 := hv_bd (A := A) (s := s) (set := set) (z := z)
  have hn1 := hA1.n
  refine pw_istore C dL_isFiled_10 (Nat.le_of_ble_eq_true rfl) rfl ?_
  refine pw_iconst C dL_isFiled_12 ?_
  refine pw_istore C dL_isFiled_13 (Nat.le_of_ble_eq_true rfl) rfl ?_
  refine pw_iconst C dL_isFiled_15 ?_
  refine pw_istore C dL_isFiled_16 (Nat.le_of_ble_eq_true rfl) rfl ?_
  suffices K_18 : ∀ (nn_18 : Nat) (q f : Int) , (0 ≤ f ∧ f ≤ 4) → (q = 0 ∨ q = 1) → (q = 1 ↔ f ≤ hv A s set z) → 4 - f < (nn_18 : Int) → PW E G M1 0 0 18 [(0, 1, vR B), (1, 1, vI s), (2, 1, vI k), (3, 1, vI set), (4, 1, vI z), (5, 1, vI tk), (6, 1, vI r_), (7, 1, vI q), (8, 1, vI f)] [] from pw_locs (by exact ⟨rfl, cat_vR _, rfl, rfl, rfl, rfl, rfl, rfl, rfl, rfl, rfl, rfl, rfl, rfl, rfl, rfl, rfl, rfl, trivial⟩) (K_18 (4 - 0 + 1 : Int).toNat 1 0  (by omega) (by omega) (by omega) (by omega))
  intro nn_18
  induction nn_18 with
  | zero => intro q f h1 hq hq1 h_m18; exact absurd h_m18 (by omega)
  | succ nn_18 ih_18 =>
    intro q f h1 hq hq1 h_m18
    refine pw_iload C dL_isFiled_18 rfl ?_
    refine pw_iconst C dL_isFiled_20 ?_
    refine pw_icmp_ge (tgt := 70) C dL_isFiled_21 (by decide) (by omega) (fun c_21 => ?_) (fun c_21 => ?_)
    · skip
      refine pw_iload C dL_isFiled_70 rfl ?_
      refine pw_if_ne (tgt := 98) C dL_isFiled_72 (by decide) (by omega) (fun c_72 => ?_) (fun c_72 => ?_)
      · skip
        have h4 : hv A s set z = 4 := by omega
        rw [if_pos h4] at hr'
        have n11 : A1 0 0 1 = tk + 1 := by rw [n1, if_pos h4, if_pos rfl]
        have eA4 : A1 = aFil A s k set z 0 (-1) := by rw [eA1, if_pos h4]
        rw [← eA4] at tf
        have tf2 := tf.2.2.1
        rw [htk] at tf2
        have w3 : 0 < nT A s k set z 0 (-1) 1 3 := by rw [nT_1.2.2.2.1]; exact wdf_pos (by omega) (bc_bd set).1
        have s0 := take_1 hL (by omega) tf w3 (l := 0) (by omega)
        have s1 := take_1 hL (by omega) tf w3 (l := 1) (by omega)
        rw [htk] at s0 s1
        refine pw_iconst C dL_isFiled_98 ?_
        refine pw_istore C dL_isFiled_99 (Nat.le_of_ble_eq_true rfl) rfl ?_
        suffices K_101 : ∀ (nn_101 : Nat) (g : Int) , (0 ≤ g ∧ g ≤ 4) → 4 - g < (nn_101 : Int) → PW E G M1 0 0 101 [(0, 1, vR B), (1, 1, vI s), (2, 1, vI k), (3, 1, vI set), (4, 1, vI z), (5, 1, vI tk), (6, 1, vI r_), (7, 1, vI q), (8, 1, vI g)] [] from pw_locs (by exact ⟨rfl, cat_vR _, rfl, rfl, rfl, rfl, rfl, rfl, rfl, rfl, rfl, rfl, rfl, rfl, rfl, rfl, rfl, rfl, trivial⟩) (K_101 (4 - 0 + 1 : Int).toNat 0  (by omega) (by omega))
        intro nn_101
        induction nn_101 with
        | zero => intro g h3 h_m101; exact absurd h_m101 (by omega)
        | succ nn_101 ih_101 =>
          intro g h3 h_m101
          refine pw_iload C dL_isFiled_101 rfl ?_
          refine pw_iconst C dL_isFiled_103 ?_
          refine pw_icmp_ge (tgt := 157) C dL_isFiled_104 (by decide) (by omega) (fun c_104 => ?_) (fun c_104 => ?_)
          · skip
            refine pw_iload C dL_isFiled_157 rfl ?_
            refine pw_iload C dL_isFiled_159 rfl ?_
            refine pw_icmp_ne (tgt := 190) C dL_isFiled_161 (by decide) (by omega) (fun c_161 => ?_) (fun c_161 => ?_)
            · exact absurd c_161 (by omega)
            refine pw_aload_n C dL_isFiled_164 rfl ?_
            refine pw_iconst C dL_isFiled_165 ?_
            refine pw_iload C dL_isFiled_166 rfl ?_
            refine pw_cVE C hX dL_isFiled_168 ml_L_92 mc_X5_state (c_state hR2 hA1 (l := 0) (t := tk) (by omega) (by omega) (by omega)) kc_8 hR2.k rfl rfl ⟨Nat.le_of_ble_eq_true rfl, Nat.le_of_ble_eq_true rfl⟩ (Nat.le_of_ble_eq_true rfl) ⟨Nat.le_of_ble_eq_true rfl, Nat.le_of_ble_eq_true rfl⟩ ?_
            rw [s0]
            refine pw_iconst C dL_isFiled_171 ?_
            refine pw_icmp_ne (tgt := 190) C dL_isFiled_172 (by decide) (by omega) (fun c_172 => ?_) (fun c_172 => ?_)
            · exact absurd c_172 (by omega)
            refine pw_aload_n C dL_isFiled_175 rfl ?_
            refine pw_iconst C dL_isFiled_176 ?_
            refine pw_iload C dL_isFiled_177 rfl ?_
            refine pw_cVE C hX dL_isFiled_179 ml_L_92 mc_X5_state (c_state hR2 hA1 (l := 1) (t := tk) (by omega) (by omega) (by omega)) kc_8 hR2.k rfl rfl ⟨Nat.le_of_ble_eq_true rfl, Nat.le_of_ble_eq_true rfl⟩ (Nat.le_of_ble_eq_true rfl) ⟨Nat.le_of_ble_eq_true rfl, Nat.le_of_ble_eq_true rfl⟩ ?_
            rw [s1]
            refine pw_iconst C dL_isFiled_182 ?_
            refine pw_icmp_ne (tgt := 190) C dL_isFiled_183 (by decide) (by omega) (fun c_183 => ?_) (fun c_183 => ?_)
            · exact absurd c_183 (by omega)
            refine pw_iconst C dL_isFiled_186 ?_
            refine pw_goto (tgt := 191) C dL_isFiled_187 (by decide) ?_
            exact pw_zret C hR dL_isFiled_191 (by omega) (⟨_, rfl, rfl, rfl, by rw [← eA1]; exact hR2, o1⟩) (by omega) (by omega)
          · skip
            refine pw_aload_n C dL_isFiled_107 rfl ?_
            refine pw_iload C dL_isFiled_108 rfl ?_
            refine pw_iload C dL_isFiled_110 rfl ?_
            refine pw_cVE C hX dL_isFiled_112 ml_L_64 mc_X5_says (c_says hR2 hA1 (t := tk) (f := g) (by omega) (by omega) (by omega)) kc_8 hR2.k rfl rfl ⟨Nat.le_of_ble_eq_true rfl, Nat.le_of_ble_eq_true rfl⟩ (Nat.le_of_ble_eq_true rfl) ⟨Nat.le_of_ble_eq_true rfl, Nat.le_of_ble_eq_true rfl⟩ ?_
            obtain ⟨Sv, hSv⟩ : ∃ w, w = A1 (200 + tk) 0 g := ⟨_, rfl⟩
            rw [← hSv]
            have bS : -1 ≤ Sv ∧ Sv ≤ 99 := by rw [hSv]; exact (hA1.ta tk (by omega)).v0 g (by omega) (by omega)
            have eSv : A1 (200 + tk) 0 g = if ins set g then vtf A z (s * 4 + g) else -1 := by rw [tf2, nT_0]
            refine pw_iload_n C dL_isFiled_115 rfl ?_
            refine pw_iload C dL_isFiled_116 rfl ?_
            refine pw_ishr C dL_isFiled_118 ?_
            refine pw_iconst C dL_isFiled_119 ?_
            refine pw_iand C dL_isFiled_120 ?_
            refine pw_top (v' := vI (bI (ins set g))) (congrArg Value.int (ins_eq (by omega) (by omega))) ?_
            have bin := bI_01 (ins set g)
            refine pw_iconst C dL_isFiled_121 ?_
            refine pw_icmp_ne (tgt := 145) C dL_isFiled_122 (by decide) (by omega) (fun c_122 => ?_) (fun c_122 => ?_)
            · skip
              refine pw_iconst C dL_isFiled_145 ?_
              have eS : Sv = -1 := by rw [hSv, eSv, if_neg (fun q => c_122 (bI_t q))]
              refine pw_icmp_eq (tgt := 151) C dL_isFiled_146 (by decide) (by omega) (fun c_146 => ?_) (fun c_146 => ?_)
              rotate_left
              · exact absurd c_146 (by omega)
              refine pw_iinc C dL_isFiled_151 rfl (Nat.le_of_ble_eq_true rfl) rfl ?_
              refine pw_goto (tgt := 101) C dL_isFiled_154 (by decide) ?_
              exact pw_locs (by exact ⟨rfl, cat_vR _, rfl, rfl, rfl, rfl, rfl, rfl, rfl, rfl, rfl, rfl, rfl, rfl, rfl, rfl, rfl, rfl, trivial⟩) (ih_101 (g + 1)  (by omega) (by omega))
            · skip
              refine pw_aload_n C dL_isFiled_125 rfl ?_
              refine pw_iload_n C dL_isFiled_126 rfl ?_
              refine pw_iload C dL_isFiled_127 rfl ?_
              refine pw_iload C dL_isFiled_129 rfl ?_
              refine pw_if_eq (tgt := 138) C dL_isFiled_131 (by decide) (by omega) (fun c_131 => ?_) (fun c_131 => ?_)
              · skip
                refine pw_iconst C dL_isFiled_138 ?_
                refine pw_cVE C hX dL_isFiled_139 ml_L_42 mc_X5_ofFact (c_ofFact hR2 hA1 (s := s) (f := g) (w := 0) (by omega) (by omega) (by omega) (by omega)) kc_8 hR2.k rfl rfl ⟨Nat.le_of_ble_eq_true rfl, Nat.le_of_ble_eq_true rfl⟩ (Nat.le_of_ble_eq_true rfl) ⟨Nat.le_of_ble_eq_true rfl, Nat.le_of_ble_eq_true rfl⟩ ?_
                obtain ⟨V, hV⟩ : ∃ w, w = oFa A1 s g 0 := ⟨_, rfl⟩
                rw [← hV]
                have bV : -1 ≤ V ∧ V ≤ 99 := by rw [hV]; exact (hA1.fa (s * 4 + g) (by omega)).s0
                have eV : V = vtf A z (s * 4 + g) := by
                  have e1 : oFa A1 s g 0 = A1 (100 + (s * 4 + g)) 1 0 := rfl
                  rw [hV, e1, f1 _ (by omega) (by omega)]; unfold vtf; exact (if_pos c_131).symm
                refine pw_goto (tgt := 146) C dL_isFiled_142 (by decide) ?_
                have eS : Sv = V := by rw [hSv, eSv, if_pos (bI_1.mp c_122), eV]
                refine pw_icmp_eq (tgt := 151) C dL_isFiled_146 (by decide) (by omega) (fun c_146 => ?_) (fun c_146 => ?_)
                rotate_left
                · exact absurd c_146 (by omega)
                refine pw_iinc C dL_isFiled_151 rfl (Nat.le_of_ble_eq_true rfl) rfl ?_
                refine pw_goto (tgt := 101) C dL_isFiled_154 (by decide) ?_
                exact pw_locs (by exact ⟨rfl, cat_vR _, rfl, rfl, rfl, rfl, rfl, rfl, rfl, rfl, rfl, rfl, rfl, rfl, rfl, rfl, rfl, rfl, trivial⟩) (ih_101 (g + 1)  (by omega) (by omega))
              · skip
                refine pw_iconst C dL_isFiled_134 ?_
                refine pw_goto (tgt := 139) C dL_isFiled_135 (by decide) ?_
                refine pw_cVE C hX dL_isFiled_139 ml_L_42 mc_X5_ofFact (c_ofFact hR2 hA1 (s := s) (f := g) (w := 1) (by omega) (by omega) (by omega) (by omega)) kc_8 hR2.k rfl rfl ⟨Nat.le_of_ble_eq_true rfl, Nat.le_of_ble_eq_true rfl⟩ (Nat.le_of_ble_eq_true rfl) ⟨Nat.le_of_ble_eq_true rfl, Nat.le_of_ble_eq_true rfl⟩ ?_
                obtain ⟨V, hV⟩ : ∃ w, w = oFa A1 s g 1 := ⟨_, rfl⟩
                rw [← hV]
                have bV : -1 ≤ V ∧ V ≤ 99 := by rw [hV]; exact (hA1.fa (s * 4 + g) (by omega)).s2
                have eV : V = vtf A z (s * 4 + g) := by
                  have e1 : oFa A1 s g 1 = A1 (100 + (s * 4 + g)) 1 2 := rfl
                  rw [hV, e1, f1 _ (by omega) (by omega)]; unfold vtf; exact (if_neg c_131).symm
                refine pw_goto (tgt := 146) C dL_isFiled_142 (by decide) ?_
                have eS : Sv = V := by rw [hSv, eSv, if_pos (bI_1.mp c_122), eV]
                refine pw_icmp_eq (tgt := 151) C dL_isFiled_146 (by decide) (by omega) (fun c_146 => ?_) (fun c_146 => ?_)
                rotate_left
                · exact absurd c_146 (by omega)
                refine pw_iinc C dL_isFiled_151 rfl (Nat.le_of_ble_eq_true rfl) rfl ?_
                refine pw_goto (tgt := 101) C dL_isFiled_154 (by decide) ?_
                exact pw_locs (by exact ⟨rfl, cat_vR _, rfl, rfl, rfl, rfl, rfl, rfl, rfl, rfl, rfl, rfl, rfl, rfl, rfl, rfl, rfl, rfl, trivial⟩) (ih_101 (g + 1)  (by omega) (by omega))
      · skip
        have h4 : ¬ hv A s set z = 4 := by omega
        rw [if_neg h4] at hr'
        have n11 : A1 0 0 1 = tk := by rw [n1, if_neg h4, htk]
        refine pw_iload C dL_isFiled_75 rfl ?_
        refine pw_bipush C dL_isFiled_77 rfl ?_
        refine pw_icmp_ne (tgt := 96) C dL_isFiled_79 (by decide) (by omega) (fun c_79 => ?_) (fun c_79 => ?_)
        · exact absurd c_79 (by omega)
        refine pw_aload_n C dL_isFiled_82 rfl ?_
        refine pw_iconst C dL_isFiled_83 ?_
        refine pw_cVE C hX dL_isFiled_84 ml_L_53 mc_X5_many (c_many hR2 hA1 (w := 4) (by omega) (by omega)) kc_8 hR2.k rfl rfl ⟨Nat.le_of_ble_eq_true rfl, Nat.le_of_ble_eq_true rfl⟩ (Nat.le_of_ble_eq_true rfl) ⟨Nat.le_of_ble_eq_true rfl, Nat.le_of_ble_eq_true rfl⟩ ?_
        rw [show mny A1 4 = tk from n11]
        refine pw_iload C dL_isFiled_87 rfl ?_
        refine pw_icmp_ne (tgt := 96) C dL_isFiled_89 (by decide) (by omega) (fun c_89 => ?_) (fun c_89 => ?_)
        · exact absurd c_89 (by omega)
        refine pw_iconst C dL_isFiled_92 ?_
        refine pw_goto (tgt := 97) C dL_isFiled_93 (by decide) ?_
        exact pw_zret C hR dL_isFiled_97 (by omega) (⟨_, rfl, rfl, rfl, by rw [← eA1]; exact hR2, o1⟩) (by omega) (by omega)
    · skip
      refine pw_iload_n C dL_isFiled_24 rfl ?_
      refine pw_iload C dL_isFiled_25 rfl ?_
      refine pw_ishr C dL_isFiled_27 ?_
      refine pw_iconst C dL_isFiled_28 ?_
      refine pw_iand C dL_isFiled_29 ?_
      refine pw_top (v' := vI (bI (ins set f))) (congrArg Value.int (ins_eq (by omega) (by omega))) ?_
      have bin := bI_01 (ins set f)
      refine pw_iconst C dL_isFiled_30 ?_
      refine pw_icmp_ne (tgt := 64) C dL_isFiled_31 (by decide) (by omega) (fun c_31 => ?_) (fun c_31 => ?_)
      · skip
        refine pw_iinc C dL_isFiled_64 rfl (Nat.le_of_ble_eq_true rfl) rfl ?_
        refine pw_goto (tgt := 18) C dL_isFiled_67 (by decide) ?_
        exact pw_locs (by exact ⟨rfl, cat_vR _, rfl, rfl, rfl, rfl, rfl, rfl, rfl, rfl, rfl, rfl, rfl, rfl, rfl, rfl, rfl, rfl, trivial⟩) (ih_18 q (f + 1)  (by omega) (by omega) (by have z9 := hv_step1 (A := A) (s := s) (set := set) (z := z) (f := f) (by omega) (fun q => c_31 (bI_t q.1)); omega) (by omega))
      · skip
        refine pw_iload C dL_isFiled_34 rfl ?_
        refine pw_aload_n C dL_isFiled_36 rfl ?_
        refine pw_iload_n C dL_isFiled_37 rfl ?_
        refine pw_iload C dL_isFiled_38 rfl ?_
        refine pw_iload C dL_isFiled_40 rfl ?_
        refine pw_if_eq (tgt := 49) C dL_isFiled_42 (by decide) (by omega) (fun c_42 => ?_) (fun c_42 => ?_)
        · skip
          refine pw_iconst C dL_isFiled_49 ?_
          refine pw_cVE C hX dL_isFiled_50 ml_L_42 mc_X5_ofFact (c_ofFact hR2 hA1 (s := s) (f := f) (w := 0) (by omega) (by omega) (by omega) (by omega)) kc_8 hR2.k rfl rfl ⟨Nat.le_of_ble_eq_true rfl, Nat.le_of_ble_eq_true rfl⟩ (Nat.le_of_ble_eq_true rfl) ⟨Nat.le_of_ble_eq_true rfl, Nat.le_of_ble_eq_true rfl⟩ ?_
          obtain ⟨V, hV⟩ : ∃ w, w = oFa A1 s f 0 := ⟨_, rfl⟩
          rw [← hV]
          have bV : -1 ≤ V ∧ V ≤ 99 := by rw [hV]; exact (hA1.fa (s * 4 + f) (by omega)).s0
          have eV : V = vtf A z (s * 4 + f) := by
            have e1 : oFa A1 s f 0 = A1 (100 + (s * 4 + f)) 1 0 := rfl
            rw [hV, e1, f1 _ (by omega) (by omega)]; unfold vtf; exact (if_pos c_42).symm
          refine pw_if_lt (tgt := 60) C dL_isFiled_53 (by decide) (by omega) (fun c_53 => ?_) (fun c_53 => ?_)
          · skip
            refine pw_iconst C dL_isFiled_60 ?_
            refine pw_iand C dL_isFiled_61 ?_
            refine pw_top (v' := vI (q * 0)) (and_01 (by omega) (by omega)) ?_
            refine pw_istore C dL_isFiled_62 (Nat.le_of_ble_eq_true rfl) rfl ?_
            refine pw_iinc C dL_isFiled_64 rfl (Nat.le_of_ble_eq_true rfl) rfl ?_
            refine pw_goto (tgt := 18) C dL_isFiled_67 (by decide) ?_
            exact pw_locs (by exact ⟨rfl, cat_vR _, rfl, rfl, rfl, rfl, rfl, rfl, rfl, rfl, rfl, rfl, rfl, rfl, rfl, rfl, rfl, rfl, trivial⟩) (ih_18 (q * 0) (f + 1)  (by omega) (by omega) (by have z9 := hv_step0 (A := A) (s := s) (set := set) (z := z) (f := f) (by omega) ⟨bI_1.mp c_31, by omega⟩; omega) (by omega))
          · skip
            refine pw_iconst C dL_isFiled_56 ?_
            refine pw_goto (tgt := 61) C dL_isFiled_57 (by decide) ?_
            refine pw_iand C dL_isFiled_61 ?_
            refine pw_top (v' := vI (q * 1)) (and_01 (by omega) (by omega)) ?_
            refine pw_istore C dL_isFiled_62 (Nat.le_of_ble_eq_true rfl) rfl ?_
            refine pw_iinc C dL_isFiled_64 rfl (Nat.le_of_ble_eq_true rfl) rfl ?_
            refine pw_goto (tgt := 18) C dL_isFiled_67 (by decide) ?_
            exact pw_locs (by exact ⟨rfl, cat_vR _, rfl, rfl, rfl, rfl, rfl, rfl, rfl, rfl, rfl, rfl, rfl, rfl, rfl, rfl, rfl, rfl, trivial⟩) (ih_18 (q * 1) (f + 1)  (by omega) (by omega) (by have z9 := hv_step1 (A := A) (s := s) (set := set) (z := z) (f := f) (by omega) (fun q => by have q2 := q.2; omega); omega) (by omega))
        · skip
          refine pw_iconst C dL_isFiled_45 ?_
          refine pw_goto (tgt := 50) C dL_isFiled_46 (by decide) ?_
          refine pw_cVE C hX dL_isFiled_50 ml_L_42 mc_X5_ofFact (c_ofFact hR2 hA1 (s := s) (f := f) (w := 1) (by omega) (by omega) (by omega) (by omega)) kc_8 hR2.k rfl rfl ⟨Nat.le_of_ble_eq_true rfl, Nat.le_of_ble_eq_true rfl⟩ (Nat.le_of_ble_eq_true rfl) ⟨Nat.le_of_ble_eq_true rfl, Nat.le_of_ble_eq_true rfl⟩ ?_
          obtain ⟨V, hV⟩ : ∃ w, w = oFa A1 s f 1 := ⟨_, rfl⟩
          rw [← hV]
          have bV : -1 ≤ V ∧ V ≤ 99 := by rw [hV]; exact (hA1.fa (s * 4 + f) (by omega)).s2
          have eV : V = vtf A z (s * 4 + f) := by
            have e1 : oFa A1 s f 1 = A1 (100 + (s * 4 + f)) 1 2 := rfl
            rw [hV, e1, f1 _ (by omega) (by omega)]; unfold vtf; exact (if_neg c_42).symm
          refine pw_if_lt (tgt := 60) C dL_isFiled_53 (by decide) (by omega) (fun c_53 => ?_) (fun c_53 => ?_)
          · skip
            refine pw_iconst C dL_isFiled_60 ?_
            refine pw_iand C dL_isFiled_61 ?_
            refine pw_top (v' := vI (q * 0)) (and_01 (by omega) (by omega)) ?_
            refine pw_istore C dL_isFiled_62 (Nat.le_of_ble_eq_true rfl) rfl ?_
            refine pw_iinc C dL_isFiled_64 rfl (Nat.le_of_ble_eq_true rfl) rfl ?_
            refine pw_goto (tgt := 18) C dL_isFiled_67 (by decide) ?_
            exact pw_locs (by exact ⟨rfl, cat_vR _, rfl, rfl, rfl, rfl, rfl, rfl, rfl, rfl, rfl, rfl, rfl, rfl, rfl, rfl, rfl, rfl, trivial⟩) (ih_18 (q * 0) (f + 1)  (by omega) (by omega) (by have z9 := hv_step0 (A := A) (s := s) (set := set) (z := z) (f := f) (by omega) ⟨bI_1.mp c_31, by omega⟩; omega) (by omega))
          · skip
            refine pw_iconst C dL_isFiled_56 ?_
            refine pw_goto (tgt := 61) C dL_isFiled_57 (by decide) ?_
            refine pw_iand C dL_isFiled_61 ?_
            refine pw_top (v' := vI (q * 1)) (and_01 (by omega) (by omega)) ?_
            refine pw_istore C dL_isFiled_62 (Nat.le_of_ble_eq_true rfl) rfl ?_
            refine pw_iinc C dL_isFiled_64 rfl (Nat.le_of_ble_eq_true rfl) rfl ?_
            refine pw_goto (tgt := 18) C dL_isFiled_67 (by decide) ?_
            exact pw_locs (by exact ⟨rfl, cat_vR _, rfl, rfl, rfl, rfl, rfl, rfl, rfl, rfl, rfl, rfl, rfl, rfl, rfl, rfl, rfl, rfl, trivial⟩) (ih_18 (q * 1) (f + 1)  (by omega) (by omega) (by have z9 := hv_step1 (A := A) (s := s) (set := set) (z := z) (f := f) (by omega) (fun q => by have q2 := q.2; omega); omega) (by omega))

