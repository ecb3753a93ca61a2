/-! ===== the model: lead; refusals ===== -/
set_option maxHeartbeats 4000000 in
set_option maxRecDepth 100000 in
theorem m_leadNow {X : Xv} {G M : Mm} {Q : Int} {A : An} {D : Fn} {I : Int → Int} (hM : RM G M Q A D I) (hA : AB A) (hW : WF A) {s wd : Int} (hs9 : 0 ≤ s ∧ s < A 0 0 0) (hwd : 0 ≤ wd ∧ wd ≤ 99) : CT X yX10_leadNow prog_8_method_68_code 9 (some .int) 7 158 1 4 [vR Q, vI s, vI wd] G M (PI (fun r G1 M1 => r = mLe A s wd ∧ Kp G M G1 M1)) := by
  refine CT.by (by decide +kernel) [1, 1, 1] ⟨cat_vR _, cat_vI _, cat_vI _, trivial⟩ (Nat.le_of_ble_eq_true rfl) (fun E hX C hR hIni => ?_)
  have hn := hA.n
  have hnS := hA.so.c
  have hq9 := hM.q
  have hK0 : Kp G M G M := Kp.rf
  refine pw_iconst C dX10_leadNow_0 ?_
  refine pw_newI C dX10_leadNow_1 (by omega) (ks := 4) rfl (Nat.le_of_ble_eq_true rfl) (Nat.le_of_ble_eq_true rfl) ?_
  have hKn : Kp G M (nG G 100 4) (nM G M) := Kp.rf.new
  have hAr : AI (nG G 100 4) (G 4 0 0) 4 := ⟨nG_kind, nG_len⟩
  obtain ⟨x, ex⟩ : ∃ x, G 4 0 0 = x := ⟨_, rfl⟩
  have hx9 := Int.le_of_eq ex
  rw [ex] at hAr ⊢
  generalize nG G 100 4 = Gn at hKn hAr ⊢
  generalize nM G M = Mn at hKn ⊢
  have hMn := hM.kp hKn
  refine pw_astore_n C dX10_leadNow_3 (Nat.le_of_ble_eq_true rfl) rfl ?_
  refine pw_iconst C dX10_leadNow_4 ?_
  refine pw_istore C dX10_leadNow_5 (Nat.le_of_ble_eq_true rfl) rfl ?_
  suffices K_7 : ∀ (nn_7 : Nat) (f : Int) (Mc : Mm), (0 ≤ f ∧ f ≤ 4) → (Kp G M Gn Mc) → (∀ j, 0 ≤ j → j < f → Mc 1 x j = A (100 + (s * 4 + j)) 1 1) → 4 - f < (nn_7 : Int) → PW E Gn Mc 1 4 7 [(0, 1, vR Q), (1, 1, vI s), (2, 1, vI wd), (3, 1, vR x), (4, 1, vI f)] [] from pw_locs (by exact ⟨rfl, cat_vR _, rfl, rfl, rfl, rfl, rfl, cat_vR _, rfl, rfl, trivial⟩) (K_7 (4 - 0 + 1 : Int).toNat 0 Mn (by omega) (by first | exact hKn | omega) (by first | exact fun j q1 q2 => by omega | omega) (by omega))
  intro nn_7
  induction nn_7 with
  | zero => intro f Mc h1 hKc hv h_m7; exact absurd h_m7 (by omega)
  | succ nn_7 ih_7 =>
    intro f Mc h1 hKc hv h_m7
    have hMc := hM.kp hKc
    have hw9 := fun h => hW.f (s * 4 + f) (by omega) h
    refine pw_iload C dX10_leadNow_7 rfl ?_
    refine pw_iconst C dX10_leadNow_9 ?_
    refine pw_icmp_ge (tgt := 59) C dX10_leadNow_10 (by decide) (by omega) (fun c_10 => ?_) (fun c_10 => ?_)
    · skip
      refine pw_iconst C dX10_leadNow_59 ?_
      refine pw_istore C dX10_leadNow_60 (Nat.le_of_ble_eq_true rfl) rfl ?_
      refine pw_iconst C dX10_leadNow_62 ?_
      refine pw_istore C dX10_leadNow_63 (Nat.le_of_ble_eq_true rfl) rfl ?_
      refine pw_iconst C dX10_leadNow_65 ?_
      refine pw_istore C dX10_leadNow_66 (Nat.le_of_ble_eq_true rfl) rfl ?_
      suffices K_68 : ∀ (nn_68 : Nat) (best most set : Int) , (1 ≤ set ∧ set ≤ 16) → (0 ≤ most ∧ most ≤ 200) → (fr (fun set b => if b.2 < mLs A s wd set then (set, mLs A s wd set) else b) set 16 (best, most) = fr (fun set b => if b.2 < mLs A s wd set then (set, mLs A s wd set) else b) 1 16 ((0, 0) : Int × Int)) → 16 - set < (nn_68 : Int) → PW E Gn Mc 1 4 68 [(0, 1, vR Q), (1, 1, vI s), (2, 1, vI wd), (3, 1, vR x), (4, 1, vI best), (5, 1, vI most), (6, 1, vI set)] [] from pw_locs (by exact ⟨rfl, cat_vR _, rfl, rfl, rfl, rfl, rfl, cat_vR _, rfl, rfl, rfl, rfl, rfl, rfl, trivial⟩) (K_68 (16 - 1 + 1 : Int).toNat 0 0 1  (by omega) (by omega) (by first | exact rfl | omega) (by omega))
      intro nn_68
      induction nn_68 with
      | zero => intro best most set h2 h3 hf h_m68; exact absurd h_m68 (by omega)
      | succ nn_68 ih_68 =>
        intro best most set h2 h3 hf h_m68
        refine pw_iload C dX10_leadNow_68 rfl ?_
        refine pw_bipush C dX10_leadNow_70 rfl ?_
        refine pw_icmp_ge (tgt := 168) C dX10_leadNow_72 (by decide) (by omega) (fun c_72 => ?_) (fun c_72 => ?_)
        · skip
          refine pw_iload C dX10_leadNow_168 rfl ?_
          exact pw_iret C hR dX10_leadNow_170 (⟨_, rfl, by unfold mLe; rw [← fr_done (by omega) hf], hKc⟩) (Nat.le_of_ble_eq_true rfl) (Nat.le_of_ble_eq_true rfl)
        · skip
          refine pw_iconst C dX10_leadNow_75 ?_
          refine pw_iload C dX10_leadNow_76 rfl ?_
          have bbc := bc_bd set
          refine pw_cSE C hX dX10_leadNow_78 ml_X10_65 mc_J6_bitCount_0f7a4 (c_bitCount (x := set) (by omega)) rfl rfl ⟨Nat.le_of_ble_eq_true rfl, Nat.le_of_ble_eq_true rfl⟩ (Nat.le_of_ble_eq_true rfl) (show 1 + 0 ≤ 1 ∧ 4 + 0 ≤ 4 by omega) ?_
          refine pw_cSE C hX dX10_leadNow_81 ml_X10_161 mc_X10_words (m_words (k := 3) (n := (bc set)) (by omega) (by omega)) rfl rfl ⟨Nat.le_of_ble_eq_true rfl, Nat.le_of_ble_eq_true rfl⟩ (Nat.le_of_ble_eq_true rfl) (show 1 + 0 ≤ 1 ∧ 4 + 0 ≤ 4 by omega) ?_
          refine pw_iload_n C dX10_leadNow_84 rfl ?_
          refine pw_icmp_gt (tgt := 92) C dX10_leadNow_85 (by decide) (by omega) (fun c_85 => ?_) (fun c_85 => ?_)
          · skip
            refine pw_sipush C dX10_leadNow_92 rfl ?_
            refine pw_istore C dX10_leadNow_95 (Nat.le_of_ble_eq_true rfl) rfl ?_
            refine pw_iconst C dX10_leadNow_97 ?_
            refine pw_istore C dX10_leadNow_98 (Nat.le_of_ble_eq_true rfl) rfl ?_
            suffices K_100 : ∀ (nn_100 : Nat) (c f : Int) , (0 ≤ f ∧ f ≤ 4) → (-1000 - 1000 * f ≤ c ∧ c ≤ 30 * f) → (fr (fun f c => if ins set f then c + (if A (100 + (s * 4 + f)) 1 1 = 0 then -1000 else A (100 + (s * 4 + f)) 1 1) else c) f 4 c = mLs A s wd set) → 4 - f < (nn_100 : Int) → PW E Gn Mc 1 4 100 [(0, 1, vR Q), (1, 1, vI s), (2, 1, vI wd), (3, 1, vR x), (4, 1, vI best), (5, 1, vI most), (6, 1, vI set), (7, 1, vI c), (8, 1, vI f)] [] from pw_locs (by exact ⟨rfl, cat_vR _, rfl, rfl, rfl, rfl, rfl, cat_vR _, rfl, rfl, rfl, rfl, rfl, rfl, rfl, rfl, rfl, rfl, trivial⟩) (K_100 (4 - 0 + 1 : Int).toNat (-1000) 0  (by omega) (by omega) (by first | exact (by unfold mLs; rw [if_neg (by omega)]) | omega) (by omega))
            intro nn_100
            induction nn_100 with
            | zero => intro c f h4 h5 hg h_m100; exact absurd h_m100 (by omega)
            | succ nn_100 ih_100 =>
              intro c f h4 h5 hg h_m100
              refine pw_iload C dX10_leadNow_100 rfl ?_
              refine pw_iconst C dX10_leadNow_102 ?_
              refine pw_icmp_ge (tgt := 144) C dX10_leadNow_103 (by decide) (by omega) (fun c_103 => ?_) (fun c_103 => ?_)
              · skip
                refine pw_iload C dX10_leadNow_144 rfl ?_
                refine pw_iload C dX10_leadNow_146 rfl ?_
                refine pw_icmp_gt (tgt := 154) C dX10_leadNow_148 (by decide) (by omega) (fun c_148 => ?_) (fun c_148 => ?_)
                · skip
                  refine pw_iload C dX10_leadNow_154 rfl ?_
                  refine pw_istore C dX10_leadNow_156 (Nat.le_of_ble_eq_true rfl) rfl ?_
                  refine pw_iload C dX10_leadNow_158 rfl ?_
                  refine pw_istore C dX10_leadNow_160 (Nat.le_of_ble_eq_true rfl) rfl ?_
                  refine pw_iinc C dX10_leadNow_162 rfl (Nat.le_of_ble_eq_true rfl) rfl ?_
                  refine pw_goto (tgt := 68) C dX10_leadNow_165 (by decide) ?_
                  exact pw_locs (by exact ⟨rfl, cat_vR _, rfl, rfl, rfl, rfl, rfl, cat_vR _, rfl, rfl, rfl, rfl, rfl, rfl, trivial⟩) (ih_68 set c (set + 1)  (by omega) (by omega) (fr_go (by omega) hf (by (try dsimp only); rw [← fr_done (by omega) hg]; exact if_pos c_148)) (by omega))
                · skip
                  refine pw_goto (tgt := 162) C dX10_leadNow_151 (by decide) ?_
                  refine pw_iinc C dX10_leadNow_162 rfl (Nat.le_of_ble_eq_true rfl) rfl ?_
                  refine pw_goto (tgt := 68) C dX10_leadNow_165 (by decide) ?_
                  exact pw_locs (by exact ⟨rfl, cat_vR _, rfl, rfl, rfl, rfl, rfl, cat_vR _, rfl, rfl, rfl, rfl, rfl, rfl, trivial⟩) (ih_68 best most (set + 1)  (by omega) (by omega) (fr_go (by omega) hf (by (try dsimp only); rw [← fr_done (by omega) hg]; exact if_neg c_148)) (by omega))
              · skip
                refine pw_iload C dX10_leadNow_106 rfl ?_
                refine pw_iload C dX10_leadNow_108 rfl ?_
                refine pw_cSE C hX dX10_leadNow_110 ml_X10_166 mc_X10_has (m_has (set := set) (f := f) (by omega) (by omega)) rfl rfl ⟨Nat.le_of_ble_eq_true rfl, Nat.le_of_ble_eq_true rfl⟩ (Nat.le_of_ble_eq_true rfl) (show 1 + 0 ≤ 1 ∧ 4 + 0 ≤ 4 by omega) ?_
                refine pw_ifB_eq (tgt := 138) C dX10_leadNow_113 (by decide) (fun c_113 => ?_) (fun c_113 => ?_)
                · skip
                  refine pw_iinc C dX10_leadNow_138 rfl (Nat.le_of_ble_eq_true rfl) rfl ?_
                  refine pw_goto (tgt := 100) C dX10_leadNow_141 (by decide) ?_
                  exact pw_locs (by exact ⟨rfl, cat_vR _, rfl, rfl, rfl, rfl, rfl, cat_vR _, rfl, rfl, rfl, rfl, rfl, rfl, rfl, rfl, rfl, rfl, trivial⟩) (ih_100 c (f + 1)  (by omega) (by omega) (fr_go (by omega) hg (by (try dsimp only); exact if_neg c_113)) (by omega))
                · skip
                  refine pw_iload C dX10_leadNow_116 rfl ?_
                  refine pw_aload_n C dX10_leadNow_118 rfl ?_
                  refine pw_iload C dX10_leadNow_119 rfl ?_
                  refine pw_ialdE C dX10_leadNow_121 hAr (by omega) (hv f (by omega) (by omega)) ?_
                  have b_121 := (hA.fa (s * 4 + f) (by omega)).s1
                  refine pw_if_ne (tgt := 131) C dX10_leadNow_122 (by decide) (by omega) (fun c_122 => ?_) (fun c_122 => ?_)
                  · skip
                    refine pw_aload_n C dX10_leadNow_131 rfl ?_
                    refine pw_iload C dX10_leadNow_132 rfl ?_
                    refine pw_ialdE C dX10_leadNow_134 hAr (by omega) (hv f (by omega) (by omega)) ?_
                    have b_134 := (hA.fa (s * 4 + f) (by omega)).s1
                    refine pw_iadd C dX10_leadNow_135 ?_
                    refine pw_istore C dX10_leadNow_136 (Nat.le_of_ble_eq_true rfl) rfl ?_
                    refine pw_iinc C dX10_leadNow_138 rfl (Nat.le_of_ble_eq_true rfl) rfl ?_
                    refine pw_goto (tgt := 100) C dX10_leadNow_141 (by decide) ?_
                    exact pw_locs (by exact ⟨rfl, cat_vR _, rfl, rfl, rfl, rfl, rfl, cat_vR _, rfl, rfl, rfl, rfl, rfl, rfl, rfl, rfl, rfl, rfl, trivial⟩) (ih_100 (c + (A (100 + (s * 4 + f)) 1 1)) (f + 1)  (by omega) (by omega) (fr_go (by omega) hg (by (try dsimp only); rw [if_pos c_113, if_neg (by omega)])) (by omega))
                  · skip
                    refine pw_sipush C dX10_leadNow_125 rfl ?_
                    refine pw_goto (tgt := 135) C dX10_leadNow_128 (by decide) ?_
                    refine pw_iadd C dX10_leadNow_135 ?_
                    refine pw_istore C dX10_leadNow_136 (Nat.le_of_ble_eq_true rfl) rfl ?_
                    refine pw_iinc C dX10_leadNow_138 rfl (Nat.le_of_ble_eq_true rfl) rfl ?_
                    refine pw_goto (tgt := 100) C dX10_leadNow_141 (by decide) ?_
                    exact pw_locs (by exact ⟨rfl, cat_vR _, rfl, rfl, rfl, rfl, rfl, cat_vR _, rfl, rfl, rfl, rfl, rfl, rfl, rfl, rfl, rfl, rfl, trivial⟩) (ih_100 (c + (-1000)) (f + 1)  (by omega) (by omega) (fr_go (by omega) hg (by (try dsimp only); rw [if_pos c_113, if_pos (by omega)])) (by omega))
          · skip
            refine pw_iconst C dX10_leadNow_88 ?_
            refine pw_goto (tgt := 95) C dX10_leadNow_89 (by decide) ?_
            refine pw_istore C dX10_leadNow_95 (Nat.le_of_ble_eq_true rfl) rfl ?_
            refine pw_iconst C dX10_leadNow_97 ?_
            refine pw_istore C dX10_leadNow_98 (Nat.le_of_ble_eq_true rfl) rfl ?_
            suffices K_100 : ∀ (nn_100 : Nat) (c f : Int) , (0 ≤ f ∧ f ≤ 4) → (-1000 - 1000 * f ≤ c ∧ c ≤ 30 * f) → (fr (fun f c => if ins set f then c + (if A (100 + (s * 4 + f)) 1 1 = 0 then -1000 else A (100 + (s * 4 + f)) 1 1) else c) f 4 c = mLs A s wd set) → 4 - f < (nn_100 : Int) → PW E Gn Mc 1 4 100 [(0, 1, vR Q), (1, 1, vI s), (2, 1, vI wd), (3, 1, vR x), (4, 1, vI best), (5, 1, vI most), (6, 1, vI set), (7, 1, vI c), (8, 1, vI f)] [] from pw_locs (by exact ⟨rfl, cat_vR _, rfl, rfl, rfl, rfl, rfl, cat_vR _, rfl, rfl, rfl, rfl, rfl, rfl, rfl, rfl, rfl, rfl, trivial⟩) (K_100 (4 - 0 + 1 : Int).toNat 0 0  (by omega) (by omega) (by first | exact (by unfold mLs; rw [if_pos (by omega)]) | omega) (by omega))
            intro nn_100
            induction nn_100 with
            | zero => intro c f h4 h5 hg h_m100; exact absurd h_m100 (by omega)
            | succ nn_100 ih_100 =>
              intro c f h4 h5 hg h_m100
              refine pw_iload C dX10_leadNow_100 rfl ?_
              refine pw_iconst C dX10_leadNow_102 ?_
              refine pw_icmp_ge (tgt := 144) C dX10_leadNow_103 (by decide) (by omega) (fun c_103 => ?_) (fun c_103 => ?_)
              · skip
                refine pw_iload C dX10_leadNow_144 rfl ?_
                refine pw_iload C dX10_leadNow_146 rfl ?_
                refine pw_icmp_gt (tgt := 154) C dX10_leadNow_148 (by decide) (by omega) (fun c_148 => ?_) (fun c_148 => ?_)
                · skip
                  refine pw_iload C dX10_leadNow_154 rfl ?_
                  refine pw_istore C dX10_leadNow_156 (Nat.le_of_ble_eq_true rfl) rfl ?_
                  refine pw_iload C dX10_leadNow_158 rfl ?_
                  refine pw_istore C dX10_leadNow_160 (Nat.le_of_ble_eq_true rfl) rfl ?_
                  refine pw_iinc C dX10_leadNow_162 rfl (Nat.le_of_ble_eq_true rfl) rfl ?_
                  refine pw_goto (tgt := 68) C dX10_leadNow_165 (by decide) ?_
                  exact pw_locs (by exact ⟨rfl, cat_vR _, rfl, rfl, rfl, rfl, rfl, cat_vR _, rfl, rfl, rfl, rfl, rfl, rfl, trivial⟩) (ih_68 set c (set + 1)  (by omega) (by omega) (fr_go (by omega) hf (by (try dsimp only); rw [← fr_done (by omega) hg]; exact if_pos c_148)) (by omega))
                · skip
                  refine pw_goto (tgt := 162) C dX10_leadNow_151 (by decide) ?_
                  refine pw_iinc C dX10_leadNow_162 rfl (Nat.le_of_ble_eq_true rfl) rfl ?_
                  refine pw_goto (tgt := 68) C dX10_leadNow_165 (by decide) ?_
                  exact pw_locs (by exact ⟨rfl, cat_vR _, rfl, rfl, rfl, rfl, rfl, cat_vR _, rfl, rfl, rfl, rfl, rfl, rfl, trivial⟩) (ih_68 best most (set + 1)  (by omega) (by omega) (fr_go (by omega) hf (by (try dsimp only); rw [← fr_done (by omega) hg]; exact if_neg c_148)) (by omega))
              · skip
                refine pw_iload C dX10_leadNow_106 rfl ?_
                refine pw_iload C dX10_leadNow_108 rfl ?_
                refine pw_cSE C hX dX10_leadNow_110 ml_X10_166 mc_X10_has (m_has (set := set) (f := f) (by omega) (by omega)) rfl rfl ⟨Nat.le_of_ble_eq_true rfl, Nat.le_of_ble_eq_true rfl⟩ (Nat.le_of_ble_eq_true rfl) (show 1 + 0 ≤ 1 ∧ 4 + 0 ≤ 4 by omega) ?_
                refine pw_ifB_eq (tgt := 138) C dX10_leadNow_113 (by decide) (fun c_113 => ?_) (fun c_113 => ?_)
                · skip
                  refine pw_iinc C dX10_leadNow_138 rfl (Nat.le_of_ble_eq_true rfl) rfl ?_
                  refine pw_goto (tgt := 100) C dX10_leadNow_141 (by decide) ?_
                  exact pw_locs (by exact ⟨rfl, cat_vR _, rfl, rfl, rfl, rfl, rfl, cat_vR _, rfl, rfl, rfl, rfl, rfl, rfl, rfl, rfl, rfl, rfl, trivial⟩) (ih_100 c (f + 1)  (by omega) (by omega) (fr_go (by omega) hg (by (try dsimp only); exact if_neg c_113)) (by omega))
                · skip
                  refine pw_iload C dX10_leadNow_116 rfl ?_
                  refine pw_aload_n C dX10_leadNow_118 rfl ?_
                  refine pw_iload C dX10_leadNow_119 rfl ?_
                  refine pw_ialdE C dX10_leadNow_121 hAr (by omega) (hv f (by omega) (by omega)) ?_
                  have b_121 := (hA.fa (s * 4 + f) (by omega)).s1
                  refine pw_if_ne (tgt := 131) C dX10_leadNow_122 (by decide) (by omega) (fun c_122 => ?_) (fun c_122 => ?_)
                  · skip
                    refine pw_aload_n C dX10_leadNow_131 rfl ?_
                    refine pw_iload C dX10_leadNow_132 rfl ?_
                    refine pw_ialdE C dX10_leadNow_134 hAr (by omega) (hv f (by omega) (by omega)) ?_
                    have b_134 := (hA.fa (s * 4 + f) (by omega)).s1
                    refine pw_iadd C dX10_leadNow_135 ?_
                    refine pw_istore C dX10_leadNow_136 (Nat.le_of_ble_eq_true rfl) rfl ?_
                    refine pw_iinc C dX10_leadNow_138 rfl (Nat.le_of_ble_eq_true rfl) rfl ?_
                    refine pw_goto (tgt := 100) C dX10_leadNow_141 (by decide) ?_
                    exact pw_locs (by exact ⟨rfl, cat_vR _, rfl, rfl, rfl, rfl, rfl, cat_vR _, rfl, rfl, rfl, rfl, rfl, rfl, rfl, rfl, rfl, rfl, trivial⟩) (ih_100 (c + (A (100 + (s * 4 + f)) 1 1)) (f + 1)  (by omega) (by omega) (fr_go (by omega) hg (by (try dsimp only); rw [if_pos c_113, if_neg (by omega)])) (by omega))
                  · skip
                    refine pw_sipush C dX10_leadNow_125 rfl ?_
                    refine pw_goto (tgt := 135) C dX10_leadNow_128 (by decide) ?_
                    refine pw_iadd C dX10_leadNow_135 ?_
                    refine pw_istore C dX10_leadNow_136 (Nat.le_of_ble_eq_true rfl) rfl ?_
                    refine pw_iinc C dX10_leadNow_138 rfl (Nat.le_of_ble_eq_true rfl) rfl ?_
                    refine pw_goto (tgt := 100) C dX10_leadNow_141 (by decide) ?_
                    exact pw_locs (by exact ⟨rfl, cat_vR _, rfl, rfl, rfl, rfl, rfl, cat_vR _, rfl, rfl, rfl, rfl, rfl, rfl, rfl, rfl, rfl, rfl, trivial⟩) (ih_100 (c + (-1000)) (f + 1)  (by omega) (by omega) (fr_go (by omega) hg (by (try dsimp only); rw [if_pos c_113, if_pos (by omega)])) (by omega))
    · skip
      refine pw_aload_n C dX10_leadNow_13 rfl ?_
      refine pw_aload_n C dX10_leadNow_14 rfl ?_
      refine pw_iload_n C dX10_leadNow_15 rfl ?_
      refine pw_iload C dX10_leadNow_16 rfl ?_
      refine pw_cVR C hX dX10_leadNow_18 ml_X10_123 mc_X10_fact (m_fact hMc hA (s := s) (f := f) (by omega) (by omega)) kc_13 hMc.k rfl rfl ⟨Nat.le_of_ble_eq_true rfl, Nat.le_of_ble_eq_true rfl⟩ (Nat.le_of_ble_eq_true rfl) (show 1 + 0 ≤ 1 ∧ 4 + 0 ≤ 4 by omega) ?_
      refine pw_cVE C hX dX10_leadNow_21 ml_X10_96 mc_X10_truth (m_truth hMc hA (hMc.fa (s * 4 + f) (by omega) (by omega)) (hA.fa (s * 4 + f) (by omega)).f0) kc_13 hMc.k rfl rfl ⟨Nat.le_of_ble_eq_true rfl, Nat.le_of_ble_eq_true rfl⟩ (Nat.le_of_ble_eq_true rfl) (show 1 + 0 ≤ 1 ∧ 4 + 0 ≤ 4 by omega) ?_
      have b_mst49 := mst_bd (S := A 10) (F := A (100 + (s * 4 + f))) (z := 1)
      refine pw_istore C dX10_leadNow_24 (Nat.le_of_ble_eq_true rfl) rfl ?_
      refine pw_aload_n C dX10_leadNow_26 rfl ?_
      refine pw_iload C dX10_leadNow_27 rfl ?_
      refine pw_iload C dX10_leadNow_29 rfl ?_
      refine pw_iconst C dX10_leadNow_31 ?_
      refine pw_icmp_ne (tgt := 39) C dX10_leadNow_32 (by decide) (by omega) (fun c_32 => ?_) (fun c_32 => ?_)
      · skip
        refine pw_aload_n C dX10_leadNow_39 rfl ?_
        refine pw_aload_n C dX10_leadNow_40 rfl ?_
        refine pw_iload_n C dX10_leadNow_41 rfl ?_
        refine pw_iload C dX10_leadNow_42 rfl ?_
        refine pw_cVR C hX dX10_leadNow_44 ml_X10_123 mc_X10_fact (m_fact hMc hA (s := s) (f := f) (by omega) (by omega)) kc_13 hMc.k rfl rfl ⟨Nat.le_of_ble_eq_true rfl, Nat.le_of_ble_eq_true rfl⟩ (Nat.le_of_ble_eq_true rfl) (show 1 + 0 ≤ 1 ∧ 4 + 0 ≤ 4 by omega) ?_
        refine pw_iload C dX10_leadNow_47 rfl ?_
        refine pw_cVE C hX dX10_leadNow_49 ml_X10_89 mc_X10_force (m_force hMc hA (hMc.fa (s * 4 + f) (by omega) (by omega)) (hA.fa (s * 4 + f) (by omega)).f0 (v := (mst (A 10) (A (100 + (s * 4 + f))) 1)) (by omega)) kc_13 hMc.k rfl rfl ⟨Nat.le_of_ble_eq_true rfl, Nat.le_of_ble_eq_true rfl⟩ (Nat.le_of_ble_eq_true rfl) (show 1 + 0 ≤ 1 ∧ 4 + 0 ≤ 4 by omega) ?_
        have b_mfo50 := mfo_bd (F := A (100 + (s * 4 + f))) (v := (mst (A 10) (A (100 + (s * 4 + f))) 1)) hA.so
        refine pw_iastG C dX10_leadNow_52 hAr (by omega) (fun M1 eM1 => ?_)
        refine pw_iinc C dX10_leadNow_53 rfl (Nat.le_of_ble_eq_true rfl) rfl ?_
        refine pw_goto (tgt := 7) C dX10_leadNow_56 (by decide) ?_
        exact pw_locs (by exact ⟨rfl, cat_vR _, rfl, rfl, rfl, rfl, rfl, cat_vR _, rfl, rfl, trivial⟩) (ih_7 (f + 1) M1 (by omega) (by rw [eM1]; exact hKc.w (by omega) agr_M1 rfl) (fun j q1 q2 => by rw [eM1]; by_cases e : j = f; (rw [e, mup_s, (hw9 (by omega)).2.2, (hw9 (by omega)).1, if_neg c_32]); (rw [mup_n (by omega)]; exact hv j q1 (by omega))) (by omega))
      · skip
        refine pw_iconst C dX10_leadNow_35 ?_
        refine pw_goto (tgt := 52) C dX10_leadNow_36 (by decide) ?_
        refine pw_iastG C dX10_leadNow_52 hAr (by omega) (fun M2 eM2 => ?_)
        refine pw_iinc C dX10_leadNow_53 rfl (Nat.le_of_ble_eq_true rfl) rfl ?_
        refine pw_goto (tgt := 7) C dX10_leadNow_56 (by decide) ?_
        exact pw_locs (by exact ⟨rfl, cat_vR _, rfl, rfl, rfl, rfl, rfl, cat_vR _, rfl, rfl, trivial⟩) (ih_7 (f + 1) M2 (by omega) (by rw [eM2]; exact hKc.w (by omega) agr_M1 rfl) (fun j q1 q2 => by rw [eM2]; by_cases e : j = f; (rw [e, mup_s, (hw9 (by omega)).2.2, (hw9 (by omega)).1, if_pos c_32]); (rw [mup_n (by omega)]; exact hv j q1 (by omega))) (by omega))

set_option maxHeartbeats 4000000 in
set_option maxRecDepth 100000 in
theorem m_refuse {X : Xv} {G M : Mm} {Q : Int} {A : An} {D : Fn} {I : Int → Int} (hM : RM G M Q A D I) (hA : AB A) {z w : Int} (hz : z = 0 ∨ z = 1) (hw : 1 ≤ w ∧ w ≤ 3) (h0 : M 0 240 Q = 0) : CT X yX10_refuse prog_8_method_5_code 3 (some .boolean) 0 0 0 0 [vR Q, vI z, vI w] G M (PI (fun r G1 M1 => r = z ∧ G1 = G ∧ M1 = mup M 0 240 Q (if z = 0 then 0 else w))) := by
  refine CT.by (by decide +kernel) [1, 1, 1] ⟨cat_vR _, cat_vI _, cat_vI _, trivial⟩ (Nat.le_of_ble_eq_true rfl) (fun E hX C hR hIni => ?_)
  have hn := hA.n
  have hnS := hA.so.c
  refine pw_iload_n C dX10_refuse_0 rfl ?_
  refine pw_if_eq (tgt := 16) C dX10_refuse_1 (by decide) (by omega) (fun c_1 => ?_) (fun c_1 => ?_)
  · skip
    refine pw_aload_n C dX10_refuse_16 rfl ?_
    refine pw_getE C dX10_refuse_17 fl_X10_25 rfl hM.k h0 ?_
    refine pw_if_le (tgt := 27) C dX10_refuse_20 (by decide) (by omega) (fun c_20 => ?_) (fun c_20 => ?_)
    · skip
      refine pw_iconst C dX10_refuse_27 ?_
      exact pw_zret C hR dX10_refuse_28 (by omega) (⟨_, rfl, by omega, rfl, by rw [if_pos (by omega)]; have q := mup_self (M := M) (b := 0) (x := 240) (y := Q); rw [h0] at q; exact q⟩) (by omega) (by omega)
    · skip
      refine pw_iconst C dX10_refuse_23 ?_
      refine pw_goto (tgt := 28) C dX10_refuse_24 (by decide) ?_
      exact pw_zret C hR dX10_refuse_28 (by omega) (⟨_, rfl, by omega, rfl, by rw [if_pos (by omega)]; have q := mup_self (M := M) (b := 0) (x := 240) (y := Q); rw [h0] at q; exact q⟩) (by omega) (by omega)
  · skip
    refine pw_aload_n C dX10_refuse_4 rfl ?_
    refine pw_getE C dX10_refuse_5 fl_X10_25 rfl hM.k h0 ?_
    refine pw_ifL_nen (tgt := 16) C dX10_refuse_8 (by decide) rfl ?_
    refine pw_aload_n C dX10_refuse_11 rfl ?_
    refine pw_iload_n C dX10_refuse_12 rfl ?_
    refine pw_putIG C dX10_refuse_13 fl_X10_25 (fun h => by cases h) rfl hM.k (fun M1 eM1 => ?_)
    have ht1 : M1 0 240 Q = w := by rw [eM1, mup_s]
    refine pw_aload_n C dX10_refuse_16 rfl ?_
    refine pw_getE C dX10_refuse_17 fl_X10_25 rfl hM.k ht1 ?_
    refine pw_if_le (tgt := 27) C dX10_refuse_20 (by decide) (by omega) (fun c_20 => ?_) (fun c_20 => ?_)
    · skip
      refine pw_iconst C dX10_refuse_27 ?_
      exact pw_zret C hR dX10_refuse_28 (by omega) (⟨_, rfl, by omega, rfl, by rw [if_neg (by omega)]; assumption⟩) (by omega) (by omega)
    · skip
      refine pw_iconst C dX10_refuse_23 ?_
      refine pw_goto (tgt := 28) C dX10_refuse_24 (by decide) ?_
      exact pw_zret C hR dX10_refuse_28 (by omega) (⟨_, rfl, by omega, rfl, by rw [if_neg (by omega)]; assumption⟩) (by omega) (by omega)

set_option maxHeartbeats 4000000 in
set_option maxRecDepth 100000 in
theorem m_start {X : Xv} {G M : Mm} {Q : Int} {A : An} {D : Fn} {I : Int → Int} (hM : RM G M Q A D I) (hA : AB A) {z w : Int} (hz : z = 0 ∨ z = 1) (hw : 1 ≤ w ∧ w ≤ 3) : CT X yX10_start prog_8_method_6_code 3 (some .boolean) 1 22 0 0 [vR Q, vI z, vI w] G M (PI (fun r G1 M1 => r = z ∧ G1 = G ∧ M1 = mup M 0 240 Q (if z = 0 then 0 else w))) := by
  refine CT.by (by decide +kernel) [1, 1, 1] ⟨cat_vR _, cat_vI _, cat_vI _, trivial⟩ (Nat.le_of_ble_eq_true rfl) (fun E hX C hR hIni => ?_)
  have hn := hA.n
  have hnS := hA.so.c
  refine pw_aload_n C dX10_start_0 rfl ?_
  refine pw_iconst C dX10_start_1 ?_
  refine pw_putI C dX10_start_2 fl_X10_25 (fun h => by cases h) hM.k rfl ?_
  have hM0 := hM.th (x := 0)
  have h0 : mup M 0 240 Q 0 0 240 Q = 0 := mup_s _ _ _ _ _
  generalize hM1 : mup M 0 240 Q 0 = M1 at hM0 h0 ⊢
  refine pw_aload_n C dX10_start_5 rfl ?_
  refine pw_iload_n C dX10_start_6 rfl ?_
  refine pw_iload_n C dX10_start_7 rfl ?_
  refine pw_cVI C hX dX10_start_8 ml_X10_29 mc_X10_refuse (m_refuse hM0 hA (z := z) (w := w) (by omega) (by omega) h0) kc_13 hM0.k rfl rfl ⟨Nat.le_of_ble_eq_true rfl, Nat.le_of_ble_eq_true rfl⟩ (Nat.le_of_ble_eq_true rfl) ⟨Nat.le_of_ble_eq_true rfl, Nat.le_of_ble_eq_true rfl⟩ (fun r_ G M2 hq_ => ?_)
  obtain ⟨rfl, rfl, e2⟩ := hq_
  exact pw_zret C hR dX10_start_11 (by omega) (⟨_, rfl, rfl, rfl, by rw [e2, ← hM1, mup_mup]⟩) (by omega) (by omega)

