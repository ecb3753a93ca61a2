/-! ===== the model's digest ===== -/
theorem fr_ge {f : Int → Int → Int} {lo hi c : Int} (h : lo ≤ hi) (hf : ∀ i c, lo ≤ i → i < hi → c ≤ f i c) : c ≤ fr f lo hi c :=
  fr_inv (σ := Int) (f := f) (hi := hi) (P := fun _ x => c ≤ x) (lo := lo) (s := c) h (Int.le_refl _) (fun i x h1 h2 hp => Int.le_trans hp (hf i x h1 h2))
def kF0 (A : An) : Int → Int → Int := fun w c => c + kMn A w
def kF3 (A : An) (s f : Int) : Int → Int → Int := fun w c => c + kWf A s f w
def kF2 (A : An) (s : Int) : Int → Int → Int := fun f c => fr (kF3 A s f) 0 7 c
def kF1 (A : An) : Int → Int → Int := fun s c => fr (kF2 A s) 0 4 c
theorem nWA_nn {A : An} (hA : AB A) : 0 ≤ nWA A := by have hn := hA.n; exact nWA_le hA (by omega)
theorem kMn_nn {A : An} {w : Int} (hA : AB A) : 0 ≤ kMn A w := by have := nWA_nn hA; unfold kMn; split; omega; split <;> omega
theorem kWf_nn {A : An} {s f w : Int} (hA : AB A) : 0 ≤ kWf A s f w := by have := nWt_nn (s := s) (f := f) hA; unfold kWf; split <;> omega
theorem kF0_ge {A : An} {w c : Int} (hA : AB A) : c ≤ kF0 A w c := by have := kMn_nn (w := w) hA; unfold kF0; omega
theorem kF3_ge {A : An} {s f w c : Int} (hA : AB A) : c ≤ kF3 A s f w c := by have := kWf_nn (s := s) (f := f) (w := w) hA; unfold kF3; omega
theorem kF2_ge {A : An} {s f c : Int} (hA : AB A) : c ≤ kF2 A s f c := fr_ge (by omega) (fun _ _ _ _ => kF3_ge hA)
theorem kF1_ge {A : An} {s c : Int} (hA : AB A) : c ≤ kF1 A s c := fr_ge (by omega) (fun _ _ _ _ => kF2_ge hA)
def kD0 (A : An) : Int := fr (kF0 A) 0 11 0
def kD1 (A : An) : Int := fr (kF1 A) 0 (A 0 0 0) (kD0 A)
def kDg (A : An) : Int := kD1 A + A 0 0 0 + 9 * A 0 0 1 + 9 * A 0 0 2
def nDg (A : An) : Int := 4 * (kD1 A + A 0 0 0) + 81 * A 0 0 1 + 367 * A 0 0 2
def mdA (A : An) (x : Int) : Int := fr (fun w d => d * 31 + wr (mnM A w)) 0 11 x
def mdSt (A : An) (x : Int) : Int := fr (fun s d => d * 31 + wr (mLe A s 55)) 0 (A 0 0 0) (fr (fun s d => fr (fun f d => (fr (fun w d => d * 31 + wr (moF A s f w)) 0 7 d) * 31 + wr (mNe (A 10) (A (100 + (s * 4 + f))) 50 2)) 0 4 d) 0 (A 0 0 0) x)
def mdL (A : An) (x : Int) : Int := fr (fun l d => fr (fun t d => d * 31 + wr (stt A l t)) 0 (A 0 0 1) ((fr (fun w d => d * 31 + wr (oLi A l w)) 0 8 d) * 31 + wr (mWo A l 3 50))) 0 (A 0 0 2) x
def mdig (A : An) : Int := dgD A (mdL A (dgT A (mdSt A (mdA A 58223))))
set_option maxHeartbeats 4000000 in
set_option maxRecDepth 100000 in
theorem m_add_ {X : Xv} {G M : Mm} {x y : Int} : CT X yX10_add_ prog_8_method_70_code 4 (some .long) 0 0 0 0 [vL x, vL y] G M (PL G M (x * 31 + y)) := by
  refine CT.by (by decide +kernel) [2, 2] ⟨cat_vL _, cat_vL _, trivial⟩ (Nat.le_of_ble_eq_true rfl) (fun E hX C hR hIni => ?_)
  refine pw_lload_n C dX10_add__0 rfl ?_
  refine pw_ldc2 (v := Int64.ofInt 31) (x := 31) C dX10_add__1 (List.mem_of_getElem? (i := 1499) (by decide +kernel)) rfl ?_
  refine pw_lmul C dX10_add__4 ?_
  refine pw_lload_n C dX10_add__5 rfl ?_
  refine pw_ladd C dX10_add__6 ?_
  exact pw_lretE C hR dX10_add__7 rfl rfl (rfl) (Nat.zero_le _) (Nat.zero_le _)

set_option maxHeartbeats 4000000 in
set_option maxRecDepth 100000 in
theorem m_digest {X : Xv} {G M : Mm} {Q : Int} {A : An} {D : Fn} {I : Int → Int} (hM : RM G M Q A D I) (hA : AB A) (hW : WF A) (hE : EM X G) : CT X yX10_digest prog_8_method_71_code 6 (some .long) 10 228 ((kDg A).toNat) ((nDg A).toNat) [vR Q] G M (PJ (fun r G1 M1 => r = mdig A ∧ Kp G (mup M 0 240 Q 0) G1 M1)) := by
  refine CT.by (by decide +kernel) [1] ⟨cat_vR _, trivial⟩ (Nat.le_of_ble_eq_true rfl) (fun E hX C hR hIni => ?_)
  have hn := hA.n
  have hnS := hA.so.c
  have hq9 := hM.q
  have hg1 : kDg A = kD1 A + A 0 0 0 + 9 * A 0 0 1 + 9 * A 0 0 2 := rfl
  have hg2 : nDg A = 4 * (kD1 A + A 0 0 0) + 81 * A 0 0 1 + 367 * A 0 0 2 := rfl
  refine pw_aload_n C dX10_digest_0 rfl ?_
  refine pw_iconst C dX10_digest_1 ?_
  refine pw_putI C dX10_digest_2 fl_X10_25 (fun h => by cases h) hM.k rfl ?_
  have hM0 := hM.th (x := 0)
  generalize mup M 0 240 Q 0 = M0 at hM0 hR ⊢
  clear hM
  have hM := hM0
  have hK0 : Kp G M0 G M0 := Kp.rf
  refine pw_ldc2 (v := Int64.ofInt 58223) (x := 58223) C dX10_digest_5 (List.mem_of_getElem? (i := 1495) (by decide +kernel)) rfl ?_
  refine pw_lstore_n C dX10_digest_8 (Nat.le_of_ble_eq_true rfl) rfl ?_
  refine pw_iconst C dX10_digest_9 ?_
  refine pw_istore_n C dX10_digest_10 (Nat.le_of_ble_eq_true rfl) rfl ?_
  suffices K_11 : ∀ (nn_11 : Nat) (da w : Int) (Ga : Mm) (Ma : Mm) (ka : Nat) (na : Nat), (Kp G M0 Ga Ma) → (0 ≤ w ∧ w ≤ 11) → (fr (fun w d => d * 31 + wr (mnM A w)) w (11) da = mdA A 58223) → (fr (kF0 A) w 11 (ka : Int) = kD0 A) → ((na : Int) ≤ 4 * ka) → 11 - w < (nn_11 : Int) → PW E Ga Ma ka na 11 [(0, 1, vR Q), (1, 2, vL da), (3, 1, vI w)] [] from pw_locs (by exact ⟨rfl, cat_vR _, rfl, rfl, rfl, rfl, trivial⟩) (K_11 (11 - 0 + 1 : Int).toNat 58223 0 G M0 0 0 (by first | exact hK0 | omega) (by omega) (by first | exact (rfl) | omega) (by first | exact rfl | omega) (by omega) (by omega))
  intro nn_11
  induction nn_11 with
  | zero => intro da w Ga Ma ka na hKa ha hfa hka hna h_m11; exact absurd h_m11 (by omega)
  | succ nn_11 ih_11 =>
    intro da w Ga Ma ka na hKa ha hfa hka hna h_m11
    have hMa := hM.kp hKa
    have q1 := fr_ge (f := kF0 A) (c := (ka : Int)) (show w ≤ 11 by omega) (fun i c _ _ => kF0_ge (w := i) (c := c) hA)
    refine pw_iload_n C dX10_digest_11 rfl ?_
    refine pw_bipush C dX10_digest_12 rfl ?_
    refine pw_icmp_ge (tgt := 34) C dX10_digest_14 (by decide) (by omega) (fun c_14 => ?_) (fun c_14 => ?_)
    · skip
      refine pw_iconst C dX10_digest_34 ?_
      refine pw_istore_n C dX10_digest_35 (Nat.le_of_ble_eq_true rfl) rfl ?_
      suffices K_36 : ∀ (nn_36 : Nat) (db s : Int) (Gb : Mm) (Mb : Mm) (kb : Nat) (nb : Nat), (Kp G M0 Gb Mb) → (0 ≤ s ∧ s ≤ A 0 0 0) → (fr (fun s d => fr (fun f d => (fr (fun w d => d * 31 + wr (moF A s f w)) 0 7 d) * 31 + wr (mNe (A 10) (A (100 + (s * 4 + f))) 50 2)) 0 4 d) s (A 0 0 0) db = fr (fun s d => fr (fun f d => (fr (fun w d => d * 31 + wr (moF A s f w)) 0 7 d) * 31 + wr (mNe (A 10) (A (100 + (s * 4 + f))) 50 2)) 0 4 d) 0 (A 0 0 0) (mdA A 58223)) → (fr (kF1 A) s (A 0 0 0) (kb : Int) = kD1 A) → ((nb : Int) ≤ 4 * kb) → A 0 0 0 - s < (nn_36 : Int) → PW E Gb Mb kb nb 36 [(0, 1, vR Q), (1, 2, vL db), (3, 1, vI s)] [] from pw_locs (by exact ⟨rfl, cat_vR _, rfl, rfl, rfl, rfl, trivial⟩) (K_36 (A 0 0 0 - 0 + 1 : Int).toNat da 0 Ga Ma ka na (by first | exact hKa | omega) (by omega) (by first | exact (by rw [fr_done (by omega) hfa]) | omega) (by first | exact (by have := fr_done (by omega) hka; rw [this]; rfl) | omega) (by omega) (by omega))
      intro nn_36
      induction nn_36 with
      | zero => intro db s Gb Mb kb nb hKb hb hfb hkb hnb h_m36; exact absurd h_m36 (by omega)
      | succ nn_36 ih_36 =>
        intro db s Gb Mb kb nb hKb hb hfb hkb hnb h_m36
        have hMb := hM.kp hKb
        have q2 := fr_ge (f := kF1 A) (c := (kb : Int)) (show s ≤ A 0 0 0 by omega) (fun i c _ _ => kF1_ge (s := i) (c := c) hA)
        refine pw_iload_n C dX10_digest_36 rfl ?_
        refine pw_aload_n C dX10_digest_37 rfl ?_
        refine pw_getR C dX10_digest_38 fl_X10_16 hMb.k rfl hMb.r2 ?_
        refine pw_cVE C hX dX10_digest_41 ml_X10_33 mc_Jx4a65c_size_8abf5 (c_size hMb.l2) kc_2 hMb.l2.k rfl rfl ⟨Nat.le_of_ble_eq_true rfl, Nat.le_of_ble_eq_true rfl⟩ (Nat.le_of_ble_eq_true rfl) (by show _ ≤ (kDg A).toNat ∧ _ ≤ (nDg A).toNat; omega) ?_
        refine pw_icmp_ge (tgt := 115) C dX10_digest_44 (by decide) (by omega) (fun c_44 => ?_) (fun c_44 => ?_)
        · skip
          refine pw_iconst C dX10_digest_115 ?_
          refine pw_istore_n C dX10_digest_116 (Nat.le_of_ble_eq_true rfl) rfl ?_
          suffices K_117 : ∀ (nn_117 : Nat) (de s2 : Int) (Ge : Mm) (Me : Mm) (ke : Nat) (ne : Nat), (Kp G M0 Ge Me) → (0 ≤ s2 ∧ s2 ≤ A 0 0 0) → (fr (fun s d => d * 31 + wr (mLe A s 55)) s2 (A 0 0 0) de = mdSt A (mdA A 58223)) → ((ke : Int) = kD1 A + s2) → ((ne : Int) ≤ 4 * ke) → A 0 0 0 - s2 < (nn_117 : Int) → PW E Ge Me ke ne 117 [(0, 1, vR Q), (1, 2, vL de), (3, 1, vI s2)] [] from pw_locs (by exact ⟨rfl, cat_vR _, rfl, rfl, rfl, rfl, trivial⟩) (K_117 (A 0 0 0 - 0 + 1 : Int).toNat db 0 Gb Mb kb nb (by first | exact hKb | omega) (by omega) (by first | exact (by rw [fr_done (by omega) hfb]; rfl) | omega) (by first | exact (by have := fr_done (by omega) hkb; omega) | omega) (by omega) (by omega))
          intro nn_117
          induction nn_117 with
          | zero => intro de s2 Ge Me ke ne hKe he hfe hke hne h_m117; exact absurd h_m117 (by omega)
          | succ nn_117 ih_117 =>
            intro de s2 Ge Me ke ne hKe he hfe hke hne h_m117
            have hMe := hM.kp hKe
            refine pw_iload_n C dX10_digest_117 rfl ?_
            refine pw_aload_n C dX10_digest_118 rfl ?_
            refine pw_getR C dX10_digest_119 fl_X10_16 hMe.k rfl hMe.r2 ?_
            refine pw_cVE C hX dX10_digest_122 ml_X10_33 mc_Jx4a65c_size_8abf5 (c_size hMe.l2) kc_2 hMe.l2.k rfl rfl ⟨Nat.le_of_ble_eq_true rfl, Nat.le_of_ble_eq_true rfl⟩ (Nat.le_of_ble_eq_true rfl) (by show _ ≤ (kDg A).toNat ∧ _ ≤ (nDg A).toNat; omega) ?_
            refine pw_icmp_ge (tgt := 147) C dX10_digest_125 (by decide) (by omega) (fun c_125 => ?_) (fun c_125 => ?_)
            · skip
              refine pw_iconst C dX10_digest_147 ?_
              refine pw_istore_n C dX10_digest_148 (Nat.le_of_ble_eq_true rfl) rfl ?_
              suffices K_149 : ∀ (nn_149 : Nat) (dg t : Int) (Gg : Mm) (Mg : Mm) (kg : Nat) (ng : Nat), (Kp G M0 Gg Mg) → (0 ≤ t ∧ t ≤ A 0 0 1) → (fr (fun t d => fr (fun f d => d * 31 + wr (A (200 + t) 0 f)) 0 4 (fr (fun w d => d * 31 + wr (oTa A t w)) 0 9 d)) t (A 0 0 1) dg = dgT A (mdSt A (mdA A 58223))) → ((kg : Int) = kD1 A + A 0 0 0 + 9 * t) → ((ng : Int) ≤ 4 * (kD1 A + A 0 0 0) + 81 * t) → A 0 0 1 - t < (nn_149 : Int) → PW E Gg Mg kg ng 149 [(0, 1, vR Q), (1, 2, vL dg), (3, 1, vI t)] [] from pw_locs (by exact ⟨rfl, cat_vR _, rfl, rfl, rfl, rfl, trivial⟩) (K_149 (A 0 0 1 - 0 + 1 : Int).toNat de 0 Ge Me ke ne (by first | exact hKe | omega) (by omega) (by first | exact (by rw [fr_done (by omega) hfe]; rfl) | omega) (by omega) (by omega) (by omega))
              intro nn_149
              induction nn_149 with
              | zero => intro dg t Gg Mg kg ng hKg hg hfg hkg hng h_m149; exact absurd h_m149 (by omega)
              | succ nn_149 ih_149 =>
                intro dg t Gg Mg kg ng hKg hg hfg hkg hng h_m149
                have hMg := hM.kp hKg
                refine pw_iload_n C dX10_digest_149 rfl ?_
                refine pw_aload_n C dX10_digest_150 rfl ?_
                refine pw_getR C dX10_digest_151 fl_X10_19 hMg.k rfl hMg.r3 ?_
                refine pw_cVE C hX dX10_digest_154 ml_X10_33 mc_Jx4a65c_size_8abf5 (c_size hMg.l3) kc_2 hMg.l3.k rfl rfl ⟨Nat.le_of_ble_eq_true rfl, Nat.le_of_ble_eq_true rfl⟩ (Nat.le_of_ble_eq_true rfl) (by show _ ≤ (kDg A).toNat ∧ _ ≤ (nDg A).toNat; omega) ?_
                refine pw_icmp_ge (tgt := 223) C dX10_digest_157 (by decide) (by omega) (fun c_157 => ?_) (fun c_157 => ?_)
                · skip
                  refine pw_iconst C dX10_digest_223 ?_
                  refine pw_istore_n C dX10_digest_224 (Nat.le_of_ble_eq_true rfl) rfl ?_
                  suffices K_225 : ∀ (nn_225 : Nat) (dj l : Int) (Gj : Mm) (Mj : Mm) (kj : Nat) (nj : Nat), (Kp G M0 Gj Mj) → (0 ≤ l ∧ l ≤ A 0 0 2) → (fr (fun l d => fr (fun t d => d * 31 + wr (stt A l t)) 0 (A 0 0 1) ((fr (fun w d => d * 31 + wr (oLi A l w)) 0 8 d) * 31 + wr (mWo A l 3 50))) l (A 0 0 2) dj = mdL A (dgT A (mdSt A (mdA A 58223)))) → ((kj : Int) = kD1 A + A 0 0 0 + 9 * A 0 0 1 + 9 * l) → ((nj : Int) ≤ 4 * (kD1 A + A 0 0 0) + 81 * A 0 0 1 + 367 * l) → A 0 0 2 - l < (nn_225 : Int) → PW E Gj Mj kj nj 225 [(0, 1, vR Q), (1, 2, vL dj), (3, 1, vI l)] [] from pw_locs (by exact ⟨rfl, cat_vR _, rfl, rfl, rfl, rfl, trivial⟩) (K_225 (A 0 0 2 - 0 + 1 : Int).toNat dg 0 Gg Mg kg ng (by first | exact hKg | omega) (by omega) (by first | exact (by rw [fr_done (by omega) hfg]; rfl) | omega) (by omega) (by omega) (by omega))
                  intro nn_225
                  induction nn_225 with
                  | zero => intro dj l Gj Mj kj nj hKj hj hfj hkj hnj h_m225; exact absurd h_m225 (by omega)
                  | succ nn_225 ih_225 =>
                    intro dj l Gj Mj kj nj hKj hj hfj hkj hnj h_m225
                    have hMj := hM.kp hKj
                    refine pw_iload_n C dX10_digest_225 rfl ?_
                    refine pw_aload_n C dX10_digest_226 rfl ?_
                    refine pw_getR C dX10_digest_227 fl_X10_22 hMj.k rfl hMj.r4 ?_
                    refine pw_cVE C hX dX10_digest_230 ml_X10_33 mc_Jx4a65c_size_8abf5 (c_size hMj.l4) kc_2 hMj.l4.k rfl rfl ⟨Nat.le_of_ble_eq_true rfl, Nat.le_of_ble_eq_true rfl⟩ (Nat.le_of_ble_eq_true rfl) (by show _ ≤ (kDg A).toNat ∧ _ ≤ (nDg A).toNat; omega) ?_
                    refine pw_icmp_ge (tgt := 319) C dX10_digest_233 (by decide) (by omega) (fun c_233 => ?_) (fun c_233 => ?_)
                    · skip
                      refine pw_iconst C dX10_digest_319 ?_
                      refine pw_istore_n C dX10_digest_320 (Nat.le_of_ble_eq_true rfl) rfl ?_
                      suffices K_321 : ∀ (nn_321 : Nat) (dm l5 : Int) , (0 ≤ l5 ∧ l5 ≤ A 0 0 2) → (fr (fun l d => fr (fun s d => fr (fun f d => d * 31 + wr (tld A l s f)) 0 4 d) 0 (A 0 0 0) d) l5 (A 0 0 2) dm = mdig A) → A 0 0 2 - l5 < (nn_321 : Int) → PW E Gj Mj kj nj 321 [(0, 1, vR Q), (1, 2, vL dm), (3, 1, vI l5)] [] from pw_locs (by exact ⟨rfl, cat_vR _, rfl, rfl, rfl, rfl, trivial⟩) (K_321 (A 0 0 2 - 0 + 1 : Int).toNat dj 0  (by omega) (by first | exact (by rw [fr_done (by omega) hfj]; rfl) | omega) (by omega))
                      intro nn_321
                      induction nn_321 with
                      | zero => intro dm l5 hm hfm h_m321; exact absurd h_m321 (by omega)
                      | succ nn_321 ih_321 =>
                        intro dm l5 hm hfm h_m321
                        refine pw_iload_n C dX10_digest_321 rfl ?_
                        refine pw_aload_n C dX10_digest_322 rfl ?_
                        refine pw_getR C dX10_digest_323 fl_X10_22 hMj.k rfl hMj.r4 ?_
                        refine pw_cVE C hX dX10_digest_326 ml_X10_33 mc_Jx4a65c_size_8abf5 (c_size hMj.l4) kc_2 hMj.l4.k rfl rfl ⟨Nat.le_of_ble_eq_true rfl, Nat.le_of_ble_eq_true rfl⟩ (Nat.le_of_ble_eq_true rfl) (by show _ ≤ (kDg A).toNat ∧ _ ≤ (nDg A).toNat; omega) ?_
                        refine pw_icmp_ge (tgt := 389) C dX10_digest_329 (by decide) (by omega) (fun c_329 => ?_) (fun c_329 => ?_)
                        · skip
                          refine pw_lload_n C dX10_digest_389 rfl ?_
                          exact pw_lret C hR dX10_digest_390 (⟨_, rfl, fr_done (by omega) hfm, hKj⟩) (by show _ ≤ (kDg A).toNat; omega) (by show _ ≤ (nDg A).toNat; omega)
                        · skip
                          refine pw_iconst C dX10_digest_332 ?_
                          refine pw_istore C dX10_digest_333 (Nat.le_of_ble_eq_true rfl) rfl ?_
                          suffices K_335 : ∀ (nn_335 : Nat) (dn s5 : Int) , (0 ≤ s5 ∧ s5 ≤ A 0 0 0) → (fr (fun s d => fr (fun f d => d * 31 + wr (tld A l5 s f)) 0 4 d) s5 (A 0 0 0) dn = fr (fun s d => fr (fun f d => d * 31 + wr (tld A l5 s f)) 0 4 d) 0 (A 0 0 0) dm) → A 0 0 0 - s5 < (nn_335 : Int) → PW E Gj Mj kj nj 335 [(0, 1, vR Q), (1, 2, vL dn), (3, 1, vI l5), (4, 1, vI s5)] [] from pw_locs (by exact ⟨rfl, cat_vR _, rfl, rfl, rfl, rfl, rfl, rfl, trivial⟩) (K_335 (A 0 0 0 - 0 + 1 : Int).toNat dm 0  (by omega) (by first | exact rfl | omega) (by omega))
                          intro nn_335
                          induction nn_335 with
                          | zero => intro dn s5 hn hfn h_m335; exact absurd h_m335 (by omega)
                          | succ nn_335 ih_335 =>
                            intro dn s5 hn hfn h_m335
                            refine pw_iload C dX10_digest_335 rfl ?_
                            refine pw_aload_n C dX10_digest_337 rfl ?_
                            refine pw_getR C dX10_digest_338 fl_X10_16 hMj.k rfl hMj.r2 ?_
                            refine pw_cVE C hX dX10_digest_341 ml_X10_33 mc_Jx4a65c_size_8abf5 (c_size hMj.l2) kc_2 hMj.l2.k rfl rfl ⟨Nat.le_of_ble_eq_true rfl, Nat.le_of_ble_eq_true rfl⟩ (Nat.le_of_ble_eq_true rfl) (by show _ ≤ (kDg A).toNat ∧ _ ≤ (nDg A).toNat; omega) ?_
                            refine pw_icmp_ge (tgt := 383) C dX10_digest_344 (by decide) (by omega) (fun c_344 => ?_) (fun c_344 => ?_)
                            · skip
                              refine pw_iinc C dX10_digest_383 rfl (Nat.le_of_ble_eq_true rfl) rfl ?_
                              refine pw_goto (tgt := 321) C dX10_digest_386 (by decide) ?_
                              exact pw_locs (by exact ⟨rfl, cat_vR _, rfl, rfl, rfl, rfl, trivial⟩) (ih_321 dn (l5 + 1)  (by omega) (fr_go (by omega) hfm (by (try dsimp only); exact (fr_done (by omega) hfn).symm)) (by omega))
                            · skip
                              refine pw_iconst C dX10_digest_347 ?_
                              refine pw_istore C dX10_digest_348 (Nat.le_of_ble_eq_true rfl) rfl ?_
                              suffices K_350 : ∀ (nn_350 : Nat) (dp f5 : Int) , (0 ≤ f5 ∧ f5 ≤ 4) → (fr (fun f d => d * 31 + wr (tld A l5 s5 f)) f5 (4) dp = fr (fun f d => d * 31 + wr (tld A l5 s5 f)) 0 4 dn) → 4 - f5 < (nn_350 : Int) → PW E Gj Mj kj nj 350 [(0, 1, vR Q), (1, 2, vL dp), (3, 1, vI l5), (4, 1, vI s5), (5, 1, vI f5)] [] from pw_locs (by exact ⟨rfl, cat_vR _, rfl, rfl, rfl, rfl, rfl, rfl, rfl, rfl, trivial⟩) (K_350 (4 - 0 + 1 : Int).toNat dn 0  (by omega) (by first | exact rfl | omega) (by omega))
                              intro nn_350
                              induction nn_350 with
                              | zero => intro dp f5 hp hfp h_m350; exact absurd h_m350 (by omega)
                              | succ nn_350 ih_350 =>
                                intro dp f5 hp hfp h_m350
                                refine pw_iload C dX10_digest_350 rfl ?_
                                refine pw_iconst C dX10_digest_352 ?_
                                refine pw_icmp_ge (tgt := 377) C dX10_digest_353 (by decide) (by omega) (fun c_353 => ?_) (fun c_353 => ?_)
                                · skip
                                  refine pw_iinc C dX10_digest_377 rfl (Nat.le_of_ble_eq_true rfl) rfl ?_
                                  refine pw_goto (tgt := 335) C dX10_digest_380 (by decide) ?_
                                  exact pw_locs (by exact ⟨rfl, cat_vR _, rfl, rfl, rfl, rfl, rfl, rfl, trivial⟩) (ih_335 dp (s5 + 1)  (by omega) (fr_go (by omega) hfn (by (try dsimp only); exact (fr_done (by omega) hfp).symm)) (by omega))
                                · skip
                                  refine pw_lload_n C dX10_digest_356 rfl ?_
                                  refine pw_aload_n C dX10_digest_357 rfl ?_
                                  refine pw_iload_n C dX10_digest_358 rfl ?_
                                  refine pw_iload C dX10_digest_359 rfl ?_
                                  refine pw_iload C dX10_digest_361 rfl ?_
                                  refine pw_cVE C hX dX10_digest_363 ml_X10_257 mc_X10_tellsNow (m_tellsNow hMj hA hW (l := l5) (s := s5) (f := f5) (by omega) (by omega) (by omega)) kc_13 hMj.k rfl rfl ⟨Nat.le_of_ble_eq_true rfl, Nat.le_of_ble_eq_true rfl⟩ (Nat.le_of_ble_eq_true rfl) (by show _ ≤ (kDg A).toNat ∧ _ ≤ (nDg A).toNat; omega) ?_
                                  have b_tld51 := tld_bd (l := l5) (s := s5) (f := f5) hA (by omega)
                                  refine pw_i2lW C dX10_digest_366 ?_
                                  refine pw_cSL C hX dX10_digest_367 ml_X10_320 mc_X10_add_ (m_add_ (x := dp) (y := (wr (tld A l5 s5 f5)))) rfl rfl ⟨Nat.le_of_ble_eq_true rfl, Nat.le_of_ble_eq_true rfl⟩ (Nat.le_of_ble_eq_true rfl) (by show _ ≤ (kDg A).toNat ∧ _ ≤ (nDg A).toNat; omega) ?_
                                  refine pw_lstore_n C dX10_digest_370 (Nat.le_of_ble_eq_true rfl) rfl ?_
                                  refine pw_iinc C dX10_digest_371 rfl (Nat.le_of_ble_eq_true rfl) rfl ?_
                                  refine pw_goto (tgt := 350) C dX10_digest_374 (by decide) ?_
                                  exact pw_locs (by exact ⟨rfl, cat_vR _, rfl, rfl, rfl, rfl, rfl, rfl, rfl, rfl, trivial⟩) (ih_350 (dp * 31 + (wr (tld A l5 s5 f5))) (f5 + 1)  (by omega) (fr_go (by omega) hfp rfl) (by omega))
                    · skip
                      refine pw_iconst C dX10_digest_236 ?_
                      refine pw_istore C dX10_digest_237 (Nat.le_of_ble_eq_true rfl) rfl ?_
                      suffices K_239 : ∀ (nn_239 : Nat) (dk w4 : Int) , (0 ≤ w4 ∧ w4 ≤ 8) → (fr (fun w d => d * 31 + wr (oLi A l w)) w4 (8) dk = fr (fun w d => d * 31 + wr (oLi A l w)) 0 8 dj) → 8 - w4 < (nn_239 : Int) → PW E Gj Mj kj nj 239 [(0, 1, vR Q), (1, 2, vL dk), (3, 1, vI l), (4, 1, vI w4)] [] from pw_locs (by exact ⟨rfl, cat_vR _, rfl, rfl, rfl, rfl, rfl, rfl, trivial⟩) (K_239 (8 - 0 + 1 : Int).toNat dj 0  (by omega) (by first | exact rfl | omega) (by omega))
                      intro nn_239
                      induction nn_239 with
                      | zero => intro dk w4 hk hfk h_m239; exact absurd h_m239 (by omega)
                      | succ nn_239 ih_239 =>
                        intro dk w4 hk hfk h_m239
                        refine pw_iload C dX10_digest_239 rfl ?_
                        refine pw_bipush C dX10_digest_241 rfl ?_
                        refine pw_icmp_ge (tgt := 265) C dX10_digest_243 (by decide) (by omega) (fun c_243 => ?_) (fun c_243 => ?_)
                        · skip
                          refine pw_lload_n C dX10_digest_265 rfl ?_
                          refine pw_aload_n C dX10_digest_266 rfl ?_
                          refine pw_iload_n C dX10_digest_267 rfl ?_
                          refine pw_iconst C dX10_digest_268 ?_
                          refine pw_bipush C dX10_digest_269 rfl ?_
                          refine pw_cVI C hX dX10_digest_271 ml_X10_302 mc_X10_wouldArriveNow (m_wouldArriveNow hMj hA hW (hE.kp hKj) (l := l) (k := 3) (w := 50) (by omega) (by omega) (by omega)) kc_13 hMj.k rfl rfl ⟨Nat.le_of_ble_eq_true rfl, Nat.le_of_ble_eq_true rfl⟩ (Nat.le_of_ble_eq_true rfl) (by show _ ≤ (kDg A).toNat ∧ _ ≤ (nDg A).toNat; omega) (fun r_ G1 M2 hq_ => ?_)
                          obtain ⟨rfl, hk_⟩ := hq_
                          have hK2 := hKj.tr hk_
                          have hM2 := hM.kp hK2
                          clear hk_
                          refine pw_i2lW C dX10_digest_274 ?_
                          refine pw_cSL C hX dX10_digest_275 ml_X10_320 mc_X10_add_ (m_add_ (x := dk) (y := (wr (mWo A l 3 50)))) rfl rfl ⟨Nat.le_of_ble_eq_true rfl, Nat.le_of_ble_eq_true rfl⟩ (Nat.le_of_ble_eq_true rfl) (by show _ ≤ (kDg A).toNat ∧ _ ≤ (nDg A).toNat; omega) ?_
                          refine pw_lstore_n C dX10_digest_278 (Nat.le_of_ble_eq_true rfl) rfl ?_
                          refine pw_iconst C dX10_digest_279 ?_
                          refine pw_istore C dX10_digest_280 (Nat.le_of_ble_eq_true rfl) rfl ?_
                          suffices K_282 : ∀ (nn_282 : Nat) (dl t4 : Int) , (0 ≤ t4 ∧ t4 ≤ A 0 0 1) → (fr (fun t d => d * 31 + wr (stt A l t)) t4 (A 0 0 1) dl = fr (fun t d => d * 31 + wr (stt A l t)) 0 (A 0 0 1) (dk * 31 + wr (mWo A l 3 50))) → A 0 0 1 - t4 < (nn_282 : Int) → PW E G1 M2 (kj + 9) (nj + 367) 282 [(0, 1, vR Q), (1, 2, vL dl), (3, 1, vI l), (4, 1, vI t4)] [] from pw_locs (by exact ⟨rfl, cat_vR _, rfl, rfl, rfl, rfl, rfl, rfl, trivial⟩) (K_282 (A 0 0 1 - 0 + 1 : Int).toNat (dk * 31 + (wr (mWo A l 3 50))) 0  (by omega) (by first | exact rfl | omega) (by omega))
                          intro nn_282
                          induction nn_282 with
                          | zero => intro dl t4 hl hfl h_m282; exact absurd h_m282 (by omega)
                          | succ nn_282 ih_282 =>
                            intro dl t4 hl hfl h_m282
                            refine pw_iload C dX10_digest_282 rfl ?_
                            refine pw_aload_n C dX10_digest_284 rfl ?_
                            refine pw_getR C dX10_digest_285 fl_X10_19 hM2.k rfl hM2.r3 ?_
                            refine pw_cVE C hX dX10_digest_288 ml_X10_33 mc_Jx4a65c_size_8abf5 (c_size hM2.l3) kc_2 hM2.l3.k rfl rfl ⟨Nat.le_of_ble_eq_true rfl, Nat.le_of_ble_eq_true rfl⟩ (Nat.le_of_ble_eq_true rfl) (by show _ ≤ (kDg A).toNat ∧ _ ≤ (nDg A).toNat; omega) ?_
                            refine pw_icmp_ge (tgt := 313) C dX10_digest_291 (by decide) (by omega) (fun c_291 => ?_) (fun c_291 => ?_)
                            · skip
                              refine pw_iinc C dX10_digest_313 rfl (Nat.le_of_ble_eq_true rfl) rfl ?_
                              refine pw_goto (tgt := 225) C dX10_digest_316 (by decide) ?_
                              exact pw_locs (by exact ⟨rfl, cat_vR _, rfl, rfl, rfl, rfl, trivial⟩) (ih_225 dl (l + 1) G1 M2 (kj + 9) (nj + 367) (hK2) (by omega) (fr_go (by omega) hfj (by (try dsimp only); rw [← fr_done (by omega) hfk, ← fr_done (by omega) hfl])) (by omega) (by omega) (by omega))
                            · skip
                              refine pw_lload_n C dX10_digest_294 rfl ?_
                              refine pw_aload_n C dX10_digest_295 rfl ?_
                              refine pw_iload_n C dX10_digest_296 rfl ?_
                              refine pw_iload C dX10_digest_297 rfl ?_
                              refine pw_cVE C hX dX10_digest_299 ml_X10_254 mc_X10_stateNow (m_stateNow hM2 hA hW (l := l) (t := t4) (by omega) (by omega)) kc_13 hM2.k rfl rfl ⟨Nat.le_of_ble_eq_true rfl, Nat.le_of_ble_eq_true rfl⟩ (Nat.le_of_ble_eq_true rfl) (by show _ ≤ (kDg A).toNat ∧ _ ≤ (nDg A).toNat; omega) ?_
                              have b_stt52 := stt_bd (A := A) (l := l) (t := t4)
                              refine pw_i2lW C dX10_digest_302 ?_
                              refine pw_cSL C hX dX10_digest_303 ml_X10_320 mc_X10_add_ (m_add_ (x := dl) (y := (wr (stt A l t4)))) rfl rfl ⟨Nat.le_of_ble_eq_true rfl, Nat.le_of_ble_eq_true rfl⟩ (Nat.le_of_ble_eq_true rfl) (by show _ ≤ (kDg A).toNat ∧ _ ≤ (nDg A).toNat; omega) ?_
                              refine pw_lstore_n C dX10_digest_306 (Nat.le_of_ble_eq_true rfl) rfl ?_
                              refine pw_iinc C dX10_digest_307 rfl (Nat.le_of_ble_eq_true rfl) rfl ?_
                              refine pw_goto (tgt := 282) C dX10_digest_310 (by decide) ?_
                              exact pw_locs (by exact ⟨rfl, cat_vR _, rfl, rfl, rfl, rfl, rfl, rfl, trivial⟩) (ih_282 (dl * 31 + (wr (stt A l t4))) (t4 + 1)  (by omega) (fr_go (by omega) hfl rfl) (by omega))
                        · skip
                          refine pw_lload_n C dX10_digest_246 rfl ?_
                          refine pw_aload_n C dX10_digest_247 rfl ?_
                          refine pw_iload_n C dX10_digest_248 rfl ?_
                          refine pw_iload C dX10_digest_249 rfl ?_
                          refine pw_cVE C hX dX10_digest_251 ml_X10_277 mc_X10_ofLineNow (m_ofLineNow hMj hA hW (l := l) (w := w4) (by omega) (by omega)) kc_13 hMj.k rfl rfl ⟨Nat.le_of_ble_eq_true rfl, Nat.le_of_ble_eq_true rfl⟩ (Nat.le_of_ble_eq_true rfl) (by show _ ≤ (kDg A).toNat ∧ _ ≤ (nDg A).toNat; omega) ?_
                          refine pw_i2lW C dX10_digest_254 ?_
                          refine pw_cSL C hX dX10_digest_255 ml_X10_320 mc_X10_add_ (m_add_ (x := dk) (y := (wr (oLi A l w4)))) rfl rfl ⟨Nat.le_of_ble_eq_true rfl, Nat.le_of_ble_eq_true rfl⟩ (Nat.le_of_ble_eq_true rfl) (by show _ ≤ (kDg A).toNat ∧ _ ≤ (nDg A).toNat; omega) ?_
                          refine pw_lstore_n C dX10_digest_258 (Nat.le_of_ble_eq_true rfl) rfl ?_
                          refine pw_iinc C dX10_digest_259 rfl (Nat.le_of_ble_eq_true rfl) rfl ?_
                          refine pw_goto (tgt := 239) C dX10_digest_262 (by decide) ?_
                          exact pw_locs (by exact ⟨rfl, cat_vR _, rfl, rfl, rfl, rfl, rfl, rfl, trivial⟩) (ih_239 (dk * 31 + (wr (oLi A l w4))) (w4 + 1)  (by omega) (fr_go (by omega) hfk rfl) (by omega))
                · skip
                  refine pw_iconst C dX10_digest_160 ?_
                  refine pw_istore C dX10_digest_161 (Nat.le_of_ble_eq_true rfl) rfl ?_
                  suffices K_163 : ∀ (nn_163 : Nat) (dh w3 : Int) (Gh : Mm) (Mh : Mm) (kh : Nat) (nh : Nat), (Kp G M0 Gh Mh) → (0 ≤ w3 ∧ w3 ≤ 9) → (fr (fun w d => d * 31 + wr (oTa A t w)) w3 (9) dh = fr (fun w d => d * 31 + wr (oTa A t w)) 0 9 dg) → ((kh : Int) = kg + w3) → ((nh : Int) ≤ ng + 9 * w3) → 9 - w3 < (nn_163 : Int) → PW E Gh Mh kh nh 163 [(0, 1, vR Q), (1, 2, vL dh), (3, 1, vI t), (4, 1, vI w3)] [] from pw_locs (by exact ⟨rfl, cat_vR _, rfl, rfl, rfl, rfl, rfl, rfl, trivial⟩) (K_163 (9 - 0 + 1 : Int).toNat dg 0 Gg Mg kg ng (by first | exact hKg | omega) (by omega) (by first | exact rfl | omega) (by omega) (by omega) (by omega))
                  intro nn_163
                  induction nn_163 with
                  | zero => intro dh w3 Gh Mh kh nh hKh hh hfh hkh hnh h_m163; exact absurd h_m163 (by omega)
                  | succ nn_163 ih_163 =>
                    intro dh w3 Gh Mh kh nh hKh hh hfh hkh hnh h_m163
                    have hMh := hM.kp hKh
                    refine pw_iload C dX10_digest_163 rfl ?_
                    refine pw_bipush C dX10_digest_165 rfl ?_
                    refine pw_icmp_ge (tgt := 189) C dX10_digest_167 (by decide) (by omega) (fun c_167 => ?_) (fun c_167 => ?_)
                    · skip
                      refine pw_iconst C dX10_digest_189 ?_
                      refine pw_istore C dX10_digest_190 (Nat.le_of_ble_eq_true rfl) rfl ?_
                      suffices K_192 : ∀ (nn_192 : Nat) (di f3 : Int) , (0 ≤ f3 ∧ f3 ≤ 4) → (fr (fun f d => d * 31 + wr (A (200 + t) 0 f)) f3 (4) di = fr (fun f d => d * 31 + wr (A (200 + t) 0 f)) 0 4 dh) → 4 - f3 < (nn_192 : Int) → PW E Gh Mh kh nh 192 [(0, 1, vR Q), (1, 2, vL di), (3, 1, vI t), (4, 1, vI f3)] [] from pw_locs (by exact ⟨rfl, cat_vR _, rfl, rfl, rfl, rfl, rfl, rfl, trivial⟩) (K_192 (4 - 0 + 1 : Int).toNat dh 0  (by omega) (by first | exact rfl | omega) (by omega))
                      intro nn_192
                      induction nn_192 with
                      | zero => intro di f3 hi hfi h_m192; exact absurd h_m192 (by omega)
                      | succ nn_192 ih_192 =>
                        intro di f3 hi hfi h_m192
                        refine pw_iload C dX10_digest_192 rfl ?_
                        refine pw_iconst C dX10_digest_194 ?_
                        refine pw_icmp_ge (tgt := 217) C dX10_digest_195 (by decide) (by omega) (fun c_195 => ?_) (fun c_195 => ?_)
                        · skip
                          refine pw_iinc C dX10_digest_217 rfl (Nat.le_of_ble_eq_true rfl) rfl ?_
                          refine pw_goto (tgt := 149) C dX10_digest_220 (by decide) ?_
                          exact pw_locs (by exact ⟨rfl, cat_vR _, rfl, rfl, rfl, rfl, trivial⟩) (ih_149 di (t + 1) Gh Mh kh nh (hKh) (by omega) (fr_go (by omega) hfg (by (try dsimp only); rw [← fr_done (by omega) hfh, ← fr_done (by omega) hfi])) (by omega) (by omega) (by omega))
                        · skip
                          refine pw_lload_n C dX10_digest_198 rfl ?_
                          refine pw_aload_n C dX10_digest_199 rfl ?_
                          refine pw_iload_n C dX10_digest_200 rfl ?_
                          refine pw_iload C dX10_digest_201 rfl ?_
                          refine pw_cVE C hX dX10_digest_203 ml_X10_244 mc_X10_saysNow (m_saysNow hMh hA hW (t := t) (f := f3) (by omega) (by omega)) kc_13 hMh.k rfl rfl ⟨Nat.le_of_ble_eq_true rfl, Nat.le_of_ble_eq_true rfl⟩ (Nat.le_of_ble_eq_true rfl) (by show _ ≤ (kDg A).toNat ∧ _ ≤ (nDg A).toNat; omega) ?_
                          refine pw_i2lW C dX10_digest_206 ?_
                          refine pw_cSL C hX dX10_digest_207 ml_X10_320 mc_X10_add_ (m_add_ (x := di) (y := (wr (A (200 + t) 0 f3)))) rfl rfl ⟨Nat.le_of_ble_eq_true rfl, Nat.le_of_ble_eq_true rfl⟩ (Nat.le_of_ble_eq_true rfl) (by show _ ≤ (kDg A).toNat ∧ _ ≤ (nDg A).toNat; omega) ?_
                          refine pw_lstore_n C dX10_digest_210 (Nat.le_of_ble_eq_true rfl) rfl ?_
                          refine pw_iinc C dX10_digest_211 rfl (Nat.le_of_ble_eq_true rfl) rfl ?_
                          refine pw_goto (tgt := 192) C dX10_digest_214 (by decide) ?_
                          exact pw_locs (by exact ⟨rfl, cat_vR _, rfl, rfl, rfl, rfl, rfl, rfl, trivial⟩) (ih_192 (di * 31 + (wr (A (200 + t) 0 f3))) (f3 + 1)  (by omega) (fr_go (by omega) hfi rfl) (by omega))
                    · skip
                      refine pw_lload_n C dX10_digest_170 rfl ?_
                      refine pw_aload_n C dX10_digest_171 rfl ?_
                      refine pw_iload_n C dX10_digest_172 rfl ?_
                      refine pw_iload C dX10_digest_173 rfl ?_
                      refine pw_cVI C hX dX10_digest_175 ml_X10_241 mc_X10_ofTakeNow (m_ofTakeNow hMh hA hW (t := t) (w := w3) (by omega) (by omega)) kc_13 hMh.k rfl rfl ⟨Nat.le_of_ble_eq_true rfl, Nat.le_of_ble_eq_true rfl⟩ (Nat.le_of_ble_eq_true rfl) (by show _ ≤ (kDg A).toNat ∧ _ ≤ (nDg A).toNat; omega) (fun r_ G3 M4 hq_ => ?_)
                      obtain ⟨rfl, hk_⟩ := hq_
                      have hK4 := hKh.tr hk_
                      have hM4 := hM.kp hK4
                      clear hk_
                      refine pw_i2lW C dX10_digest_178 ?_
                      refine pw_cSL C hX dX10_digest_179 ml_X10_320 mc_X10_add_ (m_add_ (x := dh) (y := (wr (oTa A t w3)))) rfl rfl ⟨Nat.le_of_ble_eq_true rfl, Nat.le_of_ble_eq_true rfl⟩ (Nat.le_of_ble_eq_true rfl) (by show _ ≤ (kDg A).toNat ∧ _ ≤ (nDg A).toNat; omega) ?_
                      refine pw_lstore_n C dX10_digest_182 (Nat.le_of_ble_eq_true rfl) rfl ?_
                      refine pw_iinc C dX10_digest_183 rfl (Nat.le_of_ble_eq_true rfl) rfl ?_
                      refine pw_goto (tgt := 163) C dX10_digest_186 (by decide) ?_
                      exact pw_locs (by exact ⟨rfl, cat_vR _, rfl, rfl, rfl, rfl, rfl, rfl, trivial⟩) (ih_163 (dh * 31 + (wr (oTa A t w3))) (w3 + 1) G3 M4 (kh + 1) (nh + 9) (hK4) (by omega) (fr_go (by omega) hfh rfl) (by omega) (by omega) (by omega))
            · skip
              refine pw_lload_n C dX10_digest_128 rfl ?_
              refine pw_aload_n C dX10_digest_129 rfl ?_
              refine pw_iload_n C dX10_digest_130 rfl ?_
              refine pw_bipush C dX10_digest_131 rfl ?_
              refine pw_cVI C hX dX10_digest_133 ml_X10_313 mc_X10_leadNow (m_leadNow hMe hA hW (s := s2) (wd := 55) (by omega) (by omega)) kc_13 hMe.k rfl rfl ⟨Nat.le_of_ble_eq_true rfl, Nat.le_of_ble_eq_true rfl⟩ (Nat.le_of_ble_eq_true rfl) (by show _ ≤ (kDg A).toNat ∧ _ ≤ (nDg A).toNat; omega) (fun r_ G5 M6 hq_ => ?_)
              obtain ⟨rfl, hk_⟩ := hq_
              have hK6 := hKe.tr hk_
              have hM6 := hM.kp hK6
              clear hk_
              refine pw_i2lW C dX10_digest_136 ?_
              refine pw_cSL C hX dX10_digest_137 ml_X10_320 mc_X10_add_ (m_add_ (x := de) (y := (wr (mLe A s2 55)))) rfl rfl ⟨Nat.le_of_ble_eq_true rfl, Nat.le_of_ble_eq_true rfl⟩ (Nat.le_of_ble_eq_true rfl) (by show _ ≤ (kDg A).toNat ∧ _ ≤ (nDg A).toNat; omega) ?_
              refine pw_lstore_n C dX10_digest_140 (Nat.le_of_ble_eq_true rfl) rfl ?_
              refine pw_iinc C dX10_digest_141 rfl (Nat.le_of_ble_eq_true rfl) rfl ?_
              refine pw_goto (tgt := 117) C dX10_digest_144 (by decide) ?_
              exact pw_locs (by exact ⟨rfl, cat_vR _, rfl, rfl, rfl, rfl, trivial⟩) (ih_117 (de * 31 + (wr (mLe A s2 55))) (s2 + 1) G5 M6 (ke + 1) (ne + 4) (hK6) (by omega) (fr_go (by omega) hfe rfl) (by omega) (by omega) (by omega))
        · skip
          refine pw_iconst C dX10_digest_47 ?_
          refine pw_istore C dX10_digest_48 (Nat.le_of_ble_eq_true rfl) rfl ?_
          suffices K_50 : ∀ (nn_50 : Nat) (dc f : Int) (Gc : Mm) (Mc : Mm) (kc : Nat) (nc : Nat), (Kp G M0 Gc Mc) → (0 ≤ f ∧ f ≤ 4) → (fr (fun f d => (fr (fun w d => d * 31 + wr (moF A s f w)) 0 7 d) * 31 + wr (mNe (A 10) (A (100 + (s * 4 + f))) 50 2)) f (4) dc = fr (fun f d => (fr (fun w d => d * 31 + wr (moF A s f w)) 0 7 d) * 31 + wr (mNe (A 10) (A (100 + (s * 4 + f))) 50 2)) 0 4 db) → (fr (kF2 A s) f 4 (kc : Int) = kF1 A s (kb : Int)) → ((nc : Int) ≤ 4 * kc) → 4 - f < (nn_50 : Int) → PW E Gc Mc kc nc 50 [(0, 1, vR Q), (1, 2, vL dc), (3, 1, vI s), (4, 1, vI f)] [] from pw_locs (by exact ⟨rfl, cat_vR _, rfl, rfl, rfl, rfl, rfl, rfl, trivial⟩) (K_50 (4 - 0 + 1 : Int).toNat db 0 Gb Mb kb nb (by first | exact hKb | omega) (by omega) (by first | exact rfl | omega) (by first | exact rfl | omega) (by omega) (by omega))
          intro nn_50
          induction nn_50 with
          | zero => intro dc f Gc Mc kc nc hKc hc hfc hkc hnc h_m50; exact absurd h_m50 (by omega)
          | succ nn_50 ih_50 =>
            intro dc f Gc Mc kc nc hKc hc hfc hkc hnc h_m50
            have hMc := hM.kp hKc
            have q3 := fr_ge (f := kF2 A s) (c := (kc : Int)) (show f ≤ 4 by omega) (fun i c _ _ => kF2_ge (s := s) (f := i) (c := c) hA)
            have q4 := fr_go (by omega) hkb rfl
            have q5 := fr_ge (f := kF1 A) (c := kF1 A s (kb : Int)) (show s + 1 ≤ A 0 0 0 by omega) (fun i c _ _ => kF1_ge (s := i) (c := c) hA)
            refine pw_iload C dX10_digest_50 rfl ?_
            refine pw_iconst C dX10_digest_52 ?_
            refine pw_icmp_ge (tgt := 109) C dX10_digest_53 (by decide) (by omega) (fun c_53 => ?_) (fun c_53 => ?_)
            · skip
              refine pw_iinc C dX10_digest_109 rfl (Nat.le_of_ble_eq_true rfl) rfl ?_
              refine pw_goto (tgt := 36) C dX10_digest_112 (by decide) ?_
              exact pw_locs (by exact ⟨rfl, cat_vR _, rfl, rfl, rfl, rfl, trivial⟩) (ih_36 dc (s + 1) Gc Mc kc nc (hKc) (by omega) (fr_go (by omega) hfb (by (try dsimp only); exact (fr_done (by omega) hfc).symm)) (fr_go (by omega) hkb (fr_done (by omega) hkc).symm) (by omega) (by omega))
            · skip
              refine pw_iconst C dX10_digest_56 ?_
              refine pw_istore C dX10_digest_57 (Nat.le_of_ble_eq_true rfl) rfl ?_
              suffices K_59 : ∀ (nn_59 : Nat) (dd w2 : Int) (Gd : Mm) (Md : Mm) (kd : Nat) (nd : Nat), (Kp G M0 Gd Md) → (0 ≤ w2 ∧ w2 ≤ 7) → (fr (fun w d => d * 31 + wr (moF A s f w)) w2 (7) dd = fr (fun w d => d * 31 + wr (moF A s f w)) 0 7 dc) → (fr (kF3 A s f) w2 7 (kd : Int) = kF2 A s f (kc : Int)) → ((nd : Int) ≤ 4 * kd) → 7 - w2 < (nn_59 : Int) → PW E Gd Md kd nd 59 [(0, 1, vR Q), (1, 2, vL dd), (3, 1, vI s), (4, 1, vI f), (5, 1, vI w2)] [] from pw_locs (by exact ⟨rfl, cat_vR _, rfl, rfl, rfl, rfl, rfl, rfl, rfl, rfl, trivial⟩) (K_59 (7 - 0 + 1 : Int).toNat dc 0 Gc Mc kc nc (by first | exact hKc | omega) (by omega) (by first | exact rfl | omega) (by first | exact rfl | omega) (by omega) (by omega))
              intro nn_59
              induction nn_59 with
              | zero => intro dd w2 Gd Md kd nd hKd hd hfd hkd hnd h_m59; exact absurd h_m59 (by omega)
              | succ nn_59 ih_59 =>
                intro dd w2 Gd Md kd nd hKd hd hfd hkd hnd h_m59
                have hMd := hM.kp hKd
                have q6 := fr_ge (f := kF3 A s f) (c := (kd : Int)) (show w2 ≤ 7 by omega) (fun i c _ _ => kF3_ge (s := s) (f := f) (w := i) (c := c) hA)
                have q7 := fr_go (by omega) hkc rfl
                have q8 := fr_ge (f := kF2 A s) (c := kF2 A s f (kc : Int)) (show f + 1 ≤ 4 by omega) (fun i c _ _ => kF2_ge (s := s) (f := i) (c := c) hA)
                refine pw_iload C dX10_digest_59 rfl ?_
                refine pw_bipush C dX10_digest_61 rfl ?_
                refine pw_icmp_ge (tgt := 87) C dX10_digest_63 (by decide) (by omega) (fun c_63 => ?_) (fun c_63 => ?_)
                · skip
                  refine pw_lload_n C dX10_digest_87 rfl ?_
                  refine pw_aload_n C dX10_digest_88 rfl ?_
                  refine pw_iload_n C dX10_digest_89 rfl ?_
                  refine pw_iload C dX10_digest_90 rfl ?_
                  refine pw_bipush C dX10_digest_92 rfl ?_
                  refine pw_iconst C dX10_digest_94 ?_
                  refine pw_cVE C hX dX10_digest_95 ml_X10_309 mc_X10_needsNow (m_needsNow hMd hA (s := s) (f := f) (v := 50) (w := 2) (by omega) (by omega) (by omega) (by omega)) kc_13 hMd.k rfl rfl ⟨Nat.le_of_ble_eq_true rfl, Nat.le_of_ble_eq_true rfl⟩ (Nat.le_of_ble_eq_true rfl) (by show _ ≤ (kDg A).toNat ∧ _ ≤ (nDg A).toNat; omega) ?_
                  refine pw_i2lW C dX10_digest_98 ?_
                  refine pw_cSL C hX dX10_digest_99 ml_X10_320 mc_X10_add_ (m_add_ (x := dd) (y := (wr (mNe (A 10) (A (100 + (s * 4 + f))) 50 2)))) rfl rfl ⟨Nat.le_of_ble_eq_true rfl, Nat.le_of_ble_eq_true rfl⟩ (Nat.le_of_ble_eq_true rfl) (by show _ ≤ (kDg A).toNat ∧ _ ≤ (nDg A).toNat; omega) ?_
                  refine pw_lstore_n C dX10_digest_102 (Nat.le_of_ble_eq_true rfl) rfl ?_
                  refine pw_iinc C dX10_digest_103 rfl (Nat.le_of_ble_eq_true rfl) rfl ?_
                  refine pw_goto (tgt := 50) C dX10_digest_106 (by decide) ?_
                  exact pw_locs (by exact ⟨rfl, cat_vR _, rfl, rfl, rfl, rfl, rfl, rfl, trivial⟩) (ih_50 (dd * 31 + (wr (mNe (A 10) (A (100 + (s * 4 + f))) 50 2))) (f + 1) Gd Md kd nd (hKd) (by omega) (fr_go (by omega) hfc (by (try dsimp only); rw [← fr_done (by omega) hfd])) (fr_go (by omega) hkc (fr_done (by omega) hkd).symm) (by omega) (by omega))
                · skip
                  refine pw_lload_n C dX10_digest_66 rfl ?_
                  refine pw_aload_n C dX10_digest_67 rfl ?_
                  refine pw_iload_n C dX10_digest_68 rfl ?_
                  refine pw_iload C dX10_digest_69 rfl ?_
                  refine pw_iload C dX10_digest_71 rfl ?_
                  have p1 := kWf_nn (s := s) (f := f) (w := w2) hA
                  have p2 := fr_go (by omega) hkd rfl
                  have p3 := fr_ge (f := kF3 A s f) (c := kF3 A s f w2 (kd : Int)) (show w2 + 1 ≤ 7 by omega) (fun i c _ _ => kF3_ge (s := s) (f := f) (w := i) (c := c) hA)
                  have p4 : kF3 A s f w2 (kd : Int) = kd + kWf A s f w2 := rfl
                  refine pw_cVI C hX dX10_digest_73 ml_X10_225 mc_X10_ofFactNow (m_ofFactNow hMd hA hW (s := s) (f := f) (w := w2) (by omega) (by omega) (by omega)) kc_13 hMd.k rfl rfl ⟨Nat.le_of_ble_eq_true rfl, Nat.le_of_ble_eq_true rfl⟩ (Nat.le_of_ble_eq_true rfl) (by show _ ≤ (kDg A).toNat ∧ _ ≤ (nDg A).toNat; omega) (fun r_ G7 M8 hq_ => ?_)
                  obtain ⟨rfl, hk_⟩ := hq_
                  have hK8 := hKd.tr hk_
                  have hM8 := hM.kp hK8
                  clear hk_
                  refine pw_i2lW C dX10_digest_76 ?_
                  refine pw_cSL C hX dX10_digest_77 ml_X10_320 mc_X10_add_ (m_add_ (x := dd) (y := (wr (moF A s f w2)))) rfl rfl ⟨Nat.le_of_ble_eq_true rfl, Nat.le_of_ble_eq_true rfl⟩ (Nat.le_of_ble_eq_true rfl) (by show _ ≤ (kDg A).toNat ∧ _ ≤ (nDg A).toNat; omega) ?_
                  refine pw_lstore_n C dX10_digest_80 (Nat.le_of_ble_eq_true rfl) rfl ?_
                  refine pw_iinc C dX10_digest_81 rfl (Nat.le_of_ble_eq_true rfl) rfl ?_
                  refine pw_goto (tgt := 59) C dX10_digest_84 (by decide) ?_
                  exact pw_locs (by exact ⟨rfl, cat_vR _, rfl, rfl, rfl, rfl, rfl, rfl, rfl, rfl, trivial⟩) (ih_59 (dd * 31 + (wr (moF A s f w2))) (w2 + 1) G7 M8 (kd + (kWf A s f w2).toNat) (nd + 4 * (kWf A s f w2).toNat) (hK8) (by omega) (fr_go (by omega) hfd rfl) (fr_go (by omega) hkd (by unfold kF3; have := kWf_nn (s := s) (f := f) (w := w2) hA; omega)) (by omega) (by omega))
    · skip
      refine pw_lload_n C dX10_digest_17 rfl ?_
      refine pw_aload_n C dX10_digest_18 rfl ?_
      refine pw_iload_n C dX10_digest_19 rfl ?_
      have p1 := kMn_nn (w := w) hA
      have p2 := fr_go (by omega) hka rfl
      have p3 := fr_ge (f := kF0 A) (c := kF0 A w (ka : Int)) (show w + 1 ≤ 11 by omega) (fun i c _ _ => kF0_ge (w := i) (c := c) hA)
      have p4 : kF0 A w (ka : Int) = ka + kMn A w := rfl
      have p5 := fr_ge (f := kF1 A) (c := kD0 A) (show 0 ≤ A 0 0 0 by omega) (fun i c _ _ => kF1_ge (s := i) (c := c) hA)
      have p6 : fr (kF1 A) 0 (A 0 0 0) (kD0 A) = kD1 A := rfl
      refine pw_cVI C hX dX10_digest_20 ml_X10_288 mc_X10_manyNow (m_manyNow hMa hA hW (w := w) (by omega)) kc_13 hMa.k rfl rfl ⟨Nat.le_of_ble_eq_true rfl, Nat.le_of_ble_eq_true rfl⟩ (Nat.le_of_ble_eq_true rfl) (by show _ ≤ (kDg A).toNat ∧ _ ≤ (nDg A).toNat; omega) (fun r_ G9 M10 hq_ => ?_)
      obtain ⟨rfl, hk_⟩ := hq_
      have hK10 := hKa.tr hk_
      have hM10 := hM.kp hK10
      clear hk_
      refine pw_i2lW C dX10_digest_23 ?_
      refine pw_cSL C hX dX10_digest_24 ml_X10_320 mc_X10_add_ (m_add_ (x := da) (y := (wr (mnM A w)))) rfl rfl ⟨Nat.le_of_ble_eq_true rfl, Nat.le_of_ble_eq_true rfl⟩ (Nat.le_of_ble_eq_true rfl) (by show _ ≤ (kDg A).toNat ∧ _ ≤ (nDg A).toNat; omega) ?_
      refine pw_lstore_n C dX10_digest_27 (Nat.le_of_ble_eq_true rfl) rfl ?_
      refine pw_iinc C dX10_digest_28 rfl (Nat.le_of_ble_eq_true rfl) rfl ?_
      refine pw_goto (tgt := 11) C dX10_digest_31 (by decide) ?_
      exact pw_locs (by exact ⟨rfl, cat_vR _, rfl, rfl, rfl, rfl, trivial⟩) (ih_11 (da * 31 + (wr (mnM A w))) (w + 1) G9 M10 (ka + (kMn A w).toNat) (na + 4 * (kMn A w).toNat) (hK10) (by omega) (fr_go (by omega) hfa rfl) (fr_go (by omega) hka (by unfold kF0; have := kMn_nn (w := w) hA; omega)) (by omega) (by omega))

