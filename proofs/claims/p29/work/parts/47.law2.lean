set_option maxHeartbeats 4000000 in
set_option maxRecDepth 100000 in
theorem c_areKnown {X : Xv} {G M : Mm} {B : Int} {A : An} (hR0 : RC G M B A) (hA : AB A) (hI : Inv A) (hL : LX A) : CT X yL_areKnown method_7_code 11 (some .boolean) 7 169 0 0 [vR B] G M (PI (fun r G1 M1 => r = 1 ∧ G1 = G ∧ RC G M1 B A)) := by
  refine CT.by (by decide +kernel) [1] ⟨cat_vR _, trivial⟩ (Nat.le_of_ble_eq_true rfl) (fun E hX C hR hIni => ?_)
  have hn := hA.n
  have hnS := hA.so.c
  have hW := hI.2.1
  have h00 := hL.1.1
  have h02 := hL.1.2
  refine pw_iconst C dL_areKnown_0 ?_
  refine pw_istore_n C dL_areKnown_1 (Nat.le_of_ble_eq_true rfl) rfl ?_
  refine pw_iconst C dL_areKnown_2 ?_
  refine pw_istore_n C dL_areKnown_3 (Nat.le_of_ble_eq_true rfl) rfl ?_
  refine pw_aload_n C dL_areKnown_4 rfl ?_
  refine pw_cVJ C hX dL_areKnown_5 ml_L_104 mc_X5_digest (c_digest hR0 hA) kc_8 hR0.k rfl rfl ⟨Nat.le_of_ble_eq_true rfl, Nat.le_of_ble_eq_true rfl⟩ (Nat.le_of_ble_eq_true rfl) ⟨Nat.le_of_ble_eq_true rfl, Nat.le_of_ble_eq_true rfl⟩ (fun r_ G M1 hq_ => ?_)
  obtain ⟨rfl, rfl, hR2, o3⟩ := hq_
  refine pw_lstore_n C dL_areKnown_8 (Nat.le_of_ble_eq_true rfl) rfl ?_
  refine pw_iconst C dL_areKnown_9 ?_
  refine pw_istore C dL_areKnown_10 (Nat.le_of_ble_eq_true rfl) rfl ?_
  suffices K_12 : ∀ (nn_12 : Nat) (t1 w1 s : Int) (Mc : Mm), (0 ≤ s ∧ s ≤ 2) → (RC G Mc B A) → (fr (fun i c => if ¬ A (100 + i) 1 0 = -1 then c + 1 else c) (s * 4) 8 t1 = cTr A) → (0 ≤ t1 ∧ t1 ≤ 4 * s) → (fr (fun s c => fr (fun f c => wgN A s f c) 0 4 c) s 2 w1 = wgT A) → (0 ≤ w1 ∧ w1 ≤ 8 * s) → 2 - s < (nn_12 : Int) → PW E G Mc 0 0 12 [(0, 1, vR B), (1, 1, vI t1), (2, 1, vI w1), (3, 2, vL (dig A)), (5, 1, vI s)] [] from pw_locs (by exact ⟨rfl, cat_vR _, rfl, rfl, rfl, rfl, rfl, rfl, rfl, rfl, trivial⟩) (K_12 (2 - 0 + 1 : Int).toNat 0 0 0 M1 (by omega) (by first | exact hR2 | omega) (by first | exact by unfold cTr; rw [h00]; rfl | omega) (by omega) (by first | exact rfl | omega) (by omega) (by omega))
  intro nn_12
  induction nn_12 with
  | zero => intro t1 w1 s Mc h1 hRc ht bt hw bw1 h_m12; exact absurd h_m12 (by omega)
  | succ nn_12 ih_12 =>
    intro t1 w1 s Mc h1 hRc ht bt hw bw1 h_m12
    refine pw_iload C dL_areKnown_12 rfl ?_
    refine pw_iconst C dL_areKnown_14 ?_
    refine pw_icmp_ge (tgt := 278) C dL_areKnown_15 (by decide) (by omega) (fun c_15 => ?_) (fun c_15 => ?_)
    · skip
      refine pw_aload_n C dL_areKnown_278 rfl ?_
      refine pw_bipush C dL_areKnown_279 rfl ?_
      refine pw_cVE C hX dL_areKnown_281 ml_L_53 mc_X5_many (c_many hRc hA (w := 7) (by omega) (by omega)) kc_8 hRc.k rfl rfl ⟨Nat.le_of_ble_eq_true rfl, Nat.le_of_ble_eq_true rfl⟩ (Nat.le_of_ble_eq_true rfl) ⟨Nat.le_of_ble_eq_true rfl, Nat.le_of_ble_eq_true rfl⟩ ?_
      rw [show mny A 7 = t1 from (fr_done (by omega) ht).symm]
      refine pw_iload_n C dL_areKnown_284 rfl ?_
      refine pw_icmp_ne (tgt := 320) C dL_areKnown_285 (by decide) (by omega) (fun c_285 => ?_) (fun c_285 => ?_)
      · exact absurd c_285 (by omega)
      refine pw_aload_n C dL_areKnown_288 rfl ?_
      refine pw_bipush C dL_areKnown_289 rfl ?_
      refine pw_cVE C hX dL_areKnown_291 ml_L_53 mc_X5_many (c_many hRc hA (w := 10) (by omega) (by omega)) kc_8 hRc.k rfl rfl ⟨Nat.le_of_ble_eq_true rfl, Nat.le_of_ble_eq_true rfl⟩ (Nat.le_of_ble_eq_true rfl) ⟨Nat.le_of_ble_eq_true rfl, Nat.le_of_ble_eq_true rfl⟩ ?_
      rw [show mny A 10 = w1 from (wgT_eq h00 h02).symm.trans (fr_done (by omega) hw).symm]
      refine pw_iload_n C dL_areKnown_294 rfl ?_
      refine pw_icmp_ne (tgt := 320) C dL_areKnown_295 (by decide) (by omega) (fun c_295 => ?_) (fun c_295 => ?_)
      · exact absurd c_295 (by omega)
      refine pw_aload_n C dL_areKnown_298 rfl ?_
      refine pw_cVD C hX dL_areKnown_299 ml_L_114 mc_X5_meanDelay (c_meanDelay hRc hA) kc_8 hRc.k rfl rfl ⟨Nat.le_of_ble_eq_true rfl, Nat.le_of_ble_eq_true rfl⟩ (Nat.le_of_ble_eq_true rfl) ⟨Nat.le_of_ble_eq_true rfl, Nat.le_of_ble_eq_true rfl⟩ ?_
      refine pw_dconst0 C dL_areKnown_302 ?_
      obtain ⟨rd, hrd_, brd⟩ := md_ge hA hL
      refine pw_dcmpE C dL_areKnown_303 hrd_ ?_
      refine pw_if_lt (tgt := 320) C dL_areKnown_304 (by decide) (by omega) (fun c_304 => ?_) (fun c_304 => ?_)
      · exact absurd c_304 (by omega)
      refine pw_aload_n C dL_areKnown_307 rfl ?_
      refine pw_cVJ C hX dL_areKnown_308 ml_L_104 mc_X5_digest (c_digest hRc hA) kc_8 hRc.k rfl rfl ⟨Nat.le_of_ble_eq_true rfl, Nat.le_of_ble_eq_true rfl⟩ (Nat.le_of_ble_eq_true rfl) ⟨Nat.le_of_ble_eq_true rfl, Nat.le_of_ble_eq_true rfl⟩ (fun r_ G M4 hq_ => ?_)
      obtain ⟨rfl, rfl, hR5, o6⟩ := hq_
      refine pw_lload_n C dL_areKnown_311 rfl ?_
      refine pw_lcmp0 C dL_areKnown_312 rfl ?_
      refine pw_ifL_nen (tgt := 320) C dL_areKnown_313 (by decide) rfl ?_
      refine pw_iconst C dL_areKnown_316 ?_
      refine pw_goto (tgt := 321) C dL_areKnown_317 (by decide) ?_
      exact pw_zret C hR dL_areKnown_321 (by omega) (⟨_, rfl, rfl, rfl, hR5⟩) (by omega) (by omega)
    · skip
      refine pw_iconst C dL_areKnown_18 ?_
      refine pw_istore C dL_areKnown_19 (Nat.le_of_ble_eq_true rfl) rfl ?_
      suffices K_21 : ∀ (nn_21 : Nat) (t2 w2 f : Int) (Md : Mm), (0 ≤ f ∧ f ≤ 4) → (RC G Md B A) → (fr (fun i c => if ¬ A (100 + i) 1 0 = -1 then c + 1 else c) (s * 4 + f) 8 t2 = cTr A) → (0 ≤ t2 ∧ t2 ≤ 4 * s + f) → (fr (fun f c => wgN A s f c) f 4 w2 = fr (fun f c => wgN A s f c) 0 4 w1) → (0 ≤ w2 ∧ w2 ≤ 8 * s + 2 * f) → 4 - f < (nn_21 : Int) → PW E G Md 0 0 21 [(0, 1, vR B), (1, 1, vI t2), (2, 1, vI w2), (3, 2, vL (dig A)), (5, 1, vI s), (6, 1, vI f)] [] from pw_locs (by exact ⟨rfl, cat_vR _, rfl, rfl, rfl, rfl, rfl, rfl, rfl, rfl, rfl, rfl, trivial⟩) (K_21 (4 - 0 + 1 : Int).toNat t1 w1 0 Mc (by omega) (by first | exact hRc | omega) (by first | exact by rw [Int.add_zero]; exact ht | omega) (by omega) (by first | exact rfl | omega) (by omega) (by omega))
      intro nn_21
      induction nn_21 with
      | zero => intro t2 w2 f Md h2 hRd ht2 bt2 hw2 bw2 h_m21; exact absurd h_m21 (by omega)
      | succ nn_21 ih_21 =>
        intro t2 w2 f Md h2 hRd ht2 bt2 hw2 bw2 h_m21
        refine pw_iload C dL_areKnown_21 rfl ?_
        refine pw_iconst C dL_areKnown_23 ?_
        refine pw_icmp_ge (tgt := 272) C dL_areKnown_24 (by decide) (by omega) (fun c_24 => ?_) (fun c_24 => ?_)
        · skip
          refine pw_iinc C dL_areKnown_272 rfl (Nat.le_of_ble_eq_true rfl) rfl ?_
          refine pw_goto (tgt := 12) C dL_areKnown_275 (by decide) ?_
          exact pw_locs (by exact ⟨rfl, cat_vR _, rfl, rfl, rfl, rfl, rfl, rfl, rfl, rfl, trivial⟩) (ih_12 t2 w2 (s + 1) Md (by omega) (hRd) (by rw [show (s + 1) * 4 = s * 4 + f by omega]; exact ht2) (by omega) (fr_go (by omega) hw (fr_done (by omega) hw2).symm) (by omega) (by omega))
        · skip
          have hF := hA.fa (s * 4 + f) (by omega)
          have fs := hW.wf hA (s * 4 + f) (by omega) (by omega)
          obtain ⟨T, hT⟩ : ∃ w, w = oFa A s f 0 := ⟨_, rfl⟩
          have eT : T = (A (100 + (s * 4 + f))) 1 0 := hT
          have bT : -1 ≤ T ∧ T ≤ 99 := by rw [eT]; exact hF.s0
          obtain ⟨Hd, hHd⟩ : ∃ w, w = oFa A s f 1 := ⟨_, rfl⟩
          have eH : Hd = (A (100 + (s * 4 + f))) 1 2 := hHd
          have bH : -1 ≤ Hd ∧ Hd ≤ 99 := by rw [eH]; exact hF.s2
          have eTt : T = tru (A 10) (A (100 + (s * 4 + f))) := eT.trans fs.1.1
          have k1 : ¬ T = -1 → Hd = T := fun q => by rw [eH, fs.1.2.1]; unfold hrd; rw [if_neg (by rw [← eTt]; exact q), ← eTt]
          have k2 : ¬ T = -1 → 0 < pG (A 10) (A (100 + (s * 4 + f))) T := fun q => by have z := (tru_some hA.so (by rw [← eTt]; exact q)).1.2; rw [← eTt] at z; exact z
          have k3 : ¬ T = -1 → nee (A 10) (A (100 + (s * 4 + f))) T 1 = 0 := fun q => nee_0 hA.so q eTt.symm
          obtain ⟨Cs, hCs⟩ : ∃ w, w = oFa A s f 2 := ⟨_, rfl⟩
          have bC : 0 ≤ Cs ∧ Cs ≤ 10 := by rw [hCs]; exact cSay_bd
          have k4 : Hd = -1 ↔ Cs = 0 := by rw [eH, fs.1.2.1, hCs]; exact hrd_none hA.so fs.2
          have k5 : ∀ v, ¬ v = -1 → ¬ T = -1 → 0 < pG (A 10) (A (100 + (s * 4 + f))) v → tF (A 10) (A (100 + (s * 4 + f))) v ≤ tF (A 10) (A (100 + (s * 4 + f))) T := fun v q1 q2 q3 => by have z := (tru_some hA.so (by rw [← eTt]; exact q2)).2 v q1 q3; rw [← eTt] at z; omega
          refine pw_aload_n C dL_areKnown_27 rfl ?_
          refine pw_iload C dL_areKnown_28 rfl ?_
          refine pw_iload C dL_areKnown_30 rfl ?_
          refine pw_iconst C dL_areKnown_32 ?_
          refine pw_cVE C hX dL_areKnown_33 ml_L_42 mc_X5_ofFact (c_ofFact hRd hA (s := s) (f := f) (w := 0) (by omega) (by omega) (by omega) (by omega)) kc_8 hRd.k rfl rfl ⟨Nat.le_of_ble_eq_true rfl, Nat.le_of_ble_eq_true rfl⟩ (Nat.le_of_ble_eq_true rfl) ⟨Nat.le_of_ble_eq_true rfl, Nat.le_of_ble_eq_true rfl⟩ ?_
          rw [← hT]
          refine pw_istore C dL_areKnown_36 (Nat.le_of_ble_eq_true rfl) rfl ?_
          refine pw_aload_n C dL_areKnown_38 rfl ?_
          refine pw_iload C dL_areKnown_39 rfl ?_
          refine pw_iload C dL_areKnown_41 rfl ?_
          refine pw_iconst C dL_areKnown_43 ?_
          refine pw_cVE C hX dL_areKnown_44 ml_L_42 mc_X5_ofFact (c_ofFact hRd hA (s := s) (f := f) (w := 1) (by omega) (by omega) (by omega) (by omega)) kc_8 hRd.k rfl rfl ⟨Nat.le_of_ble_eq_true rfl, Nat.le_of_ble_eq_true rfl⟩ (Nat.le_of_ble_eq_true rfl) ⟨Nat.le_of_ble_eq_true rfl, Nat.le_of_ble_eq_true rfl⟩ ?_
          rw [← hHd]
          refine pw_istore C dL_areKnown_47 (Nat.le_of_ble_eq_true rfl) rfl ?_
          refine pw_iload_n C dL_areKnown_49 rfl ?_
          refine pw_iload C dL_areKnown_50 rfl ?_
          refine pw_if_ge (tgt := 59) C dL_areKnown_52 (by decide) (by omega) (fun c_52 => ?_) (fun c_52 => ?_)
          · skip
            refine pw_iconst C dL_areKnown_59 ?_
            refine pw_iadd C dL_areKnown_60 ?_
            refine pw_istore_n C dL_areKnown_61 (Nat.le_of_ble_eq_true rfl) rfl ?_
            refine pw_iload C dL_areKnown_62 rfl ?_
            refine pw_if_lt (tgt := 102) C dL_areKnown_64 (by decide) (by omega) (fun c_64 => ?_) (fun c_64 => ?_)
            · skip
              refine pw_iload C dL_areKnown_102 rfl ?_
              refine pw_if_ge (tgt := 111) C dL_areKnown_104 (by decide) (by omega) (fun c_104 => ?_) (fun c_104 => ?_)
              rotate_left
              · exact absurd c_104 (by omega)
              refine pw_iconst C dL_areKnown_111 ?_
              refine pw_aload_n C dL_areKnown_112 rfl ?_
              refine pw_iload C dL_areKnown_113 rfl ?_
              refine pw_iload C dL_areKnown_115 rfl ?_
              refine pw_iconst C dL_areKnown_117 ?_
              refine pw_cVE C hX dL_areKnown_118 ml_L_42 mc_X5_ofFact (c_ofFact hRd hA (s := s) (f := f) (w := 2) (by omega) (by omega) (by omega) (by omega)) kc_8 hRd.k rfl rfl ⟨Nat.le_of_ble_eq_true rfl, Nat.le_of_ble_eq_true rfl⟩ (Nat.le_of_ble_eq_true rfl) ⟨Nat.le_of_ble_eq_true rfl, Nat.le_of_ble_eq_true rfl⟩ ?_
              rw [← hCs]
              refine pw_if_ne (tgt := 128) C dL_areKnown_121 (by decide) (by omega) (fun c_121 => ?_) (fun c_121 => ?_)
              · skip
                refine pw_iconst C dL_areKnown_128 ?_
                refine pw_icmp_eq (tgt := 134) C dL_areKnown_129 (by decide) (by omega) (fun c_129 => ?_) (fun c_129 => ?_)
                rotate_left
                · exact absurd c_129 (by omega)
                refine pw_iconst C dL_areKnown_134 ?_
                refine pw_istore C dL_areKnown_135 (Nat.le_of_ble_eq_true rfl) rfl ?_
                suffices K_137 : ∀ (nn_137 : Nat) (v : Int) (Me : Mm), (0 ≤ v ∧ v ≤ 4) → (RC G Me B A) → 4 - v < (nn_137 : Int) → PW E G Me 0 0 137 [(0, 1, vR B), (1, 1, vI (t2 + 1)), (2, 1, vI w2), (3, 2, vL (dig A)), (5, 1, vI s), (6, 1, vI f), (7, 1, vI T), (8, 1, vI Hd), (9, 1, vI v)] [] from pw_locs (by exact ⟨rfl, cat_vR _, rfl, rfl, rfl, rfl, rfl, rfl, rfl, rfl, rfl, rfl, rfl, rfl, rfl, rfl, rfl, rfl, trivial⟩) (K_137 (4 - 0 + 1 : Int).toNat 0 Md (by omega) (by first | exact hRd | omega) (by omega))
                intro nn_137
                induction nn_137 with
                | zero => intro v Me h3 hRe h_m137; exact absurd h_m137 (by omega)
                | succ nn_137 ih_137 =>
                  intro v Me h3 hRe h_m137
                  refine pw_iload C dL_areKnown_137 rfl ?_
                  refine pw_iconst C dL_areKnown_139 ?_
                  refine pw_icmp_ge (tgt := 195) C dL_areKnown_140 (by decide) (by omega) (fun c_140 => ?_) (fun c_140 => ?_)
                  · skip
                    refine pw_iconst C dL_areKnown_195 ?_
                    refine pw_istore C dL_areKnown_196 (Nat.le_of_ble_eq_true rfl) rfl ?_
                    suffices K_198 : ∀ (nn_198 : Nat) (w3 l : Int) , (0 ≤ l ∧ l ≤ 2) → (fr (fun l c => if wrg A l s f then c + 1 else c) l 2 w3 = wgN A s f w2) → (0 ≤ w3 ∧ w3 ≤ 8 * s + 2 * f + l) → 2 - l < (nn_198 : Int) → PW E G Me 0 0 198 [(0, 1, vR B), (1, 1, vI (t2 + 1)), (2, 1, vI w3), (3, 2, vL (dig A)), (5, 1, vI s), (6, 1, vI f), (7, 1, vI T), (8, 1, vI Hd), (9, 1, vI l)] [] from pw_locs (by exact ⟨rfl, cat_vR _, rfl, rfl, rfl, rfl, rfl, rfl, rfl, rfl, rfl, rfl, rfl, rfl, rfl, rfl, rfl, rfl, trivial⟩) (K_198 (2 - 0 + 1 : Int).toNat w2 0  (by omega) (by first | exact rfl | omega) (by omega) (by omega))
                    intro nn_198
                    induction nn_198 with
                    | zero => intro w3 l h4 hw3 bw3 h_m198; exact absurd h_m198 (by omega)
                    | succ nn_198 ih_198 =>
                      intro w3 l h4 hw3 bw3 h_m198
                      refine pw_iload C dL_areKnown_198 rfl ?_
                      refine pw_iconst C dL_areKnown_200 ?_
                      refine pw_icmp_ge (tgt := 266) C dL_areKnown_201 (by decide) (by omega) (fun c_201 => ?_) (fun c_201 => ?_)
                      · skip
                        refine pw_iinc C dL_areKnown_266 rfl (Nat.le_of_ble_eq_true rfl) rfl ?_
                        refine pw_goto (tgt := 21) C dL_areKnown_269 (by decide) ?_
                        exact pw_locs (by exact ⟨rfl, cat_vR _, rfl, rfl, rfl, rfl, rfl, rfl, rfl, rfl, rfl, rfl, trivial⟩) (ih_21 (t2 + 1) w3 (f + 1) Me (by omega) (hRe) (by rw [show s * 4 + (f + 1) = s * 4 + f + 1 by omega]; exact fr_go (by omega) ht2 (by (try dsimp only); split <;> omega)) (by omega) (fr_go (by omega) hw2 (fr_done (by omega) hw3).symm) (by omega) (by omega))
                      · skip
                        refine pw_aload_n C dL_areKnown_204 rfl ?_
                        refine pw_iload C dL_areKnown_205 rfl ?_
                        refine pw_iload C dL_areKnown_207 rfl ?_
                        refine pw_iload C dL_areKnown_209 rfl ?_
                        refine pw_cVE C hX dL_areKnown_211 ml_L_111 mc_X5_tells (c_tells hRe hA (l := l) (s := s) (f := f) (by omega) (by omega) (by omega) (by omega)) kc_8 hRe.k rfl rfl ⟨Nat.le_of_ble_eq_true rfl, Nat.le_of_ble_eq_true rfl⟩ (Nat.le_of_ble_eq_true rfl) ⟨Nat.le_of_ble_eq_true rfl, Nat.le_of_ble_eq_true rfl⟩ ?_
                        obtain ⟨Yv, hYv⟩ : ∃ w, w = tld A l s f := ⟨_, rfl⟩
                        rw [← hYv]
                        have bY : -1 ≤ Yv ∧ Yv ≤ 99 := by rw [hYv]; exact tld_bd hA (by omega)
                        refine pw_istore C dL_areKnown_214 (Nat.le_of_ble_eq_true rfl) rfl ?_
                        refine pw_iload C dL_areKnown_216 rfl ?_
                        refine pw_if_lt (tgt := 235) C dL_areKnown_218 (by decide) (by omega) (fun c_218 => ?_) (fun c_218 => ?_)
                        · skip
                          refine pw_iload_n C dL_areKnown_235 rfl ?_
                          refine pw_iload C dL_areKnown_236 rfl ?_
                          refine pw_if_lt (tgt := 257) C dL_areKnown_238 (by decide) (by omega) (fun c_238 => ?_) (fun c_238 => ?_)
                          rotate_left
                          · exact absurd c_238 (by omega)
                          refine pw_iconst C dL_areKnown_257 ?_
                          refine pw_iadd C dL_areKnown_258 ?_
                          refine pw_istore_n C dL_areKnown_259 (Nat.le_of_ble_eq_true rfl) rfl ?_
                          refine pw_iinc C dL_areKnown_260 rfl (Nat.le_of_ble_eq_true rfl) rfl ?_
                          refine pw_goto (tgt := 198) C dL_areKnown_263 (by decide) ?_
                          exact pw_locs (by exact ⟨rfl, cat_vR _, rfl, rfl, rfl, rfl, rfl, rfl, rfl, rfl, rfl, rfl, rfl, rfl, rfl, rfl, rfl, rfl, trivial⟩) (ih_198 (w3 + 0) (l + 1)  (by omega) (fr_go (by omega) hw3 (by (try dsimp only); split <;> omega)) (by omega) (by omega))
                        · skip
                          refine pw_aload_n C dL_areKnown_221 rfl ?_
                          refine pw_iload C dL_areKnown_222 rfl ?_
                          refine pw_iload C dL_areKnown_224 rfl ?_
                          refine pw_iconst C dL_areKnown_226 ?_
                          refine pw_cVE C hX dL_areKnown_227 ml_L_42 mc_X5_ofFact (c_ofFact hRe hA (s := s) (f := f) (w := 5) (by omega) (by omega) (by omega) (by omega)) kc_8 hRe.k rfl rfl ⟨Nat.le_of_ble_eq_true rfl, Nat.le_of_ble_eq_true rfl⟩ (Nat.le_of_ble_eq_true rfl) ⟨Nat.le_of_ble_eq_true rfl, Nat.le_of_ble_eq_true rfl⟩ ?_
                          obtain ⟨Fv, hFv⟩ : ∃ w, w = oFa A s f 5 := ⟨_, rfl⟩
                          rw [← hFv]
                          have bF : -1 ≤ Fv ∧ Fv ≤ 9999 := by rw [hFv]; exact fh_bd (s := s) (f := f) hA
                          have kF : ¬ Fv = -1 := by rw [hFv]; exact tld_fh (l := l) (s := s) (f := f) hA hW (by omega) (by rw [← hYv]; omega)
                          refine pw_if_ge (tgt := 235) C dL_areKnown_230 (by decide) (by omega) (fun c_230 => ?_) (fun c_230 => ?_)
                          rotate_left
                          · exact absurd c_230 (by omega)
                          refine pw_iload_n C dL_areKnown_235 rfl ?_
                          refine pw_iload C dL_areKnown_236 rfl ?_
                          refine pw_if_lt (tgt := 257) C dL_areKnown_238 (by decide) (by omega) (fun c_238 => ?_) (fun c_238 => ?_)
                          · exact absurd c_238 (by omega)
                          refine pw_iload C dL_areKnown_241 rfl ?_
                          refine pw_if_lt (tgt := 257) C dL_areKnown_243 (by decide) (by omega) (fun c_243 => ?_) (fun c_243 => ?_)
                          · exact absurd c_243 (by omega)
                          refine pw_iload C dL_areKnown_246 rfl ?_
                          refine pw_iload C dL_areKnown_248 rfl ?_
                          refine pw_icmp_eq (tgt := 257) C dL_areKnown_250 (by decide) (by omega) (fun c_250 => ?_) (fun c_250 => ?_)
                          · skip
                            refine pw_iconst C dL_areKnown_257 ?_
                            refine pw_iadd C dL_areKnown_258 ?_
                            refine pw_istore_n C dL_areKnown_259 (Nat.le_of_ble_eq_true rfl) rfl ?_
                            refine pw_iinc C dL_areKnown_260 rfl (Nat.le_of_ble_eq_true rfl) rfl ?_
                            refine pw_goto (tgt := 198) C dL_areKnown_263 (by decide) ?_
                            exact pw_locs (by exact ⟨rfl, cat_vR _, rfl, rfl, rfl, rfl, rfl, rfl, rfl, rfl, rfl, rfl, rfl, rfl, rfl, rfl, rfl, rfl, trivial⟩) (ih_198 (w3 + 0) (l + 1)  (by omega) (fr_go (by omega) hw3 (by (try dsimp only); split <;> omega)) (by omega) (by omega))
                          · skip
                            refine pw_iconst C dL_areKnown_253 ?_
                            refine pw_goto (tgt := 258) C dL_areKnown_254 (by decide) ?_
                            refine pw_iadd C dL_areKnown_258 ?_
                            refine pw_istore_n C dL_areKnown_259 (Nat.le_of_ble_eq_true rfl) rfl ?_
                            refine pw_iinc C dL_areKnown_260 rfl (Nat.le_of_ble_eq_true rfl) rfl ?_
                            refine pw_goto (tgt := 198) C dL_areKnown_263 (by decide) ?_
                            exact pw_locs (by exact ⟨rfl, cat_vR _, rfl, rfl, rfl, rfl, rfl, rfl, rfl, rfl, rfl, rfl, rfl, rfl, rfl, rfl, rfl, rfl, trivial⟩) (ih_198 (w3 + 1) (l + 1)  (by omega) (fr_go (by omega) hw3 (by (try dsimp only); split <;> omega)) (by omega) (by omega))
                  · skip
                    refine pw_iload C dL_areKnown_143 rfl ?_
                    refine pw_if_lt (tgt := 189) C dL_areKnown_145 (by decide) (by omega) (fun c_145 => ?_) (fun c_145 => ?_)
                    · skip
                      refine pw_iinc C dL_areKnown_189 rfl (Nat.le_of_ble_eq_true rfl) rfl ?_
                      refine pw_goto (tgt := 137) C dL_areKnown_192 (by decide) ?_
                      exact pw_locs (by exact ⟨rfl, cat_vR _, rfl, rfl, rfl, rfl, rfl, rfl, rfl, rfl, rfl, rfl, rfl, rfl, rfl, rfl, rfl, rfl, trivial⟩) (ih_137 (v + 1) Me (by omega) (hRe) (by omega))
                    · skip
                      refine pw_aload_n C dL_areKnown_148 rfl ?_
                      refine pw_iload C dL_areKnown_149 rfl ?_
                      refine pw_iload C dL_areKnown_151 rfl ?_
                      refine pw_iload C dL_areKnown_153 rfl ?_
                      refine pw_iconst C dL_areKnown_155 ?_
                      refine pw_cVI C hX dL_areKnown_156 ml_L_38 mc_X5_proof (c_proof hRe hA (s := s) (f := f) (v := v) (z := 0) (by omega) (by omega) (by omega) (by omega) (by omega)) kc_8 hRe.k rfl rfl ⟨Nat.le_of_ble_eq_true rfl, Nat.le_of_ble_eq_true rfl⟩ (Nat.le_of_ble_eq_true rfl) ⟨Nat.le_of_ble_eq_true rfl, Nat.le_of_ble_eq_true rfl⟩ (fun r_ G M7 hq_ => ?_)
                      obtain ⟨rfl, rfl, hR8, o9⟩ := hq_
                      rw [if_pos (show (0 : Int) = 0 from rfl)]
                      refine pw_if_le (tgt := 189) C dL_areKnown_159 (by decide) (by have := pG_bd (S := A 10) (F := A (100 + (s * 4 + f))) (v := v); omega) (fun c_159 => ?_) (fun c_159 => ?_)
                      · skip
                        refine pw_iinc C dL_areKnown_189 rfl (Nat.le_of_ble_eq_true rfl) rfl ?_
                        refine pw_goto (tgt := 137) C dL_areKnown_192 (by decide) ?_
                        exact pw_locs (by exact ⟨rfl, cat_vR _, rfl, rfl, rfl, rfl, rfl, rfl, rfl, rfl, rfl, rfl, rfl, rfl, rfl, rfl, rfl, rfl, trivial⟩) (ih_137 (v + 1) M7 (by omega) (hR8) (by omega))
                      · skip
                        refine pw_aload_n C dL_areKnown_162 rfl ?_
                        refine pw_iload C dL_areKnown_163 rfl ?_
                        refine pw_iload C dL_areKnown_165 rfl ?_
                        refine pw_iload C dL_areKnown_167 rfl ?_
                        refine pw_iconst C dL_areKnown_169 ?_
                        refine pw_cVI C hX dL_areKnown_170 ml_L_38 mc_X5_proof (c_proof hR8 hA (s := s) (f := f) (v := v) (z := 1) (by omega) (by omega) (by omega) (by omega) (by omega)) kc_8 hR8.k rfl rfl ⟨Nat.le_of_ble_eq_true rfl, Nat.le_of_ble_eq_true rfl⟩ (Nat.le_of_ble_eq_true rfl) ⟨Nat.le_of_ble_eq_true rfl, Nat.le_of_ble_eq_true rfl⟩ (fun r_ G M10 hq_ => ?_)
                        obtain ⟨rfl, rfl, hR11, o12⟩ := hq_
                        rw [if_neg (show ¬ (1 : Int) = 0 by omega)]
                        refine pw_aload_n C dL_areKnown_173 rfl ?_
                        refine pw_iload C dL_areKnown_174 rfl ?_
                        refine pw_iload C dL_areKnown_176 rfl ?_
                        refine pw_iload C dL_areKnown_178 rfl ?_
                        refine pw_iconst C dL_areKnown_180 ?_
                        refine pw_cVI C hX dL_areKnown_181 ml_L_38 mc_X5_proof (c_proof hR11 hA (s := s) (f := f) (v := T) (z := 1) (by omega) (by omega) (by omega) (by omega) (by omega)) kc_8 hR11.k rfl rfl ⟨Nat.le_of_ble_eq_true rfl, Nat.le_of_ble_eq_true rfl⟩ (Nat.le_of_ble_eq_true rfl) ⟨Nat.le_of_ble_eq_true rfl, Nat.le_of_ble_eq_true rfl⟩ (fun r_ G M13 hq_ => ?_)
                        obtain ⟨rfl, rfl, hR14, o15⟩ := hq_
                        rw [if_neg (show ¬ (1 : Int) = 0 by omega)]
                        have e5 := k5 v (by omega) (by omega) (by omega)
                        have bf1 := tF_bd (F := A (100 + (s * 4 + f))) (v := v) hA.so
                        have bf2 := tF_bd (F := A (100 + (s * 4 + f))) (v := T) hA.so
                        refine pw_icmp_le (tgt := 189) C dL_areKnown_184 (by decide) (by omega) (fun c_184 => ?_) (fun c_184 => ?_)
                        rotate_left
                        · exact absurd c_184 (by omega)
                        refine pw_iinc C dL_areKnown_189 rfl (Nat.le_of_ble_eq_true rfl) rfl ?_
                        refine pw_goto (tgt := 137) C dL_areKnown_192 (by decide) ?_
                        exact pw_locs (by exact ⟨rfl, cat_vR _, rfl, rfl, rfl, rfl, rfl, rfl, rfl, rfl, rfl, rfl, rfl, rfl, rfl, rfl, rfl, rfl, trivial⟩) (ih_137 (v + 1) M13 (by omega) (hR14) (by omega))
              · skip
                refine pw_iconst C dL_areKnown_124 ?_
                refine pw_goto (tgt := 129) C dL_areKnown_125 (by decide) ?_
                refine pw_icmp_eq (tgt := 134) C dL_areKnown_129 (by decide) (by omega) (fun c_129 => ?_) (fun c_129 => ?_)
                · exact absurd c_129 (by omega)
                exfalso; omega
            · skip
              refine pw_iload C dL_areKnown_67 rfl ?_
              refine pw_iload C dL_areKnown_69 rfl ?_
              have e1 := k1 (by omega)
              refine pw_icmp_ne (tgt := 132) C dL_areKnown_71 (by decide) (by omega) (fun c_71 => ?_) (fun c_71 => ?_)
              · exact absurd c_71 (by omega)
              refine pw_aload_n C dL_areKnown_74 rfl ?_
              refine pw_iload C dL_areKnown_75 rfl ?_
              refine pw_iload C dL_areKnown_77 rfl ?_
              refine pw_iload C dL_areKnown_79 rfl ?_
              refine pw_iconst C dL_areKnown_81 ?_
              refine pw_cVI C hX dL_areKnown_82 ml_L_38 mc_X5_proof (c_proof hRd hA (s := s) (f := f) (v := T) (z := 0) (by omega) (by omega) (by omega) (by omega) (by omega)) kc_8 hRd.k rfl rfl ⟨Nat.le_of_ble_eq_true rfl, Nat.le_of_ble_eq_true rfl⟩ (Nat.le_of_ble_eq_true rfl) ⟨Nat.le_of_ble_eq_true rfl, Nat.le_of_ble_eq_true rfl⟩ (fun r_ G M16 hq_ => ?_)
              obtain ⟨rfl, rfl, hR17, o18⟩ := hq_
              rw [if_pos (show (0 : Int) = 0 from rfl)]
              have e2 := k2 (by omega)
              refine pw_if_eq (tgt := 132) C dL_areKnown_85 (by decide) (by have := k2 (by omega); have := pG_bd (S := A 10) (F := A (100 + (s * 4 + f))) (v := T); omega) (fun c_85 => ?_) (fun c_85 => ?_)
              · exact absurd c_85 (by omega)
              refine pw_aload_n C dL_areKnown_88 rfl ?_
              refine pw_iload C dL_areKnown_89 rfl ?_
              refine pw_iload C dL_areKnown_91 rfl ?_
              refine pw_iload C dL_areKnown_93 rfl ?_
              refine pw_iconst C dL_areKnown_95 ?_
              refine pw_cVI C hX dL_areKnown_96 ml_L_108 mc_X5_needs (c_needs hR17 hA (s := s) (f := f) (v := T) (w := 1) (by omega) (by omega) (by omega) (by omega) (by omega)) kc_8 hR17.k rfl rfl ⟨Nat.le_of_ble_eq_true rfl, Nat.le_of_ble_eq_true rfl⟩ (Nat.le_of_ble_eq_true rfl) ⟨Nat.le_of_ble_eq_true rfl, Nat.le_of_ble_eq_true rfl⟩ (fun r_ G M19 hq_ => ?_)
              obtain ⟨rfl, rfl, hR20, o21⟩ := hq_
              have e3 := k3 (by omega)
              refine pw_if_ne (tgt := 132) C dL_areKnown_99 (by decide) (by omega) (fun c_99 => ?_) (fun c_99 => ?_)
              · exact absurd c_99 (by omega)
              refine pw_iload C dL_areKnown_102 rfl ?_
              refine pw_if_ge (tgt := 111) C dL_areKnown_104 (by decide) (by omega) (fun c_104 => ?_) (fun c_104 => ?_)
              rotate_left
              · exact absurd c_104 (by omega)
              refine pw_iconst C dL_areKnown_111 ?_
              refine pw_aload_n C dL_areKnown_112 rfl ?_
              refine pw_iload C dL_areKnown_113 rfl ?_
              refine pw_iload C dL_areKnown_115 rfl ?_
              refine pw_iconst C dL_areKnown_117 ?_
              refine pw_cVE C hX dL_areKnown_118 ml_L_42 mc_X5_ofFact (c_ofFact hR20 hA (s := s) (f := f) (w := 2) (by omega) (by omega) (by omega) (by omega)) kc_8 hR20.k rfl rfl ⟨Nat.le_of_ble_eq_true rfl, Nat.le_of_ble_eq_true rfl⟩ (Nat.le_of_ble_eq_true rfl) ⟨Nat.le_of_ble_eq_true rfl, Nat.le_of_ble_eq_true rfl⟩ ?_
              rw [← hCs]
              refine pw_if_ne (tgt := 128) C dL_areKnown_121 (by decide) (by omega) (fun c_121 => ?_) (fun c_121 => ?_)
              · skip
                refine pw_iconst C dL_areKnown_128 ?_
                refine pw_icmp_eq (tgt := 134) C dL_areKnown_129 (by decide) (by omega) (fun c_129 => ?_) (fun c_129 => ?_)
                rotate_left
                · exact absurd c_129 (by omega)
                refine pw_iconst C dL_areKnown_134 ?_
                refine pw_istore C dL_areKnown_135 (Nat.le_of_ble_eq_true rfl) rfl ?_
                suffices K_137 : ∀ (nn_137 : Nat) (v : Int) (Me : Mm), (0 ≤ v ∧ v ≤ 4) → (RC G Me B A) → 4 - v < (nn_137 : Int) → PW E G Me 0 0 137 [(0, 1, vR B), (1, 1, vI (t2 + 1)), (2, 1, vI w2), (3, 2, vL (dig A)), (5, 1, vI s), (6, 1, vI f), (7, 1, vI T), (8, 1, vI Hd), (9, 1, vI v)] [] from pw_locs (by exact ⟨rfl, cat_vR _, rfl, rfl, rfl, rfl, rfl, rfl, rfl, rfl, rfl, rfl, rfl, rfl, rfl, rfl, rfl, rfl, trivial⟩) (K_137 (4 - 0 + 1 : Int).toNat 0 M19 (by omega) (by first | exact hR20 | omega) (by omega))
                intro nn_137
                induction nn_137 with
                | zero => intro v Me h3 hRe h_m137; exact absurd h_m137 (by omega)
                | succ nn_137 ih_137 =>
                  intro v Me h3 hRe h_m137
                  refine pw_iload C dL_areKnown_137 rfl ?_
                  refine pw_iconst C dL_areKnown_139 ?_
                  refine pw_icmp_ge (tgt := 195) C dL_areKnown_140 (by decide) (by omega) (fun c_140 => ?_) (fun c_140 => ?_)
                  · skip
                    refine pw_iconst C dL_areKnown_195 ?_
                    refine pw_istore C dL_areKnown_196 (Nat.le_of_ble_eq_true rfl) rfl ?_
                    suffices K_198 : ∀ (nn_198 : Nat) (w3 l : Int) , (0 ≤ l ∧ l ≤ 2) → (fr (fun l c => if wrg A l s f then c + 1 else c) l 2 w3 = wgN A s f w2) → (0 ≤ w3 ∧ w3 ≤ 8 * s + 2 * f + l) → 2 - l < (nn_198 : Int) → PW E G Me 0 0 198 [(0, 1, vR B), (1, 1, vI (t2 + 1)), (2, 1, vI w3), (3, 2, vL (dig A)), (5, 1, vI s), (6, 1, vI f), (7, 1, vI T), (8, 1, vI Hd), (9, 1, vI l)] [] from pw_locs (by exact ⟨rfl, cat_vR _, rfl, rfl, rfl, rfl, rfl, rfl, rfl, rfl, rfl, rfl, rfl, rfl, rfl, rfl, rfl, rfl, trivial⟩) (K_198 (2 - 0 + 1 : Int).toNat w2 0  (by omega) (by first | exact rfl | omega) (by omega) (by omega))
                    intro nn_198
                    induction nn_198 with
                    | zero => intro w3 l h4 hw3 bw3 h_m198; exact absurd h_m198 (by omega)
                    | succ nn_198 ih_198 =>
                      intro w3 l h4 hw3 bw3 h_m198
                      refine pw_iload C dL_areKnown_198 rfl ?_
                      refine pw_iconst C dL_areKnown_200 ?_
                      refine pw_icmp_ge (tgt := 266) C dL_areKnown_201 (by decide) (by omega) (fun c_201 => ?_) (fun c_201 => ?_)
                      · skip
                        refine pw_iinc C dL_areKnown_266 rfl (Nat.le_of_ble_eq_true rfl) rfl ?_
                        refine pw_goto (tgt := 21) C dL_areKnown_269 (by decide) ?_
                        exact pw_locs (by exact ⟨rfl, cat_vR _, rfl, rfl, rfl, rfl, rfl, rfl, rfl, rfl, rfl, rfl, trivial⟩) (ih_21 (t2 + 1) w3 (f + 1) Me (by omega) (hRe) (by rw [show s * 4 + (f + 1) = s * 4 + f + 1 by omega]; exact fr_go (by omega) ht2 (by (try dsimp only); split <;> omega)) (by omega) (fr_go (by omega) hw2 (fr_done (by omega) hw3).symm) (by omega) (by omega))
                      · skip
                        refine pw_aload_n C dL_areKnown_204 rfl ?_
                        refine pw_iload C dL_areKnown_205 rfl ?_
                        refine pw_iload C dL_areKnown_207 rfl ?_
                        refine pw_iload C dL_areKnown_209 rfl ?_
                        refine pw_cVE C hX dL_areKnown_211 ml_L_111 mc_X5_tells (c_tells hRe hA (l := l) (s := s) (f := f) (by omega) (by omega) (by omega) (by omega)) kc_8 hRe.k rfl rfl ⟨Nat.le_of_ble_eq_true rfl, Nat.le_of_ble_eq_true rfl⟩ (Nat.le_of_ble_eq_true rfl) ⟨Nat.le_of_ble_eq_true rfl, Nat.le_of_ble_eq_true rfl⟩ ?_
                        obtain ⟨Yv, hYv⟩ : ∃ w, w = tld A l s f := ⟨_, rfl⟩
                        rw [← hYv]
                        have bY : -1 ≤ Yv ∧ Yv ≤ 99 := by rw [hYv]; exact tld_bd hA (by omega)
                        refine pw_istore C dL_areKnown_214 (Nat.le_of_ble_eq_true rfl) rfl ?_
                        refine pw_iload C dL_areKnown_216 rfl ?_
                        refine pw_if_lt (tgt := 235) C dL_areKnown_218 (by decide) (by omega) (fun c_218 => ?_) (fun c_218 => ?_)
                        · skip
                          refine pw_iload_n C dL_areKnown_235 rfl ?_
                          refine pw_iload C dL_areKnown_236 rfl ?_
                          refine pw_if_lt (tgt := 257) C dL_areKnown_238 (by decide) (by omega) (fun c_238 => ?_) (fun c_238 => ?_)
                          rotate_left
                          · exact absurd c_238 (by omega)
                          refine pw_iconst C dL_areKnown_257 ?_
                          refine pw_iadd C dL_areKnown_258 ?_
                          refine pw_istore_n C dL_areKnown_259 (Nat.le_of_ble_eq_true rfl) rfl ?_
                          refine pw_iinc C dL_areKnown_260 rfl (Nat.le_of_ble_eq_true rfl) rfl ?_
                          refine pw_goto (tgt := 198) C dL_areKnown_263 (by decide) ?_
                          exact pw_locs (by exact ⟨rfl, cat_vR _, rfl, rfl, rfl, rfl, rfl, rfl, rfl, rfl, rfl, rfl, rfl, rfl, rfl, rfl, rfl, rfl, trivial⟩) (ih_198 (w3 + 0) (l + 1)  (by omega) (fr_go (by omega) hw3 (by (try dsimp only); split <;> omega)) (by omega) (by omega))
                        · skip
                          refine pw_aload_n C dL_areKnown_221 rfl ?_
                          refine pw_iload C dL_areKnown_222 rfl ?_
                          refine pw_iload C dL_areKnown_224 rfl ?_
                          refine pw_iconst C dL_areKnown_226 ?_
                          refine pw_cVE C hX dL_areKnown_227 ml_L_42 mc_X5_ofFact (c_ofFact hRe hA (s := s) (f := f) (w := 5) (by omega) (by omega) (by omega) (by omega)) kc_8 hRe.k rfl rfl ⟨Nat.le_of_ble_eq_true rfl, Nat.le_of_ble_eq_true rfl⟩ (Nat.le_of_ble_eq_true rfl) ⟨Nat.le_of_ble_eq_true rfl, Nat.le_of_ble_eq_true rfl⟩ ?_
                          obtain ⟨Fv, hFv⟩ : ∃ w, w = oFa A s f 5 := ⟨_, rfl⟩
                          rw [← hFv]
                          have bF : -1 ≤ Fv ∧ Fv ≤ 9999 := by rw [hFv]; exact fh_bd (s := s) (f := f) hA
                          have kF : ¬ Fv = -1 := by rw [hFv]; exact tld_fh (l := l) (s := s) (f := f) hA hW (by omega) (by rw [← hYv]; omega)
                          refine pw_if_ge (tgt := 235) C dL_areKnown_230 (by decide) (by omega) (fun c_230 => ?_) (fun c_230 => ?_)
                          rotate_left
                          · exact absurd c_230 (by omega)
                          refine pw_iload_n C dL_areKnown_235 rfl ?_
                          refine pw_iload C dL_areKnown_236 rfl ?_
                          refine pw_if_lt (tgt := 257) C dL_areKnown_238 (by decide) (by omega) (fun c_238 => ?_) (fun c_238 => ?_)
                          · exact absurd c_238 (by omega)
                          refine pw_iload C dL_areKnown_241 rfl ?_
                          refine pw_if_lt (tgt := 257) C dL_areKnown_243 (by decide) (by omega) (fun c_243 => ?_) (fun c_243 => ?_)
                          · exact absurd c_243 (by omega)
                          refine pw_iload C dL_areKnown_246 rfl ?_
                          refine pw_iload C dL_areKnown_248 rfl ?_
                          refine pw_icmp_eq (tgt := 257) C dL_areKnown_250 (by decide) (by omega) (fun c_250 => ?_) (fun c_250 => ?_)
                          · skip
                            refine pw_iconst C dL_areKnown_257 ?_
                            refine pw_iadd C dL_areKnown_258 ?_
                            refine pw_istore_n C dL_areKnown_259 (Nat.le_of_ble_eq_true rfl) rfl ?_
                            refine pw_iinc C dL_areKnown_260 rfl (Nat.le_of_ble_eq_true rfl) rfl ?_
                            refine pw_goto (tgt := 198) C dL_areKnown_263 (by decide) ?_
                            exact pw_locs (by exact ⟨rfl, cat_vR _, rfl, rfl, rfl, rfl, rfl, rfl, rfl, rfl, rfl, rfl, rfl, rfl, rfl, rfl, rfl, rfl, trivial⟩) (ih_198 (w3 + 0) (l + 1)  (by omega) (fr_go (by omega) hw3 (by (try dsimp only); split <;> omega)) (by omega) (by omega))
                          · skip
                            refine pw_iconst C dL_areKnown_253 ?_
                            refine pw_goto (tgt := 258) C dL_areKnown_254 (by decide) ?_
                            refine pw_iadd C dL_areKnown_258 ?_
                            refine pw_istore_n C dL_areKnown_259 (Nat.le_of_ble_eq_true rfl) rfl ?_
                            refine pw_iinc C dL_areKnown_260 rfl (Nat.le_of_ble_eq_true rfl) rfl ?_
                            refine pw_goto (tgt := 198) C dL_areKnown_263 (by decide) ?_
                            exact pw_locs (by exact ⟨rfl, cat_vR _, rfl, rfl, rfl, rfl, rfl, rfl, rfl, rfl, rfl, rfl, rfl, rfl, rfl, rfl, rfl, rfl, trivial⟩) (ih_198 (w3 + 1) (l + 1)  (by omega) (fr_go (by omega) hw3 (by (try dsimp only); split <;> omega)) (by omega) (by omega))
                  · skip
                    refine pw_iload C dL_areKnown_143 rfl ?_
                    refine pw_if_lt (tgt := 189) C dL_areKnown_145 (by decide) (by omega) (fun c_145 => ?_) (fun c_145 => ?_)
                    · skip
                      refine pw_iinc C dL_areKnown_189 rfl (Nat.le_of_ble_eq_true rfl) rfl ?_
                      refine pw_goto (tgt := 137) C dL_areKnown_192 (by decide) ?_
                      exact pw_locs (by exact ⟨rfl, cat_vR _, rfl, rfl, rfl, rfl, rfl, rfl, rfl, rfl, rfl, rfl, rfl, rfl, rfl, rfl, rfl, rfl, trivial⟩) (ih_137 (v + 1) Me (by omega) (hRe) (by omega))
                    · skip
                      refine pw_aload_n C dL_areKnown_148 rfl ?_
                      refine pw_iload C dL_areKnown_149 rfl ?_
                      refine pw_iload C dL_areKnown_151 rfl ?_
                      refine pw_iload C dL_areKnown_153 rfl ?_
                      refine pw_iconst C dL_areKnown_155 ?_
                      refine pw_cVI C hX dL_areKnown_156 ml_L_38 mc_X5_proof (c_proof hRe hA (s := s) (f := f) (v := v) (z := 0) (by omega) (by omega) (by omega) (by omega) (by omega)) kc_8 hRe.k rfl rfl ⟨Nat.le_of_ble_eq_true rfl, Nat.le_of_ble_eq_true rfl⟩ (Nat.le_of_ble_eq_true rfl) ⟨Nat.le_of_ble_eq_true rfl, Nat.le_of_ble_eq_true rfl⟩ (fun r_ G M22 hq_ => ?_)
                      obtain ⟨rfl, rfl, hR23, o24⟩ := hq_
                      rw [if_pos (show (0 : Int) = 0 from rfl)]
                      refine pw_if_le (tgt := 189) C dL_areKnown_159 (by decide) (by have := pG_bd (S := A 10) (F := A (100 + (s * 4 + f))) (v := v); omega) (fun c_159 => ?_) (fun c_159 => ?_)
                      · skip
                        refine pw_iinc C dL_areKnown_189 rfl (Nat.le_of_ble_eq_true rfl) rfl ?_
                        refine pw_goto (tgt := 137) C dL_areKnown_192 (by decide) ?_
                        exact pw_locs (by exact ⟨rfl, cat_vR _, rfl, rfl, rfl, rfl, rfl, rfl, rfl, rfl, rfl, rfl, rfl, rfl, rfl, rfl, rfl, rfl, trivial⟩) (ih_137 (v + 1) M22 (by omega) (hR23) (by omega))
                      · skip
                        refine pw_aload_n C dL_areKnown_162 rfl ?_
                        refine pw_iload C dL_areKnown_163 rfl ?_
                        refine pw_iload C dL_areKnown_165 rfl ?_
                        refine pw_iload C dL_areKnown_167 rfl ?_
                        refine pw_iconst C dL_areKnown_169 ?_
                        refine pw_cVI C hX dL_areKnown_170 ml_L_38 mc_X5_proof (c_proof hR23 hA (s := s) (f := f) (v := v) (z := 1) (by omega) (by omega) (by omega) (by omega) (by omega)) kc_8 hR23.k rfl rfl ⟨Nat.le_of_ble_eq_true rfl, Nat.le_of_ble_eq_true rfl⟩ (Nat.le_of_ble_eq_true rfl) ⟨Nat.le_of_ble_eq_true rfl, Nat.le_of_ble_eq_true rfl⟩ (fun r_ G M25 hq_ => ?_)
                        obtain ⟨rfl, rfl, hR26, o27⟩ := hq_
                        rw [if_neg (show ¬ (1 : Int) = 0 by omega)]
                        refine pw_aload_n C dL_areKnown_173 rfl ?_
                        refine pw_iload C dL_areKnown_174 rfl ?_
                        refine pw_iload C dL_areKnown_176 rfl ?_
                        refine pw_iload C dL_areKnown_178 rfl ?_
                        refine pw_iconst C dL_areKnown_180 ?_
                        refine pw_cVI C hX dL_areKnown_181 ml_L_38 mc_X5_proof (c_proof hR26 hA (s := s) (f := f) (v := T) (z := 1) (by omega) (by omega) (by omega) (by omega) (by omega)) kc_8 hR26.k rfl rfl ⟨Nat.le_of_ble_eq_true rfl, Nat.le_of_ble_eq_true rfl⟩ (Nat.le_of_ble_eq_true rfl) ⟨Nat.le_of_ble_eq_true rfl, Nat.le_of_ble_eq_true rfl⟩ (fun r_ G M28 hq_ => ?_)
                        obtain ⟨rfl, rfl, hR29, o30⟩ := hq_
                        rw [if_neg (show ¬ (1 : Int) = 0 by omega)]
                        have e5 := k5 v (by omega) (by omega) (by omega)
                        have bf1 := tF_bd (F := A (100 + (s * 4 + f))) (v := v) hA.so
                        have bf2 := tF_bd (F := A (100 + (s * 4 + f))) (v := T) hA.so
                        refine pw_icmp_le (tgt := 189) C dL_areKnown_184 (by decide) (by omega) (fun c_184 => ?_) (fun c_184 => ?_)
                        rotate_left
                        · exact absurd c_184 (by omega)
                        refine pw_iinc C dL_areKnown_189 rfl (Nat.le_of_ble_eq_true rfl) rfl ?_
                        refine pw_goto (tgt := 137) C dL_areKnown_192 (by decide) ?_
                        exact pw_locs (by exact ⟨rfl, cat_vR _, rfl, rfl, rfl, rfl, rfl, rfl, rfl, rfl, rfl, rfl, rfl, rfl, rfl, rfl, rfl, rfl, trivial⟩) (ih_137 (v + 1) M28 (by omega) (hR29) (by omega))
              · skip
                refine pw_iconst C dL_areKnown_124 ?_
                refine pw_goto (tgt := 129) C dL_areKnown_125 (by decide) ?_
                refine pw_icmp_eq (tgt := 134) C dL_areKnown_129 (by decide) (by omega) (fun c_129 => ?_) (fun c_129 => ?_)
                · exact absurd c_129 (by omega)
                exfalso; omega
          · skip
            refine pw_iconst C dL_areKnown_55 ?_
            refine pw_goto (tgt := 60) C dL_areKnown_56 (by decide) ?_
            refine pw_iadd C dL_areKnown_60 ?_
            refine pw_istore_n C dL_areKnown_61 (Nat.le_of_ble_eq_true rfl) rfl ?_
            refine pw_iload C dL_areKnown_62 rfl ?_
            refine pw_if_lt (tgt := 102) C dL_areKnown_64 (by decide) (by omega) (fun c_64 => ?_) (fun c_64 => ?_)
            · skip
              refine pw_iload C dL_areKnown_102 rfl ?_
              refine pw_if_ge (tgt := 111) C dL_areKnown_104 (by decide) (by omega) (fun c_104 => ?_) (fun c_104 => ?_)
              · skip
                refine pw_iconst C dL_areKnown_111 ?_
                refine pw_aload_n C dL_areKnown_112 rfl ?_
                refine pw_iload C dL_areKnown_113 rfl ?_
                refine pw_iload C dL_areKnown_115 rfl ?_
                refine pw_iconst C dL_areKnown_117 ?_
                refine pw_cVE C hX dL_areKnown_118 ml_L_42 mc_X5_ofFact (c_ofFact hRd hA (s := s) (f := f) (w := 2) (by omega) (by omega) (by omega) (by omega)) kc_8 hRd.k rfl rfl ⟨Nat.le_of_ble_eq_true rfl, Nat.le_of_ble_eq_true rfl⟩ (Nat.le_of_ble_eq_true rfl) ⟨Nat.le_of_ble_eq_true rfl, Nat.le_of_ble_eq_true rfl⟩ ?_
                rw [← hCs]
                refine pw_if_ne (tgt := 128) C dL_areKnown_121 (by decide) (by omega) (fun c_121 => ?_) (fun c_121 => ?_)
                · skip
                  refine pw_iconst C dL_areKnown_128 ?_
                  refine pw_icmp_eq (tgt := 134) C dL_areKnown_129 (by decide) (by omega) (fun c_129 => ?_) (fun c_129 => ?_)
                  rotate_left
                  · exact absurd c_129 (by omega)
                  refine pw_iconst C dL_areKnown_134 ?_
                  refine pw_istore C dL_areKnown_135 (Nat.le_of_ble_eq_true rfl) rfl ?_
                  suffices K_137 : ∀ (nn_137 : Nat) (v : Int) (Me : Mm), (0 ≤ v ∧ v ≤ 4) → (RC G Me B A) → 4 - v < (nn_137 : Int) → PW E G Me 0 0 137 [(0, 1, vR B), (1, 1, vI (t2 + 0)), (2, 1, vI w2), (3, 2, vL (dig A)), (5, 1, vI s), (6, 1, vI f), (7, 1, vI T), (8, 1, vI Hd), (9, 1, vI v)] [] from pw_locs (by exact ⟨rfl, cat_vR _, rfl, rfl, rfl, rfl, rfl, rfl, rfl, rfl, rfl, rfl, rfl, rfl, rfl, rfl, rfl, rfl, trivial⟩) (K_137 (4 - 0 + 1 : Int).toNat 0 Md (by omega) (by first | exact hRd | omega) (by omega))
                  intro nn_137
                  induction nn_137 with
                  | zero => intro v Me h3 hRe h_m137; exact absurd h_m137 (by omega)
                  | succ nn_137 ih_137 =>
                    intro v Me h3 hRe h_m137
                    refine pw_iload C dL_areKnown_137 rfl ?_
                    refine pw_iconst C dL_areKnown_139 ?_
                    refine pw_icmp_ge (tgt := 195) C dL_areKnown_140 (by decide) (by omega) (fun c_140 => ?_) (fun c_140 => ?_)
                    · skip
                      refine pw_iconst C dL_areKnown_195 ?_
                      refine pw_istore C dL_areKnown_196 (Nat.le_of_ble_eq_true rfl) rfl ?_
                      suffices K_198 : ∀ (nn_198 : Nat) (w3 l : Int) , (0 ≤ l ∧ l ≤ 2) → (fr (fun l c => if wrg A l s f then c + 1 else c) l 2 w3 = wgN A s f w2) → (0 ≤ w3 ∧ w3 ≤ 8 * s + 2 * f + l) → 2 - l < (nn_198 : Int) → PW E G Me 0 0 198 [(0, 1, vR B), (1, 1, vI (t2 + 0)), (2, 1, vI w3), (3, 2, vL (dig A)), (5, 1, vI s), (6, 1, vI f), (7, 1, vI T), (8, 1, vI Hd), (9, 1, vI l)] [] from pw_locs (by exact ⟨rfl, cat_vR _, rfl, rfl, rfl, rfl, rfl, rfl, rfl, rfl, rfl, rfl, rfl, rfl, rfl, rfl, rfl, rfl, trivial⟩) (K_198 (2 - 0 + 1 : Int).toNat w2 0  (by omega) (by first | exact rfl | omega) (by omega) (by omega))
                      intro nn_198
                      induction nn_198 with
                      | zero => intro w3 l h4 hw3 bw3 h_m198; exact absurd h_m198 (by omega)
                      | succ nn_198 ih_198 =>
                        intro w3 l h4 hw3 bw3 h_m198
                        refine pw_iload C dL_areKnown_198 rfl ?_
                        refine pw_iconst C dL_areKnown_200 ?_
                        refine pw_icmp_ge (tgt := 266) C dL_areKnown_201 (by decide) (by omega) (fun c_201 => ?_) (fun c_201 => ?_)
                        · skip
                          refine pw_iinc C dL_areKnown_266 rfl (Nat.le_of_ble_eq_true rfl) rfl ?_
                          refine pw_goto (tgt := 21) C dL_areKnown_269 (by decide) ?_
                          exact pw_locs (by exact ⟨rfl, cat_vR _, rfl, rfl, rfl, rfl, rfl, rfl, rfl, rfl, rfl, rfl, trivial⟩) (ih_21 (t2 + 0) w3 (f + 1) Me (by omega) (hRe) (by rw [show s * 4 + (f + 1) = s * 4 + f + 1 by omega]; exact fr_go (by omega) ht2 (by (try dsimp only); split <;> omega)) (by omega) (fr_go (by omega) hw2 (fr_done (by omega) hw3).symm) (by omega) (by omega))
                        · skip
                          refine pw_aload_n C dL_areKnown_204 rfl ?_
                          refine pw_iload C dL_areKnown_205 rfl ?_
                          refine pw_iload C dL_areKnown_207 rfl ?_
                          refine pw_iload C dL_areKnown_209 rfl ?_
                          refine pw_cVE C hX dL_areKnown_211 ml_L_111 mc_X5_tells (c_tells hRe hA (l := l) (s := s) (f := f) (by omega) (by omega) (by omega) (by omega)) kc_8 hRe.k rfl rfl ⟨Nat.le_of_ble_eq_true rfl, Nat.le_of_ble_eq_true rfl⟩ (Nat.le_of_ble_eq_true rfl) ⟨Nat.le_of_ble_eq_true rfl, Nat.le_of_ble_eq_true rfl⟩ ?_
                          obtain ⟨Yv, hYv⟩ : ∃ w, w = tld A l s f := ⟨_, rfl⟩
                          rw [← hYv]
                          have bY : -1 ≤ Yv ∧ Yv ≤ 99 := by rw [hYv]; exact tld_bd hA (by omega)
                          refine pw_istore C dL_areKnown_214 (Nat.le_of_ble_eq_true rfl) rfl ?_
                          refine pw_iload C dL_areKnown_216 rfl ?_
                          refine pw_if_lt (tgt := 235) C dL_areKnown_218 (by decide) (by omega) (fun c_218 => ?_) (fun c_218 => ?_)
                          · skip
                            refine pw_iload_n C dL_areKnown_235 rfl ?_
                            refine pw_iload C dL_areKnown_236 rfl ?_
                            refine pw_if_lt (tgt := 257) C dL_areKnown_238 (by decide) (by omega) (fun c_238 => ?_) (fun c_238 => ?_)
                            rotate_left
                            · exact absurd c_238 (by omega)
                            refine pw_iconst C dL_areKnown_257 ?_
                            refine pw_iadd C dL_areKnown_258 ?_
                            refine pw_istore_n C dL_areKnown_259 (Nat.le_of_ble_eq_true rfl) rfl ?_
                            refine pw_iinc C dL_areKnown_260 rfl (Nat.le_of_ble_eq_true rfl) rfl ?_
                            refine pw_goto (tgt := 198) C dL_areKnown_263 (by decide) ?_
                            exact pw_locs (by exact ⟨rfl, cat_vR _, rfl, rfl, rfl, rfl, rfl, rfl, rfl, rfl, rfl, rfl, rfl, rfl, rfl, rfl, rfl, rfl, trivial⟩) (ih_198 (w3 + 0) (l + 1)  (by omega) (fr_go (by omega) hw3 (by (try dsimp only); split <;> omega)) (by omega) (by omega))
                          · skip
                            refine pw_aload_n C dL_areKnown_221 rfl ?_
                            refine pw_iload C dL_areKnown_222 rfl ?_
                            refine pw_iload C dL_areKnown_224 rfl ?_
                            refine pw_iconst C dL_areKnown_226 ?_
                            refine pw_cVE C hX dL_areKnown_227 ml_L_42 mc_X5_ofFact (c_ofFact hRe hA (s := s) (f := f) (w := 5) (by omega) (by omega) (by omega) (by omega)) kc_8 hRe.k rfl rfl ⟨Nat.le_of_ble_eq_true rfl, Nat.le_of_ble_eq_true rfl⟩ (Nat.le_of_ble_eq_true rfl) ⟨Nat.le_of_ble_eq_true rfl, Nat.le_of_ble_eq_true rfl⟩ ?_
                            obtain ⟨Fv, hFv⟩ : ∃ w, w = oFa A s f 5 := ⟨_, rfl⟩
                            rw [← hFv]
                            have bF : -1 ≤ Fv ∧ Fv ≤ 9999 := by rw [hFv]; exact fh_bd (s := s) (f := f) hA
                            have kF : ¬ Fv = -1 := by rw [hFv]; exact tld_fh (l := l) (s := s) (f := f) hA hW (by omega) (by rw [← hYv]; omega)
                            refine pw_if_ge (tgt := 235) C dL_areKnown_230 (by decide) (by omega) (fun c_230 => ?_) (fun c_230 => ?_)
                            rotate_left
                            · exact absurd c_230 (by omega)
                            refine pw_iload_n C dL_areKnown_235 rfl ?_
                            refine pw_iload C dL_areKnown_236 rfl ?_
                            refine pw_if_lt (tgt := 257) C dL_areKnown_238 (by decide) (by omega) (fun c_238 => ?_) (fun c_238 => ?_)
                            · exact absurd c_238 (by omega)
                            refine pw_iload C dL_areKnown_241 rfl ?_
                            refine pw_if_lt (tgt := 257) C dL_areKnown_243 (by decide) (by omega) (fun c_243 => ?_) (fun c_243 => ?_)
                            rotate_left
                            · exact absurd c_243 (by omega)
                            refine pw_iconst C dL_areKnown_257 ?_
                            refine pw_iadd C dL_areKnown_258 ?_
                            refine pw_istore_n C dL_areKnown_259 (Nat.le_of_ble_eq_true rfl) rfl ?_
                            refine pw_iinc C dL_areKnown_260 rfl (Nat.le_of_ble_eq_true rfl) rfl ?_
                            refine pw_goto (tgt := 198) C dL_areKnown_263 (by decide) ?_
                            exact pw_locs (by exact ⟨rfl, cat_vR _, rfl, rfl, rfl, rfl, rfl, rfl, rfl, rfl, rfl, rfl, rfl, rfl, rfl, rfl, rfl, rfl, trivial⟩) (ih_198 (w3 + 0) (l + 1)  (by omega) (fr_go (by omega) hw3 (by (try dsimp only); split <;> omega)) (by omega) (by omega))
                    · skip
                      refine pw_iload C dL_areKnown_143 rfl ?_
                      refine pw_if_lt (tgt := 189) C dL_areKnown_145 (by decide) (by omega) (fun c_145 => ?_) (fun c_145 => ?_)
                      · skip
                        refine pw_iinc C dL_areKnown_189 rfl (Nat.le_of_ble_eq_true rfl) rfl ?_
                        refine pw_goto (tgt := 137) C dL_areKnown_192 (by decide) ?_
                        exact pw_locs (by exact ⟨rfl, cat_vR _, rfl, rfl, rfl, rfl, rfl, rfl, rfl, rfl, rfl, rfl, rfl, rfl, rfl, rfl, rfl, rfl, trivial⟩) (ih_137 (v + 1) Me (by omega) (hRe) (by omega))
                      · skip
                        refine pw_aload_n C dL_areKnown_148 rfl ?_
                        refine pw_iload C dL_areKnown_149 rfl ?_
                        refine pw_iload C dL_areKnown_151 rfl ?_
                        refine pw_iload C dL_areKnown_153 rfl ?_
                        refine pw_iconst C dL_areKnown_155 ?_
                        refine pw_cVI C hX dL_areKnown_156 ml_L_38 mc_X5_proof (c_proof hRe hA (s := s) (f := f) (v := v) (z := 0) (by omega) (by omega) (by omega) (by omega) (by omega)) kc_8 hRe.k rfl rfl ⟨Nat.le_of_ble_eq_true rfl, Nat.le_of_ble_eq_true rfl⟩ (Nat.le_of_ble_eq_true rfl) ⟨Nat.le_of_ble_eq_true rfl, Nat.le_of_ble_eq_true rfl⟩ (fun r_ G M31 hq_ => ?_)
                        obtain ⟨rfl, rfl, hR32, o33⟩ := hq_
                        rw [if_pos (show (0 : Int) = 0 from rfl)]
                        refine pw_if_le (tgt := 189) C dL_areKnown_159 (by decide) (by have := pG_bd (S := A 10) (F := A (100 + (s * 4 + f))) (v := v); omega) (fun c_159 => ?_) (fun c_159 => ?_)
                        · skip
                          refine pw_iinc C dL_areKnown_189 rfl (Nat.le_of_ble_eq_true rfl) rfl ?_
                          refine pw_goto (tgt := 137) C dL_areKnown_192 (by decide) ?_
                          exact pw_locs (by exact ⟨rfl, cat_vR _, rfl, rfl, rfl, rfl, rfl, rfl, rfl, rfl, rfl, rfl, rfl, rfl, rfl, rfl, rfl, rfl, trivial⟩) (ih_137 (v + 1) M31 (by omega) (hR32) (by omega))
                        · skip
                          refine pw_aload_n C dL_areKnown_162 rfl ?_
                          refine pw_iload C dL_areKnown_163 rfl ?_
                          refine pw_iload C dL_areKnown_165 rfl ?_
                          refine pw_iload C dL_areKnown_167 rfl ?_
                          refine pw_iconst C dL_areKnown_169 ?_
                          refine pw_cVI C hX dL_areKnown_170 ml_L_38 mc_X5_proof (c_proof hR32 hA (s := s) (f := f) (v := v) (z := 1) (by omega) (by omega) (by omega) (by omega) (by omega)) kc_8 hR32.k rfl rfl ⟨Nat.le_of_ble_eq_true rfl, Nat.le_of_ble_eq_true rfl⟩ (Nat.le_of_ble_eq_true rfl) ⟨Nat.le_of_ble_eq_true rfl, Nat.le_of_ble_eq_true rfl⟩ (fun r_ G M34 hq_ => ?_)
                          obtain ⟨rfl, rfl, hR35, o36⟩ := hq_
                          rw [if_neg (show ¬ (1 : Int) = 0 by omega)]
                          refine pw_aload_n C dL_areKnown_173 rfl ?_
                          refine pw_iload C dL_areKnown_174 rfl ?_
                          refine pw_iload C dL_areKnown_176 rfl ?_
                          refine pw_iload C dL_areKnown_178 rfl ?_
                          refine pw_iconst C dL_areKnown_180 ?_
                          refine pw_cVI C hX dL_areKnown_181 ml_L_38 mc_X5_proof (c_proof hR35 hA (s := s) (f := f) (v := T) (z := 1) (by omega) (by omega) (by omega) (by omega) (by omega)) kc_8 hR35.k rfl rfl ⟨Nat.le_of_ble_eq_true rfl, Nat.le_of_ble_eq_true rfl⟩ (Nat.le_of_ble_eq_true rfl) ⟨Nat.le_of_ble_eq_true rfl, Nat.le_of_ble_eq_true rfl⟩ (fun r_ G M37 hq_ => ?_)
                          obtain ⟨rfl, rfl, hR38, o39⟩ := hq_
                          rw [if_neg (show ¬ (1 : Int) = 0 by omega)]
                          have e5 := k5 v (by omega) (by omega) (by omega)
                          have bf1 := tF_bd (F := A (100 + (s * 4 + f))) (v := v) hA.so
                          have bf2 := tF_bd (F := A (100 + (s * 4 + f))) (v := T) hA.so
                          refine pw_icmp_le (tgt := 189) C dL_areKnown_184 (by decide) (by omega) (fun c_184 => ?_) (fun c_184 => ?_)
                          rotate_left
                          · exact absurd c_184 (by omega)
                          refine pw_iinc C dL_areKnown_189 rfl (Nat.le_of_ble_eq_true rfl) rfl ?_
                          refine pw_goto (tgt := 137) C dL_areKnown_192 (by decide) ?_
                          exact pw_locs (by exact ⟨rfl, cat_vR _, rfl, rfl, rfl, rfl, rfl, rfl, rfl, rfl, rfl, rfl, rfl, rfl, rfl, rfl, rfl, rfl, trivial⟩) (ih_137 (v + 1) M37 (by omega) (hR38) (by omega))
                · skip
                  refine pw_iconst C dL_areKnown_124 ?_
                  refine pw_goto (tgt := 129) C dL_areKnown_125 (by decide) ?_
                  refine pw_icmp_eq (tgt := 134) C dL_areKnown_129 (by decide) (by omega) (fun c_129 => ?_) (fun c_129 => ?_)
                  · exact absurd c_129 (by omega)
                  exfalso; omega
              · skip
                refine pw_iconst C dL_areKnown_107 ?_
                refine pw_goto (tgt := 112) C dL_areKnown_108 (by decide) ?_
                refine pw_aload_n C dL_areKnown_112 rfl ?_
                refine pw_iload C dL_areKnown_113 rfl ?_
                refine pw_iload C dL_areKnown_115 rfl ?_
                refine pw_iconst C dL_areKnown_117 ?_
                refine pw_cVE C hX dL_areKnown_118 ml_L_42 mc_X5_ofFact (c_ofFact hRd hA (s := s) (f := f) (w := 2) (by omega) (by omega) (by omega) (by omega)) kc_8 hRd.k rfl rfl ⟨Nat.le_of_ble_eq_true rfl, Nat.le_of_ble_eq_true rfl⟩ (Nat.le_of_ble_eq_true rfl) ⟨Nat.le_of_ble_eq_true rfl, Nat.le_of_ble_eq_true rfl⟩ ?_
                rw [← hCs]
                refine pw_if_ne (tgt := 128) C dL_areKnown_121 (by decide) (by omega) (fun c_121 => ?_) (fun c_121 => ?_)
                · skip
                  refine pw_iconst C dL_areKnown_128 ?_
                  refine pw_icmp_eq (tgt := 134) C dL_areKnown_129 (by decide) (by omega) (fun c_129 => ?_) (fun c_129 => ?_)
                  · exact absurd c_129 (by omega)
                  exfalso; omega
                · skip
                  refine pw_iconst C dL_areKnown_124 ?_
                  refine pw_goto (tgt := 129) C dL_areKnown_125 (by decide) ?_
                  refine pw_icmp_eq (tgt := 134) C dL_areKnown_129 (by decide) (by omega) (fun c_129 => ?_) (fun c_129 => ?_)
                  rotate_left
                  · exact absurd c_129 (by omega)
                  refine pw_iconst C dL_areKnown_134 ?_
                  refine pw_istore C dL_areKnown_135 (Nat.le_of_ble_eq_true rfl) rfl ?_
                  suffices K_137 : ∀ (nn_137 : Nat) (v : Int) (Me : Mm), (0 ≤ v ∧ v ≤ 4) → (RC G Me B A) → 4 - v < (nn_137 : Int) → PW E G Me 0 0 137 [(0, 1, vR B), (1, 1, vI (t2 + 0)), (2, 1, vI w2), (3, 2, vL (dig A)), (5, 1, vI s), (6, 1, vI f), (7, 1, vI T), (8, 1, vI Hd), (9, 1, vI v)] [] from pw_locs (by exact ⟨rfl, cat_vR _, rfl, rfl, rfl, rfl, rfl, rfl, rfl, rfl, rfl, rfl, rfl, rfl, rfl, rfl, rfl, rfl, trivial⟩) (K_137 (4 - 0 + 1 : Int).toNat 0 Md (by omega) (by first | exact hRd | omega) (by omega))
                  intro nn_137
                  induction nn_137 with
                  | zero => intro v Me h3 hRe h_m137; exact absurd h_m137 (by omega)
                  | succ nn_137 ih_137 =>
                    intro v Me h3 hRe h_m137
                    refine pw_iload C dL_areKnown_137 rfl ?_
                    refine pw_iconst C dL_areKnown_139 ?_
                    refine pw_icmp_ge (tgt := 195) C dL_areKnown_140 (by decide) (by omega) (fun c_140 => ?_) (fun c_140 => ?_)
                    · skip
                      refine pw_iconst C dL_areKnown_195 ?_
                      refine pw_istore C dL_areKnown_196 (Nat.le_of_ble_eq_true rfl) rfl ?_
                      suffices K_198 : ∀ (nn_198 : Nat) (w3 l : Int) , (0 ≤ l ∧ l ≤ 2) → (fr (fun l c => if wrg A l s f then c + 1 else c) l 2 w3 = wgN A s f w2) → (0 ≤ w3 ∧ w3 ≤ 8 * s + 2 * f + l) → 2 - l < (nn_198 : Int) → PW E G Me 0 0 198 [(0, 1, vR B), (1, 1, vI (t2 + 0)), (2, 1, vI w3), (3, 2, vL (dig A)), (5, 1, vI s), (6, 1, vI f), (7, 1, vI T), (8, 1, vI Hd), (9, 1, vI l)] [] from pw_locs (by exact ⟨rfl, cat_vR _, rfl, rfl, rfl, rfl, rfl, rfl, rfl, rfl, rfl, rfl, rfl, rfl, rfl, rfl, rfl, rfl, trivial⟩) (K_198 (2 - 0 + 1 : Int).toNat w2 0  (by omega) (by first | exact rfl | omega) (by omega) (by omega))
                      intro nn_198
                      induction nn_198 with
                      | zero => intro w3 l h4 hw3 bw3 h_m198; exact absurd h_m198 (by omega)
                      | succ nn_198 ih_198 =>
                        intro w3 l h4 hw3 bw3 h_m198
                        refine pw_iload C dL_areKnown_198 rfl ?_
                        refine pw_iconst C dL_areKnown_200 ?_
                        refine pw_icmp_ge (tgt := 266) C dL_areKnown_201 (by decide) (by omega) (fun c_201 => ?_) (fun c_201 => ?_)
                        · skip
                          refine pw_iinc C dL_areKnown_266 rfl (Nat.le_of_ble_eq_true rfl) rfl ?_
                          refine pw_goto (tgt := 21) C dL_areKnown_269 (by decide) ?_
                          exact pw_locs (by exact ⟨rfl, cat_vR _, rfl, rfl, rfl, rfl, rfl, rfl, rfl, rfl, rfl, rfl, trivial⟩) (ih_21 (t2 + 0) w3 (f + 1) Me (by omega) (hRe) (by rw [show s * 4 + (f + 1) = s * 4 + f + 1 by omega]; exact fr_go (by omega) ht2 (by (try dsimp only); split <;> omega)) (by omega) (fr_go (by omega) hw2 (fr_done (by omega) hw3).symm) (by omega) (by omega))
                        · skip
                          refine pw_aload_n C dL_areKnown_204 rfl ?_
                          refine pw_iload C dL_areKnown_205 rfl ?_
                          refine pw_iload C dL_areKnown_207 rfl ?_
                          refine pw_iload C dL_areKnown_209 rfl ?_
                          refine pw_cVE C hX dL_areKnown_211 ml_L_111 mc_X5_tells (c_tells hRe hA (l := l) (s := s) (f := f) (by omega) (by omega) (by omega) (by omega)) kc_8 hRe.k rfl rfl ⟨Nat.le_of_ble_eq_true rfl, Nat.le_of_ble_eq_true rfl⟩ (Nat.le_of_ble_eq_true rfl) ⟨Nat.le_of_ble_eq_true rfl, Nat.le_of_ble_eq_true rfl⟩ ?_
                          obtain ⟨Yv, hYv⟩ : ∃ w, w = tld A l s f := ⟨_, rfl⟩
                          rw [← hYv]
                          have bY : -1 ≤ Yv ∧ Yv ≤ 99 := by rw [hYv]; exact tld_bd hA (by omega)
                          refine pw_istore C dL_areKnown_214 (Nat.le_of_ble_eq_true rfl) rfl ?_
                          refine pw_iload C dL_areKnown_216 rfl ?_
                          refine pw_if_lt (tgt := 235) C dL_areKnown_218 (by decide) (by omega) (fun c_218 => ?_) (fun c_218 => ?_)
                          · skip
                            refine pw_iload_n C dL_areKnown_235 rfl ?_
                            refine pw_iload C dL_areKnown_236 rfl ?_
                            refine pw_if_lt (tgt := 257) C dL_areKnown_238 (by decide) (by omega) (fun c_238 => ?_) (fun c_238 => ?_)
                            rotate_left
                            · exact absurd c_238 (by omega)
                            refine pw_iconst C dL_areKnown_257 ?_
                            refine pw_iadd C dL_areKnown_258 ?_
                            refine pw_istore_n C dL_areKnown_259 (Nat.le_of_ble_eq_true rfl) rfl ?_
                            refine pw_iinc C dL_areKnown_260 rfl (Nat.le_of_ble_eq_true rfl) rfl ?_
                            refine pw_goto (tgt := 198) C dL_areKnown_263 (by decide) ?_
                            exact pw_locs (by exact ⟨rfl, cat_vR _, rfl, rfl, rfl, rfl, rfl, rfl, rfl, rfl, rfl, rfl, rfl, rfl, rfl, rfl, rfl, rfl, trivial⟩) (ih_198 (w3 + 0) (l + 1)  (by omega) (fr_go (by omega) hw3 (by (try dsimp only); split <;> omega)) (by omega) (by omega))
                          · skip
                            refine pw_aload_n C dL_areKnown_221 rfl ?_
                            refine pw_iload C dL_areKnown_222 rfl ?_
                            refine pw_iload C dL_areKnown_224 rfl ?_
                            refine pw_iconst C dL_areKnown_226 ?_
                            refine pw_cVE C hX dL_areKnown_227 ml_L_42 mc_X5_ofFact (c_ofFact hRe hA (s := s) (f := f) (w := 5) (by omega) (by omega) (by omega) (by omega)) kc_8 hRe.k rfl rfl ⟨Nat.le_of_ble_eq_true rfl, Nat.le_of_ble_eq_true rfl⟩ (Nat.le_of_ble_eq_true rfl) ⟨Nat.le_of_ble_eq_true rfl, Nat.le_of_ble_eq_true rfl⟩ ?_
                            obtain ⟨Fv, hFv⟩ : ∃ w, w = oFa A s f 5 := ⟨_, rfl⟩
                            rw [← hFv]
                            have bF : -1 ≤ Fv ∧ Fv ≤ 9999 := by rw [hFv]; exact fh_bd (s := s) (f := f) hA
                            have kF : ¬ Fv = -1 := by rw [hFv]; exact tld_fh (l := l) (s := s) (f := f) hA hW (by omega) (by rw [← hYv]; omega)
                            refine pw_if_ge (tgt := 235) C dL_areKnown_230 (by decide) (by omega) (fun c_230 => ?_) (fun c_230 => ?_)
                            rotate_left
                            · exact absurd c_230 (by omega)
                            refine pw_iload_n C dL_areKnown_235 rfl ?_
                            refine pw_iload C dL_areKnown_236 rfl ?_
                            refine pw_if_lt (tgt := 257) C dL_areKnown_238 (by decide) (by omega) (fun c_238 => ?_) (fun c_238 => ?_)
                            · exact absurd c_238 (by omega)
                            refine pw_iload C dL_areKnown_241 rfl ?_
                            refine pw_if_lt (tgt := 257) C dL_areKnown_243 (by decide) (by omega) (fun c_243 => ?_) (fun c_243 => ?_)
                            rotate_left
                            · exact absurd c_243 (by omega)
                            refine pw_iconst C dL_areKnown_257 ?_
                            refine pw_iadd C dL_areKnown_258 ?_
                            refine pw_istore_n C dL_areKnown_259 (Nat.le_of_ble_eq_true rfl) rfl ?_
                            refine pw_iinc C dL_areKnown_260 rfl (Nat.le_of_ble_eq_true rfl) rfl ?_
                            refine pw_goto (tgt := 198) C dL_areKnown_263 (by decide) ?_
                            exact pw_locs (by exact ⟨rfl, cat_vR _, rfl, rfl, rfl, rfl, rfl, rfl, rfl, rfl, rfl, rfl, rfl, rfl, rfl, rfl, rfl, rfl, trivial⟩) (ih_198 (w3 + 0) (l + 1)  (by omega) (fr_go (by omega) hw3 (by (try dsimp only); split <;> omega)) (by omega) (by omega))
                    · skip
                      refine pw_iload C dL_areKnown_143 rfl ?_
                      refine pw_if_lt (tgt := 189) C dL_areKnown_145 (by decide) (by omega) (fun c_145 => ?_) (fun c_145 => ?_)
                      · skip
                        refine pw_iinc C dL_areKnown_189 rfl (Nat.le_of_ble_eq_true rfl) rfl ?_
                        refine pw_goto (tgt := 137) C dL_areKnown_192 (by decide) ?_
                        exact pw_locs (by exact ⟨rfl, cat_vR _, rfl, rfl, rfl, rfl, rfl, rfl, rfl, rfl, rfl, rfl, rfl, rfl, rfl, rfl, rfl, rfl, trivial⟩) (ih_137 (v + 1) Me (by omega) (hRe) (by omega))
                      · skip
                        refine pw_aload_n C dL_areKnown_148 rfl ?_
                        refine pw_iload C dL_areKnown_149 rfl ?_
                        refine pw_iload C dL_areKnown_151 rfl ?_
                        refine pw_iload C dL_areKnown_153 rfl ?_
                        refine pw_iconst C dL_areKnown_155 ?_
                        refine pw_cVI C hX dL_areKnown_156 ml_L_38 mc_X5_proof (c_proof hRe hA (s := s) (f := f) (v := v) (z := 0) (by omega) (by omega) (by omega) (by omega) (by omega)) kc_8 hRe.k rfl rfl ⟨Nat.le_of_ble_eq_true rfl, Nat.le_of_ble_eq_true rfl⟩ (Nat.le_of_ble_eq_true rfl) ⟨Nat.le_of_ble_eq_true rfl, Nat.le_of_ble_eq_true rfl⟩ (fun r_ G M40 hq_ => ?_)
                        obtain ⟨rfl, rfl, hR41, o42⟩ := hq_
                        rw [if_pos (show (0 : Int) = 0 from rfl)]
                        refine pw_if_le (tgt := 189) C dL_areKnown_159 (by decide) (by have := pG_bd (S := A 10) (F := A (100 + (s * 4 + f))) (v := v); omega) (fun c_159 => ?_) (fun c_159 => ?_)
                        · skip
                          refine pw_iinc C dL_areKnown_189 rfl (Nat.le_of_ble_eq_true rfl) rfl ?_
                          refine pw_goto (tgt := 137) C dL_areKnown_192 (by decide) ?_
                          exact pw_locs (by exact ⟨rfl, cat_vR _, rfl, rfl, rfl, rfl, rfl, rfl, rfl, rfl, rfl, rfl, rfl, rfl, rfl, rfl, rfl, rfl, trivial⟩) (ih_137 (v + 1) M40 (by omega) (hR41) (by omega))
                        · skip
                          refine pw_aload_n C dL_areKnown_162 rfl ?_
                          refine pw_iload C dL_areKnown_163 rfl ?_
                          refine pw_iload C dL_areKnown_165 rfl ?_
                          refine pw_iload C dL_areKnown_167 rfl ?_
                          refine pw_iconst C dL_areKnown_169 ?_
                          refine pw_cVI C hX dL_areKnown_170 ml_L_38 mc_X5_proof (c_proof hR41 hA (s := s) (f := f) (v := v) (z := 1) (by omega) (by omega) (by omega) (by omega) (by omega)) kc_8 hR41.k rfl rfl ⟨Nat.le_of_ble_eq_true rfl, Nat.le_of_ble_eq_true rfl⟩ (Nat.le_of_ble_eq_true rfl) ⟨Nat.le_of_ble_eq_true rfl, Nat.le_of_ble_eq_true rfl⟩ (fun r_ G M43 hq_ => ?_)
                          obtain ⟨rfl, rfl, hR44, o45⟩ := hq_
                          rw [if_neg (show ¬ (1 : Int) = 0 by omega)]
                          refine pw_aload_n C dL_areKnown_173 rfl ?_
                          refine pw_iload C dL_areKnown_174 rfl ?_
                          refine pw_iload C dL_areKnown_176 rfl ?_
                          refine pw_iload C dL_areKnown_178 rfl ?_
                          refine pw_iconst C dL_areKnown_180 ?_
                          refine pw_cVI C hX dL_areKnown_181 ml_L_38 mc_X5_proof (c_proof hR44 hA (s := s) (f := f) (v := T) (z := 1) (by omega) (by omega) (by omega) (by omega) (by omega)) kc_8 hR44.k rfl rfl ⟨Nat.le_of_ble_eq_true rfl, Nat.le_of_ble_eq_true rfl⟩ (Nat.le_of_ble_eq_true rfl) ⟨Nat.le_of_ble_eq_true rfl, Nat.le_of_ble_eq_true rfl⟩ (fun r_ G M46 hq_ => ?_)
                          obtain ⟨rfl, rfl, hR47, o48⟩ := hq_
                          rw [if_neg (show ¬ (1 : Int) = 0 by omega)]
                          have e5 := k5 v (by omega) (by omega) (by omega)
                          have bf1 := tF_bd (F := A (100 + (s * 4 + f))) (v := v) hA.so
                          have bf2 := tF_bd (F := A (100 + (s * 4 + f))) (v := T) hA.so
                          refine pw_icmp_le (tgt := 189) C dL_areKnown_184 (by decide) (by omega) (fun c_184 => ?_) (fun c_184 => ?_)
                          rotate_left
                          · exact absurd c_184 (by omega)
                          refine pw_iinc C dL_areKnown_189 rfl (Nat.le_of_ble_eq_true rfl) rfl ?_
                          refine pw_goto (tgt := 137) C dL_areKnown_192 (by decide) ?_
                          exact pw_locs (by exact ⟨rfl, cat_vR _, rfl, rfl, rfl, rfl, rfl, rfl, rfl, rfl, rfl, rfl, rfl, rfl, rfl, rfl, rfl, rfl, trivial⟩) (ih_137 (v + 1) M46 (by omega) (hR47) (by omega))
            · skip
              refine pw_iload C dL_areKnown_67 rfl ?_
              refine pw_iload C dL_areKnown_69 rfl ?_
              have e1 := k1 (by omega)
              refine pw_icmp_ne (tgt := 132) C dL_areKnown_71 (by decide) (by omega) (fun c_71 => ?_) (fun c_71 => ?_)
              · exact absurd c_71 (by omega)
              refine pw_aload_n C dL_areKnown_74 rfl ?_
              refine pw_iload C dL_areKnown_75 rfl ?_
              refine pw_iload C dL_areKnown_77 rfl ?_
              refine pw_iload C dL_areKnown_79 rfl ?_
              refine pw_iconst C dL_areKnown_81 ?_
              refine pw_cVI C hX dL_areKnown_82 ml_L_38 mc_X5_proof (c_proof hRd hA (s := s) (f := f) (v := T) (z := 0) (by omega) (by omega) (by omega) (by omega) (by omega)) kc_8 hRd.k rfl rfl ⟨Nat.le_of_ble_eq_true rfl, Nat.le_of_ble_eq_true rfl⟩ (Nat.le_of_ble_eq_true rfl) ⟨Nat.le_of_ble_eq_true rfl, Nat.le_of_ble_eq_true rfl⟩ (fun r_ G M49 hq_ => ?_)
              obtain ⟨rfl, rfl, hR50, o51⟩ := hq_
              rw [if_pos (show (0 : Int) = 0 from rfl)]
              have e2 := k2 (by omega)
              refine pw_if_eq (tgt := 132) C dL_areKnown_85 (by decide) (by have := k2 (by omega); have := pG_bd (S := A 10) (F := A (100 + (s * 4 + f))) (v := T); omega) (fun c_85 => ?_) (fun c_85 => ?_)
              · exact absurd c_85 (by omega)
              refine pw_aload_n C dL_areKnown_88 rfl ?_
              refine pw_iload C dL_areKnown_89 rfl ?_
              refine pw_iload C dL_areKnown_91 rfl ?_
              refine pw_iload C dL_areKnown_93 rfl ?_
              refine pw_iconst C dL_areKnown_95 ?_
              refine pw_cVI C hX dL_areKnown_96 ml_L_108 mc_X5_needs (c_needs hR50 hA (s := s) (f := f) (v := T) (w := 1) (by omega) (by omega) (by omega) (by omega) (by omega)) kc_8 hR50.k rfl rfl ⟨Nat.le_of_ble_eq_true rfl, Nat.le_of_ble_eq_true rfl⟩ (Nat.le_of_ble_eq_true rfl) ⟨Nat.le_of_ble_eq_true rfl, Nat.le_of_ble_eq_true rfl⟩ (fun r_ G M52 hq_ => ?_)
              obtain ⟨rfl, rfl, hR53, o54⟩ := hq_
              have e3 := k3 (by omega)
              refine pw_if_ne (tgt := 132) C dL_areKnown_99 (by decide) (by omega) (fun c_99 => ?_) (fun c_99 => ?_)
              · exact absurd c_99 (by omega)
              refine pw_iload C dL_areKnown_102 rfl ?_
              refine pw_if_ge (tgt := 111) C dL_areKnown_104 (by decide) (by omega) (fun c_104 => ?_) (fun c_104 => ?_)
              · skip
                refine pw_iconst C dL_areKnown_111 ?_
                refine pw_aload_n C dL_areKnown_112 rfl ?_
                refine pw_iload C dL_areKnown_113 rfl ?_
                refine pw_iload C dL_areKnown_115 rfl ?_
                refine pw_iconst C dL_areKnown_117 ?_
                refine pw_cVE C hX dL_areKnown_118 ml_L_42 mc_X5_ofFact (c_ofFact hR53 hA (s := s) (f := f) (w := 2) (by omega) (by omega) (by omega) (by omega)) kc_8 hR53.k rfl rfl ⟨Nat.le_of_ble_eq_true rfl, Nat.le_of_ble_eq_true rfl⟩ (Nat.le_of_ble_eq_true rfl) ⟨Nat.le_of_ble_eq_true rfl, Nat.le_of_ble_eq_true rfl⟩ ?_
                rw [← hCs]
                refine pw_if_ne (tgt := 128) C dL_areKnown_121 (by decide) (by omega) (fun c_121 => ?_) (fun c_121 => ?_)
                · skip
                  refine pw_iconst C dL_areKnown_128 ?_
                  refine pw_icmp_eq (tgt := 134) C dL_areKnown_129 (by decide) (by omega) (fun c_129 => ?_) (fun c_129 => ?_)
                  rotate_left
                  · exact absurd c_129 (by omega)
                  refine pw_iconst C dL_areKnown_134 ?_
                  refine pw_istore C dL_areKnown_135 (Nat.le_of_ble_eq_true rfl) rfl ?_
                  suffices K_137 : ∀ (nn_137 : Nat) (v : Int) (Me : Mm), (0 ≤ v ∧ v ≤ 4) → (RC G Me B A) → 4 - v < (nn_137 : Int) → PW E G Me 0 0 137 [(0, 1, vR B), (1, 1, vI (t2 + 0)), (2, 1, vI w2), (3, 2, vL (dig A)), (5, 1, vI s), (6, 1, vI f), (7, 1, vI T), (8, 1, vI Hd), (9, 1, vI v)] [] from pw_locs (by exact ⟨rfl, cat_vR _, rfl, rfl, rfl, rfl, rfl, rfl, rfl, rfl, rfl, rfl, rfl, rfl, rfl, rfl, rfl, rfl, trivial⟩) (K_137 (4 - 0 + 1 : Int).toNat 0 M52 (by omega) (by first | exact hR53 | omega) (by omega))
                  intro nn_137
                  induction nn_137 with
                  | zero => intro v Me h3 hRe h_m137; exact absurd h_m137 (by omega)
                  | succ nn_137 ih_137 =>
                    intro v Me h3 hRe h_m137
                    refine pw_iload C dL_areKnown_137 rfl ?_
                    refine pw_iconst C dL_areKnown_139 ?_
                    refine pw_icmp_ge (tgt := 195) C dL_areKnown_140 (by decide) (by omega) (fun c_140 => ?_) (fun c_140 => ?_)
                    · skip
                      refine pw_iconst C dL_areKnown_195 ?_
                      refine pw_istore C dL_areKnown_196 (Nat.le_of_ble_eq_true rfl) rfl ?_
                      suffices K_198 : ∀ (nn_198 : Nat) (w3 l : Int) , (0 ≤ l ∧ l ≤ 2) → (fr (fun l c => if wrg A l s f then c + 1 else c) l 2 w3 = wgN A s f w2) → (0 ≤ w3 ∧ w3 ≤ 8 * s + 2 * f + l) → 2 - l < (nn_198 : Int) → PW E G Me 0 0 198 [(0, 1, vR B), (1, 1, vI (t2 + 0)), (2, 1, vI w3), (3, 2, vL (dig A)), (5, 1, vI s), (6, 1, vI f), (7, 1, vI T), (8, 1, vI Hd), (9, 1, vI l)] [] from pw_locs (by exact ⟨rfl, cat_vR _, rfl, rfl, rfl, rfl, rfl, rfl, rfl, rfl, rfl, rfl, rfl, rfl, rfl, rfl, rfl, rfl, trivial⟩) (K_198 (2 - 0 + 1 : Int).toNat w2 0  (by omega) (by first | exact rfl | omega) (by omega) (by omega))
                      intro nn_198
                      induction nn_198 with
                      | zero => intro w3 l h4 hw3 bw3 h_m198; exact absurd h_m198 (by omega)
                      | succ nn_198 ih_198 =>
                        intro w3 l h4 hw3 bw3 h_m198
                        refine pw_iload C dL_areKnown_198 rfl ?_
                        refine pw_iconst C dL_areKnown_200 ?_
                        refine pw_icmp_ge (tgt := 266) C dL_areKnown_201 (by decide) (by omega) (fun c_201 => ?_) (fun c_201 => ?_)
                        · skip
                          refine pw_iinc C dL_areKnown_266 rfl (Nat.le_of_ble_eq_true rfl) rfl ?_
                          refine pw_goto (tgt := 21) C dL_areKnown_269 (by decide) ?_
                          exact pw_locs (by exact ⟨rfl, cat_vR _, rfl, rfl, rfl, rfl, rfl, rfl, rfl, rfl, rfl, rfl, trivial⟩) (ih_21 (t2 + 0) w3 (f + 1) Me (by omega) (hRe) (by rw [show s * 4 + (f + 1) = s * 4 + f + 1 by omega]; exact fr_go (by omega) ht2 (by (try dsimp only); split <;> omega)) (by omega) (fr_go (by omega) hw2 (fr_done (by omega) hw3).symm) (by omega) (by omega))
                        · skip
                          refine pw_aload_n C dL_areKnown_204 rfl ?_
                          refine pw_iload C dL_areKnown_205 rfl ?_
                          refine pw_iload C dL_areKnown_207 rfl ?_
                          refine pw_iload C dL_areKnown_209 rfl ?_
                          refine pw_cVE C hX dL_areKnown_211 ml_L_111 mc_X5_tells (c_tells hRe hA (l := l) (s := s) (f := f) (by omega) (by omega) (by omega) (by omega)) kc_8 hRe.k rfl rfl ⟨Nat.le_of_ble_eq_true rfl, Nat.le_of_ble_eq_true rfl⟩ (Nat.le_of_ble_eq_true rfl) ⟨Nat.le_of_ble_eq_true rfl, Nat.le_of_ble_eq_true rfl⟩ ?_
                          obtain ⟨Yv, hYv⟩ : ∃ w, w = tld A l s f := ⟨_, rfl⟩
                          rw [← hYv]
                          have bY : -1 ≤ Yv ∧ Yv ≤ 99 := by rw [hYv]; exact tld_bd hA (by omega)
                          refine pw_istore C dL_areKnown_214 (Nat.le_of_ble_eq_true rfl) rfl ?_
                          refine pw_iload C dL_areKnown_216 rfl ?_
                          refine pw_if_lt (tgt := 235) C dL_areKnown_218 (by decide) (by omega) (fun c_218 => ?_) (fun c_218 => ?_)
                          · skip
                            refine pw_iload_n C dL_areKnown_235 rfl ?_
                            refine pw_iload C dL_areKnown_236 rfl ?_
                            refine pw_if_lt (tgt := 257) C dL_areKnown_238 (by decide) (by omega) (fun c_238 => ?_) (fun c_238 => ?_)
                            rotate_left
                            · exact absurd c_238 (by omega)
                            refine pw_iconst C dL_areKnown_257 ?_
                            refine pw_iadd C dL_areKnown_258 ?_
                            refine pw_istore_n C dL_areKnown_259 (Nat.le_of_ble_eq_true rfl) rfl ?_
                            refine pw_iinc C dL_areKnown_260 rfl (Nat.le_of_ble_eq_true rfl) rfl ?_
                            refine pw_goto (tgt := 198) C dL_areKnown_263 (by decide) ?_
                            exact pw_locs (by exact ⟨rfl, cat_vR _, rfl, rfl, rfl, rfl, rfl, rfl, rfl, rfl, rfl, rfl, rfl, rfl, rfl, rfl, rfl, rfl, trivial⟩) (ih_198 (w3 + 0) (l + 1)  (by omega) (fr_go (by omega) hw3 (by (try dsimp only); split <;> omega)) (by omega) (by omega))
                          · skip
                            refine pw_aload_n C dL_areKnown_221 rfl ?_
                            refine pw_iload C dL_areKnown_222 rfl ?_
                            refine pw_iload C dL_areKnown_224 rfl ?_
                            refine pw_iconst C dL_areKnown_226 ?_
                            refine pw_cVE C hX dL_areKnown_227 ml_L_42 mc_X5_ofFact (c_ofFact hRe hA (s := s) (f := f) (w := 5) (by omega) (by omega) (by omega) (by omega)) kc_8 hRe.k rfl rfl ⟨Nat.le_of_ble_eq_true rfl, Nat.le_of_ble_eq_true rfl⟩ (Nat.le_of_ble_eq_true rfl) ⟨Nat.le_of_ble_eq_true rfl, Nat.le_of_ble_eq_true rfl⟩ ?_
                            obtain ⟨Fv, hFv⟩ : ∃ w, w = oFa A s f 5 := ⟨_, rfl⟩
                            rw [← hFv]
                            have bF : -1 ≤ Fv ∧ Fv ≤ 9999 := by rw [hFv]; exact fh_bd (s := s) (f := f) hA
                            have kF : ¬ Fv = -1 := by rw [hFv]; exact tld_fh (l := l) (s := s) (f := f) hA hW (by omega) (by rw [← hYv]; omega)
                            refine pw_if_ge (tgt := 235) C dL_areKnown_230 (by decide) (by omega) (fun c_230 => ?_) (fun c_230 => ?_)
                            rotate_left
                            · exact absurd c_230 (by omega)
                            refine pw_iload_n C dL_areKnown_235 rfl ?_
                            refine pw_iload C dL_areKnown_236 rfl ?_
                            refine pw_if_lt (tgt := 257) C dL_areKnown_238 (by decide) (by omega) (fun c_238 => ?_) (fun c_238 => ?_)
                            · exact absurd c_238 (by omega)
                            refine pw_iload C dL_areKnown_241 rfl ?_
                            refine pw_if_lt (tgt := 257) C dL_areKnown_243 (by decide) (by omega) (fun c_243 => ?_) (fun c_243 => ?_)
                            rotate_left
                            · exact absurd c_243 (by omega)
                            refine pw_iconst C dL_areKnown_257 ?_
                            refine pw_iadd C dL_areKnown_258 ?_
                            refine pw_istore_n C dL_areKnown_259 (Nat.le_of_ble_eq_true rfl) rfl ?_
                            refine pw_iinc C dL_areKnown_260 rfl (Nat.le_of_ble_eq_true rfl) rfl ?_
                            refine pw_goto (tgt := 198) C dL_areKnown_263 (by decide) ?_
                            exact pw_locs (by exact ⟨rfl, cat_vR _, rfl, rfl, rfl, rfl, rfl, rfl, rfl, rfl, rfl, rfl, rfl, rfl, rfl, rfl, rfl, rfl, trivial⟩) (ih_198 (w3 + 0) (l + 1)  (by omega) (fr_go (by omega) hw3 (by (try dsimp only); split <;> omega)) (by omega) (by omega))
                    · skip
                      refine pw_iload C dL_areKnown_143 rfl ?_
                      refine pw_if_lt (tgt := 189) C dL_areKnown_145 (by decide) (by omega) (fun c_145 => ?_) (fun c_145 => ?_)
                      · skip
                        refine pw_iinc C dL_areKnown_189 rfl (Nat.le_of_ble_eq_true rfl) rfl ?_
                        refine pw_goto (tgt := 137) C dL_areKnown_192 (by decide) ?_
                        exact pw_locs (by exact ⟨rfl, cat_vR _, rfl, rfl, rfl, rfl, rfl, rfl, rfl, rfl, rfl, rfl, rfl, rfl, rfl, rfl, rfl, rfl, trivial⟩) (ih_137 (v + 1) Me (by omega) (hRe) (by omega))
                      · skip
                        refine pw_aload_n C dL_areKnown_148 rfl ?_
                        refine pw_iload C dL_areKnown_149 rfl ?_
                        refine pw_iload C dL_areKnown_151 rfl ?_
                        refine pw_iload C dL_areKnown_153 rfl ?_
                        refine pw_iconst C dL_areKnown_155 ?_
                        refine pw_cVI C hX dL_areKnown_156 ml_L_38 mc_X5_proof (c_proof hRe hA (s := s) (f := f) (v := v) (z := 0) (by omega) (by omega) (by omega) (by omega) (by omega)) kc_8 hRe.k rfl rfl ⟨Nat.le_of_ble_eq_true rfl, Nat.le_of_ble_eq_true rfl⟩ (Nat.le_of_ble_eq_true rfl) ⟨Nat.le_of_ble_eq_true rfl, Nat.le_of_ble_eq_true rfl⟩ (fun r_ G M55 hq_ => ?_)
                        obtain ⟨rfl, rfl, hR56, o57⟩ := hq_
                        rw [if_pos (show (0 : Int) = 0 from rfl)]
                        refine pw_if_le (tgt := 189) C dL_areKnown_159 (by decide) (by have := pG_bd (S := A 10) (F := A (100 + (s * 4 + f))) (v := v); omega) (fun c_159 => ?_) (fun c_159 => ?_)
                        · skip
                          refine pw_iinc C dL_areKnown_189 rfl (Nat.le_of_ble_eq_true rfl) rfl ?_
                          refine pw_goto (tgt := 137) C dL_areKnown_192 (by decide) ?_
                          exact pw_locs (by exact ⟨rfl, cat_vR _, rfl, rfl, rfl, rfl, rfl, rfl, rfl, rfl, rfl, rfl, rfl, rfl, rfl, rfl, rfl, rfl, trivial⟩) (ih_137 (v + 1) M55 (by omega) (hR56) (by omega))
                        · skip
                          refine pw_aload_n C dL_areKnown_162 rfl ?_
                          refine pw_iload C dL_areKnown_163 rfl ?_
                          refine pw_iload C dL_areKnown_165 rfl ?_
                          refine pw_iload C dL_areKnown_167 rfl ?_
                          refine pw_iconst C dL_areKnown_169 ?_
                          refine pw_cVI C hX dL_areKnown_170 ml_L_38 mc_X5_proof (c_proof hR56 hA (s := s) (f := f) (v := v) (z := 1) (by omega) (by omega) (by omega) (by omega) (by omega)) kc_8 hR56.k rfl rfl ⟨Nat.le_of_ble_eq_true rfl, Nat.le_of_ble_eq_true rfl⟩ (Nat.le_of_ble_eq_true rfl) ⟨Nat.le_of_ble_eq_true rfl, Nat.le_of_ble_eq_true rfl⟩ (fun r_ G M58 hq_ => ?_)
                          obtain ⟨rfl, rfl, hR59, o60⟩ := hq_
                          rw [if_neg (show ¬ (1 : Int) = 0 by omega)]
                          refine pw_aload_n C dL_areKnown_173 rfl ?_
                          refine pw_iload C dL_areKnown_174 rfl ?_
                          refine pw_iload C dL_areKnown_176 rfl ?_
                          refine pw_iload C dL_areKnown_178 rfl ?_
                          refine pw_iconst C dL_areKnown_180 ?_
                          refine pw_cVI C hX dL_areKnown_181 ml_L_38 mc_X5_proof (c_proof hR59 hA (s := s) (f := f) (v := T) (z := 1) (by omega) (by omega) (by omega) (by omega) (by omega)) kc_8 hR59.k rfl rfl ⟨Nat.le_of_ble_eq_true rfl, Nat.le_of_ble_eq_true rfl⟩ (Nat.le_of_ble_eq_true rfl) ⟨Nat.le_of_ble_eq_true rfl, Nat.le_of_ble_eq_true rfl⟩ (fun r_ G M61 hq_ => ?_)
                          obtain ⟨rfl, rfl, hR62, o63⟩ := hq_
                          rw [if_neg (show ¬ (1 : Int) = 0 by omega)]
                          have e5 := k5 v (by omega) (by omega) (by omega)
                          have bf1 := tF_bd (F := A (100 + (s * 4 + f))) (v := v) hA.so
                          have bf2 := tF_bd (F := A (100 + (s * 4 + f))) (v := T) hA.so
                          refine pw_icmp_le (tgt := 189) C dL_areKnown_184 (by decide) (by omega) (fun c_184 => ?_) (fun c_184 => ?_)
                          rotate_left
                          · exact absurd c_184 (by omega)
                          refine pw_iinc C dL_areKnown_189 rfl (Nat.le_of_ble_eq_true rfl) rfl ?_
                          refine pw_goto (tgt := 137) C dL_areKnown_192 (by decide) ?_
                          exact pw_locs (by exact ⟨rfl, cat_vR _, rfl, rfl, rfl, rfl, rfl, rfl, rfl, rfl, rfl, rfl, rfl, rfl, rfl, rfl, rfl, rfl, trivial⟩) (ih_137 (v + 1) M61 (by omega) (hR62) (by omega))
                · skip
                  refine pw_iconst C dL_areKnown_124 ?_
                  refine pw_goto (tgt := 129) C dL_areKnown_125 (by decide) ?_
                  refine pw_icmp_eq (tgt := 134) C dL_areKnown_129 (by decide) (by omega) (fun c_129 => ?_) (fun c_129 => ?_)
                  · exact absurd c_129 (by omega)
                  exfalso; omega
              · skip
                refine pw_iconst C dL_areKnown_107 ?_
                refine pw_goto (tgt := 112) C dL_areKnown_108 (by decide) ?_
                refine pw_aload_n C dL_areKnown_112 rfl ?_
                refine pw_iload C dL_areKnown_113 rfl ?_
                refine pw_iload C dL_areKnown_115 rfl ?_
                refine pw_iconst C dL_areKnown_117 ?_
                refine pw_cVE C hX dL_areKnown_118 ml_L_42 mc_X5_ofFact (c_ofFact hR53 hA (s := s) (f := f) (w := 2) (by omega) (by omega) (by omega) (by omega)) kc_8 hR53.k rfl rfl ⟨Nat.le_of_ble_eq_true rfl, Nat.le_of_ble_eq_true rfl⟩ (Nat.le_of_ble_eq_true rfl) ⟨Nat.le_of_ble_eq_true rfl, Nat.le_of_ble_eq_true rfl⟩ ?_
                rw [← hCs]
                refine pw_if_ne (tgt := 128) C dL_areKnown_121 (by decide) (by omega) (fun c_121 => ?_) (fun c_121 => ?_)
                · skip
                  refine pw_iconst C dL_areKnown_128 ?_
                  refine pw_icmp_eq (tgt := 134) C dL_areKnown_129 (by decide) (by omega) (fun c_129 => ?_) (fun c_129 => ?_)
                  · exact absurd c_129 (by omega)
                  exfalso; omega
                · skip
                  refine pw_iconst C dL_areKnown_124 ?_
                  refine pw_goto (tgt := 129) C dL_areKnown_125 (by decide) ?_
                  refine pw_icmp_eq (tgt := 134) C dL_areKnown_129 (by decide) (by omega) (fun c_129 => ?_) (fun c_129 => ?_)
                  rotate_left
                  · exact absurd c_129 (by omega)
                  refine pw_iconst C dL_areKnown_134 ?_
                  refine pw_istore C dL_areKnown_135 (Nat.le_of_ble_eq_true rfl) rfl ?_
                  suffices K_137 : ∀ (nn_137 : Nat) (v : Int) (Me : Mm), (0 ≤ v ∧ v ≤ 4) → (RC G Me B A) → 4 - v < (nn_137 : Int) → PW E G Me 0 0 137 [(0, 1, vR B), (1, 1, vI (t2 + 0)), (2, 1, vI w2), (3, 2, vL (dig A)), (5, 1, vI s), (6, 1, vI f), (7, 1, vI T), (8, 1, vI Hd), (9, 1, vI v)] [] from pw_locs (by exact ⟨rfl, cat_vR _, rfl, rfl, rfl, rfl, rfl, rfl, rfl, rfl, rfl, rfl, rfl, rfl, rfl, rfl, rfl, rfl, trivial⟩) (K_137 (4 - 0 + 1 : Int).toNat 0 M52 (by omega) (by first | exact hR53 | omega) (by omega))
                  intro nn_137
                  induction nn_137 with
                  | zero => intro v Me h3 hRe h_m137; exact absurd h_m137 (by omega)
                  | succ nn_137 ih_137 =>
                    intro v Me h3 hRe h_m137
                    refine pw_iload C dL_areKnown_137 rfl ?_
                    refine pw_iconst C dL_areKnown_139 ?_
                    refine pw_icmp_ge (tgt := 195) C dL_areKnown_140 (by decide) (by omega) (fun c_140 => ?_) (fun c_140 => ?_)
                    · skip
                      refine pw_iconst C dL_areKnown_195 ?_
                      refine pw_istore C dL_areKnown_196 (Nat.le_of_ble_eq_true rfl) rfl ?_
                      suffices K_198 : ∀ (nn_198 : Nat) (w3 l : Int) , (0 ≤ l ∧ l ≤ 2) → (fr (fun l c => if wrg A l s f then c + 1 else c) l 2 w3 = wgN A s f w2) → (0 ≤ w3 ∧ w3 ≤ 8 * s + 2 * f + l) → 2 - l < (nn_198 : Int) → PW E G Me 0 0 198 [(0, 1, vR B), (1, 1, vI (t2 + 0)), (2, 1, vI w3), (3, 2, vL (dig A)), (5, 1, vI s), (6, 1, vI f), (7, 1, vI T), (8, 1, vI Hd), (9, 1, vI l)] [] from pw_locs (by exact ⟨rfl, cat_vR _, rfl, rfl, rfl, rfl, rfl, rfl, rfl, rfl, rfl, rfl, rfl, rfl, rfl, rfl, rfl, rfl, trivial⟩) (K_198 (2 - 0 + 1 : Int).toNat w2 0  (by omega) (by first | exact rfl | omega) (by omega) (by omega))
                      intro nn_198
                      induction nn_198 with
                      | zero => intro w3 l h4 hw3 bw3 h_m198; exact absurd h_m198 (by omega)
                      | succ nn_198 ih_198 =>
                        intro w3 l h4 hw3 bw3 h_m198
                        refine pw_iload C dL_areKnown_198 rfl ?_
                        refine pw_iconst C dL_areKnown_200 ?_
                        refine pw_icmp_ge (tgt := 266) C dL_areKnown_201 (by decide) (by omega) (fun c_201 => ?_) (fun c_201 => ?_)
                        · skip
                          refine pw_iinc C dL_areKnown_266 rfl (Nat.le_of_ble_eq_true rfl) rfl ?_
                          refine pw_goto (tgt := 21) C dL_areKnown_269 (by decide) ?_
                          exact pw_locs (by exact ⟨rfl, cat_vR _, rfl, rfl, rfl, rfl, rfl, rfl, rfl, rfl, rfl, rfl, trivial⟩) (ih_21 (t2 + 0) w3 (f + 1) Me (by omega) (hRe) (by rw [show s * 4 + (f + 1) = s * 4 + f + 1 by omega]; exact fr_go (by omega) ht2 (by (try dsimp only); split <;> omega)) (by omega) (fr_go (by omega) hw2 (fr_done (by omega) hw3).symm) (by omega) (by omega))
                        · skip
                          refine pw_aload_n C dL_areKnown_204 rfl ?_
                          refine pw_iload C dL_areKnown_205 rfl ?_
                          refine pw_iload C dL_areKnown_207 rfl ?_
                          refine pw_iload C dL_areKnown_209 rfl ?_
                          refine pw_cVE C hX dL_areKnown_211 ml_L_111 mc_X5_tells (c_tells hRe hA (l := l) (s := s) (f := f) (by omega) (by omega) (by omega) (by omega)) kc_8 hRe.k rfl rfl ⟨Nat.le_of_ble_eq_true rfl, Nat.le_of_ble_eq_true rfl⟩ (Nat.le_of_ble_eq_true rfl) ⟨Nat.le_of_ble_eq_true rfl, Nat.le_of_ble_eq_true rfl⟩ ?_
                          obtain ⟨Yv, hYv⟩ : ∃ w, w = tld A l s f := ⟨_, rfl⟩
                          rw [← hYv]
                          have bY : -1 ≤ Yv ∧ Yv ≤ 99 := by rw [hYv]; exact tld_bd hA (by omega)
                          refine pw_istore C dL_areKnown_214 (Nat.le_of_ble_eq_true rfl) rfl ?_
                          refine pw_iload C dL_areKnown_216 rfl ?_
                          refine pw_if_lt (tgt := 235) C dL_areKnown_218 (by decide) (by omega) (fun c_218 => ?_) (fun c_218 => ?_)
                          · skip
                            refine pw_iload_n C dL_areKnown_235 rfl ?_
                            refine pw_iload C dL_areKnown_236 rfl ?_
                            refine pw_if_lt (tgt := 257) C dL_areKnown_238 (by decide) (by omega) (fun c_238 => ?_) (fun c_238 => ?_)
                            rotate_left
                            · exact absurd c_238 (by omega)
                            refine pw_iconst C dL_areKnown_257 ?_
                            refine pw_iadd C dL_areKnown_258 ?_
                            refine pw_istore_n C dL_areKnown_259 (Nat.le_of_ble_eq_true rfl) rfl ?_
                            refine pw_iinc C dL_areKnown_260 rfl (Nat.le_of_ble_eq_true rfl) rfl ?_
                            refine pw_goto (tgt := 198) C dL_areKnown_263 (by decide) ?_
                            exact pw_locs (by exact ⟨rfl, cat_vR _, rfl, rfl, rfl, rfl, rfl, rfl, rfl, rfl, rfl, rfl, rfl, rfl, rfl, rfl, rfl, rfl, trivial⟩) (ih_198 (w3 + 0) (l + 1)  (by omega) (fr_go (by omega) hw3 (by (try dsimp only); split <;> omega)) (by omega) (by omega))
                          · skip
                            refine pw_aload_n C dL_areKnown_221 rfl ?_
                            refine pw_iload C dL_areKnown_222 rfl ?_
                            refine pw_iload C dL_areKnown_224 rfl ?_
                            refine pw_iconst C dL_areKnown_226 ?_
                            refine pw_cVE C hX dL_areKnown_227 ml_L_42 mc_X5_ofFact (c_ofFact hRe hA (s := s) (f := f) (w := 5) (by omega) (by omega) (by omega) (by omega)) kc_8 hRe.k rfl rfl ⟨Nat.le_of_ble_eq_true rfl, Nat.le_of_ble_eq_true rfl⟩ (Nat.le_of_ble_eq_true rfl) ⟨Nat.le_of_ble_eq_true rfl, Nat.le_of_ble_eq_true rfl⟩ ?_
                            obtain ⟨Fv, hFv⟩ : ∃ w, w = oFa A s f 5 := ⟨_, rfl⟩
                            rw [← hFv]
                            have bF : -1 ≤ Fv ∧ Fv ≤ 9999 := by rw [hFv]; exact fh_bd (s := s) (f := f) hA
                            have kF : ¬ Fv = -1 := by rw [hFv]; exact tld_fh (l := l) (s := s) (f := f) hA hW (by omega) (by rw [← hYv]; omega)
                            refine pw_if_ge (tgt := 235) C dL_areKnown_230 (by decide) (by omega) (fun c_230 => ?_) (fun c_230 => ?_)
                            rotate_left
                            · exact absurd c_230 (by omega)
                            refine pw_iload_n C dL_areKnown_235 rfl ?_
                            refine pw_iload C dL_areKnown_236 rfl ?_
                            refine pw_if_lt (tgt := 257) C dL_areKnown_238 (by decide) (by omega) (fun c_238 => ?_) (fun c_238 => ?_)
                            · exact absurd c_238 (by omega)
                            refine pw_iload C dL_areKnown_241 rfl ?_
                            refine pw_if_lt (tgt := 257) C dL_areKnown_243 (by decide) (by omega) (fun c_243 => ?_) (fun c_243 => ?_)
                            rotate_left
                            · exact absurd c_243 (by omega)
                            refine pw_iconst C dL_areKnown_257 ?_
                            refine pw_iadd C dL_areKnown_258 ?_
                            refine pw_istore_n C dL_areKnown_259 (Nat.le_of_ble_eq_true rfl) rfl ?_
                            refine pw_iinc C dL_areKnown_260 rfl (Nat.le_of_ble_eq_true rfl) rfl ?_
                            refine pw_goto (tgt := 198) C dL_areKnown_263 (by decide) ?_
                            exact pw_locs (by exact ⟨rfl, cat_vR _, rfl, rfl, rfl, rfl, rfl, rfl, rfl, rfl, rfl, rfl, rfl, rfl, rfl, rfl, rfl, rfl, trivial⟩) (ih_198 (w3 + 0) (l + 1)  (by omega) (fr_go (by omega) hw3 (by (try dsimp only); split <;> omega)) (by omega) (by omega))
                    · skip
                      refine pw_iload C dL_areKnown_143 rfl ?_
                      refine pw_if_lt (tgt := 189) C dL_areKnown_145 (by decide) (by omega) (fun c_145 => ?_) (fun c_145 => ?_)
                      · skip
                        refine pw_iinc C dL_areKnown_189 rfl (Nat.le_of_ble_eq_true rfl) rfl ?_
                        refine pw_goto (tgt := 137) C dL_areKnown_192 (by decide) ?_
                        exact pw_locs (by exact ⟨rfl, cat_vR _, rfl, rfl, rfl, rfl, rfl, rfl, rfl, rfl, rfl, rfl, rfl, rfl, rfl, rfl, rfl, rfl, trivial⟩) (ih_137 (v + 1) Me (by omega) (hRe) (by omega))
                      · skip
                        refine pw_aload_n C dL_areKnown_148 rfl ?_
                        refine pw_iload C dL_areKnown_149 rfl ?_
                        refine pw_iload C dL_areKnown_151 rfl ?_
                        refine pw_iload C dL_areKnown_153 rfl ?_
                        refine pw_iconst C dL_areKnown_155 ?_
                        refine pw_cVI C hX dL_areKnown_156 ml_L_38 mc_X5_proof (c_proof hRe hA (s := s) (f := f) (v := v) (z := 0) (by omega) (by omega) (by omega) (by omega) (by omega)) kc_8 hRe.k rfl rfl ⟨Nat.le_of_ble_eq_true rfl, Nat.le_of_ble_eq_true rfl⟩ (Nat.le_of_ble_eq_true rfl) ⟨Nat.le_of_ble_eq_true rfl, Nat.le_of_ble_eq_true rfl⟩ (fun r_ G M64 hq_ => ?_)
                        obtain ⟨rfl, rfl, hR65, o66⟩ := hq_
                        rw [if_pos (show (0 : Int) = 0 from rfl)]
                        refine pw_if_le (tgt := 189) C dL_areKnown_159 (by decide) (by have := pG_bd (S := A 10) (F := A (100 + (s * 4 + f))) (v := v); omega) (fun c_159 => ?_) (fun c_159 => ?_)
                        · skip
                          refine pw_iinc C dL_areKnown_189 rfl (Nat.le_of_ble_eq_true rfl) rfl ?_
                          refine pw_goto (tgt := 137) C dL_areKnown_192 (by decide) ?_
                          exact pw_locs (by exact ⟨rfl, cat_vR _, rfl, rfl, rfl, rfl, rfl, rfl, rfl, rfl, rfl, rfl, rfl, rfl, rfl, rfl, rfl, rfl, trivial⟩) (ih_137 (v + 1) M64 (by omega) (hR65) (by omega))
                        · skip
                          refine pw_aload_n C dL_areKnown_162 rfl ?_
                          refine pw_iload C dL_areKnown_163 rfl ?_
                          refine pw_iload C dL_areKnown_165 rfl ?_
                          refine pw_iload C dL_areKnown_167 rfl ?_
                          refine pw_iconst C dL_areKnown_169 ?_
                          refine pw_cVI C hX dL_areKnown_170 ml_L_38 mc_X5_proof (c_proof hR65 hA (s := s) (f := f) (v := v) (z := 1) (by omega) (by omega) (by omega) (by omega) (by omega)) kc_8 hR65.k rfl rfl ⟨Nat.le_of_ble_eq_true rfl, Nat.le_of_ble_eq_true rfl⟩ (Nat.le_of_ble_eq_true rfl) ⟨Nat.le_of_ble_eq_true rfl, Nat.le_of_ble_eq_true rfl⟩ (fun r_ G M67 hq_ => ?_)
                          obtain ⟨rfl, rfl, hR68, o69⟩ := hq_
                          rw [if_neg (show ¬ (1 : Int) = 0 by omega)]
                          refine pw_aload_n C dL_areKnown_173 rfl ?_
                          refine pw_iload C dL_areKnown_174 rfl ?_
                          refine pw_iload C dL_areKnown_176 rfl ?_
                          refine pw_iload C dL_areKnown_178 rfl ?_
                          refine pw_iconst C dL_areKnown_180 ?_
                          refine pw_cVI C hX dL_areKnown_181 ml_L_38 mc_X5_proof (c_proof hR68 hA (s := s) (f := f) (v := T) (z := 1) (by omega) (by omega) (by omega) (by omega) (by omega)) kc_8 hR68.k rfl rfl ⟨Nat.le_of_ble_eq_true rfl, Nat.le_of_ble_eq_true rfl⟩ (Nat.le_of_ble_eq_true rfl) ⟨Nat.le_of_ble_eq_true rfl, Nat.le_of_ble_eq_true rfl⟩ (fun r_ G M70 hq_ => ?_)
                          obtain ⟨rfl, rfl, hR71, o72⟩ := hq_
                          rw [if_neg (show ¬ (1 : Int) = 0 by omega)]
                          have e5 := k5 v (by omega) (by omega) (by omega)
                          have bf1 := tF_bd (F := A (100 + (s * 4 + f))) (v := v) hA.so
                          have bf2 := tF_bd (F := A (100 + (s * 4 + f))) (v := T) hA.so
                          refine pw_icmp_le (tgt := 189) C dL_areKnown_184 (by decide) (by omega) (fun c_184 => ?_) (fun c_184 => ?_)
                          rotate_left
                          · exact absurd c_184 (by omega)
                          refine pw_iinc C dL_areKnown_189 rfl (Nat.le_of_ble_eq_true rfl) rfl ?_
                          refine pw_goto (tgt := 137) C dL_areKnown_192 (by decide) ?_
                          exact pw_locs (by exact ⟨rfl, cat_vR _, rfl, rfl, rfl, rfl, rfl, rfl, rfl, rfl, rfl, rfl, rfl, rfl, rfl, rfl, rfl, rfl, trivial⟩) (ih_137 (v + 1) M70 (by omega) (hR71) (by omega))

