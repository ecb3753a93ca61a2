/-! ===== the law's calls: the counts behind them ===== -/
theorem aRun_1 {A : An} {T : Fn} (hA : AB A) : aRun (aT A T) (A 0 0 1) 0 0 1 = A 0 0 1 + 1 := by
  have hn := hA.n
  unfold aRun
  rw [onL_n (by rw [aT_0 (by omega), if_neg (by omega)]; omega), aT_0 (by omega), if_pos rfl]
theorem aKil_1 {A : An} {t : Int} (hA : AB A) (ht : 0 ≤ t) : aKil A t 0 0 1 = A 0 0 1 + 1 := by
  have hn := hA.n
  unfold aKil
  rw [onL_n (by omega)]
  unfold aKl0
  rw [aup_n (by omega), aTk_0 (by omega), if_pos rfl]
theorem fil_1 {A : An} {s k set g hd tg : Int} (hA : AB A) : aFil A s k set g hd tg 0 0 1 = A 0 0 1 + 1 := aRun_1 (T := nT A s k set g hd tg) hA
theorem fil_SN {A : An} {s k set g hd tg : Int} (hA : AB A) (h : SN A) : SN (aFil A s k set g hd tg) := SN.take (T := nT A s k set g hd tg) h hA

set_option maxHeartbeats 4000000 in
set_option maxRecDepth 100000 in
theorem law_source {E : Ev} {tb : List ExceptionTableEntry} {X : Xv} {b L : Nat} {xs : Nat → Int32} {B j i : Int} {k n : Nat} {G M : Mm} {A : An} {D : Fn} {I : Int → Int} (C : Cx E code 9 RL tb room_1) (hX : E.1 = X) (hS : SC E b L xs) {bb : Int} (hbb : bb = (b : Int)) (hL : L ≤ 3072) (hJ : LJ X B k n j G M A D I) (hj : 0 ≤ j ∧ j < 512) (hi : 0 ≤ i ∧ i + 6 ≤ (L : Int)) (hB : 0 ≤ B) (kk : ∀ (G' M' : Mm) (k' n' : Nat) (A' : An) (D' : Fn) (I' : Int → Int), LJ X B k' n' (j + 1) G' M' A' D' I' → PW E G' M' k' n' 1989 [(0, 1, vR bb), (1, 1, vR B), (2, 1, vR (B + 202)), (3, 1, vR (B + 207)), (4, 1, vI i)] []) : PW E G M k n 160 [(0, 1, vR bb), (1, 1, vR B), (2, 1, vR (B + 202)), (3, 1, vR (B + 207)), (4, 1, vI i)] [] := by
  obtain ⟨hR, hM, hI, hE, ho, hKB, hn1⟩ := hJ
  have hnA := hI.1.1.n
  have hnS := hI.1.1.so.c
  have hk9 := hKB.room hnA.2.1.2 hj.2
  have hwt := WT_bd (A 0 0 1)
  have hq9 := hM.q
  refine pw_aload_n C dL_law_160 rfl ?_
  refine pw_aload_n C dL_law_161 rfl ?_
  refine pw_iload C dL_law_162 rfl ?_
  refine pw_iconst C dL_law_164 ?_
  refine pw_iadd C dL_law_165 ?_
  refine pw_sld C hS hbb dL_law_166 (by omega) hL ?_
  refine pw_aload_n C dL_law_167 rfl ?_
  refine pw_iload C dL_law_168 rfl ?_
  refine pw_iconst C dL_law_170 ?_
  refine pw_iadd C dL_law_171 ?_
  refine pw_sld C hS hbb dL_law_172 (by omega) hL ?_
  refine pw_aload_n C dL_law_173 rfl ?_
  refine pw_cSWI C hX dL_law_174 (List.mem_of_getElem? (i := 668) (by decide +kernel)) mc_L_source (w_source hR hI.1.1 ho (by omega) (wt := (sc xs (i + 1))) (of_ := (sc xs (i + 2))) (sc_r _) (sc_r _)) rfl rfl ⟨Nat.le_of_ble_eq_true rfl, Nat.le_of_ble_eq_true rfl⟩ (Nat.le_of_ble_eq_true rfl) (by show k + 1 ≤ 790825 ∧ n + 6 ≤ 6723630; omega) (fun r1 G1 M1 hq_ => ?_)
  obtain ⟨hr1, hG1, hR1, hO1, hv1⟩ := hq_
  rw [← hr1] at hR1 hv1
  have b1 : 0 ≤ r1 ∧ r1 ≤ 3 := by rw [hr1]; exact cd3_bd
  obtain ⟨hM1, hE1, ho1⟩ := aftW hM hE ho hG1 hO1
  clear hG1 hO1
  refine pw_istore C dL_law_177 (Nat.le_of_ble_eq_true rfl) rfl ?_
  refine pw_aload_n C dL_law_179 rfl ?_
  refine pw_aload_n C dL_law_180 rfl ?_
  refine pw_iload C dL_law_181 rfl ?_
  refine pw_iconst C dL_law_183 ?_
  refine pw_iadd C dL_law_184 ?_
  refine pw_sld C hS hbb dL_law_185 (by omega) hL ?_
  refine pw_aload_n C dL_law_186 rfl ?_
  refine pw_iload C dL_law_187 rfl ?_
  refine pw_iconst C dL_law_189 ?_
  refine pw_iadd C dL_law_190 ?_
  refine pw_sld C hS hbb dL_law_191 (by omega) hL ?_
  refine pw_cVI C hX dL_law_192 ml_L_104 mc_X10_source (m_source hM1 hI.1.1 hI.1.2.1  (w := (sc xs (i + 1))) (o := (sc xs (i + 2))) (sc_r _) (sc_r _)) kc_13 hM1.k rfl rfl ⟨Nat.le_of_ble_eq_true rfl, Nat.le_of_ble_eq_true rfl⟩ (Nat.le_of_ble_eq_true rfl) (by show k + 1 + 2 ≤ 790825 ∧ n + 6 + 103 ≤ 6723630; omega) (fun r2 G2 M2 hq_ => ?_)
  obtain ⟨hF2, hv2, D2, I2, hM2⟩ := hq_
  rw [← hr1] at hF2 hv2 hM2
  obtain ⟨A2, eA2⟩ : ∃ A2, (if r1 = 0 then (aSrc A (sc xs (i + 1)) (sc xs (i + 2))) else A) = A2 := ⟨_, rfl⟩
  rw [eA2] at hR1 hM2
  have hI2 : Inv A2 ∧ SN A2 := by
    rw [← eA2]
    by_cases h0 : r1 = 0
    · rw [if_pos h0]
      have hc := cd3_0 (hr1.symm.trans h0)
      exact ⟨hI.1.src hc.2.1 hc.2.2 hc.1, hI.2.src⟩
    · rw [if_neg h0]; exact hI
  have hT2 : (A2 0 0 1 = A 0 0 1 ∧ (3 : Int) ≤ WT (A 0 0 1)) ∨ (A2 0 0 1 = A 0 0 1 + 1 ∧ (3 : Int) ≤ 21) := by
    rw [← eA2]
    by_cases h0 : r1 = 0
    · rw [if_pos h0]
      have hc := cd3_0 (hr1.symm.trans h0)
      exact Or.inl ⟨by unfold aSrc; rw [aup_n (by omega)], by omega⟩
    · rw [if_neg h0]; exact Or.inl ⟨rfl, by omega⟩
  obtain ⟨hR2, hE2, ho2, hout, hth⟩ := aftM hR1 hM1 hE1 ho1 hB hF2
  have hov : r1 = 0 → M2 1 (B + 207) 0 = wr r2 := fun h => by rw [hout, hv1 h, hv2 h]
  have hLn : LJ X B (k + 1 + 2) (n + 6 + 103) (j + 1) G2 M2 A2 D2 I2 := ⟨hR2, hM2, hI2, hE2, ho2, hKB.go (c := 3) (by omega) hT2, by omega⟩
  refine pw_istore C dL_law_195 (Nat.le_of_ble_eq_true rfl) rfl ?_
  refine pw_aload_n C dL_law_197 rfl ?_
  refine pw_cVE C hX dL_law_198 ml_L_105 mc_X10_thrown (m_thrown hM2 hI2.1.1 hth) kc_13 hM2.k rfl rfl ⟨Nat.le_of_ble_eq_true rfl, Nat.le_of_ble_eq_true rfl⟩ (Nat.le_of_ble_eq_true rfl) (by show k + 1 + 2 + 0 ≤ 790825 ∧ n + 6 + 103 + 0 ≤ 6723630; omega) ?_
  refine pw_iload C dL_law_201 rfl ?_
  refine pw_icmp_eq (tgt := 208) C dL_law_203 (by decide) (by omega) (fun c_203 => ?_) (fun c_203 => ?_)
  rotate_left
  · exact absurd c_203 (by omega)
  refine pw_iload C dL_law_208 rfl ?_
  refine pw_if_ne (tgt := 225) C dL_law_210 (by decide) (by omega) (fun c_210 => ?_) (fun c_210 => ?_)
  · skip
    refine pw_goto (tgt := 1989) C dL_law_225 (by decide) ?_
    exact pw_locs (by exact ⟨rfl, cat_vR _, rfl, cat_vR _, rfl, cat_vR _, rfl, cat_vR _, rfl, rfl, trivial⟩) (kk _ _ _ _ _ _ _ hLn)
  · skip
    refine pw_aload_n C dL_law_213 rfl ?_
    refine pw_iconst C dL_law_214 ?_
    refine pw_lald C dL_law_215 ho2.1 (by rw [ho2.2]; omega) ?_
    rw [hov (by omega)]
    refine pw_iload C dL_law_216 rfl ?_
    refine pw_i2lW C dL_law_218 ?_
    refine pw_lcmpE C dL_law_219 rfl ?_
    refine pw_ifL_eq (tgt := 225) C dL_law_220 (by decide) rfl ?_
    refine pw_goto (tgt := 1989) C dL_law_225 (by decide) ?_
    exact pw_locs (by exact ⟨rfl, cat_vR _, rfl, cat_vR _, rfl, cat_vR _, rfl, cat_vR _, rfl, rfl, trivial⟩) (kk _ _ _ _ _ _ _ hLn)

set_option maxHeartbeats 4000000 in
set_option maxRecDepth 100000 in
theorem law_story {E : Ev} {tb : List ExceptionTableEntry} {X : Xv} {b L : Nat} {xs : Nat → Int32} {B j i : Int} {k n : Nat} {G M : Mm} {A : An} {D : Fn} {I : Int → Int} (C : Cx E code 9 RL tb room_1) (hX : E.1 = X) (hS : SC E b L xs) {bb : Int} (hbb : bb = (b : Int)) (hL : L ≤ 3072) (hJ : LJ X B k n j G M A D I) (hj : 0 ≤ j ∧ j < 512) (hi : 0 ≤ i ∧ i + 6 ≤ (L : Int)) (hB : 0 ≤ B) (kk : ∀ (G' M' : Mm) (k' n' : Nat) (A' : An) (D' : Fn) (I' : Int → Int), LJ X B k' n' (j + 1) G' M' A' D' I' → PW E G' M' k' n' 1989 [(0, 1, vR bb), (1, 1, vR B), (2, 1, vR (B + 202)), (3, 1, vR (B + 207)), (4, 1, vI i)] []) : PW E G M k n 228 [(0, 1, vR bb), (1, 1, vR B), (2, 1, vR (B + 202)), (3, 1, vR (B + 207)), (4, 1, vI i)] [] := by
  obtain ⟨hR, hM, hI, hE, ho, hKB, hn1⟩ := hJ
  have hnA := hI.1.1.n
  have hnS := hI.1.1.so.c
  have hk9 := hKB.room hnA.2.1.2 hj.2
  have hwt := WT_bd (A 0 0 1)
  have hq9 := hM.q
  refine pw_aload_n C dL_law_228 rfl ?_
  refine pw_aload_n C dL_law_229 rfl ?_
  refine pw_cSWI C hX dL_law_230 (List.mem_of_getElem? (i := 703) (by decide +kernel)) mc_L_story (w_story hR hI.1.1 ho (by omega)  ) rfl rfl ⟨Nat.le_of_ble_eq_true rfl, Nat.le_of_ble_eq_true rfl⟩ (Nat.le_of_ble_eq_true rfl) (by show k + 1 ≤ 790825 ∧ n + 6 ≤ 6723630; omega) (fun r1 G1 M1 hq_ => ?_)
  obtain ⟨hr1, hG1, hR1, hO1, hv1⟩ := hq_
  rw [← hr1] at hR1 hv1
  have b1 : 0 ≤ r1 ∧ r1 ≤ 3 := by rw [hr1]; exact cd1_bd
  obtain ⟨hM1, hE1, ho1⟩ := aftW hM hE ho hG1 hO1
  clear hG1 hO1
  refine pw_istore C dL_law_233 (Nat.le_of_ble_eq_true rfl) rfl ?_
  refine pw_aload_n C dL_law_235 rfl ?_
  refine pw_cVI C hX dL_law_236 ml_L_111 mc_X10_story (m_story hM1 hI.1.1 hI.1.2.1 hI.1.2.2  ) kc_13 hM1.k rfl rfl ⟨Nat.le_of_ble_eq_true rfl, Nat.le_of_ble_eq_true rfl⟩ (Nat.le_of_ble_eq_true rfl) (by show k + 1 + 10 ≤ 790825 ∧ n + 6 + 152 ≤ 6723630; omega) (fun r2 G2 M2 hq_ => ?_)
  obtain ⟨hF2, hv2, D2, I2, hM2⟩ := hq_
  rw [← hr1] at hF2 hv2 hM2
  obtain ⟨A2, eA2⟩ : ∃ A2, (if r1 = 0 then (aSty A) else A) = A2 := ⟨_, rfl⟩
  rw [eA2] at hR1 hM2
  have hI2 : Inv A2 ∧ SN A2 := by
    rw [← eA2]
    by_cases h0 : r1 = 0
    · rw [if_pos h0]
      have hc := cd1_0 (hr1.symm.trans h0)
      exact ⟨hI.1.sty hc, hI.2.sty⟩
    · rw [if_neg h0]; exact hI
  have hT2 : (A2 0 0 1 = A 0 0 1 ∧ (11 : Int) ≤ WT (A 0 0 1)) ∨ (A2 0 0 1 = A 0 0 1 + 1 ∧ (11 : Int) ≤ 21) := by
    rw [← eA2]
    by_cases h0 : r1 = 0
    · rw [if_pos h0]
      have hc := cd1_0 (hr1.symm.trans h0)
      exact Or.inl ⟨by unfold aSty; rw [aup_s, lup_n (by omega)], by omega⟩
    · rw [if_neg h0]; exact Or.inl ⟨rfl, by omega⟩
  obtain ⟨hR2, hE2, ho2, hout, hth⟩ := aftM hR1 hM1 hE1 ho1 hB hF2
  have hov : r1 = 0 → M2 1 (B + 207) 0 = wr r2 := fun h => by rw [hout, hv1 h, hv2 h]
  have hLn : LJ X B (k + 1 + 10) (n + 6 + 152) (j + 1) G2 M2 A2 D2 I2 := ⟨hR2, hM2, hI2, hE2, ho2, hKB.go (c := 11) (by omega) hT2, by omega⟩
  refine pw_istore C dL_law_239 (Nat.le_of_ble_eq_true rfl) rfl ?_
  refine pw_aload_n C dL_law_241 rfl ?_
  refine pw_cVE C hX dL_law_242 ml_L_105 mc_X10_thrown (m_thrown hM2 hI2.1.1 hth) kc_13 hM2.k rfl rfl ⟨Nat.le_of_ble_eq_true rfl, Nat.le_of_ble_eq_true rfl⟩ (Nat.le_of_ble_eq_true rfl) (by show k + 1 + 10 + 0 ≤ 790825 ∧ n + 6 + 152 + 0 ≤ 6723630; omega) ?_
  refine pw_iload C dL_law_245 rfl ?_
  refine pw_icmp_eq (tgt := 252) C dL_law_247 (by decide) (by omega) (fun c_247 => ?_) (fun c_247 => ?_)
  rotate_left
  · exact absurd c_247 (by omega)
  refine pw_iload C dL_law_252 rfl ?_
  refine pw_if_ne (tgt := 269) C dL_law_254 (by decide) (by omega) (fun c_254 => ?_) (fun c_254 => ?_)
  · skip
    refine pw_goto (tgt := 1989) C dL_law_269 (by decide) ?_
    exact pw_locs (by exact ⟨rfl, cat_vR _, rfl, cat_vR _, rfl, cat_vR _, rfl, cat_vR _, rfl, rfl, trivial⟩) (kk _ _ _ _ _ _ _ hLn)
  · skip
    refine pw_aload_n C dL_law_257 rfl ?_
    refine pw_iconst C dL_law_258 ?_
    refine pw_lald C dL_law_259 ho2.1 (by rw [ho2.2]; omega) ?_
    rw [hov (by omega)]
    refine pw_iload C dL_law_260 rfl ?_
    refine pw_i2lW C dL_law_262 ?_
    refine pw_lcmpE C dL_law_263 rfl ?_
    refine pw_ifL_eq (tgt := 269) C dL_law_264 (by decide) rfl ?_
    refine pw_goto (tgt := 1989) C dL_law_269 (by decide) ?_
    exact pw_locs (by exact ⟨rfl, cat_vR _, rfl, cat_vR _, rfl, cat_vR _, rfl, cat_vR _, rfl, rfl, trivial⟩) (kk _ _ _ _ _ _ _ hLn)

set_option maxHeartbeats 4000000 in
set_option maxRecDepth 100000 in
theorem law_line {E : Ev} {tb : List ExceptionTableEntry} {X : Xv} {b L : Nat} {xs : Nat → Int32} {B j i : Int} {k n : Nat} {G M : Mm} {A : An} {D : Fn} {I : Int → Int} (C : Cx E code 9 RL tb room_1) (hX : E.1 = X) (hS : SC E b L xs) {bb : Int} (hbb : bb = (b : Int)) (hL : L ≤ 3072) (hJ : LJ X B k n j G M A D I) (hj : 0 ≤ j ∧ j < 512) (hi : 0 ≤ i ∧ i + 6 ≤ (L : Int)) (hB : 0 ≤ B) (kk : ∀ (G' M' : Mm) (k' n' : Nat) (A' : An) (D' : Fn) (I' : Int → Int), LJ X B k' n' (j + 1) G' M' A' D' I' → PW E G' M' k' n' 1989 [(0, 1, vR bb), (1, 1, vR B), (2, 1, vR (B + 202)), (3, 1, vR (B + 207)), (4, 1, vI i)] []) : PW E G M k n 272 [(0, 1, vR bb), (1, 1, vR B), (2, 1, vR (B + 202)), (3, 1, vR (B + 207)), (4, 1, vI i)] [] := by
  obtain ⟨hR, hM, hI, hE, ho, hKB, hn1⟩ := hJ
  have hnA := hI.1.1.n
  have hnS := hI.1.1.so.c
  have hk9 := hKB.room hnA.2.1.2 hj.2
  have hwt := WT_bd (A 0 0 1)
  have hq9 := hM.q
  refine pw_aload_n C dL_law_272 rfl ?_
  refine pw_aload_n C dL_law_273 rfl ?_
  refine pw_iload C dL_law_274 rfl ?_
  refine pw_iconst C dL_law_276 ?_
  refine pw_iadd C dL_law_277 ?_
  refine pw_sld C hS hbb dL_law_278 (by omega) hL ?_
  refine pw_aload_n C dL_law_279 rfl ?_
  refine pw_iload C dL_law_280 rfl ?_
  refine pw_iconst C dL_law_282 ?_
  refine pw_iadd C dL_law_283 ?_
  refine pw_sld C hS hbb dL_law_284 (by omega) hL ?_
  refine pw_aload_n C dL_law_285 rfl ?_
  refine pw_cSWI C hX dL_law_286 (List.mem_of_getElem? (i := 711) (by decide +kernel)) mc_L_line (w_line hR hI.1.1 ho (by omega) (sp := (sc xs (i + 1))) (lg := (sc xs (i + 2))) (sc_r _) (sc_r _)) rfl rfl ⟨Nat.le_of_ble_eq_true rfl, Nat.le_of_ble_eq_true rfl⟩ (Nat.le_of_ble_eq_true rfl) (by show k + 1 ≤ 790825 ∧ n + 6 ≤ 6723630; omega) (fun r1 G1 M1 hq_ => ?_)
  obtain ⟨hr1, hG1, hR1, hO1, hv1⟩ := hq_
  rw [← hr1] at hR1 hv1
  have b1 : 0 ≤ r1 ∧ r1 ≤ 3 := by rw [hr1]; exact cd2_bd
  obtain ⟨hM1, hE1, ho1⟩ := aftW hM hE ho hG1 hO1
  clear hG1 hO1
  refine pw_istore C dL_law_289 (Nat.le_of_ble_eq_true rfl) rfl ?_
  refine pw_aload_n C dL_law_291 rfl ?_
  refine pw_aload_n C dL_law_292 rfl ?_
  refine pw_iload C dL_law_293 rfl ?_
  refine pw_iconst C dL_law_295 ?_
  refine pw_iadd C dL_law_296 ?_
  refine pw_sld C hS hbb dL_law_297 (by omega) hL ?_
  refine pw_aload_n C dL_law_298 rfl ?_
  refine pw_iload C dL_law_299 rfl ?_
  refine pw_iconst C dL_law_301 ?_
  refine pw_iadd C dL_law_302 ?_
  refine pw_sld C hS hbb dL_law_303 (by omega) hL ?_
  refine pw_cVI C hX dL_law_304 ml_L_114 mc_X10_line (m_line hM1 hI.1.1 hI.1.2.1 hI.1.2.2 (sp := (sc xs (i + 1))) (lg := (sc xs (i + 2))) (sc_r _) (sc_r _)) kc_13 hM1.k rfl rfl ⟨Nat.le_of_ble_eq_true rfl, Nat.le_of_ble_eq_true rfl⟩ (Nat.le_of_ble_eq_true rfl) (by show k + 1 + 5 ≤ 790825 ∧ n + 6 + 290 ≤ 6723630; omega) (fun r2 G2 M2 hq_ => ?_)
  obtain ⟨hF2, hv2, D2, I2, hM2⟩ := hq_
  rw [← hr1] at hF2 hv2 hM2
  obtain ⟨A2, eA2⟩ : ∃ A2, (if r1 = 0 then (aLin A (sc xs (i + 1)) (sc xs (i + 2))) else A) = A2 := ⟨_, rfl⟩
  rw [eA2] at hR1 hM2
  have hI2 : Inv A2 ∧ SN A2 := by
    rw [← eA2]
    by_cases h0 : r1 = 0
    · rw [if_pos h0]
      have hc := cd2_0 (hr1.symm.trans h0)
      exact ⟨hI.1.lin hc.1.1 hc.1.2 hc.2, hI.2.lin hI.1.1 hI.1.2.2 hc.2⟩
    · rw [if_neg h0]; exact hI
  have hT2 : (A2 0 0 1 = A 0 0 1 ∧ (6 : Int) ≤ WT (A 0 0 1)) ∨ (A2 0 0 1 = A 0 0 1 + 1 ∧ (6 : Int) ≤ 21) := by
    rw [← eA2]
    by_cases h0 : r1 = 0
    · rw [if_pos h0]
      have hc := cd2_0 (hr1.symm.trans h0)
      exact Or.inl ⟨by unfold aLin; rw [aup_s, lup_n (by omega)], by omega⟩
    · rw [if_neg h0]; exact Or.inl ⟨rfl, by omega⟩
  obtain ⟨hR2, hE2, ho2, hout, hth⟩ := aftM hR1 hM1 hE1 ho1 hB hF2
  have hov : r1 = 0 → M2 1 (B + 207) 0 = wr r2 := fun h => by rw [hout, hv1 h, hv2 h]
  have hLn : LJ X B (k + 1 + 5) (n + 6 + 290) (j + 1) G2 M2 A2 D2 I2 := ⟨hR2, hM2, hI2, hE2, ho2, hKB.go (c := 6) (by omega) hT2, by omega⟩
  refine pw_istore C dL_law_307 (Nat.le_of_ble_eq_true rfl) rfl ?_
  refine pw_aload_n C dL_law_309 rfl ?_
  refine pw_cVE C hX dL_law_310 ml_L_105 mc_X10_thrown (m_thrown hM2 hI2.1.1 hth) kc_13 hM2.k rfl rfl ⟨Nat.le_of_ble_eq_true rfl, Nat.le_of_ble_eq_true rfl⟩ (Nat.le_of_ble_eq_true rfl) (by show k + 1 + 5 + 0 ≤ 790825 ∧ n + 6 + 290 + 0 ≤ 6723630; omega) ?_
  refine pw_iload C dL_law_313 rfl ?_
  refine pw_icmp_eq (tgt := 320) C dL_law_315 (by decide) (by omega) (fun c_315 => ?_) (fun c_315 => ?_)
  rotate_left
  · exact absurd c_315 (by omega)
  refine pw_iload C dL_law_320 rfl ?_
  refine pw_if_ne (tgt := 337) C dL_law_322 (by decide) (by omega) (fun c_322 => ?_) (fun c_322 => ?_)
  · skip
    refine pw_goto (tgt := 1989) C dL_law_337 (by decide) ?_
    exact pw_locs (by exact ⟨rfl, cat_vR _, rfl, cat_vR _, rfl, cat_vR _, rfl, cat_vR _, rfl, rfl, trivial⟩) (kk _ _ _ _ _ _ _ hLn)
  · skip
    refine pw_aload_n C dL_law_325 rfl ?_
    refine pw_iconst C dL_law_326 ?_
    refine pw_lald C dL_law_327 ho2.1 (by rw [ho2.2]; omega) ?_
    rw [hov (by omega)]
    refine pw_iload C dL_law_328 rfl ?_
    refine pw_i2lW C dL_law_330 ?_
    refine pw_lcmpE C dL_law_331 rfl ?_
    refine pw_ifL_eq (tgt := 337) C dL_law_332 (by decide) rfl ?_
    refine pw_goto (tgt := 1989) C dL_law_337 (by decide) ?_
    exact pw_locs (by exact ⟨rfl, cat_vR _, rfl, cat_vR _, rfl, cat_vR _, rfl, cat_vR _, rfl, rfl, trivial⟩) (kk _ _ _ _ _ _ _ hLn)

set_option maxHeartbeats 4000000 in
set_option maxRecDepth 100000 in
theorem law_report {E : Ev} {tb : List ExceptionTableEntry} {X : Xv} {b L : Nat} {xs : Nat → Int32} {B j i : Int} {k n : Nat} {G M : Mm} {A : An} {D : Fn} {I : Int → Int} (C : Cx E code 9 RL tb room_1) (hX : E.1 = X) (hS : SC E b L xs) {bb : Int} (hbb : bb = (b : Int)) (hL : L ≤ 3072) (hJ : LJ X B k n j G M A D I) (hj : 0 ≤ j ∧ j < 512) (hi : 0 ≤ i ∧ i + 6 ≤ (L : Int)) (hB : 0 ≤ B) (kk : ∀ (G' M' : Mm) (k' n' : Nat) (A' : An) (D' : Fn) (I' : Int → Int), LJ X B k' n' (j + 1) G' M' A' D' I' → PW E G' M' k' n' 1989 [(0, 1, vR bb), (1, 1, vR B), (2, 1, vR (B + 202)), (3, 1, vR (B + 207)), (4, 1, vI i)] []) : PW E G M k n 340 [(0, 1, vR bb), (1, 1, vR B), (2, 1, vR (B + 202)), (3, 1, vR (B + 207)), (4, 1, vI i)] [] := by
  obtain ⟨hR, hM, hI, hE, ho, hKB, hn1⟩ := hJ
  have hnA := hI.1.1.n
  have hnS := hI.1.1.so.c
  have hk9 := hKB.room hnA.2.1.2 hj.2
  have hwt := WT_bd (A 0 0 1)
  have hq9 := hM.q
  refine pw_aload_n C dL_law_340 rfl ?_
  refine pw_aload_n C dL_law_341 rfl ?_
  refine pw_iload C dL_law_342 rfl ?_
  refine pw_iconst C dL_law_344 ?_
  refine pw_iadd C dL_law_345 ?_
  refine pw_sld C hS hbb dL_law_346 (by omega) hL ?_
  refine pw_aload_n C dL_law_347 rfl ?_
  refine pw_iload C dL_law_348 rfl ?_
  refine pw_iconst C dL_law_350 ?_
  refine pw_iadd C dL_law_351 ?_
  refine pw_sld C hS hbb dL_law_352 (by omega) hL ?_
  refine pw_aload_n C dL_law_353 rfl ?_
  refine pw_iload C dL_law_354 rfl ?_
  refine pw_iconst C dL_law_356 ?_
  refine pw_iadd C dL_law_357 ?_
  refine pw_sld C hS hbb dL_law_358 (by omega) hL ?_
  refine pw_aload_n C dL_law_359 rfl ?_
  refine pw_iload C dL_law_360 rfl ?_
  refine pw_iconst C dL_law_362 ?_
  refine pw_iadd C dL_law_363 ?_
  refine pw_sld C hS hbb dL_law_364 (by omega) hL ?_
  refine pw_aload_n C dL_law_365 rfl ?_
  refine pw_cSWI C hX dL_law_366 (List.mem_of_getElem? (i := 720) (by decide +kernel)) mc_L_report (w_report hR hI.1.1 ho (by omega) (so := (sc xs (i + 1))) (s := (sc xs (i + 2))) (f := (sc xs (i + 3))) (v := (sc xs (i + 4))) (sc_r _) (sc_r _) (sc_r _) (sc_r _)) rfl rfl ⟨Nat.le_of_ble_eq_true rfl, Nat.le_of_ble_eq_true rfl⟩ (Nat.le_of_ble_eq_true rfl) (by show k + 1 ≤ 790825 ∧ n + 6 ≤ 6723630; omega) (fun r1 G1 M1 hq_ => ?_)
  obtain ⟨hr1, hG1, hR1, hO1, hv1⟩ := hq_
  rw [← hr1] at hR1 hv1
  have b1 : 0 ≤ r1 ∧ r1 ≤ 3 := by rw [hr1]; exact cd2_bd
  obtain ⟨hM1, hE1, ho1⟩ := aftW hM hE ho hG1 hO1
  clear hG1 hO1
  refine pw_istore C dL_law_369 (Nat.le_of_ble_eq_true rfl) rfl ?_
  refine pw_aload_n C dL_law_371 rfl ?_
  refine pw_aload_n C dL_law_372 rfl ?_
  refine pw_iload C dL_law_373 rfl ?_
  refine pw_iconst C dL_law_375 ?_
  refine pw_iadd C dL_law_376 ?_
  refine pw_sld C hS hbb dL_law_377 (by omega) hL ?_
  refine pw_aload_n C dL_law_378 rfl ?_
  refine pw_iload C dL_law_379 rfl ?_
  refine pw_iconst C dL_law_381 ?_
  refine pw_iadd C dL_law_382 ?_
  refine pw_sld C hS hbb dL_law_383 (by omega) hL ?_
  refine pw_aload_n C dL_law_384 rfl ?_
  refine pw_iload C dL_law_385 rfl ?_
  refine pw_iconst C dL_law_387 ?_
  refine pw_iadd C dL_law_388 ?_
  refine pw_sld C hS hbb dL_law_389 (by omega) hL ?_
  refine pw_aload_n C dL_law_390 rfl ?_
  refine pw_iload C dL_law_391 rfl ?_
  refine pw_iconst C dL_law_393 ?_
  refine pw_iadd C dL_law_394 ?_
  refine pw_sld C hS hbb dL_law_395 (by omega) hL ?_
  refine pw_cVI C hX dL_law_396 ml_L_118 mc_X10_report (m_report hM1 hI.1.1 hI.1.2.1  (so := (sc xs (i + 1))) (s := (sc xs (i + 2))) (f := (sc xs (i + 3))) (v := (sc xs (i + 4))) (sc_r _) (sc_r _) (sc_r _) (sc_r _)) kc_13 hM1.k rfl rfl ⟨Nat.le_of_ble_eq_true rfl, Nat.le_of_ble_eq_true rfl⟩ (Nat.le_of_ble_eq_true rfl) (by show k + 1 + 0 ≤ 790825 ∧ n + 6 + 0 ≤ 6723630; omega) (fun r2 G2 M2 hq_ => ?_)
  obtain ⟨hF2, hv2, D2, I2, hM2⟩ := hq_
  rw [← hr1] at hF2 hv2 hM2
  obtain ⟨A2, eA2⟩ : ∃ A2, (if r1 = 0 then (aSay A (sc xs (i + 1)) ((sc xs (i + 2)) * 4 + (sc xs (i + 3))) (sc xs (i + 4))) else A) = A2 := ⟨_, rfl⟩
  rw [eA2] at hR1 hM2
  have hI2 : Inv A2 ∧ SN A2 := by
    rw [← eA2]
    by_cases h0 : r1 = 0
    · rw [if_pos h0]
      have hc := cd2_0 (hr1.symm.trans h0)
      exact ⟨hI.1.say hc.1.1 (by omega) (by omega), hI.2.say (by omega) hI.1.1⟩
    · rw [if_neg h0]; exact hI
  have hT2 : (A2 0 0 1 = A 0 0 1 ∧ (1 : Int) ≤ WT (A 0 0 1)) ∨ (A2 0 0 1 = A 0 0 1 + 1 ∧ (1 : Int) ≤ 21) := by
    rw [← eA2]
    by_cases h0 : r1 = 0
    · rw [if_pos h0]
      have hc := cd2_0 (hr1.symm.trans h0)
      exact Or.inl ⟨by unfold aSay; rw [aup_n (by omega)], by omega⟩
    · rw [if_neg h0]; exact Or.inl ⟨rfl, by omega⟩
  obtain ⟨hR2, hE2, ho2, hout, hth⟩ := aftM hR1 hM1 hE1 ho1 hB hF2
  have hov : r1 = 0 → M2 1 (B + 207) 0 = wr r2 := fun h => by have hc := cd2_0 (hr1.symm.trans h); rw [hout, hv1 h, hv2 h, mpr_eq hI.1.1.so, pG_up (fun t => setl_0 t)]
  have hLn : LJ X B (k + 1 + 0) (n + 6 + 0) (j + 1) G2 M2 A2 D2 I2 := ⟨hR2, hM2, hI2, hE2, ho2, hKB.go (c := 1) (by omega) hT2, by omega⟩
  refine pw_istore C dL_law_399 (Nat.le_of_ble_eq_true rfl) rfl ?_
  refine pw_aload_n C dL_law_401 rfl ?_
  refine pw_cVE C hX dL_law_402 ml_L_105 mc_X10_thrown (m_thrown hM2 hI2.1.1 hth) kc_13 hM2.k rfl rfl ⟨Nat.le_of_ble_eq_true rfl, Nat.le_of_ble_eq_true rfl⟩ (Nat.le_of_ble_eq_true rfl) (by show k + 1 + 0 + 0 ≤ 790825 ∧ n + 6 + 0 + 0 ≤ 6723630; omega) ?_
  refine pw_iload C dL_law_405 rfl ?_
  refine pw_icmp_eq (tgt := 412) C dL_law_407 (by decide) (by omega) (fun c_407 => ?_) (fun c_407 => ?_)
  rotate_left
  · exact absurd c_407 (by omega)
  refine pw_iload C dL_law_412 rfl ?_
  refine pw_if_ne (tgt := 429) C dL_law_414 (by decide) (by omega) (fun c_414 => ?_) (fun c_414 => ?_)
  · skip
    refine pw_goto (tgt := 1989) C dL_law_429 (by decide) ?_
    exact pw_locs (by exact ⟨rfl, cat_vR _, rfl, cat_vR _, rfl, cat_vR _, rfl, cat_vR _, rfl, rfl, trivial⟩) (kk _ _ _ _ _ _ _ hLn)
  · skip
    refine pw_aload_n C dL_law_417 rfl ?_
    refine pw_iconst C dL_law_418 ?_
    refine pw_lald C dL_law_419 ho2.1 (by rw [ho2.2]; omega) ?_
    rw [hov (by omega)]
    refine pw_iload C dL_law_420 rfl ?_
    refine pw_i2lW C dL_law_422 ?_
    refine pw_lcmpE C dL_law_423 rfl ?_
    refine pw_ifL_eq (tgt := 429) C dL_law_424 (by decide) rfl ?_
    refine pw_goto (tgt := 1989) C dL_law_429 (by decide) ?_
    exact pw_locs (by exact ⟨rfl, cat_vR _, rfl, cat_vR _, rfl, cat_vR _, rfl, cat_vR _, rfl, rfl, trivial⟩) (kk _ _ _ _ _ _ _ hLn)

set_option maxHeartbeats 4000000 in
set_option maxRecDepth 100000 in
theorem law_retract {E : Ev} {tb : List ExceptionTableEntry} {X : Xv} {b L : Nat} {xs : Nat → Int32} {B j i : Int} {k n : Nat} {G M : Mm} {A : An} {D : Fn} {I : Int → Int} (C : Cx E code 9 RL tb room_1) (hX : E.1 = X) (hS : SC E b L xs) {bb : Int} (hbb : bb = (b : Int)) (hL : L ≤ 3072) (hJ : LJ X B k n j G M A D I) (hj : 0 ≤ j ∧ j < 512) (hi : 0 ≤ i ∧ i + 6 ≤ (L : Int)) (hB : 0 ≤ B) (kk : ∀ (G' M' : Mm) (k' n' : Nat) (A' : An) (D' : Fn) (I' : Int → Int), LJ X B k' n' (j + 1) G' M' A' D' I' → PW E G' M' k' n' 1989 [(0, 1, vR bb), (1, 1, vR B), (2, 1, vR (B + 202)), (3, 1, vR (B + 207)), (4, 1, vI i)] []) : PW E G M k n 432 [(0, 1, vR bb), (1, 1, vR B), (2, 1, vR (B + 202)), (3, 1, vR (B + 207)), (4, 1, vI i)] [] := by
  obtain ⟨hR, hM, hI, hE, ho, hKB, hn1⟩ := hJ
  have hnA := hI.1.1.n
  have hnS := hI.1.1.so.c
  have hk9 := hKB.room hnA.2.1.2 hj.2
  have hwt := WT_bd (A 0 0 1)
  have hq9 := hM.q
  refine pw_aload_n C dL_law_432 rfl ?_
  refine pw_aload_n C dL_law_433 rfl ?_
  refine pw_iload C dL_law_434 rfl ?_
  refine pw_iconst C dL_law_436 ?_
  refine pw_iadd C dL_law_437 ?_
  refine pw_sld C hS hbb dL_law_438 (by omega) hL ?_
  refine pw_aload_n C dL_law_439 rfl ?_
  refine pw_iload C dL_law_440 rfl ?_
  refine pw_iconst C dL_law_442 ?_
  refine pw_iadd C dL_law_443 ?_
  refine pw_sld C hS hbb dL_law_444 (by omega) hL ?_
  refine pw_aload_n C dL_law_445 rfl ?_
  refine pw_iload C dL_law_446 rfl ?_
  refine pw_iconst C dL_law_448 ?_
  refine pw_iadd C dL_law_449 ?_
  refine pw_sld C hS hbb dL_law_450 (by omega) hL ?_
  refine pw_aload_n C dL_law_451 rfl ?_
  refine pw_cSWI C hX dL_law_452 (List.mem_of_getElem? (i := 732) (by decide +kernel)) mc_L_retract (w_retract hR hI.1.1 ho (by omega) (so := (sc xs (i + 1))) (s := (sc xs (i + 2))) (f := (sc xs (i + 3))) (sc_r _) (sc_r _) (sc_r _)) rfl rfl ⟨Nat.le_of_ble_eq_true rfl, Nat.le_of_ble_eq_true rfl⟩ (Nat.le_of_ble_eq_true rfl) (by show k + 1 ≤ 790825 ∧ n + 6 ≤ 6723630; omega) (fun r1 G1 M1 hq_ => ?_)
  obtain ⟨hr1, hG1, hR1, hO1, hv1⟩ := hq_
  rw [← hr1] at hR1 hv1
  have b1 : 0 ≤ r1 ∧ r1 ≤ 3 := by rw [hr1]; exact cd2_bd
  obtain ⟨hM1, hE1, ho1⟩ := aftW hM hE ho hG1 hO1
  clear hG1 hO1
  refine pw_istore C dL_law_455 (Nat.le_of_ble_eq_true rfl) rfl ?_
  refine pw_aload_n C dL_law_457 rfl ?_
  refine pw_aload_n C dL_law_458 rfl ?_
  refine pw_iload C dL_law_459 rfl ?_
  refine pw_iconst C dL_law_461 ?_
  refine pw_iadd C dL_law_462 ?_
  refine pw_sld C hS hbb dL_law_463 (by omega) hL ?_
  refine pw_aload_n C dL_law_464 rfl ?_
  refine pw_iload C dL_law_465 rfl ?_
  refine pw_iconst C dL_law_467 ?_
  refine pw_iadd C dL_law_468 ?_
  refine pw_sld C hS hbb dL_law_469 (by omega) hL ?_
  refine pw_aload_n C dL_law_470 rfl ?_
  refine pw_iload C dL_law_471 rfl ?_
  refine pw_iconst C dL_law_473 ?_
  refine pw_iadd C dL_law_474 ?_
  refine pw_sld C hS hbb dL_law_475 (by omega) hL ?_
  refine pw_cVI C hX dL_law_476 ml_L_122 mc_X10_retract (m_retract hM1 hI.1.1 hI.1.2.1  (so := (sc xs (i + 1))) (s := (sc xs (i + 2))) (f := (sc xs (i + 3))) (sc_r _) (sc_r _) (sc_r _)) kc_13 hM1.k rfl rfl ⟨Nat.le_of_ble_eq_true rfl, Nat.le_of_ble_eq_true rfl⟩ (Nat.le_of_ble_eq_true rfl) (by show k + 1 + 0 ≤ 790825 ∧ n + 6 + 0 ≤ 6723630; omega) (fun r2 G2 M2 hq_ => ?_)
  obtain ⟨hF2, hv2, D2, I2, hM2⟩ := hq_
  rw [← hr1] at hF2 hv2 hM2
  obtain ⟨A2, eA2⟩ : ∃ A2, (if r1 = 0 then (aSay A (sc xs (i + 1)) ((sc xs (i + 2)) * 4 + (sc xs (i + 3))) (-1)) else A) = A2 := ⟨_, rfl⟩
  rw [eA2] at hR1 hM2
  have hI2 : Inv A2 ∧ SN A2 := by
    rw [← eA2]
    by_cases h0 : r1 = 0
    · rw [if_pos h0]
      have hc := cd2_0 (hr1.symm.trans h0)
      exact ⟨hI.1.say hc.1.1 (by omega) (by omega), hI.2.say (by omega) hI.1.1⟩
    · rw [if_neg h0]; exact hI
  have hT2 : (A2 0 0 1 = A 0 0 1 ∧ (1 : Int) ≤ WT (A 0 0 1)) ∨ (A2 0 0 1 = A 0 0 1 + 1 ∧ (1 : Int) ≤ 21) := by
    rw [← eA2]
    by_cases h0 : r1 = 0
    · rw [if_pos h0]
      have hc := cd2_0 (hr1.symm.trans h0)
      exact Or.inl ⟨by unfold aSay; rw [aup_n (by omega)], by omega⟩
    · rw [if_neg h0]; exact Or.inl ⟨rfl, by omega⟩
  obtain ⟨hR2, hE2, ho2, hout, hth⟩ := aftM hR1 hM1 hE1 ho1 hB hF2
  have hov : r1 = 0 → M2 1 (B + 207) 0 = wr r2 := fun h => by rw [hout, hv1 h, hv2 h]
  have hLn : LJ X B (k + 1 + 0) (n + 6 + 0) (j + 1) G2 M2 A2 D2 I2 := ⟨hR2, hM2, hI2, hE2, ho2, hKB.go (c := 1) (by omega) hT2, by omega⟩
  refine pw_istore C dL_law_479 (Nat.le_of_ble_eq_true rfl) rfl ?_
  refine pw_aload_n C dL_law_481 rfl ?_
  refine pw_cVE C hX dL_law_482 ml_L_105 mc_X10_thrown (m_thrown hM2 hI2.1.1 hth) kc_13 hM2.k rfl rfl ⟨Nat.le_of_ble_eq_true rfl, Nat.le_of_ble_eq_true rfl⟩ (Nat.le_of_ble_eq_true rfl) (by show k + 1 + 0 + 0 ≤ 790825 ∧ n + 6 + 0 + 0 ≤ 6723630; omega) ?_
  refine pw_iload C dL_law_485 rfl ?_
  refine pw_icmp_eq (tgt := 492) C dL_law_487 (by decide) (by omega) (fun c_487 => ?_) (fun c_487 => ?_)
  rotate_left
  · exact absurd c_487 (by omega)
  refine pw_iload C dL_law_492 rfl ?_
  refine pw_if_ne (tgt := 509) C dL_law_494 (by decide) (by omega) (fun c_494 => ?_) (fun c_494 => ?_)
  · skip
    refine pw_goto (tgt := 1989) C dL_law_509 (by decide) ?_
    exact pw_locs (by exact ⟨rfl, cat_vR _, rfl, cat_vR _, rfl, cat_vR _, rfl, cat_vR _, rfl, rfl, trivial⟩) (kk _ _ _ _ _ _ _ hLn)
  · skip
    refine pw_aload_n C dL_law_497 rfl ?_
    refine pw_iconst C dL_law_498 ?_
    refine pw_lald C dL_law_499 ho2.1 (by rw [ho2.2]; omega) ?_
    rw [hov (by omega)]
    refine pw_iload C dL_law_500 rfl ?_
    refine pw_i2lW C dL_law_502 ?_
    refine pw_lcmpE C dL_law_503 rfl ?_
    refine pw_ifL_eq (tgt := 509) C dL_law_504 (by decide) rfl ?_
    refine pw_goto (tgt := 1989) C dL_law_509 (by decide) ?_
    exact pw_locs (by exact ⟨rfl, cat_vR _, rfl, cat_vR _, rfl, cat_vR _, rfl, cat_vR _, rfl, rfl, trivial⟩) (kk _ _ _ _ _ _ _ hLn)

set_option maxHeartbeats 4000000 in
set_option maxRecDepth 100000 in
theorem law_rival {E : Ev} {tb : List ExceptionTableEntry} {X : Xv} {b L : Nat} {xs : Nat → Int32} {B j i : Int} {k n : Nat} {G M : Mm} {A : An} {D : Fn} {I : Int → Int} (C : Cx E code 9 RL tb room_1) (hX : E.1 = X) (hS : SC E b L xs) {bb : Int} (hbb : bb = (b : Int)) (hL : L ≤ 3072) (hJ : LJ X B k n j G M A D I) (hj : 0 ≤ j ∧ j < 512) (hi : 0 ≤ i ∧ i + 6 ≤ (L : Int)) (hB : 0 ≤ B) (kk : ∀ (G' M' : Mm) (k' n' : Nat) (A' : An) (D' : Fn) (I' : Int → Int), LJ X B k' n' (j + 1) G' M' A' D' I' → PW E G' M' k' n' 1989 [(0, 1, vR bb), (1, 1, vR B), (2, 1, vR (B + 202)), (3, 1, vR (B + 207)), (4, 1, vI i)] []) : PW E G M k n 512 [(0, 1, vR bb), (1, 1, vR B), (2, 1, vR (B + 202)), (3, 1, vR (B + 207)), (4, 1, vI i)] [] := by
  obtain ⟨hR, hM, hI, hE, ho, hKB, hn1⟩ := hJ
  have hnA := hI.1.1.n
  have hnS := hI.1.1.so.c
  have hk9 := hKB.room hnA.2.1.2 hj.2
  have hwt := WT_bd (A 0 0 1)
  have hq9 := hM.q
  refine pw_aload_n C dL_law_512 rfl ?_
  refine pw_aload_n C dL_law_513 rfl ?_
  refine pw_iload C dL_law_514 rfl ?_
  refine pw_iconst C dL_law_516 ?_
  refine pw_iadd C dL_law_517 ?_
  refine pw_sld C hS hbb dL_law_518 (by omega) hL ?_
  refine pw_aload_n C dL_law_519 rfl ?_
  refine pw_iload C dL_law_520 rfl ?_
  refine pw_iconst C dL_law_522 ?_
  refine pw_iadd C dL_law_523 ?_
  refine pw_sld C hS hbb dL_law_524 (by omega) hL ?_
  refine pw_aload_n C dL_law_525 rfl ?_
  refine pw_cSWI C hX dL_law_526 (List.mem_of_getElem? (i := 740) (by decide +kernel)) mc_L_rival (w_rival hR hI.1.1 ho (by omega) (s := (sc xs (i + 1))) (f := (sc xs (i + 2))) (sc_r _) (sc_r _)) rfl rfl ⟨Nat.le_of_ble_eq_true rfl, Nat.le_of_ble_eq_true rfl⟩ (Nat.le_of_ble_eq_true rfl) (by show k + 1 ≤ 790825 ∧ n + 6 ≤ 6723630; omega) (fun r1 G1 M1 hq_ => ?_)
  obtain ⟨hr1, hG1, hR1, hO1, hv1⟩ := hq_
  rw [← hr1] at hR1 hv1
  have b1 : 0 ≤ r1 ∧ r1 ≤ 3 := by rw [hr1]; exact cd1_bd
  obtain ⟨hM1, hE1, ho1⟩ := aftW hM hE ho hG1 hO1
  clear hG1 hO1
  refine pw_istore C dL_law_529 (Nat.le_of_ble_eq_true rfl) rfl ?_
  refine pw_aload_n C dL_law_531 rfl ?_
  refine pw_aload_n C dL_law_532 rfl ?_
  refine pw_iload C dL_law_533 rfl ?_
  refine pw_iconst C dL_law_535 ?_
  refine pw_iadd C dL_law_536 ?_
  refine pw_sld C hS hbb dL_law_537 (by omega) hL ?_
  refine pw_aload_n C dL_law_538 rfl ?_
  refine pw_iload C dL_law_539 rfl ?_
  refine pw_iconst C dL_law_541 ?_
  refine pw_iadd C dL_law_542 ?_
  refine pw_sld C hS hbb dL_law_543 (by omega) hL ?_
  refine pw_cVI C hX dL_law_544 ml_L_125 mc_X10_rival (m_rival hM1 hI.1.1 hI.1.2.1  (s := (sc xs (i + 1))) (f := (sc xs (i + 2))) (sc_r _) (sc_r _)) kc_13 hM1.k rfl rfl ⟨Nat.le_of_ble_eq_true rfl, Nat.le_of_ble_eq_true rfl⟩ (Nat.le_of_ble_eq_true rfl) (by show k + 1 + 0 ≤ 790825 ∧ n + 6 + 0 ≤ 6723630; omega) (fun r2 G2 M2 hq_ => ?_)
  obtain ⟨hF2, hv2, D2, I2, hM2⟩ := hq_
  rw [← hr1] at hF2 hv2 hM2
  obtain ⟨A2, eA2⟩ : ∃ A2, (if r1 = 0 then (if A (100 + ((sc xs (i + 1)) * 4 + (sc xs (i + 2)))) 1 3 = -1 then aRiv A ((sc xs (i + 1)) * 4 + (sc xs (i + 2))) else A) else A) = A2 := ⟨_, rfl⟩
  rw [eA2] at hR1 hM2
  have hI2 : Inv A2 ∧ SN A2 := by
    rw [← eA2]
    by_cases h0 : r1 = 0
    · rw [if_pos h0]
      have hc := cd1_0 (hr1.symm.trans h0)
      exact (by split; exact ⟨hI.1.riv (by omega), hI.2.riv (by omega) hI.1.1⟩; exact hI)
    · rw [if_neg h0]; exact hI
  have hT2 : (A2 0 0 1 = A 0 0 1 ∧ (1 : Int) ≤ WT (A 0 0 1)) ∨ (A2 0 0 1 = A 0 0 1 + 1 ∧ (1 : Int) ≤ 21) := by
    rw [← eA2]
    by_cases h0 : r1 = 0
    · rw [if_pos h0]
      have hc := cd1_0 (hr1.symm.trans h0)
      exact (by split; exact Or.inl ⟨by unfold aRiv; rw [aup_n (by omega)], by omega⟩; exact Or.inl ⟨rfl, by omega⟩)
    · rw [if_neg h0]; exact Or.inl ⟨rfl, by omega⟩
  obtain ⟨hR2, hE2, ho2, hout, hth⟩ := aftM hR1 hM1 hE1 ho1 hB hF2
  have hov : r1 = 0 → M2 1 (B + 207) 0 = wr r2 := fun h => by rw [hout, hv1 h, hv2 h]
  have hLn : LJ X B (k + 1 + 0) (n + 6 + 0) (j + 1) G2 M2 A2 D2 I2 := ⟨hR2, hM2, hI2, hE2, ho2, hKB.go (c := 1) (by omega) hT2, by omega⟩
  have br2 : r1 = 0 → (r2 = 0 ∨ r2 = 1) := fun h => by rw [hv2 h]; exact (bI_01 _)
  refine pw_istore C dL_law_547 (Nat.le_of_ble_eq_true rfl) rfl ?_
  refine pw_aload_n C dL_law_549 rfl ?_
  refine pw_cVE C hX dL_law_550 ml_L_105 mc_X10_thrown (m_thrown hM2 hI2.1.1 hth) kc_13 hM2.k rfl rfl ⟨Nat.le_of_ble_eq_true rfl, Nat.le_of_ble_eq_true rfl⟩ (Nat.le_of_ble_eq_true rfl) (by show k + 1 + 0 + 0 ≤ 790825 ∧ n + 6 + 0 + 0 ≤ 6723630; omega) ?_
  refine pw_iload C dL_law_553 rfl ?_
  refine pw_icmp_eq (tgt := 560) C dL_law_555 (by decide) (by omega) (fun c_555 => ?_) (fun c_555 => ?_)
  rotate_left
  · exact absurd c_555 (by omega)
  refine pw_iload C dL_law_560 rfl ?_
  refine pw_if_ne (tgt := 584) C dL_law_562 (by decide) (by omega) (fun c_562 => ?_) (fun c_562 => ?_)
  · skip
    refine pw_goto (tgt := 1989) C dL_law_584 (by decide) ?_
    exact pw_locs (by exact ⟨rfl, cat_vR _, rfl, cat_vR _, rfl, cat_vR _, rfl, cat_vR _, rfl, rfl, trivial⟩) (kk _ _ _ _ _ _ _ hLn)
  · skip
    refine pw_aload_n C dL_law_565 rfl ?_
    refine pw_iconst C dL_law_566 ?_
    refine pw_lald C dL_law_567 ho2.1 (by rw [ho2.2]; omega) ?_
    rw [hov (by omega)]
    have br3 := br2 (by omega)
    refine pw_iload C dL_law_568 rfl ?_
    refine pw_if_eq (tgt := 577) C dL_law_570 (by decide) (by omega) (fun c_570 => ?_) (fun c_570 => ?_)
    · skip
      refine pw_lconst (v := 0) C dL_law_577 rfl ?_
      refine pw_lcmpE C dL_law_578 (by rw [show r2 = 0 by omega]; exact wr_0) ?_
      refine pw_ifL_eq (tgt := 584) C dL_law_579 (by decide) rfl ?_
      refine pw_goto (tgt := 1989) C dL_law_584 (by decide) ?_
      exact pw_locs (by exact ⟨rfl, cat_vR _, rfl, cat_vR _, rfl, cat_vR _, rfl, cat_vR _, rfl, rfl, trivial⟩) (kk _ _ _ _ _ _ _ hLn)
    · skip
      refine pw_lconst (v := 1) C dL_law_573 rfl ?_
      refine pw_goto (tgt := 578) C dL_law_574 (by decide) ?_
      refine pw_lcmpE C dL_law_578 (by rw [show r2 = 1 by omega]; exact wr_1) ?_
      refine pw_ifL_eq (tgt := 584) C dL_law_579 (by decide) rfl ?_
      refine pw_goto (tgt := 1989) C dL_law_584 (by decide) ?_
      exact pw_locs (by exact ⟨rfl, cat_vR _, rfl, cat_vR _, rfl, cat_vR _, rfl, cat_vR _, rfl, rfl, trivial⟩) (kk _ _ _ _ _ _ _ hLn)

set_option maxHeartbeats 4000000 in
set_option maxRecDepth 100000 in
theorem law_down {E : Ev} {tb : List ExceptionTableEntry} {X : Xv} {b L : Nat} {xs : Nat → Int32} {B j i : Int} {k n : Nat} {G M : Mm} {A : An} {D : Fn} {I : Int → Int} (C : Cx E code 9 RL tb room_1) (hX : E.1 = X) (hS : SC E b L xs) {bb : Int} (hbb : bb = (b : Int)) (hL : L ≤ 3072) (hJ : LJ X B k n j G M A D I) (hj : 0 ≤ j ∧ j < 512) (hi : 0 ≤ i ∧ i + 6 ≤ (L : Int)) (hB : 0 ≤ B) (kk : ∀ (G' M' : Mm) (k' n' : Nat) (A' : An) (D' : Fn) (I' : Int → Int), LJ X B k' n' (j + 1) G' M' A' D' I' → PW E G' M' k' n' 1989 [(0, 1, vR bb), (1, 1, vR B), (2, 1, vR (B + 202)), (3, 1, vR (B + 207)), (4, 1, vI i)] []) : PW E G M k n 587 [(0, 1, vR bb), (1, 1, vR B), (2, 1, vR (B + 202)), (3, 1, vR (B + 207)), (4, 1, vI i)] [] := by
  obtain ⟨hR, hM, hI, hE, ho, hKB, hn1⟩ := hJ
  have hnA := hI.1.1.n
  have hnS := hI.1.1.so.c
  have hk9 := hKB.room hnA.2.1.2 hj.2
  have hwt := WT_bd (A 0 0 1)
  have hq9 := hM.q
  refine pw_aload_n C dL_law_587 rfl ?_
  refine pw_aload_n C dL_law_588 rfl ?_
  refine pw_iload C dL_law_589 rfl ?_
  refine pw_iconst C dL_law_591 ?_
  refine pw_iadd C dL_law_592 ?_
  refine pw_sld C hS hbb dL_law_593 (by omega) hL ?_
  refine pw_aload_n C dL_law_594 rfl ?_
  refine pw_iload C dL_law_595 rfl ?_
  refine pw_iconst C dL_law_597 ?_
  refine pw_iadd C dL_law_598 ?_
  refine pw_sld C hS hbb dL_law_599 (by omega) hL ?_
  refine pw_aload_n C dL_law_600 rfl ?_
  refine pw_cSWI C hX dL_law_601 (List.mem_of_getElem? (i := 747) (by decide +kernel)) mc_L_down (w_down hR hI.1.1 ho (by omega) (l := (sc xs (i + 1))) (m := (sc xs (i + 2))) (sc_r _) (sc_r _)) rfl rfl ⟨Nat.le_of_ble_eq_true rfl, Nat.le_of_ble_eq_true rfl⟩ (Nat.le_of_ble_eq_true rfl) (by show k + 1 ≤ 790825 ∧ n + 6 ≤ 6723630; omega) (fun r1 G1 M1 hq_ => ?_)
  obtain ⟨hr1, hG1, hR1, hO1, hv1⟩ := hq_
  rw [← hr1] at hR1 hv1
  have b1 : 0 ≤ r1 ∧ r1 ≤ 3 := by rw [hr1]; exact cd2_bd
  obtain ⟨hM1, hE1, ho1⟩ := aftW hM hE ho hG1 hO1
  clear hG1 hO1
  refine pw_istore C dL_law_604 (Nat.le_of_ble_eq_true rfl) rfl ?_
  refine pw_aload_n C dL_law_606 rfl ?_
  refine pw_aload_n C dL_law_607 rfl ?_
  refine pw_iload C dL_law_608 rfl ?_
  refine pw_iconst C dL_law_610 ?_
  refine pw_iadd C dL_law_611 ?_
  refine pw_sld C hS hbb dL_law_612 (by omega) hL ?_
  refine pw_aload_n C dL_law_613 rfl ?_
  refine pw_iload C dL_law_614 rfl ?_
  refine pw_iconst C dL_law_616 ?_
  refine pw_iadd C dL_law_617 ?_
  refine pw_sld C hS hbb dL_law_618 (by omega) hL ?_
  refine pw_cVI C hX dL_law_619 ml_L_128 mc_X10_down (m_down hM1 hI.1.1 hI.1.2.1  (l := (sc xs (i + 1))) (m := (sc xs (i + 2))) (sc_r _) (sc_r _)) kc_13 hM1.k rfl rfl ⟨Nat.le_of_ble_eq_true rfl, Nat.le_of_ble_eq_true rfl⟩ (Nat.le_of_ble_eq_true rfl) (by show k + 1 + 0 ≤ 790825 ∧ n + 6 + 0 ≤ 6723630; omega) (fun r2 G2 M2 hq_ => ?_)
  obtain ⟨hF2, hv2, D2, I2, hM2⟩ := hq_
  rw [← hr1] at hF2 hv2 hM2
  obtain ⟨A2, eA2⟩ : ∃ A2, (if r1 = 0 then (aDwn A (sc xs (i + 1)) (sc xs (i + 2))) else A) = A2 := ⟨_, rfl⟩
  rw [eA2] at hR1 hM2
  have hI2 : Inv A2 ∧ SN A2 := by
    rw [← eA2]
    by_cases h0 : r1 = 0
    · rw [if_pos h0]
      have hc := cd2_0 (hr1.symm.trans h0)
      exact ⟨hI.1.dwn hc.1 hc.2, hI.2.dwn hc.1.1⟩
    · rw [if_neg h0]; exact hI
  have hT2 : (A2 0 0 1 = A 0 0 1 ∧ (1 : Int) ≤ WT (A 0 0 1)) ∨ (A2 0 0 1 = A 0 0 1 + 1 ∧ (1 : Int) ≤ 21) := by
    rw [← eA2]
    by_cases h0 : r1 = 0
    · rw [if_pos h0]
      have hc := cd2_0 (hr1.symm.trans h0)
      exact Or.inl ⟨by unfold aDwn; rw [aup_n (by omega)], by omega⟩
    · rw [if_neg h0]; exact Or.inl ⟨rfl, by omega⟩
  obtain ⟨hR2, hE2, ho2, hout, hth⟩ := aftM hR1 hM1 hE1 ho1 hB hF2
  have hov : r1 = 0 → M2 1 (B + 207) 0 = wr r2 := fun h => by rw [hout, hv1 h, hv2 h]
  have hLn : LJ X B (k + 1 + 0) (n + 6 + 0) (j + 1) G2 M2 A2 D2 I2 := ⟨hR2, hM2, hI2, hE2, ho2, hKB.go (c := 1) (by omega) hT2, by omega⟩
  refine pw_istore C dL_law_622 (Nat.le_of_ble_eq_true rfl) rfl ?_
  refine pw_aload_n C dL_law_624 rfl ?_
  refine pw_cVE C hX dL_law_625 ml_L_105 mc_X10_thrown (m_thrown hM2 hI2.1.1 hth) kc_13 hM2.k rfl rfl ⟨Nat.le_of_ble_eq_true rfl, Nat.le_of_ble_eq_true rfl⟩ (Nat.le_of_ble_eq_true rfl) (by show k + 1 + 0 + 0 ≤ 790825 ∧ n + 6 + 0 + 0 ≤ 6723630; omega) ?_
  refine pw_iload C dL_law_628 rfl ?_
  refine pw_icmp_eq (tgt := 635) C dL_law_630 (by decide) (by omega) (fun c_630 => ?_) (fun c_630 => ?_)
  rotate_left
  · exact absurd c_630 (by omega)
  refine pw_iload C dL_law_635 rfl ?_
  refine pw_if_ne (tgt := 652) C dL_law_637 (by decide) (by omega) (fun c_637 => ?_) (fun c_637 => ?_)
  · skip
    refine pw_goto (tgt := 1989) C dL_law_652 (by decide) ?_
    exact pw_locs (by exact ⟨rfl, cat_vR _, rfl, cat_vR _, rfl, cat_vR _, rfl, cat_vR _, rfl, rfl, trivial⟩) (kk _ _ _ _ _ _ _ hLn)
  · skip
    refine pw_aload_n C dL_law_640 rfl ?_
    refine pw_iconst C dL_law_641 ?_
    refine pw_lald C dL_law_642 ho2.1 (by rw [ho2.2]; omega) ?_
    rw [hov (by omega)]
    refine pw_iload C dL_law_643 rfl ?_
    refine pw_i2lW C dL_law_645 ?_
    refine pw_lcmpE C dL_law_646 rfl ?_
    refine pw_ifL_eq (tgt := 652) C dL_law_647 (by decide) rfl ?_
    refine pw_goto (tgt := 1989) C dL_law_652 (by decide) ?_
    exact pw_locs (by exact ⟨rfl, cat_vR _, rfl, cat_vR _, rfl, cat_vR _, rfl, cat_vR _, rfl, rfl, trivial⟩) (kk _ _ _ _ _ _ _ hLn)

set_option maxHeartbeats 4000000 in
set_option maxRecDepth 100000 in
theorem law_file {E : Ev} {tb : List ExceptionTableEntry} {X : Xv} {b L : Nat} {xs : Nat → Int32} {B j i : Int} {k n : Nat} {G M : Mm} {A : An} {D : Fn} {I : Int → Int} (C : Cx E code 9 RL tb room_1) (hX : E.1 = X) (hS : SC E b L xs) {bb : Int} (hbb : bb = (b : Int)) (hL : L ≤ 3072) (hJ : LJ X B k n j G M A D I) (hj : 0 ≤ j ∧ j < 512) (hi : 0 ≤ i ∧ i + 6 ≤ (L : Int)) (hB : 0 ≤ B) (kk : ∀ (G' M' : Mm) (k' n' : Nat) (A' : An) (D' : Fn) (I' : Int → Int), LJ X B k' n' (j + 1) G' M' A' D' I' → PW E G' M' k' n' 1989 [(0, 1, vR bb), (1, 1, vR B), (2, 1, vR (B + 202)), (3, 1, vR (B + 207)), (4, 1, vI i)] []) : PW E G M k n 655 [(0, 1, vR bb), (1, 1, vR B), (2, 1, vR (B + 202)), (3, 1, vR (B + 207)), (4, 1, vI i)] [] := by
  obtain ⟨hR, hM, hI, hE, ho, hKB, hn1⟩ := hJ
  have hnA := hI.1.1.n
  have hnS := hI.1.1.so.c
  have hk9 := hKB.room hnA.2.1.2 hj.2
  have hwt := WT_bd (A 0 0 1)
  have hq9 := hM.q
  refine pw_aload_n C dL_law_655 rfl ?_
  refine pw_aload_n C dL_law_656 rfl ?_
  refine pw_iload C dL_law_657 rfl ?_
  refine pw_iconst C dL_law_659 ?_
  refine pw_iadd C dL_law_660 ?_
  refine pw_sld C hS hbb dL_law_661 (by omega) hL ?_
  refine pw_aload_n C dL_law_662 rfl ?_
  refine pw_iload C dL_law_663 rfl ?_
  refine pw_iconst C dL_law_665 ?_
  refine pw_iadd C dL_law_666 ?_
  refine pw_sld C hS hbb dL_law_667 (by omega) hL ?_
  refine pw_aload_n C dL_law_668 rfl ?_
  refine pw_iload C dL_law_669 rfl ?_
  refine pw_iconst C dL_law_671 ?_
  refine pw_iadd C dL_law_672 ?_
  refine pw_sld C hS hbb dL_law_673 (by omega) hL ?_
  refine pw_aload_n C dL_law_674 rfl ?_
  refine pw_iload C dL_law_675 rfl ?_
  refine pw_iconst C dL_law_677 ?_
  refine pw_iadd C dL_law_678 ?_
  refine pw_sld C hS hbb dL_law_679 (by omega) hL ?_
  refine pw_if_eq (tgt := 687) C dL_law_680 (by decide) (sc_r _) (fun c_680 => ?_) (fun c_680 => ?_)
  · skip
    refine pw_iconst C dL_law_687 ?_
    refine pw_aload_n C dL_law_688 rfl ?_
    refine pw_iload C dL_law_689 rfl ?_
    refine pw_iconst C dL_law_691 ?_
    refine pw_iadd C dL_law_692 ?_
    refine pw_sld C hS hbb dL_law_693 (by omega) hL ?_
    refine pw_aload_n C dL_law_694 rfl ?_
    refine pw_cSWI C hX dL_law_695 (List.mem_of_getElem? (i := 755) (by decide +kernel)) mc_L_file (w_file hR hI.1.1 ho (by omega) (s := (sc xs (i + 1))) (k := (sc xs (i + 2))) (set := (sc xs (i + 3))) (g := 0) (hd := (sc xs (i + 5))) (sc_r _) (sc_r _) (sc_r _) (sc_r _) (by omega)) rfl rfl ⟨Nat.le_of_ble_eq_true rfl, Nat.le_of_ble_eq_true rfl⟩ (Nat.le_of_ble_eq_true rfl) (by show k + 1 ≤ 790825 ∧ n + 6 ≤ 6723630; omega) (fun r1 G1 M1 hq_ => ?_)
    obtain ⟨hr1, hG1, hR1, hO1, hv1⟩ := hq_
    rw [← hr1] at hR1 hv1
    have b1 : 0 ≤ r1 ∧ r1 ≤ 3 := by rw [hr1]; exact cd3_bd
    obtain ⟨hM1, hE1, ho1⟩ := aftW hM hE ho hG1 hO1
    clear hG1 hO1
    refine pw_istore C dL_law_698 (Nat.le_of_ble_eq_true rfl) rfl ?_
    refine pw_aload_n C dL_law_700 rfl ?_
    refine pw_aload_n C dL_law_701 rfl ?_
    refine pw_iload C dL_law_702 rfl ?_
    refine pw_iconst C dL_law_704 ?_
    refine pw_iadd C dL_law_705 ?_
    refine pw_sld C hS hbb dL_law_706 (by omega) hL ?_
    refine pw_aload_n C dL_law_707 rfl ?_
    refine pw_iload C dL_law_708 rfl ?_
    refine pw_iconst C dL_law_710 ?_
    refine pw_iadd C dL_law_711 ?_
    refine pw_sld C hS hbb dL_law_712 (by omega) hL ?_
    refine pw_aload_n C dL_law_713 rfl ?_
    refine pw_iload C dL_law_714 rfl ?_
    refine pw_iconst C dL_law_716 ?_
    refine pw_iadd C dL_law_717 ?_
    refine pw_sld C hS hbb dL_law_718 (by omega) hL ?_
    refine pw_aload_n C dL_law_719 rfl ?_
    refine pw_iload C dL_law_720 rfl ?_
    refine pw_iconst C dL_law_722 ?_
    refine pw_iadd C dL_law_723 ?_
    refine pw_sld C hS hbb dL_law_724 (by omega) hL ?_
    refine pw_if_eq (tgt := 732) C dL_law_725 (by decide) (sc_r _) (fun c_725 => ?_) (fun c_725 => ?_)
    rotate_left
    · exact absurd c_725 (by omega)
    refine pw_iconst C dL_law_732 ?_
    refine pw_aload_n C dL_law_733 rfl ?_
    refine pw_iload C dL_law_734 rfl ?_
    refine pw_iconst C dL_law_736 ?_
    refine pw_iadd C dL_law_737 ?_
    refine pw_sld C hS hbb dL_law_738 (by omega) hL ?_
    refine pw_cVI C hX dL_law_739 ml_L_132 mc_X10_file (m_file hM1 hI.1.1 hI.1.2.1 hI.1.2.2 (s := (sc xs (i + 1))) (k := (sc xs (i + 2))) (set := (sc xs (i + 3))) (g := 0) (hd := (sc xs (i + 5))) (sc_r _) (sc_r _) (sc_r _) (sc_r _) (by omega)) kc_13 hM1.k rfl rfl ⟨Nat.le_of_ble_eq_true rfl, Nat.le_of_ble_eq_true rfl⟩ (Nat.le_of_ble_eq_true rfl) (by show k + 1 + 4 ≤ 790825 ∧ n + 6 + 118 ≤ 6723630; omega) (fun r2 G2 M2 hq_ => ?_)
    obtain ⟨hF2, hv2, D2, I2, hM2⟩ := hq_
    rw [← hr1] at hF2 hv2 hM2
    obtain ⟨A2, eA2⟩ : ∃ A2, (if r1 = 0 then (if ¬ hv A (sc xs (i + 1)) (sc xs (i + 3)) 0 = 4 then A else if (sc xs (i + 2)) = 0 ∧ ¬ bc (sc xs (i + 3)) = 1 then A else aFil A (sc xs (i + 1)) (sc xs (i + 2)) (sc xs (i + 3)) 0 (sc xs (i + 5)) (-1)) else A) = A2 := ⟨_, rfl⟩
    rw [eA2] at hR1 hM2
    have hI2 : Inv A2 ∧ SN A2 := by
      rw [← eA2]
      by_cases h0 : r1 = 0
      · rw [if_pos h0]
        have hc := cd3_0 (hr1.symm.trans h0)
        exact (by split; exact hI; next h4 => split; exact hI; exact ⟨hI.1.fil hc.2.2 hc.1 (by omega) (by omega) (by omega) (by omega) hc.2.1.2.2 (by omega) (Decidable.not_not.mp h4), fil_SN hI.1.1 hI.2⟩)
      · rw [if_neg h0]; exact hI
    have hT2 : (A2 0 0 1 = A 0 0 1 ∧ (5 : Int) ≤ WT (A 0 0 1)) ∨ (A2 0 0 1 = A 0 0 1 + 1 ∧ (5 : Int) ≤ 21) := by
      rw [← eA2]
      by_cases h0 : r1 = 0
      · rw [if_pos h0]
        have hc := cd3_0 (hr1.symm.trans h0)
        exact (by split; exact Or.inl ⟨rfl, by omega⟩; split; exact Or.inl ⟨rfl, by omega⟩; exact Or.inr ⟨fil_1 hI.1.1, by omega⟩)
      · rw [if_neg h0]; exact Or.inl ⟨rfl, by omega⟩
    obtain ⟨hR2, hE2, ho2, hout, hth⟩ := aftM hR1 hM1 hE1 ho1 hB hF2
    have hov : r1 = 0 → M2 1 (B + 207) 0 = wr r2 := fun h => by rw [hout, hv1 h, hv2 h]
    have hLn : LJ X B (k + 1 + 4) (n + 6 + 118) (j + 1) G2 M2 A2 D2 I2 := ⟨hR2, hM2, hI2, hE2, ho2, hKB.go (c := 5) (by omega) hT2, by omega⟩
    refine pw_istore C dL_law_742 (Nat.le_of_ble_eq_true rfl) rfl ?_
    refine pw_aload_n C dL_law_744 rfl ?_
    refine pw_cVE C hX dL_law_745 ml_L_105 mc_X10_thrown (m_thrown hM2 hI2.1.1 hth) kc_13 hM2.k rfl rfl ⟨Nat.le_of_ble_eq_true rfl, Nat.le_of_ble_eq_true rfl⟩ (Nat.le_of_ble_eq_true rfl) (by show k + 1 + 4 + 0 ≤ 790825 ∧ n + 6 + 118 + 0 ≤ 6723630; omega) ?_
    refine pw_iload C dL_law_748 rfl ?_
    refine pw_icmp_eq (tgt := 755) C dL_law_750 (by decide) (by omega) (fun c_750 => ?_) (fun c_750 => ?_)
    rotate_left
    · exact absurd c_750 (by omega)
    refine pw_iload C dL_law_755 rfl ?_
    refine pw_if_ne (tgt := 772) C dL_law_757 (by decide) (by omega) (fun c_757 => ?_) (fun c_757 => ?_)
    · skip
      refine pw_goto (tgt := 1989) C dL_law_772 (by decide) ?_
      exact pw_locs (by exact ⟨rfl, cat_vR _, rfl, cat_vR _, rfl, cat_vR _, rfl, cat_vR _, rfl, rfl, trivial⟩) (kk _ _ _ _ _ _ _ hLn)
    · skip
      refine pw_aload_n C dL_law_760 rfl ?_
      refine pw_iconst C dL_law_761 ?_
      refine pw_lald C dL_law_762 ho2.1 (by rw [ho2.2]; omega) ?_
      rw [hov (by omega)]
      refine pw_iload C dL_law_763 rfl ?_
      refine pw_i2lW C dL_law_765 ?_
      refine pw_lcmpE C dL_law_766 rfl ?_
      refine pw_ifL_eq (tgt := 772) C dL_law_767 (by decide) rfl ?_
      refine pw_goto (tgt := 1989) C dL_law_772 (by decide) ?_
      exact pw_locs (by exact ⟨rfl, cat_vR _, rfl, cat_vR _, rfl, cat_vR _, rfl, cat_vR _, rfl, rfl, trivial⟩) (kk _ _ _ _ _ _ _ hLn)
  · skip
    refine pw_iconst C dL_law_683 ?_
    refine pw_goto (tgt := 688) C dL_law_684 (by decide) ?_
    refine pw_aload_n C dL_law_688 rfl ?_
    refine pw_iload C dL_law_689 rfl ?_
    refine pw_iconst C dL_law_691 ?_
    refine pw_iadd C dL_law_692 ?_
    refine pw_sld C hS hbb dL_law_693 (by omega) hL ?_
    refine pw_aload_n C dL_law_694 rfl ?_
    refine pw_cSWI C hX dL_law_695 (List.mem_of_getElem? (i := 755) (by decide +kernel)) mc_L_file (w_file hR hI.1.1 ho (by omega) (s := (sc xs (i + 1))) (k := (sc xs (i + 2))) (set := (sc xs (i + 3))) (g := 1) (hd := (sc xs (i + 5))) (sc_r _) (sc_r _) (sc_r _) (sc_r _) (by omega)) rfl rfl ⟨Nat.le_of_ble_eq_true rfl, Nat.le_of_ble_eq_true rfl⟩ (Nat.le_of_ble_eq_true rfl) (by show k + 1 ≤ 790825 ∧ n + 6 ≤ 6723630; omega) (fun r1 G1 M1 hq_ => ?_)
    obtain ⟨hr1, hG1, hR1, hO1, hv1⟩ := hq_
    rw [← hr1] at hR1 hv1
    have b1 : 0 ≤ r1 ∧ r1 ≤ 3 := by rw [hr1]; exact cd3_bd
    obtain ⟨hM1, hE1, ho1⟩ := aftW hM hE ho hG1 hO1
    clear hG1 hO1
    refine pw_istore C dL_law_698 (Nat.le_of_ble_eq_true rfl) rfl ?_
    refine pw_aload_n C dL_law_700 rfl ?_
    refine pw_aload_n C dL_law_701 rfl ?_
    refine pw_iload C dL_law_702 rfl ?_
    refine pw_iconst C dL_law_704 ?_
    refine pw_iadd C dL_law_705 ?_
    refine pw_sld C hS hbb dL_law_706 (by omega) hL ?_
    refine pw_aload_n C dL_law_707 rfl ?_
    refine pw_iload C dL_law_708 rfl ?_
    refine pw_iconst C dL_law_710 ?_
    refine pw_iadd C dL_law_711 ?_
    refine pw_sld C hS hbb dL_law_712 (by omega) hL ?_
    refine pw_aload_n C dL_law_713 rfl ?_
    refine pw_iload C dL_law_714 rfl ?_
    refine pw_iconst C dL_law_716 ?_
    refine pw_iadd C dL_law_717 ?_
    refine pw_sld C hS hbb dL_law_718 (by omega) hL ?_
    refine pw_aload_n C dL_law_719 rfl ?_
    refine pw_iload C dL_law_720 rfl ?_
    refine pw_iconst C dL_law_722 ?_
    refine pw_iadd C dL_law_723 ?_
    refine pw_sld C hS hbb dL_law_724 (by omega) hL ?_
    refine pw_if_eq (tgt := 732) C dL_law_725 (by decide) (sc_r _) (fun c_725 => ?_) (fun c_725 => ?_)
    · exact absurd c_725 (by omega)
    refine pw_iconst C dL_law_728 ?_
    refine pw_goto (tgt := 733) C dL_law_729 (by decide) ?_
    refine pw_aload_n C dL_law_733 rfl ?_
    refine pw_iload C dL_law_734 rfl ?_
    refine pw_iconst C dL_law_736 ?_
    refine pw_iadd C dL_law_737 ?_
    refine pw_sld C hS hbb dL_law_738 (by omega) hL ?_
    refine pw_cVI C hX dL_law_739 ml_L_132 mc_X10_file (m_file hM1 hI.1.1 hI.1.2.1 hI.1.2.2 (s := (sc xs (i + 1))) (k := (sc xs (i + 2))) (set := (sc xs (i + 3))) (g := 1) (hd := (sc xs (i + 5))) (sc_r _) (sc_r _) (sc_r _) (sc_r _) (by omega)) kc_13 hM1.k rfl rfl ⟨Nat.le_of_ble_eq_true rfl, Nat.le_of_ble_eq_true rfl⟩ (Nat.le_of_ble_eq_true rfl) (by show k + 1 + 4 ≤ 790825 ∧ n + 6 + 118 ≤ 6723630; omega) (fun r2 G2 M2 hq_ => ?_)
    obtain ⟨hF2, hv2, D2, I2, hM2⟩ := hq_
    rw [← hr1] at hF2 hv2 hM2
    obtain ⟨A2, eA2⟩ : ∃ A2, (if r1 = 0 then (if ¬ hv A (sc xs (i + 1)) (sc xs (i + 3)) 1 = 4 then A else if (sc xs (i + 2)) = 0 ∧ ¬ bc (sc xs (i + 3)) = 1 then A else aFil A (sc xs (i + 1)) (sc xs (i + 2)) (sc xs (i + 3)) 1 (sc xs (i + 5)) (-1)) else A) = A2 := ⟨_, rfl⟩
    rw [eA2] at hR1 hM2
    have hI2 : Inv A2 ∧ SN A2 := by
      rw [← eA2]
      by_cases h0 : r1 = 0
      · rw [if_pos h0]
        have hc := cd3_0 (hr1.symm.trans h0)
        exact (by split; exact hI; next h4 => split; exact hI; exact ⟨hI.1.fil hc.2.2 hc.1 (by omega) (by omega) (by omega) (by omega) hc.2.1.2.2 (by omega) (Decidable.not_not.mp h4), fil_SN hI.1.1 hI.2⟩)
      · rw [if_neg h0]; exact hI
    have hT2 : (A2 0 0 1 = A 0 0 1 ∧ (5 : Int) ≤ WT (A 0 0 1)) ∨ (A2 0 0 1 = A 0 0 1 + 1 ∧ (5 : Int) ≤ 21) := by
      rw [← eA2]
      by_cases h0 : r1 = 0
      · rw [if_pos h0]
        have hc := cd3_0 (hr1.symm.trans h0)
        exact (by split; exact Or.inl ⟨rfl, by omega⟩; split; exact Or.inl ⟨rfl, by omega⟩; exact Or.inr ⟨fil_1 hI.1.1, by omega⟩)
      · rw [if_neg h0]; exact Or.inl ⟨rfl, by omega⟩
    obtain ⟨hR2, hE2, ho2, hout, hth⟩ := aftM hR1 hM1 hE1 ho1 hB hF2
    have hov : r1 = 0 → M2 1 (B + 207) 0 = wr r2 := fun h => by rw [hout, hv1 h, hv2 h]
    have hLn : LJ X B (k + 1 + 4) (n + 6 + 118) (j + 1) G2 M2 A2 D2 I2 := ⟨hR2, hM2, hI2, hE2, ho2, hKB.go (c := 5) (by omega) hT2, by omega⟩
    refine pw_istore C dL_law_742 (Nat.le_of_ble_eq_true rfl) rfl ?_
    refine pw_aload_n C dL_law_744 rfl ?_
    refine pw_cVE C hX dL_law_745 ml_L_105 mc_X10_thrown (m_thrown hM2 hI2.1.1 hth) kc_13 hM2.k rfl rfl ⟨Nat.le_of_ble_eq_true rfl, Nat.le_of_ble_eq_true rfl⟩ (Nat.le_of_ble_eq_true rfl) (by show k + 1 + 4 + 0 ≤ 790825 ∧ n + 6 + 118 + 0 ≤ 6723630; omega) ?_
    refine pw_iload C dL_law_748 rfl ?_
    refine pw_icmp_eq (tgt := 755) C dL_law_750 (by decide) (by omega) (fun c_750 => ?_) (fun c_750 => ?_)
    rotate_left
    · exact absurd c_750 (by omega)
    refine pw_iload C dL_law_755 rfl ?_
    refine pw_if_ne (tgt := 772) C dL_law_757 (by decide) (by omega) (fun c_757 => ?_) (fun c_757 => ?_)
    · skip
      refine pw_goto (tgt := 1989) C dL_law_772 (by decide) ?_
      exact pw_locs (by exact ⟨rfl, cat_vR _, rfl, cat_vR _, rfl, cat_vR _, rfl, cat_vR _, rfl, rfl, trivial⟩) (kk _ _ _ _ _ _ _ hLn)
    · skip
      refine pw_aload_n C dL_law_760 rfl ?_
      refine pw_iconst C dL_law_761 ?_
      refine pw_lald C dL_law_762 ho2.1 (by rw [ho2.2]; omega) ?_
      rw [hov (by omega)]
      refine pw_iload C dL_law_763 rfl ?_
      refine pw_i2lW C dL_law_765 ?_
      refine pw_lcmpE C dL_law_766 rfl ?_
      refine pw_ifL_eq (tgt := 772) C dL_law_767 (by decide) rfl ?_
      refine pw_goto (tgt := 1989) C dL_law_772 (by decide) ?_
      exact pw_locs (by exact ⟨rfl, cat_vR _, rfl, cat_vR _, rfl, cat_vR _, rfl, cat_vR _, rfl, rfl, trivial⟩) (kk _ _ _ _ _ _ _ hLn)

set_option maxHeartbeats 4000000 in
set_option maxRecDepth 100000 in
theorem law_correct {E : Ev} {tb : List ExceptionTableEntry} {X : Xv} {b L : Nat} {xs : Nat → Int32} {B j i : Int} {k n : Nat} {G M : Mm} {A : An} {D : Fn} {I : Int → Int} (C : Cx E code 9 RL tb room_1) (hX : E.1 = X) (hS : SC E b L xs) {bb : Int} (hbb : bb = (b : Int)) (hL : L ≤ 3072) (hJ : LJ X B k n j G M A D I) (hj : 0 ≤ j ∧ j < 512) (hi : 0 ≤ i ∧ i + 6 ≤ (L : Int)) (hB : 0 ≤ B) (kk : ∀ (G' M' : Mm) (k' n' : Nat) (A' : An) (D' : Fn) (I' : Int → Int), LJ X B k' n' (j + 1) G' M' A' D' I' → PW E G' M' k' n' 1989 [(0, 1, vR bb), (1, 1, vR B), (2, 1, vR (B + 202)), (3, 1, vR (B + 207)), (4, 1, vI i)] []) : PW E G M k n 775 [(0, 1, vR bb), (1, 1, vR B), (2, 1, vR (B + 202)), (3, 1, vR (B + 207)), (4, 1, vI i)] [] := by
  obtain ⟨hR, hM, hI, hE, ho, hKB, hn1⟩ := hJ
  have hnA := hI.1.1.n
  have hnS := hI.1.1.so.c
  have hk9 := hKB.room hnA.2.1.2 hj.2
  have hwt := WT_bd (A 0 0 1)
  have hq9 := hM.q
  refine pw_aload_n C dL_law_775 rfl ?_
  refine pw_aload_n C dL_law_776 rfl ?_
  refine pw_iload C dL_law_777 rfl ?_
  refine pw_iconst C dL_law_779 ?_
  refine pw_iadd C dL_law_780 ?_
  refine pw_sld C hS hbb dL_law_781 (by omega) hL ?_
  refine pw_aload_n C dL_law_782 rfl ?_
  refine pw_iload C dL_law_783 rfl ?_
  refine pw_iconst C dL_law_785 ?_
  refine pw_iadd C dL_law_786 ?_
  refine pw_sld C hS hbb dL_law_787 (by omega) hL ?_
  refine pw_aload_n C dL_law_788 rfl ?_
  refine pw_cSWI C hX dL_law_789 (List.mem_of_getElem? (i := 781) (by decide +kernel)) mc_L_correct (w_correct hR hI.1.1 ho (by omega) (t := (sc xs (i + 1))) (f := (sc xs (i + 2))) (sc_r _) (sc_r _)) rfl rfl ⟨Nat.le_of_ble_eq_true rfl, Nat.le_of_ble_eq_true rfl⟩ (Nat.le_of_ble_eq_true rfl) (by show k + 1 ≤ 790825 ∧ n + 6 ≤ 6723630; omega) (fun r1 G1 M1 hq_ => ?_)
  obtain ⟨hr1, hG1, hR1, hO1, hv1⟩ := hq_
  rw [← hr1] at hR1 hv1
  have b1 : 0 ≤ r1 ∧ r1 ≤ 3 := by rw [hr1]; exact cd3_bd
  obtain ⟨hM1, hE1, ho1⟩ := aftW hM hE ho hG1 hO1
  clear hG1 hO1
  refine pw_istore C dL_law_792 (Nat.le_of_ble_eq_true rfl) rfl ?_
  refine pw_aload_n C dL_law_794 rfl ?_
  refine pw_aload_n C dL_law_795 rfl ?_
  refine pw_iload C dL_law_796 rfl ?_
  refine pw_iconst C dL_law_798 ?_
  refine pw_iadd C dL_law_799 ?_
  refine pw_sld C hS hbb dL_law_800 (by omega) hL ?_
  refine pw_aload_n C dL_law_801 rfl ?_
  refine pw_iload C dL_law_802 rfl ?_
  refine pw_iconst C dL_law_804 ?_
  refine pw_iadd C dL_law_805 ?_
  refine pw_sld C hS hbb dL_law_806 (by omega) hL ?_
  refine pw_cVI C hX dL_law_807 ml_L_135 mc_X10_correct (m_correct hM1 hI.1.1 hI.1.2.1 hI.1.2.2 (t := (sc xs (i + 1))) (f := (sc xs (i + 2))) (sc_r _) (sc_r _)) kc_13 hM1.k rfl rfl ⟨Nat.le_of_ble_eq_true rfl, Nat.le_of_ble_eq_true rfl⟩ (Nat.le_of_ble_eq_true rfl) (by show k + 1 + 4 ≤ 790825 ∧ n + 6 + 118 ≤ 6723630; omega) (fun r2 G2 M2 hq_ => ?_)
  obtain ⟨hF2, hv2, D2, I2, hM2⟩ := hq_
  rw [← hr1] at hF2 hv2 hM2
  obtain ⟨A2, eA2⟩ : ∃ A2, (if r1 = 0 then (if A (100 + (A (200 + (sc xs (i + 1))) 1 0 * 4 + (sc xs (i + 2)))) 1 0 = -1 ∨ A (100 + (A (200 + (sc xs (i + 1))) 1 0 * 4 + (sc xs (i + 2)))) 1 0 = A (200 + (sc xs (i + 1))) 0 (sc xs (i + 2)) then A else aFil A (A (200 + (sc xs (i + 1))) 1 0) 2 (p2 (sc xs (i + 2))) 0 0 (sc xs (i + 1))) else A) = A2 := ⟨_, rfl⟩
  rw [eA2] at hR1 hM2
  have hI2 : Inv A2 ∧ SN A2 := by
    rw [← eA2]
    by_cases h0 : r1 = 0
    · rw [if_pos h0]
      have hc := cd3_0 (hr1.symm.trans h0)
      exact (by split; exact hI; next h4 => exact ⟨hI.1.fil hc.2.2.2 ⟨(hI.1.1.ta (sc xs (i + 1)) (by have := hI.1.1.n; omega)).s0.1, hI.1.2.2.2.2.2 (sc xs (i + 1)) hc.1.1 hc.1.2⟩ (by omega) (by omega) (by have := p2_bd hc.2.1.1; omega) (Or.inl rfl) (by omega) (by have := hI.1.1.n; omega) (hv_p2 hc.2.1.1 (fun q => h4 (Or.inl q))), fil_SN hI.1.1 hI.2⟩)
    · rw [if_neg h0]; exact hI
  have hT2 : (A2 0 0 1 = A 0 0 1 ∧ (5 : Int) ≤ WT (A 0 0 1)) ∨ (A2 0 0 1 = A 0 0 1 + 1 ∧ (5 : Int) ≤ 21) := by
    rw [← eA2]
    by_cases h0 : r1 = 0
    · rw [if_pos h0]
      have hc := cd3_0 (hr1.symm.trans h0)
      exact (by split; exact Or.inl ⟨rfl, by omega⟩; exact Or.inr ⟨fil_1 hI.1.1, by omega⟩)
    · rw [if_neg h0]; exact Or.inl ⟨rfl, by omega⟩
  obtain ⟨hR2, hE2, ho2, hout, hth⟩ := aftM hR1 hM1 hE1 ho1 hB hF2
  have hov : r1 = 0 → M2 1 (B + 207) 0 = wr r2 := fun h => by rw [hout, hv1 h, hv2 h]
  have hLn : LJ X B (k + 1 + 4) (n + 6 + 118) (j + 1) G2 M2 A2 D2 I2 := ⟨hR2, hM2, hI2, hE2, ho2, hKB.go (c := 5) (by omega) hT2, by omega⟩
  refine pw_istore C dL_law_810 (Nat.le_of_ble_eq_true rfl) rfl ?_
  refine pw_aload_n C dL_law_812 rfl ?_
  refine pw_cVE C hX dL_law_813 ml_L_105 mc_X10_thrown (m_thrown hM2 hI2.1.1 hth) kc_13 hM2.k rfl rfl ⟨Nat.le_of_ble_eq_true rfl, Nat.le_of_ble_eq_true rfl⟩ (Nat.le_of_ble_eq_true rfl) (by show k + 1 + 4 + 0 ≤ 790825 ∧ n + 6 + 118 + 0 ≤ 6723630; omega) ?_
  refine pw_iload C dL_law_816 rfl ?_
  refine pw_icmp_eq (tgt := 823) C dL_law_818 (by decide) (by omega) (fun c_818 => ?_) (fun c_818 => ?_)
  rotate_left
  · exact absurd c_818 (by omega)
  refine pw_iload C dL_law_823 rfl ?_
  refine pw_if_ne (tgt := 840) C dL_law_825 (by decide) (by omega) (fun c_825 => ?_) (fun c_825 => ?_)
  · skip
    refine pw_goto (tgt := 1989) C dL_law_840 (by decide) ?_
    exact pw_locs (by exact ⟨rfl, cat_vR _, rfl, cat_vR _, rfl, cat_vR _, rfl, cat_vR _, rfl, rfl, trivial⟩) (kk _ _ _ _ _ _ _ hLn)
  · skip
    refine pw_aload_n C dL_law_828 rfl ?_
    refine pw_iconst C dL_law_829 ?_
    refine pw_lald C dL_law_830 ho2.1 (by rw [ho2.2]; omega) ?_
    rw [hov (by omega)]
    refine pw_iload C dL_law_831 rfl ?_
    refine pw_i2lW C dL_law_833 ?_
    refine pw_lcmpE C dL_law_834 rfl ?_
    refine pw_ifL_eq (tgt := 840) C dL_law_835 (by decide) rfl ?_
    refine pw_goto (tgt := 1989) C dL_law_840 (by decide) ?_
    exact pw_locs (by exact ⟨rfl, cat_vR _, rfl, cat_vR _, rfl, cat_vR _, rfl, cat_vR _, rfl, rfl, trivial⟩) (kk _ _ _ _ _ _ _ hLn)

set_option maxHeartbeats 4000000 in
set_option maxRecDepth 100000 in
theorem law_kill {E : Ev} {tb : List ExceptionTableEntry} {X : Xv} {b L : Nat} {xs : Nat → Int32} {B j i : Int} {k n : Nat} {G M : Mm} {A : An} {D : Fn} {I : Int → Int} (C : Cx E code 9 RL tb room_1) (hX : E.1 = X) (hS : SC E b L xs) {bb : Int} (hbb : bb = (b : Int)) (hL : L ≤ 3072) (hJ : LJ X B k n j G M A D I) (hj : 0 ≤ j ∧ j < 512) (hi : 0 ≤ i ∧ i + 6 ≤ (L : Int)) (hB : 0 ≤ B) (kk : ∀ (G' M' : Mm) (k' n' : Nat) (A' : An) (D' : Fn) (I' : Int → Int), LJ X B k' n' (j + 1) G' M' A' D' I' → PW E G' M' k' n' 1989 [(0, 1, vR bb), (1, 1, vR B), (2, 1, vR (B + 202)), (3, 1, vR (B + 207)), (4, 1, vI i)] []) : PW E G M k n 843 [(0, 1, vR bb), (1, 1, vR B), (2, 1, vR (B + 202)), (3, 1, vR (B + 207)), (4, 1, vI i)] [] := by
  obtain ⟨hR, hM, hI, hE, ho, hKB, hn1⟩ := hJ
  have hnA := hI.1.1.n
  have hnS := hI.1.1.so.c
  have hk9 := hKB.room hnA.2.1.2 hj.2
  have hwt := WT_bd (A 0 0 1)
  have hq9 := hM.q
  refine pw_aload_n C dL_law_843 rfl ?_
  refine pw_aload_n C dL_law_844 rfl ?_
  refine pw_iload C dL_law_845 rfl ?_
  refine pw_iconst C dL_law_847 ?_
  refine pw_iadd C dL_law_848 ?_
  refine pw_sld C hS hbb dL_law_849 (by omega) hL ?_
  refine pw_aload_n C dL_law_850 rfl ?_
  refine pw_cSWI C hX dL_law_851 (List.mem_of_getElem? (i := 790) (by decide +kernel)) mc_L_kill (w_kill hR hI.1.1 ho (by omega) (t := (sc xs (i + 1))) (sc_r _)) rfl rfl ⟨Nat.le_of_ble_eq_true rfl, Nat.le_of_ble_eq_true rfl⟩ (Nat.le_of_ble_eq_true rfl) (by show k + 1 ≤ 790825 ∧ n + 6 ≤ 6723630; omega) (fun r1 G1 M1 hq_ => ?_)
  obtain ⟨hr1, hG1, hR1, hO1, hv1⟩ := hq_
  rw [← hr1] at hR1 hv1
  have b1 : 0 ≤ r1 ∧ r1 ≤ 3 := by rw [hr1]; exact cd2_bd
  obtain ⟨hM1, hE1, ho1⟩ := aftW hM hE ho hG1 hO1
  clear hG1 hO1
  refine pw_istore C dL_law_854 (Nat.le_of_ble_eq_true rfl) rfl ?_
  refine pw_aload_n C dL_law_856 rfl ?_
  refine pw_aload_n C dL_law_857 rfl ?_
  refine pw_iload C dL_law_858 rfl ?_
  refine pw_iconst C dL_law_860 ?_
  refine pw_iadd C dL_law_861 ?_
  refine pw_sld C hS hbb dL_law_862 (by omega) hL ?_
  refine pw_cVI C hX dL_law_863 ml_L_139 mc_X10_kill (m_kill hM1 hI.1.1 hI.1.2.1 hI.1.2.2 (t := (sc xs (i + 1))) (sc_r _)) kc_13 hM1.k rfl rfl ⟨Nat.le_of_ble_eq_true rfl, Nat.le_of_ble_eq_true rfl⟩ (Nat.le_of_ble_eq_true rfl) (by show k + 1 + 4 ≤ 790825 ∧ n + 6 + 118 ≤ 6723630; omega) (fun r2 G2 M2 hq_ => ?_)
  obtain ⟨hF2, hv2, D2, I2, hM2⟩ := hq_
  rw [← hr1] at hF2 hv2 hM2
  obtain ⟨A2, eA2⟩ : ∃ A2, (if r1 = 0 then (aKil A (sc xs (i + 1))) else A) = A2 := ⟨_, rfl⟩
  rw [eA2] at hR1 hM2
  have hI2 : Inv A2 ∧ SN A2 := by
    rw [← eA2]
    by_cases h0 : r1 = 0
    · rw [if_pos h0]
      have hc := cd2_0 (hr1.symm.trans h0)
      exact ⟨hI.1.kil hc.2.2 hc.1 hc.2.1.2, hI.2.kil hI.1.1 hc.1⟩
    · rw [if_neg h0]; exact hI
  have hT2 : (A2 0 0 1 = A 0 0 1 ∧ (5 : Int) ≤ WT (A 0 0 1)) ∨ (A2 0 0 1 = A 0 0 1 + 1 ∧ (5 : Int) ≤ 21) := by
    rw [← eA2]
    by_cases h0 : r1 = 0
    · rw [if_pos h0]
      have hc := cd2_0 (hr1.symm.trans h0)
      exact Or.inr ⟨aKil_1 hI.1.1 hc.1.1, by omega⟩
    · rw [if_neg h0]; exact Or.inl ⟨rfl, by omega⟩
  obtain ⟨hR2, hE2, ho2, hout, hth⟩ := aftM hR1 hM1 hE1 ho1 hB hF2
  have hov : r1 = 0 → M2 1 (B + 207) 0 = wr r2 := fun h => by rw [hout, hv1 h, hv2 h]
  have hLn : LJ X B (k + 1 + 4) (n + 6 + 118) (j + 1) G2 M2 A2 D2 I2 := ⟨hR2, hM2, hI2, hE2, ho2, hKB.go (c := 5) (by omega) hT2, by omega⟩
  refine pw_istore C dL_law_866 (Nat.le_of_ble_eq_true rfl) rfl ?_
  refine pw_aload_n C dL_law_868 rfl ?_
  refine pw_cVE C hX dL_law_869 ml_L_105 mc_X10_thrown (m_thrown hM2 hI2.1.1 hth) kc_13 hM2.k rfl rfl ⟨Nat.le_of_ble_eq_true rfl, Nat.le_of_ble_eq_true rfl⟩ (Nat.le_of_ble_eq_true rfl) (by show k + 1 + 4 + 0 ≤ 790825 ∧ n + 6 + 118 + 0 ≤ 6723630; omega) ?_
  refine pw_iload C dL_law_872 rfl ?_
  refine pw_icmp_eq (tgt := 879) C dL_law_874 (by decide) (by omega) (fun c_874 => ?_) (fun c_874 => ?_)
  rotate_left
  · exact absurd c_874 (by omega)
  refine pw_iload C dL_law_879 rfl ?_
  refine pw_if_ne (tgt := 896) C dL_law_881 (by decide) (by omega) (fun c_881 => ?_) (fun c_881 => ?_)
  · skip
    refine pw_goto (tgt := 1989) C dL_law_896 (by decide) ?_
    exact pw_locs (by exact ⟨rfl, cat_vR _, rfl, cat_vR _, rfl, cat_vR _, rfl, cat_vR _, rfl, rfl, trivial⟩) (kk _ _ _ _ _ _ _ hLn)
  · skip
    refine pw_aload_n C dL_law_884 rfl ?_
    refine pw_iconst C dL_law_885 ?_
    refine pw_lald C dL_law_886 ho2.1 (by rw [ho2.2]; omega) ?_
    rw [hov (by omega)]
    refine pw_iload C dL_law_887 rfl ?_
    refine pw_i2lW C dL_law_889 ?_
    refine pw_lcmpE C dL_law_890 rfl ?_
    refine pw_ifL_eq (tgt := 896) C dL_law_891 (by decide) rfl ?_
    refine pw_goto (tgt := 1989) C dL_law_896 (by decide) ?_
    exact pw_locs (by exact ⟨rfl, cat_vR _, rfl, cat_vR _, rfl, cat_vR _, rfl, cat_vR _, rfl, rfl, trivial⟩) (kk _ _ _ _ _ _ _ hLn)

set_option maxHeartbeats 4000000 in
set_option maxRecDepth 100000 in
theorem law_pass {E : Ev} {tb : List ExceptionTableEntry} {X : Xv} {b L : Nat} {xs : Nat → Int32} {B j i : Int} {k n : Nat} {G M : Mm} {A : An} {D : Fn} {I : Int → Int} (C : Cx E code 9 RL tb room_1) (hX : E.1 = X) (hS : SC E b L xs) {bb : Int} (hbb : bb = (b : Int)) (hL : L ≤ 3072) (hJ : LJ X B k n j G M A D I) (hj : 0 ≤ j ∧ j < 512) (hi : 0 ≤ i ∧ i + 6 ≤ (L : Int)) (hB : 0 ≤ B) (kk : ∀ (G' M' : Mm) (k' n' : Nat) (A' : An) (D' : Fn) (I' : Int → Int), LJ X B k' n' (j + 1) G' M' A' D' I' → PW E G' M' k' n' 1989 [(0, 1, vR bb), (1, 1, vR B), (2, 1, vR (B + 202)), (3, 1, vR (B + 207)), (4, 1, vI i)] []) : PW E G M k n 899 [(0, 1, vR bb), (1, 1, vR B), (2, 1, vR (B + 202)), (3, 1, vR (B + 207)), (4, 1, vI i)] [] := by
  obtain ⟨hR, hM, hI, hE, ho, hKB, hn1⟩ := hJ
  have hnA := hI.1.1.n
  have hnS := hI.1.1.so.c
  have hk9 := hKB.room hnA.2.1.2 hj.2
  have hwt := WT_bd (A 0 0 1)
  have hq9 := hM.q
  refine pw_aload_n C dL_law_899 rfl ?_
  refine pw_aload_n C dL_law_900 rfl ?_
  refine pw_iload C dL_law_901 rfl ?_
  refine pw_iconst C dL_law_903 ?_
  refine pw_iadd C dL_law_904 ?_
  refine pw_sld C hS hbb dL_law_905 (by omega) hL ?_
  refine pw_aload_n C dL_law_906 rfl ?_
  refine pw_cSWI C hX dL_law_907 (List.mem_of_getElem? (i := 802) (by decide +kernel)) mc_L_pass (w_pass hR hI.1.1 ho (by omega) (m := (sc xs (i + 1))) (sc_r _)) rfl rfl ⟨Nat.le_of_ble_eq_true rfl, Nat.le_of_ble_eq_true rfl⟩ (Nat.le_of_ble_eq_true rfl) (by show k + 1 ≤ 790825 ∧ n + 6 ≤ 6723630; omega) (fun r1 G1 M1 hq_ => ?_)
  obtain ⟨hr1, hG1, hR1, hO1, hv1⟩ := hq_
  rw [← hr1] at hR1 hv1
  have b1 : 0 ≤ r1 ∧ r1 ≤ 3 := by rw [hr1]; exact cd2_bd
  obtain ⟨hM1, hE1, ho1⟩ := aftW hM hE ho hG1 hO1
  clear hG1 hO1
  refine pw_istore C dL_law_910 (Nat.le_of_ble_eq_true rfl) rfl ?_
  refine pw_aload_n C dL_law_912 rfl ?_
  refine pw_aload_n C dL_law_913 rfl ?_
  refine pw_iload C dL_law_914 rfl ?_
  refine pw_iconst C dL_law_916 ?_
  refine pw_iadd C dL_law_917 ?_
  refine pw_sld C hS hbb dL_law_918 (by omega) hL ?_
  refine pw_cVI C hX dL_law_919 ml_L_142 mc_X10_pass (m_pass hM1 hI.1.1 hI.1.2.1 hI.1.2.2 (m9 := (sc xs (i + 1))) (sc_r _)) kc_13 hM1.k rfl rfl ⟨Nat.le_of_ble_eq_true rfl, Nat.le_of_ble_eq_true rfl⟩ (Nat.le_of_ble_eq_true rfl) (by show k + 1 + 99 ≤ 790825 ∧ n + 6 + 396 ≤ 6723630; omega) (fun r2 G2 M2 hq_ => ?_)
  obtain ⟨hF2, hv2, D2, I2, hM2⟩ := hq_
  rw [← hr1] at hF2 hv2 hM2
  obtain ⟨A2, eA2⟩ : ∃ A2, (if r1 = 0 then ((aPas A (sc xs (i + 1))).1) else A) = A2 := ⟨_, rfl⟩
  rw [eA2] at hR1 hM2
  have hI2 : Inv A2 ∧ SN A2 := by
    rw [← eA2]
    by_cases h0 : r1 = 0
    · rw [if_pos h0]
      have hc := cd2_0 (hr1.symm.trans h0)
      exact ⟨(hI.1.pas (m := (sc xs (i + 1))) (by omega) hc.2).1, hI.2.pas hI.1 (by omega) hc.2⟩
    · rw [if_neg h0]; exact hI
  have hT2 : (A2 0 0 1 = A 0 0 1 ∧ (100 : Int) ≤ WT (A 0 0 1)) ∨ (A2 0 0 1 = A 0 0 1 + 1 ∧ (100 : Int) ≤ 21) := by
    rw [← eA2]
    by_cases h0 : r1 = 0
    · rw [if_pos h0]
      have hc := cd2_0 (hr1.symm.trans h0)
      exact Or.inl ⟨by rw [(hI.1.pas (m := (sc xs (i + 1))) (by omega) hc.2).2 1, if_neg (by omega)], by omega⟩
    · rw [if_neg h0]; exact Or.inl ⟨rfl, by omega⟩
  obtain ⟨hR2, hE2, ho2, hout, hth⟩ := aftM hR1 hM1 hE1 ho1 hB hF2
  have hov : r1 = 0 → M2 1 (B + 207) 0 = wr r2 := fun h => by rw [hout, hv1 h, hv2 h]
  have hLn : LJ X B (k + 1 + 99) (n + 6 + 396) (j + 1) G2 M2 A2 D2 I2 := ⟨hR2, hM2, hI2, hE2, ho2, hKB.go (c := 100) (by omega) hT2, by omega⟩
  refine pw_istore C dL_law_922 (Nat.le_of_ble_eq_true rfl) rfl ?_
  refine pw_aload_n C dL_law_924 rfl ?_
  refine pw_cVE C hX dL_law_925 ml_L_105 mc_X10_thrown (m_thrown hM2 hI2.1.1 hth) kc_13 hM2.k rfl rfl ⟨Nat.le_of_ble_eq_true rfl, Nat.le_of_ble_eq_true rfl⟩ (Nat.le_of_ble_eq_true rfl) (by show k + 1 + 99 + 0 ≤ 790825 ∧ n + 6 + 396 + 0 ≤ 6723630; omega) ?_
  refine pw_iload C dL_law_928 rfl ?_
  refine pw_icmp_eq (tgt := 935) C dL_law_930 (by decide) (by omega) (fun c_930 => ?_) (fun c_930 => ?_)
  rotate_left
  · exact absurd c_930 (by omega)
  refine pw_iload C dL_law_935 rfl ?_
  refine pw_if_ne (tgt := 952) C dL_law_937 (by decide) (by omega) (fun c_937 => ?_) (fun c_937 => ?_)
  · skip
    refine pw_goto (tgt := 1989) C dL_law_952 (by decide) ?_
    exact pw_locs (by exact ⟨rfl, cat_vR _, rfl, cat_vR _, rfl, cat_vR _, rfl, cat_vR _, rfl, rfl, trivial⟩) (kk _ _ _ _ _ _ _ hLn)
  · skip
    refine pw_aload_n C dL_law_940 rfl ?_
    refine pw_iconst C dL_law_941 ?_
    refine pw_lald C dL_law_942 ho2.1 (by rw [ho2.2]; omega) ?_
    rw [hov (by omega)]
    refine pw_iload C dL_law_943 rfl ?_
    refine pw_i2lW C dL_law_945 ?_
    refine pw_lcmpE C dL_law_946 rfl ?_
    refine pw_ifL_eq (tgt := 952) C dL_law_947 (by decide) rfl ?_
    refine pw_goto (tgt := 1989) C dL_law_952 (by decide) ?_
    exact pw_locs (by exact ⟨rfl, cat_vR _, rfl, cat_vR _, rfl, cat_vR _, rfl, cat_vR _, rfl, rfl, trivial⟩) (kk _ _ _ _ _ _ _ hLn)

