set_option maxHeartbeats 4000000 in
set_option maxRecDepth 100000 in
theorem law_end {E : Ev} {tb : List ExceptionTableEntry} {X : Xv} {B sb : Int} (C : Cx E code 22 RL tb room_1) (hX : E.1 = X) (hB : 0 ≤ B) (hsb : scB X = sb) (hEnd : ∀ (G M : Mm) (k n : Nat) (ll : List LE), k ≤ 5000 → n ≤ 20000 → PW E G M k n 1088 ll [vI 1]) {i tk : Int} {k n : Nat} {G M : Mm} {A : An} (hJ : LJ B i tk k n G M A) (hi : 0 ≤ i ∧ i ≤ 64) : PW E G M k n 1000 [(0, 1, vR sb), (1, 1, vR B), (2, 1, vR (B + 202)), (3, 1, vR (B + 263)), (4, 1, vI tk), (5, 1, vI i)] [] := by
  obtain ⟨hR, ⟨⟨hI, hS⟩, hL⟩, ⟨hc6, htk⟩, ht9, hnow, ⟨hMV, hMW⟩, hG4, hVC, hWC, hk9, hn9⟩ := id hJ
  have hA := hI.1
  have hW := hI.2.1
  have hnA := hA.n
  have hnS := hA.so.c
  have h00 := hL.1.1
  have h02 := hL.1.2
  have hO0 : Ot B (B + 201) M M := Ot.rf
  refine pw_iconst C dL_law_1000 ?_
  refine pw_istore C dL_law_1001 (Nat.le_of_ble_eq_true rfl) rfl ?_
  suffices K_1003 : ∀ (nn_1003 : Nat) (t : Int) , (0 ≤ t ∧ t ≤ tk) → tk - t < (nn_1003 : Int) → PW E G M k n 1003 [(0, 1, vR sb), (1, 1, vR B), (2, 1, vR (B + 202)), (3, 1, vR (B + 263)), (4, 1, vI tk), (5, 1, vI t)] [] from pw_locs (by exact ⟨rfl, cat_vR _, rfl, cat_vR _, rfl, cat_vR _, rfl, cat_vR _, rfl, rfl, rfl, rfl, trivial⟩) (K_1003 (tk - 0 + 1 : Int).toNat 0  (by omega) (by omega))
  intro nn_1003
  induction nn_1003 with
  | zero => intro t h1 h_m1003; exact absurd h_m1003 (by omega)
  | succ nn_1003 ih_1003 =>
    intro t h1 h_m1003
    refine pw_iload C dL_law_1003 rfl ?_
    refine pw_iload C dL_law_1005 rfl ?_
    refine pw_icmp_ge (tgt := 1051) C dL_law_1007 (by decide) (by omega) (fun c_1007 => ?_) (fun c_1007 => ?_)
    · skip
      refine pw_aload_n C dL_law_1051 rfl ?_
      refine pw_cSI C hX dL_law_1052 ml_L_80 mc_L_areKnown (c_areKnown hR hA hI hL) rfl rfl ⟨Nat.le_of_ble_eq_true rfl, Nat.le_of_ble_eq_true rfl⟩ (Nat.le_of_ble_eq_true rfl) (by show k + 0 ≤ 916994 ∧ n + 0 ≤ 6350716; omega) (fun r_ G M5 hq_ => ?_)
      obtain ⟨rfl, rfl, hR5⟩ := hq_
      refine pw_ifL_eqn (tgt := 1087) C dL_law_1055 (by decide) rfl ?_
      refine pw_aload_n C dL_law_1058 rfl ?_
      refine pw_aload_n C dL_law_1059 rfl ?_
      refine pw_iconst C dL_law_1060 ?_
      refine pw_cSI C hX dL_law_1061 ml_L_12 mc_L_cell (c_cell hsb (i := 3) (by omega)) rfl rfl ⟨Nat.le_of_ble_eq_true rfl, Nat.le_of_ble_eq_true rfl⟩ (Nat.le_of_ble_eq_true rfl) (by show k + 0 ≤ 916994 ∧ n + 0 ≤ 6350716; omega) (fun r3 G M5 hq_ => ?_)
      obtain ⟨br3, rfl, rfl⟩ := hq_
      refine pw_iconst C dL_law_1064 ?_
      refine pw_cSE C hX dL_law_1065 ml_L_18 mc_L_below (c_below (x := r3) (n := 4) (by omega)) rfl rfl ⟨Nat.le_of_ble_eq_true rfl, Nat.le_of_ble_eq_true rfl⟩ (Nat.le_of_ble_eq_true rfl) (by show k + 0 ≤ 916994 ∧ n + 0 ≤ 6350716; omega) ?_
      have bw_1065 := bw_bd (x := r3) (n := 4) (by omega)
      obtain ⟨f3, hf3⟩ : ∃ w, w = bw r3 4 := ⟨_, rfl⟩
      rw [← hf3] at bw_1065 ⊢
      refine pw_aload_n C dL_law_1068 rfl ?_
      refine pw_iconst C dL_law_1069 ?_
      refine pw_cSI C hX dL_law_1070 ml_L_12 mc_L_cell (c_cell hsb (i := 4) (by omega)) rfl rfl ⟨Nat.le_of_ble_eq_true rfl, Nat.le_of_ble_eq_true rfl⟩ (Nat.le_of_ble_eq_true rfl) (by show k + 0 ≤ 916994 ∧ n + 0 ≤ 6350716; omega) (fun r4 G M5 hq_ => ?_)
      obtain ⟨br4, rfl, rfl⟩ := hq_
      refine pw_iconst C dL_law_1073 ?_
      refine pw_cSE C hX dL_law_1074 ml_L_18 mc_L_below (c_below (x := r4) (n := 4) (by omega)) rfl rfl ⟨Nat.le_of_ble_eq_true rfl, Nat.le_of_ble_eq_true rfl⟩ (Nat.le_of_ble_eq_true rfl) (by show k + 0 ≤ 916994 ∧ n + 0 ≤ 6350716; omega) ?_
      have bw_1074 := bw_bd (x := r4) (n := 4) (by omega)
      obtain ⟨v4, hv4⟩ : ∃ w, w = bw r4 4 := ⟨_, rfl⟩
      rw [← hv4] at bw_1074 ⊢
      refine pw_cSI C hX dL_law_1077 ml_L_84 mc_L_isNeeded (c_isNeeded hR5 hA (f := f3) (v := v4) hI h00 hc6 (by omega) (by omega)) rfl rfl ⟨Nat.le_of_ble_eq_true rfl, Nat.le_of_ble_eq_true rfl⟩ (Nat.le_of_ble_eq_true rfl) (by show k + 0 ≤ 916994 ∧ n + 0 ≤ 6350716; omega) (fun r_ G M6 hq_ => ?_)
      obtain ⟨rfl, rfl⟩ := hq_
      refine pw_ifL_eqn (tgt := 1087) C dL_law_1080 (by decide) rfl ?_
      refine pw_iconst C dL_law_1083 ?_
      refine pw_goto (tgt := 1088) C dL_law_1084 (by decide) ?_
      exact hEnd _ _ _ _ _ (by omega) (by omega)
    · skip
      refine pw_iconst C dL_law_1010 ?_
      refine pw_istore C dL_law_1011 (Nat.le_of_ble_eq_true rfl) rfl ?_
      suffices K_1013 : ∀ (nn_1013 : Nat) (f : Int) , (0 ≤ f ∧ f ≤ 4) → 4 - f < (nn_1013 : Int) → PW E G M k n 1013 [(0, 1, vR sb), (1, 1, vR B), (2, 1, vR (B + 202)), (3, 1, vR (B + 263)), (4, 1, vI tk), (5, 1, vI t), (6, 1, vI f)] [] from pw_locs (by exact ⟨rfl, cat_vR _, rfl, cat_vR _, rfl, cat_vR _, rfl, cat_vR _, rfl, rfl, rfl, rfl, rfl, rfl, trivial⟩) (K_1013 (4 - 0 + 1 : Int).toNat 0  (by omega) (by omega))
      intro nn_1013
      induction nn_1013 with
      | zero => intro f h2 h_m1013; exact absurd h_m1013 (by omega)
      | succ nn_1013 ih_1013 =>
        intro f h2 h_m1013
        refine pw_iload C dL_law_1013 rfl ?_
        refine pw_iconst C dL_law_1015 ?_
        refine pw_icmp_ge (tgt := 1045) C dL_law_1016 (by decide) (by omega) (fun c_1016 => ?_) (fun c_1016 => ?_)
        · skip
          refine pw_iinc C dL_law_1045 rfl (Nat.le_of_ble_eq_true rfl) rfl ?_
          refine pw_goto (tgt := 1003) C dL_law_1048 (by decide) ?_
          exact pw_locs (by exact ⟨rfl, cat_vR _, rfl, cat_vR _, rfl, cat_vR _, rfl, cat_vR _, rfl, rfl, rfl, rfl, trivial⟩) (ih_1003 (t + 1)  (by omega) (by omega))
        · skip
          refine pw_aload_n C dL_law_1019 rfl ?_
          refine pw_iload C dL_law_1020 rfl ?_
          refine pw_iload C dL_law_1022 rfl ?_
          refine pw_cVE C hX dL_law_1024 ml_L_64 mc_X5_says (c_says hR hA (t := t) (f := f) (by omega) (by omega) (by omega)) kc_8 hR.k rfl rfl ⟨Nat.le_of_ble_eq_true rfl, Nat.le_of_ble_eq_true rfl⟩ (Nat.le_of_ble_eq_true rfl) (by show k + 0 ≤ 916994 ∧ n + 0 ≤ 6350716; omega) ?_
          obtain ⟨vv, hvv⟩ : ∃ w, w = A (200 + t) 0 f := ⟨_, rfl⟩
          rw [← hvv]
          have bvv : -1 ≤ vv ∧ vv ≤ 99 := by rw [hvv]; exact (hA.ta t (by omega)).v0 f (by omega) (by omega)
          refine pw_aload_n C dL_law_1027 rfl ?_
          refine pw_iload C dL_law_1028 rfl ?_
          refine pw_aaldE C dL_law_1030 hMV.1 (by omega) (by omega) (hMV.2 t (by omega) (by omega)).1 ?_
          refine pw_iload C dL_law_1031 rfl ?_
          refine pw_ialdE C dL_law_1033 (hMV.2 t (by omega) (by omega)).2 (by omega) ((hVC t f (by omega) (by omega) (by omega) (by omega)).trans hvv.symm) ?_
          refine pw_icmp_eq (tgt := 1039) C dL_law_1034 (by decide) (by omega) (fun c_1034 => ?_) (fun c_1034 => ?_)
          rotate_left
          · exact absurd c_1034 (by omega)
          refine pw_iinc C dL_law_1039 rfl (Nat.le_of_ble_eq_true rfl) rfl ?_
          refine pw_goto (tgt := 1013) C dL_law_1042 (by decide) ?_
          exact pw_locs (by exact ⟨rfl, cat_vR _, rfl, cat_vR _, rfl, cat_vR _, rfl, cat_vR _, rfl, rfl, rfl, rfl, rfl, rfl, trivial⟩) (ih_1013 (f + 1)  (by omega) (by omega))

set_option maxHeartbeats 4000000 in
set_option maxRecDepth 100000 in
theorem law_loop {E : Ev} {tb : List ExceptionTableEntry} {X : Xv} {B sb : Int} (C : Cx E code 22 RL tb room_1) (hX : E.1 = X) (hB : 0 ≤ B) (hsb : scB X = sb) (hEnd : ∀ (G M : Mm) (k n : Nat) (ll : List LE), k ≤ 5000 → n ≤ 20000 → PW E G M k n 1088 ll [vI 1]) : ∀ (nn : Nat) (i tk : Int) (k n : Nat) (G M : Mm) (A : An), LJ B i tk k n G M A → 0 ≤ i ∧ i ≤ 64 → 64 - i < (nn : Int) → PW E G M k n 159 [(0, 1, vR sb), (1, 1, vR B), (2, 1, vR (B + 202)), (3, 1, vR (B + 263)), (4, 1, vI tk), (5, 1, vI i)] [] := by
  intro nn
  induction nn with
  | zero => intro i tk k n G M A hJ hi hm; exact absurd hm (by omega)
  | succ nn ih =>
    intro i tk k n G M A hJ hi hm
    have hk9 : (k : Int) ≤ 400 + 5 * i ∧ (n : Int) ≤ 4000 + 10 * i := hJ.2.2.2.2.2.2.2.2.2
    refine pw_iload C dL_law_159 rfl ?_
    refine pw_bipush C dL_law_161 rfl ?_
    refine pw_icmp_ge (tgt := 1000) C dL_law_163 (by decide) (by omega) (fun c_163 => ?_) (fun c_163 => ?_)
    · skip
      exact pw_locs (by exact ⟨rfl, cat_vR _, rfl, cat_vR _, rfl, cat_vR _, rfl, cat_vR _, rfl, rfl, rfl, rfl, trivial⟩) (law_end C hX hB hsb hEnd hJ hi)
    · skip
      refine pw_aload_n C dL_law_166 rfl ?_
      refine pw_iload C dL_law_167 rfl ?_
      refine pw_bipush C dL_law_169 rfl ?_
      refine pw_irem C dL_law_171 (by decide) ?_
      refine pw_top (v' := vI (Int32.ofInt (i) - Int32.ofInt (i) / Int32.ofInt 16 * Int32.ofInt 16).toInt) (rem_16 (by omega)) ?_
      have bq1 := rem_bd (x := i) (by omega)
      obtain ⟨q1, hq1⟩ : ∃ w, w = (Int32.ofInt (i) - Int32.ofInt (i) / Int32.ofInt 16 * Int32.ofInt 16).toInt := ⟨_, rfl⟩
      rw [← hq1] at bq1 ⊢
      refine pw_cSI C hX dL_law_172 ml_L_12 mc_L_cell (c_cell hsb (i := q1) (by omega)) rfl rfl ⟨Nat.le_of_ble_eq_true rfl, Nat.le_of_ble_eq_true rfl⟩ (Nat.le_of_ble_eq_true rfl) (by show k + 0 ≤ 916994 ∧ n + 0 ≤ 6350716; omega) (fun r1 G M hq_ => ?_)
      obtain ⟨br1, rfl, rfl⟩ := hq_
      refine pw_bipush C dL_law_175 rfl ?_
      refine pw_iload C dL_law_177 rfl ?_
      refine pw_imul C dL_law_179 ?_
      refine pw_iadd C dL_law_180 ?_
      obtain ⟨x, hx⟩ : ∃ w, w = r1 + 31 * i := ⟨_, rfl⟩
      rw [← hx]
      refine pw_istore C dL_law_181 (Nat.le_of_ble_eq_true rfl) rfl ?_
      refine pw_aload_n C dL_law_183 rfl ?_
      refine pw_bipush C dL_law_184 rfl ?_
      refine pw_iload C dL_law_186 rfl ?_
      refine pw_imul C dL_law_188 ?_
      refine pw_iconst C dL_law_189 ?_
      refine pw_iadd C dL_law_190 ?_
      refine pw_bipush C dL_law_191 rfl ?_
      refine pw_irem C dL_law_193 (by decide) ?_
      refine pw_top (v' := vI (Int32.ofInt (7 * i + 3) - Int32.ofInt (7 * i + 3) / Int32.ofInt 16 * Int32.ofInt 16).toInt) (rem_16 (by omega)) ?_
      have bq2 := rem_bd (x := 7 * i + 3) (by omega)
      obtain ⟨q2, hq2⟩ : ∃ w, w = (Int32.ofInt (7 * i + 3) - Int32.ofInt (7 * i + 3) / Int32.ofInt 16 * Int32.ofInt 16).toInt := ⟨_, rfl⟩
      rw [← hq2] at bq2 ⊢
      refine pw_cSI C hX dL_law_194 ml_L_12 mc_L_cell (c_cell hsb (i := q2) (by omega)) rfl rfl ⟨Nat.le_of_ble_eq_true rfl, Nat.le_of_ble_eq_true rfl⟩ (Nat.le_of_ble_eq_true rfl) (by show k + 0 ≤ 916994 ∧ n + 0 ≤ 6350716; omega) (fun r2 G M hq_ => ?_)
      obtain ⟨br2, rfl, rfl⟩ := hq_
      refine pw_iconst C dL_law_197 ?_
      refine pw_iload C dL_law_198 rfl ?_
      refine pw_imul C dL_law_200 ?_
      refine pw_iadd C dL_law_201 ?_
      obtain ⟨y, hy⟩ : ∃ w, w = r2 + 5 * i := ⟨_, rfl⟩
      rw [← hy]
      refine pw_istore C dL_law_202 (Nat.le_of_ble_eq_true rfl) rfl ?_
      refine pw_iload C dL_law_204 rfl ?_
      refine pw_iconst C dL_law_206 ?_
      refine pw_cSE C hX dL_law_207 ml_L_18 mc_L_below (c_below (x := y) (n := 2) (by omega)) rfl rfl ⟨Nat.le_of_ble_eq_true rfl, Nat.le_of_ble_eq_true rfl⟩ (Nat.le_of_ble_eq_true rfl) (by show k + 0 ≤ 916994 ∧ n + 0 ≤ 6350716; omega) ?_
      have bw_207 := bw_bd (x := y) (n := 2) (by omega)
      obtain ⟨sy, hsy⟩ : ∃ w, w = bw y 2 := ⟨_, rfl⟩
      rw [← hsy] at bw_207 ⊢
      refine pw_istore C dL_law_210 (Nat.le_of_ble_eq_true rfl) rfl ?_
      refine pw_iload C dL_law_212 rfl ?_
      refine pw_iconst C dL_law_214 ?_
      refine pw_ishr C dL_law_215 ?_
      refine pw_top (v' := vI (shr y 2)) shr_v ?_
      refine pw_iconst C dL_law_216 ?_
      refine pw_cSE C hX dL_law_217 ml_L_18 mc_L_below (c_below (x := (shr y 2)) (n := 4) (by omega)) rfl rfl ⟨Nat.le_of_ble_eq_true rfl, Nat.le_of_ble_eq_true rfl⟩ (Nat.le_of_ble_eq_true rfl) (by show k + 0 ≤ 916994 ∧ n + 0 ≤ 6350716; omega) ?_
      have bw_217 := bw_bd (x := (shr y 2)) (n := 4) (by omega)
      obtain ⟨fa, hfa⟩ : ∃ w, w = bw (shr y 2) 4 := ⟨_, rfl⟩
      rw [← hfa] at bw_217 ⊢
      refine pw_istore C dL_law_220 (Nat.le_of_ble_eq_true rfl) rfl ?_
      refine pw_iload C dL_law_222 rfl ?_
      refine pw_iconst C dL_law_224 ?_
      refine pw_ishr C dL_law_225 ?_
      refine pw_top (v' := vI (shr y 4)) shr_v ?_
      refine pw_bipush C dL_law_226 rfl ?_
      refine pw_cSE C hX dL_law_228 ml_L_18 mc_L_below (c_below (x := (shr y 4)) (n := 6) (by omega)) rfl rfl ⟨Nat.le_of_ble_eq_true rfl, Nat.le_of_ble_eq_true rfl⟩ (Nat.le_of_ble_eq_true rfl) (by show k + 0 ≤ 916994 ∧ n + 0 ≤ 6350716; omega) ?_
      have bw_228 := bw_bd (x := (shr y 4)) (n := 6) (by omega)
      obtain ⟨so, hso⟩ : ∃ w, w = bw (shr y 4) 6 := ⟨_, rfl⟩
      rw [← hso] at bw_228 ⊢
      refine pw_istore C dL_law_231 (Nat.le_of_ble_eq_true rfl) rfl ?_
      refine pw_iload C dL_law_233 rfl ?_
      refine pw_iconst C dL_law_235 ?_
      refine pw_ishr C dL_law_236 ?_
      refine pw_top (v' := vI (shr x 4)) shr_v ?_
      refine pw_iconst C dL_law_237 ?_
      refine pw_cSE C hX dL_law_238 ml_L_18 mc_L_below (c_below (x := (shr x 4)) (n := 2) (by omega)) rfl rfl ⟨Nat.le_of_ble_eq_true rfl, Nat.le_of_ble_eq_true rfl⟩ (Nat.le_of_ble_eq_true rfl) (by show k + 0 ≤ 916994 ∧ n + 0 ≤ 6350716; omega) ?_
      have bw_238 := bw_bd (x := (shr x 4)) (n := 2) (by omega)
      obtain ⟨li, hli⟩ : ∃ w, w = bw (shr x 4) 2 := ⟨_, rfl⟩
      rw [← hli] at bw_238 ⊢
      refine pw_istore C dL_law_241 (Nat.le_of_ble_eq_true rfl) rfl ?_
      refine pw_iload C dL_law_243 rfl ?_
      refine pw_bipush C dL_law_245 rfl ?_
      refine pw_cSE C hX dL_law_247 ml_L_18 mc_L_below (c_below (x := x) (n := 16) (by omega)) rfl rfl ⟨Nat.le_of_ble_eq_true rfl, Nat.le_of_ble_eq_true rfl⟩ (Nat.le_of_ble_eq_true rfl) (by show k + 0 ≤ 916994 ∧ n + 0 ≤ 6350716; omega) ?_
      have bw_247 := bw_bd (x := x) (n := 16) (by omega)
      obtain ⟨sw, hsw⟩ : ∃ w, w = bw x 16 := ⟨_, rfl⟩
      rw [← hsw] at bw_247 ⊢
      have kk : ∀ (G' M' : Mm) (k' n' : Nat) (A' : An) (tk' : Int), LJ B (i + 1) tk' k' n' G' M' A' → PW E G' M' k' n' 994 [(0, 1, vR sb), (1, 1, vR B), (2, 1, vR (B + 202)), (3, 1, vR (B + 263)), (4, 1, vI tk'), (5, 1, vI i)] [] := fun G' M' k' n' A' tk' h' => by
        refine pw_iinc C dL_law_994 rfl (Nat.le_of_ble_eq_true rfl) rfl ?_
        refine pw_goto (tgt := 159) C dL_law_997 (by decide) ?_
        exact pw_locs (by exact ⟨rfl, cat_vR _, rfl, cat_vR _, rfl, cat_vR _, rfl, cat_vR _, rfl, rfl, rfl, rfl, trivial⟩) (ih (i + 1) tk' k' n' G' M' A' h' (by omega) (by omega))
      by_cases c_250 : 0 ≤ sw ∧ sw ≤ 13
      · rcases (show sw = 0 ∨ sw = 1 ∨ sw = 2 ∨ sw = 3 ∨ sw = 4 ∨ sw = 5 ∨ sw = 6 ∨ sw = 7 ∨ sw = 8 ∨ sw = 9 ∨ sw = 10 ∨ sw = 11 ∨ sw = 12 ∨ sw = 13 from by omega) with c_250 | c_250 | c_250 | c_250 | c_250 | c_250 | c_250 | c_250 | c_250 | c_250 | c_250 | c_250 | c_250 | c_250
        · refine pw_swin (tgt := 320) (off := 70) C dL_law_250 (by omega) (by omega) (by omega) (by rw [c_250]; rfl) (by decide) ?_
          exact pw_locs (by exact ⟨rfl, cat_vR _, rfl, cat_vR _, rfl, cat_vR _, rfl, cat_vR _, rfl, rfl, rfl, rfl, rfl, rfl, rfl, rfl, rfl, rfl, rfl, rfl, rfl, rfl, rfl, rfl, trivial⟩) (law_report C hX hJ (by omega) hB (by omega) (by omega) (by omega) (by omega) kk)
        · refine pw_swin (tgt := 320) (off := 70) C dL_law_250 (by omega) (by omega) (by omega) (by rw [c_250]; rfl) (by decide) ?_
          exact pw_locs (by exact ⟨rfl, cat_vR _, rfl, cat_vR _, rfl, cat_vR _, rfl, cat_vR _, rfl, rfl, rfl, rfl, rfl, rfl, rfl, rfl, rfl, rfl, rfl, rfl, rfl, rfl, rfl, rfl, trivial⟩) (law_report C hX hJ (by omega) hB (by omega) (by omega) (by omega) (by omega) kk)
        · refine pw_swin (tgt := 320) (off := 70) C dL_law_250 (by omega) (by omega) (by omega) (by rw [c_250]; rfl) (by decide) ?_
          exact pw_locs (by exact ⟨rfl, cat_vR _, rfl, cat_vR _, rfl, cat_vR _, rfl, cat_vR _, rfl, rfl, rfl, rfl, rfl, rfl, rfl, rfl, rfl, rfl, rfl, rfl, rfl, rfl, rfl, rfl, trivial⟩) (law_report C hX hJ (by omega) hB (by omega) (by omega) (by omega) (by omega) kk)
        · refine pw_swin (tgt := 320) (off := 70) C dL_law_250 (by omega) (by omega) (by omega) (by rw [c_250]; rfl) (by decide) ?_
          exact pw_locs (by exact ⟨rfl, cat_vR _, rfl, cat_vR _, rfl, cat_vR _, rfl, cat_vR _, rfl, rfl, rfl, rfl, rfl, rfl, rfl, rfl, rfl, rfl, rfl, rfl, rfl, rfl, rfl, rfl, trivial⟩) (law_report C hX hJ (by omega) hB (by omega) (by omega) (by omega) (by omega) kk)
        · refine pw_swin (tgt := 373) (off := 123) C dL_law_250 (by omega) (by omega) (by omega) (by rw [c_250]; rfl) (by decide) ?_
          exact pw_locs (by exact ⟨rfl, cat_vR _, rfl, cat_vR _, rfl, cat_vR _, rfl, cat_vR _, rfl, rfl, rfl, rfl, rfl, rfl, rfl, rfl, rfl, rfl, rfl, rfl, rfl, rfl, rfl, rfl, trivial⟩) (law_retract C hX hJ (by omega) hB (by omega) (by omega) (by omega) (by omega) kk)
        · refine pw_swin (tgt := 402) (off := 152) C dL_law_250 (by omega) (by omega) (by omega) (by rw [c_250]; rfl) (by decide) ?_
          exact pw_locs (by exact ⟨rfl, cat_vR _, rfl, cat_vR _, rfl, cat_vR _, rfl, cat_vR _, rfl, rfl, rfl, rfl, rfl, rfl, rfl, rfl, rfl, rfl, rfl, rfl, rfl, rfl, rfl, rfl, trivial⟩) (law_rival C hX hJ (by omega) hB (by omega) (by omega) (by omega) (by omega) kk)
        · refine pw_swin (tgt := 528) (off := 278) C dL_law_250 (by omega) (by omega) (by omega) (by rw [c_250]; rfl) (by decide) ?_
          exact pw_locs (by exact ⟨rfl, cat_vR _, rfl, cat_vR _, rfl, cat_vR _, rfl, cat_vR _, rfl, rfl, rfl, rfl, rfl, rfl, rfl, rfl, rfl, rfl, rfl, rfl, rfl, rfl, rfl, rfl, trivial⟩) (law_down C hX hJ (by omega) hB (by omega) (by omega) (by omega) (by omega) kk)
        · refine pw_swin (tgt := 547) (off := 297) C dL_law_250 (by omega) (by omega) (by omega) (by rw [c_250]; rfl) (by decide) ?_
          exact pw_locs (by exact ⟨rfl, cat_vR _, rfl, cat_vR _, rfl, cat_vR _, rfl, cat_vR _, rfl, rfl, rfl, rfl, rfl, rfl, rfl, rfl, rfl, rfl, rfl, rfl, rfl, rfl, rfl, rfl, trivial⟩) (law_file C hX hJ (by omega) hB (by omega) (by omega) (by omega) (by omega) kk)
        · refine pw_swin (tgt := 547) (off := 297) C dL_law_250 (by omega) (by omega) (by omega) (by rw [c_250]; rfl) (by decide) ?_
          exact pw_locs (by exact ⟨rfl, cat_vR _, rfl, cat_vR _, rfl, cat_vR _, rfl, cat_vR _, rfl, rfl, rfl, rfl, rfl, rfl, rfl, rfl, rfl, rfl, rfl, rfl, rfl, rfl, rfl, rfl, trivial⟩) (law_file C hX hJ (by omega) hB (by omega) (by omega) (by omega) (by omega) kk)
        · refine pw_swin (tgt := 547) (off := 297) C dL_law_250 (by omega) (by omega) (by omega) (by rw [c_250]; rfl) (by decide) ?_
          exact pw_locs (by exact ⟨rfl, cat_vR _, rfl, cat_vR _, rfl, cat_vR _, rfl, cat_vR _, rfl, rfl, rfl, rfl, rfl, rfl, rfl, rfl, rfl, rfl, rfl, rfl, rfl, rfl, rfl, rfl, trivial⟩) (law_file C hX hJ (by omega) hB (by omega) (by omega) (by omega) (by omega) kk)
        · refine pw_swin (tgt := 547) (off := 297) C dL_law_250 (by omega) (by omega) (by omega) (by rw [c_250]; rfl) (by decide) ?_
          exact pw_locs (by exact ⟨rfl, cat_vR _, rfl, cat_vR _, rfl, cat_vR _, rfl, cat_vR _, rfl, rfl, rfl, rfl, rfl, rfl, rfl, rfl, rfl, rfl, rfl, rfl, rfl, rfl, rfl, rfl, trivial⟩) (law_file C hX hJ (by omega) hB (by omega) (by omega) (by omega) (by omega) kk)
        · refine pw_swin (tgt := 547) (off := 297) C dL_law_250 (by omega) (by omega) (by omega) (by rw [c_250]; rfl) (by decide) ?_
          exact pw_locs (by exact ⟨rfl, cat_vR _, rfl, cat_vR _, rfl, cat_vR _, rfl, cat_vR _, rfl, rfl, rfl, rfl, rfl, rfl, rfl, rfl, rfl, rfl, rfl, rfl, rfl, rfl, rfl, rfl, trivial⟩) (law_file C hX hJ (by omega) hB (by omega) (by omega) (by omega) (by omega) kk)
        · refine pw_swin (tgt := 665) (off := 415) C dL_law_250 (by omega) (by omega) (by omega) (by rw [c_250]; rfl) (by decide) ?_
          exact pw_locs (by exact ⟨rfl, cat_vR _, rfl, cat_vR _, rfl, cat_vR _, rfl, cat_vR _, rfl, rfl, rfl, rfl, rfl, rfl, rfl, rfl, rfl, rfl, rfl, rfl, rfl, rfl, rfl, rfl, trivial⟩) (law_correct C hX hJ (by omega) hB (by omega) (by omega) (by omega) (by omega) kk)
        · refine pw_swin (tgt := 851) (off := 601) C dL_law_250 (by omega) (by omega) (by omega) (by rw [c_250]; rfl) (by decide) ?_
          exact pw_locs (by exact ⟨rfl, cat_vR _, rfl, cat_vR _, rfl, cat_vR _, rfl, cat_vR _, rfl, rfl, rfl, rfl, rfl, rfl, rfl, rfl, rfl, rfl, rfl, rfl, rfl, rfl, rfl, rfl, trivial⟩) (law_kill C hX hJ (by omega) hB (by omega) (by omega) (by omega) (by omega) kk)
      · refine pw_swout (tgt := 980) C dL_law_250 (by omega) (by omega) (by decide) ?_
        exact pw_locs (by exact ⟨rfl, cat_vR _, rfl, cat_vR _, rfl, cat_vR _, rfl, cat_vR _, rfl, rfl, rfl, rfl, rfl, rfl, rfl, rfl, rfl, rfl, rfl, rfl, rfl, rfl, rfl, rfl, trivial⟩) (law_pass C hX hJ (by omega) hB (by omega) (by omega) (by omega) (by omega) kk)

theorem A00_n : ∀ s, 0 ≤ s → s < 4 → A00 0 0 s = 0 := fun s q1 q2 => by
  rcases (show s = 0 ∨ s = 1 ∨ s = 2 ∨ s = 3 by omega) with rfl | rfl | rfl | rfl <;> rfl
theorem A00_c : A00 10 2 0 = 0 := rfl
theorem A00_3 : ∀ i, 0 ≤ i → i < 24 → A00 (100 + i) 1 3 = -1 := fun i q1 q2 => (A00_Inv.2.2.1 i (by have e : A00 0 0 0 = 0 := rfl; omega) q2).2.2.2.2
set_option maxHeartbeats 4000000 in
set_option maxRecDepth 100000 in
theorem law_start {E : Ev} {tb : List ExceptionTableEntry} {X : Xv} {sb : Int} {G M : Mm} (C : Cx E code 22 RL tb room_1) (hX : E.1 = X) (hsb : scB X = sb) (h0 : 0 ≤ G 4 0 0) (hEnd : ∀ (G M : Mm) (k n : Nat) (ll : List LE), k ≤ 5000 → n ≤ 20000 → PW E G M k n 1088 ll [vI 1]) : PW E G M 0 0 0 [(0, 1, vR sb)] [] := by
  obtain ⟨B, hB⟩ : ∃ B, G 4 0 0 = B := ⟨_, rfl⟩
  refine pw_new C dL_law_0 nl_L_9 (Nat.le_of_ble_eq_true rfl) (Nat.le_of_ble_eq_true rfl) ?_
  have a1 : nG G 8 0 0 B 0 = 8 := by rw [← hB]; exact nG_kind
  have a2 : nG G 8 0 4 0 0 = B + 1 := by rw [nG_next, hB]
  have a3 : ∀ f, nM G M 0 f B = 0 := fun f => by rw [← hB]; exact nM_fld
  rw [hB] at h0 ⊢
  have hB0 := h0
  generalize nG G 8 0 = G1 at a1 a2 ⊢
  generalize nM G M = M1 at a3 ⊢
  refine pw_dup C dL_law_3 (cat_vR _) ?_
  refine pw_cIU C hX dL_law_4 ml_L_11 mc_X5_init (c_X5_init h0 a1 a2 a3) h0 rfl rfl ⟨Nat.le_of_ble_eq_true rfl, Nat.le_of_ble_eq_true rfl⟩ (Nat.le_of_ble_eq_true rfl) ⟨Nat.le_of_ble_eq_true rfl, Nat.le_of_ble_eq_true rfl⟩ (fun G2 M2 hq_ => ?_)
  obtain ⟨b1, b2, b3⟩ := hq_
  have h4_G2 := b2
  refine pw_astore_n C dL_law_7 (Nat.le_of_ble_eq_true rfl) rfl ?_
  refine pw_widen (k' := 210) (n' := 2700) (Nat.le_of_ble_eq_true rfl) (Nat.le_of_ble_eq_true rfl) ?_
  refine pw_iconst C dL_law_8 ?_
  refine pw_istore_n C dL_law_9 (Nat.le_of_ble_eq_true rfl) rfl ?_
  suffices K_10 : ∀ (nn_10 : Nat) (j : Int) (Ac : An) (Mc : Mm), (0 ≤ j ∧ j ≤ 6) → (RC G2 Mc B Ac) → (Inv Ac) → (SN Ac) → (∀ s, 0 ≤ s → s < 4 → Ac 0 0 s = 0) → (Ac 10 2 0 = j) → (∀ i, 0 ≤ i → i < 24 → Ac (100 + i) 1 3 = -1) → 6 - j < (nn_10 : Int) → PW E G2 Mc 210 2700 10 [(0, 1, vR sb), (1, 1, vR B), (2, 1, vI j)] [] from pw_locs (by exact ⟨rfl, cat_vR _, rfl, cat_vR _, rfl, rfl, trivial⟩) (K_10 (6 - 0 + 1 : Int).toNat 0 A00 M2 (by omega) (by first | exact b1 | omega) (by first | exact A00_Inv | omega) (by first | exact A00_SN | omega) (by first | exact A00_n | omega) (by first | exact A00_c | omega) (by first | exact A00_3 | omega) (by omega))
  intro nn_10
  induction nn_10 with
  | zero => intro j Ac Mc h1 hRc hIc hSc hz hcj hf3 h_m10; exact absurd h_m10 (by omega)
  | succ nn_10 ih_10 =>
    intro j Ac Mc h1 hRc hIc hSc hz hcj hf3 h_m10
    have hnc := hIc.1.n
    have hnS := hIc.1.so.c
    refine pw_iload_n C dL_law_10 rfl ?_
    refine pw_bipush C dL_law_11 rfl ?_
    refine pw_icmp_ge (tgt := 79) C dL_law_13 (by decide) (by omega) (fun c_13 => ?_) (fun c_13 => ?_)
    · skip
      refine pw_iconst C dL_law_79 ?_
      refine pw_istore_n C dL_law_80 (Nat.le_of_ble_eq_true rfl) rfl ?_
      suffices K_81 : ∀ (nn_81 : Nat) (j : Int) (Ac : An) (Md : Mm), (0 ≤ j ∧ j ≤ 2) → (RC G2 Md B Ac) → (Inv Ac) → (SN Ac) → (Ac 0 0 0 = j) → (Ac 0 0 1 = 0) → (Ac 0 0 2 = j) → (Ac 0 0 3 = 0) → (Ac 10 2 0 = 6) → (∀ i, 0 ≤ i → i < 24 → Ac (100 + i) 1 3 = -1) → (∀ l, 0 ≤ l → l < j → Ac (20 + l) 4 1 ≤ 4 ∧ Ac (20 + l) 4 3 = 0) → 2 - j < (nn_81 : Int) → PW E G2 Md 210 2700 81 [(0, 1, vR sb), (1, 1, vR B), (2, 1, vI j)] [] from pw_locs (by exact ⟨rfl, cat_vR _, rfl, cat_vR _, rfl, rfl, trivial⟩) (K_81 (2 - 0 + 1 : Int).toNat 0 Ac Mc (by omega) (by first | exact hRc | omega) (by first | exact hIc | omega) (by first | exact hSc | omega) (by first | exact hz 0 (by omega) (by omega) | omega) (by first | exact hz 1 (by omega) (by omega) | omega) (by first | exact hz 2 (by omega) (by omega) | omega) (by first | exact hz 3 (by omega) (by omega) | omega) (by omega) (by first | exact hf3 | omega) (by first | exact fun l q1 q2 => by omega | omega) (by omega))
      intro nn_81
      induction nn_81 with
      | zero => intro j Ac Md h1 hRc hIc hSc hs0 hs1 hs2 hs3 hc6 hf3 hl h_m81; exact absurd h_m81 (by omega)
      | succ nn_81 ih_81 =>
        intro j Ac Md h1 hRc hIc hSc hs0 hs1 hs2 hs3 hc6 hf3 hl h_m81
        have hnc := hIc.1.n
        refine pw_iload_n C dL_law_81 rfl ?_
        refine pw_iconst C dL_law_82 ?_
        refine pw_icmp_ge (tgt := 137) C dL_law_83 (by decide) (by omega) (fun c_83 => ?_) (fun c_83 => ?_)
        · skip
          refine pw_bipush C dL_law_137 rfl ?_
          refine pw_iconst C dL_law_139 ?_
          refine pw_mna C dL_law_140 wc_L_32 wa_int (by omega) (by omega) (N := 60) (K := 4) rfl rfl (Nat.le_of_ble_eq_true rfl) (Nat.le_of_ble_eq_true rfl) ?_
          rw [h4_G2]
          have hX_G3 : MX (mG G2 60 4) (B + 202) 60 4 := by have q := mG_MX (G := G2) (n := 60) (len := 4); rw [h4_G2] at q; exact q
          have h4_G3 : mG G2 60 4 4 0 0 = B + 263 := by rw [mG_4, h4_G2]; omega
          have hR_G3 := hRc.og (G1 := mG G2 60 4) (M1 := mM G2 Md 60) (fun b q1 q2 => agr_m (by omega) (by omega))
          generalize mG G2 60 4 = G3 at hX_G3 h4_G3 hR_G3 ⊢
          generalize mM G2 Md 60 = M3 at hR_G3 ⊢
          refine pw_astore_n C dL_law_144 (Nat.le_of_ble_eq_true rfl) rfl ?_
          refine pw_bipush C dL_law_145 rfl ?_
          refine pw_iconst C dL_law_147 ?_
          refine pw_mna C dL_law_148 wc_L_32 wa_int (by omega) (by omega) (N := 60) (K := 2) rfl rfl (Nat.le_of_ble_eq_true rfl) (Nat.le_of_ble_eq_true rfl) ?_
          rw [h4_G3]
          have hX_G4 : MX (mG G3 60 2) (B + 263) 60 2 := by have q := mG_MX (G := G3) (n := 60) (len := 2); rw [h4_G3] at q; exact q
          have h4_G4 : mG G3 60 2 4 0 0 = B + 324 := by rw [mG_4, h4_G3]; omega
          have hR_G4 := hR_G3.og (G1 := mG G3 60 2) (M1 := mM G3 M3 60) (fun b q1 q2 => agr_m (by omega) (by omega))
          have hXV : MX (mG G3 60 2) (B + 202) 60 4 := hX_G3.q (PsQ.mna (B := 0) (W := 0) (M := M3) PsQ.rf (by omega)) (by omega) (by omega)
          have hZW : ∀ t k, 0 ≤ t → t < 60 → mM G3 M3 60 1 (B + 263 + 1 + t) k = 0 := fun t k q1 q2 => mM_r (by omega)
          generalize mG G3 60 2 = G4 at hX_G4 h4_G4 hR_G4 hXV ⊢
          generalize mM G3 M3 60 = M4 at hR_G4 hZW ⊢
          refine pw_astore_n C dL_law_152 (Nat.le_of_ble_eq_true rfl) rfl ?_
          refine pw_iconst C dL_law_153 ?_
          refine pw_istore C dL_law_154 (Nat.le_of_ble_eq_true rfl) rfl ?_
          refine pw_iconst C dL_law_156 ?_
          refine pw_istore C dL_law_157 (Nat.le_of_ble_eq_true rfl) rfl ?_
          have hL : LX Ac := ⟨⟨by omega, by omega⟩, fun l q1 q2 => by have z := hl l q1 (by omega); omega, fun t q1 q2 => by omega, fun l t q1 q2 q3 q4 => by omega, fun i q1 q2 => by rw [hf3 i q1 (by omega)]; omega⟩
          have hVC : VC M4 (B + 202) Ac := fun t f q1 q2 => by omega
          have hWC : WC M4 (B + 263) Ac := fun t k q1 q2 q3 q4 => by rw [hZW t k q1 q2]; exact ⟨by omega, fun _ => rfl, fun q => by omega⟩
          exact pw_locs (by exact ⟨rfl, cat_vR _, rfl, cat_vR _, rfl, cat_vR _, rfl, cat_vR _, rfl, rfl, rfl, rfl, trivial⟩) (law_loop C hX hB0 hsb hEnd 65 0 0 _ _ _ _ Ac ⟨hR_G4, ⟨⟨hIc, hSc⟩, hL⟩, ⟨hc6, hs1⟩, by omega, by omega, ⟨hXV, hX_G4⟩, by omega, hVC, hWC, by omega⟩ (by omega) (by omega))
        · skip
          refine pw_aload_n C dL_law_86 rfl ?_
          refine pw_cVI C hX dL_law_87 ml_L_25 mc_X5_story (c_story hRc hIc.1    (by omega)) kc_8 hRc.k rfl rfl ⟨Nat.le_of_ble_eq_true rfl, Nat.le_of_ble_eq_true rfl⟩ (Nat.le_of_ble_eq_true rfl) (by show 210 + 0 ≤ 916994 ∧ 2700 + 0 ≤ 6350716; omega) (fun r_ G2 M1 hq_ => ?_)
          obtain ⟨rfl, rfl, hR2, o3⟩ := hq_
          obtain ⟨A4, eA5⟩ : ∃ w, w = aSty Ac := ⟨_, rfl⟩
          rw [← eA5] at hR2
          have hI1 : Inv A4 := by rw [eA5]; exact hIc.sty (by omega)
          have hS1 : SN A4 := by rw [eA5]; exact hSc.sty
          have s1 : ∀ s, A4 0 0 s = if s = 0 then j + 1 else Ac 0 0 s := fun s => by
            rw [eA5]; unfold aSty; rw [aup_s, lup_c, hs0]
            by_cases e : s = 0
            · rw [if_pos ⟨rfl, e⟩, if_pos e]
            · rw [if_neg (fun q => e q.2), if_neg e]
          have o1 : ∀ b, b ≠ 0 → A4 b = Ac b := fun b q => by rw [eA5]; exact aup_n q
          have s10 : A4 0 0 0 = j + 1 := by rw [s1, if_pos rfl]
          have s11 : A4 0 0 1 = 0 := by rw [s1, if_neg (by omega)]; exact hs1
          have s12 : A4 0 0 2 = j := by rw [s1, if_neg (by omega)]; exact hs2
          have s13 : A4 0 0 3 = 0 := by rw [s1, if_neg (by omega)]; exact hs3
          refine pw_iload_n C dL_law_90 rfl ?_
          refine pw_icmp_ne (tgt := 129) C dL_law_91 (by decide) (by omega) (fun c_91 => ?_) (fun c_91 => ?_)
          · exact absurd c_91 (by omega)
          refine pw_aload_n C dL_law_94 rfl ?_
          refine pw_iconst C dL_law_95 ?_
          refine pw_aload_n C dL_law_96 rfl ?_
          refine pw_iload_n C dL_law_97 rfl ?_
          refine pw_bipush C dL_law_98 rfl ?_
          refine pw_iadd C dL_law_100 ?_
          refine pw_cSI C hX dL_law_101 ml_L_12 mc_L_cell (c_cell hsb (i := (j + 6)) (by omega)) rfl rfl ⟨Nat.le_of_ble_eq_true rfl, Nat.le_of_ble_eq_true rfl⟩ (Nat.le_of_ble_eq_true rfl) (by show 210 + 0 ≤ 916994 ∧ 2700 + 0 ≤ 6350716; omega) (fun d1 G2 M1 hq_ => ?_)
          obtain ⟨bd1, rfl, rfl⟩ := hq_
          refine pw_bipush C dL_law_104 rfl ?_
          refine pw_cSE C hX dL_law_106 ml_L_18 mc_L_below (c_below (x := d1) (n := 40) (by omega)) rfl rfl ⟨Nat.le_of_ble_eq_true rfl, Nat.le_of_ble_eq_true rfl⟩ (Nat.le_of_ble_eq_true rfl) (by show 210 + 0 ≤ 916994 ∧ 2700 + 0 ≤ 6350716; omega) ?_
          have bw_106 := bw_bd (x := d1) (n := 40) (by omega)
          obtain ⟨p40, hp40⟩ : ∃ w, w = bw d1 40 := ⟨_, rfl⟩
          rw [← hp40] at bw_106 ⊢
          refine pw_iadd C dL_law_109 ?_
          refine pw_aload_n C dL_law_110 rfl ?_
          refine pw_iload_n C dL_law_111 rfl ?_
          refine pw_bipush C dL_law_112 rfl ?_
          refine pw_iadd C dL_law_114 ?_
          refine pw_cSI C hX dL_law_115 ml_L_12 mc_L_cell (c_cell hsb (i := (j + 7)) (by omega)) rfl rfl ⟨Nat.le_of_ble_eq_true rfl, Nat.le_of_ble_eq_true rfl⟩ (Nat.le_of_ble_eq_true rfl) (by show 210 + 0 ≤ 916994 ∧ 2700 + 0 ≤ 6350716; omega) (fun d2 G2 M1 hq_ => ?_)
          obtain ⟨bd2, rfl, rfl⟩ := hq_
          refine pw_iconst C dL_law_118 ?_
          refine pw_cSE C hX dL_law_119 ml_L_18 mc_L_below (c_below (x := d2) (n := 5) (by omega)) rfl rfl ⟨Nat.le_of_ble_eq_true rfl, Nat.le_of_ble_eq_true rfl⟩ (Nat.le_of_ble_eq_true rfl) (by show 210 + 0 ≤ 916994 ∧ 2700 + 0 ≤ 6350716; omega) ?_
          have bw_119 := bw_bd (x := d2) (n := 5) (by omega)
          obtain ⟨p4, hp4⟩ : ∃ w, w = bw d2 5 := ⟨_, rfl⟩
          rw [← hp4] at bw_119 ⊢
          refine pw_cVI C hX dL_law_122 ml_L_29 mc_X5_line (c_line hR2 hI1.1 (sp := (5 + p40)) (lg := p4) (by omega) (by omega)  (by omega)) kc_8 hR2.k rfl rfl ⟨Nat.le_of_ble_eq_true rfl, Nat.le_of_ble_eq_true rfl⟩ (Nat.le_of_ble_eq_true rfl) (by show 210 + 0 ≤ 916994 ∧ 2700 + 0 ≤ 6350716; omega) (fun r_ G2 M6 hq_ => ?_)
          obtain ⟨rfl, rfl, hR7, o8⟩ := hq_
          obtain ⟨A9, eA10⟩ : ∃ w, w = aLin A4 (5 + p40) p4 := ⟨_, rfl⟩
          rw [← eA10] at hR7
          have hI2 : Inv A9 := by rw [eA10]; exact hI1.lin (by omega) (by omega) (by omega)
          have hS2 : SN A9 := by rw [eA10]; exact hS1.lin hI1.1 hI1.2.2 (by omega)
          have o2 : ∀ b, b ≠ 0 → b ≠ 20 + j → A9 b = A4 b := fun b q1 q2 => by rw [eA10]; unfold aLin; rw [aup_n q1, s12, aup_n q2]
          have l2 : A9 (20 + j) = lup (lup (A4 (20 + j)) 4 0 (5 + p40)) 4 1 p4 := by rw [eA10]; unfold aLin; rw [aup_n (by omega), s12, aup_s]
          have s2 : ∀ s, A9 0 0 s = if s = 2 then j + 1 else A4 0 0 s := fun s => by
            rw [eA10]; unfold aLin; rw [aup_s, lup_c, s12]
            by_cases e : s = 2
            · rw [if_pos ⟨rfl, e⟩, if_pos e]
            · rw [if_neg (fun q => e q.2), if_neg e]
          have bk := hI1.2.2.2.2.1 j (by omega) (by omega)
          have hl2 : ∀ l, 0 ≤ l → l < j + 1 → A9 (20 + l) 4 1 ≤ 4 ∧ A9 (20 + l) 4 3 = 0 := fun l q1 q2 => by
            by_cases e : l = j
            · rw [e, l2, lup_s, lup_n (by omega), lup_n (by omega), bk.2.2.1]; exact ⟨by omega, rfl⟩
            · rw [o2 (20 + l) (by omega) (by omega), o1 (20 + l) (by omega)]; exact hl l q1 (by omega)
          refine pw_iload_n C dL_law_125 rfl ?_
          refine pw_icmp_eq (tgt := 131) C dL_law_126 (by decide) (by omega) (fun c_126 => ?_) (fun c_126 => ?_)
          rotate_left
          · exact absurd c_126 (by omega)
          refine pw_iinc C dL_law_131 rfl (Nat.le_of_ble_eq_true rfl) rfl ?_
          refine pw_goto (tgt := 81) C dL_law_134 (by decide) ?_
          exact pw_locs (by exact ⟨rfl, cat_vR _, rfl, cat_vR _, rfl, rfl, trivial⟩) (ih_81 (j + 1) A9 M6 (by omega) (hR7) (hI2) (hS2) (by rw [s2, if_neg (by omega)]; exact s10) (by rw [s2, if_neg (by omega)]; exact s11) (by rw [s2, if_pos rfl]) (by rw [s2, if_neg (by omega)]; exact s13) (by rw [o2 10 (by omega) (by omega), o1 10 (by omega)]; exact hc6) (fun i q1 q2 => by rw [o2 (100 + i) (by omega) (by omega), o1 (100 + i) (by omega)]; exact hf3 i q1 q2) (hl2) (by omega))
    · skip
      refine pw_aload_n C dL_law_16 rfl ?_
      refine pw_iconst C dL_law_17 ?_
      refine pw_aload_n C dL_law_18 rfl ?_
      refine pw_iload_n C dL_law_19 rfl ?_
      refine pw_cSI C hX dL_law_20 ml_L_12 mc_L_cell (c_cell hsb (i := j) (by omega)) rfl rfl ⟨Nat.le_of_ble_eq_true rfl, Nat.le_of_ble_eq_true rfl⟩ (Nat.le_of_ble_eq_true rfl) (by show 210 + 0 ≤ 916994 ∧ 2700 + 0 ≤ 6350716; omega) (fun c1 G2 Mc hq_ => ?_)
      obtain ⟨bc1, rfl, rfl⟩ := hq_
      refine pw_bipush C dL_law_23 rfl ?_
      refine pw_cSE C hX dL_law_25 ml_L_18 mc_L_below (c_below (x := c1) (n := 6) (by omega)) rfl rfl ⟨Nat.le_of_ble_eq_true rfl, Nat.le_of_ble_eq_true rfl⟩ (Nat.le_of_ble_eq_true rfl) (by show 210 + 0 ≤ 916994 ∧ 2700 + 0 ≤ 6350716; omega) ?_
      have bw_25 := bw_bd (x := c1) (n := 6) (by omega)
      obtain ⟨w6, hw6⟩ : ∃ w, w = bw c1 6 := ⟨_, rfl⟩
      rw [← hw6] at bw_25 ⊢
      refine pw_iconst C dL_law_28 ?_
      refine pw_idiv C dL_law_29 (by decide) ?_
      refine pw_top (v' := vI (w6 / 2)) (half_6 (by omega)) ?_
      refine pw_iadd C dL_law_30 ?_
      refine pw_iload_n C dL_law_31 rfl ?_
      refine pw_if_le (tgt := 63) C dL_law_32 (by decide) (by omega) (fun c_32 => ?_) (fun c_32 => ?_)
      · skip
        refine pw_iconst C dL_law_63 ?_
        refine pw_cVI C hX dL_law_64 ml_L_22 mc_X5_source (c_source hRc hIc.1 (wt := (1 + (w6 / 2))) (of_ := (-1)) (by omega) (by omega)  (by omega)) kc_8 hRc.k rfl rfl ⟨Nat.le_of_ble_eq_true rfl, Nat.le_of_ble_eq_true rfl⟩ (Nat.le_of_ble_eq_true rfl) (by show 210 + 0 ≤ 916994 ∧ 2700 + 0 ≤ 6350716; omega) (fun r_ G2 M11 hq_ => ?_)
        obtain ⟨rfl, rfl, hR12, o13⟩ := hq_
        obtain ⟨A14, eA15⟩ : ∃ w, w = aSrc Ac (1 + (w6 / 2)) (-1) := ⟨_, rfl⟩
        rw [← eA15] at hR12
        have hI1 : Inv A14 := by rw [eA15]; exact hIc.src (by omega) (by omega) (by omega)
        have hS1 : SN A14 := by rw [eA15]; exact hSc.src
        have z1 : A14 0 = Ac 0 := by rw [eA15]; exact aup_n (by omega)
        have c1 : A14 10 2 0 = j + 1 := by rw [eA15]; unfold aSrc; rw [aup_s, sAdd_2, hcj]
        have g3 : ∀ i, 0 ≤ i → i < 24 → A14 (100 + i) 1 3 = -1 := fun i q1 q2 => by rw [eA15]; unfold aSrc; rw [aup_n (by omega)]; exact hf3 i q1 q2
        refine pw_iload_n C dL_law_67 rfl ?_
        refine pw_icmp_eq (tgt := 73) C dL_law_68 (by decide) (by omega) (fun c_68 => ?_) (fun c_68 => ?_)
        rotate_left
        · exact absurd c_68 (by omega)
        refine pw_iinc C dL_law_73 rfl (Nat.le_of_ble_eq_true rfl) rfl ?_
        refine pw_goto (tgt := 10) C dL_law_76 (by decide) ?_
        exact pw_locs (by exact ⟨rfl, cat_vR _, rfl, cat_vR _, rfl, rfl, trivial⟩) (ih_10 (j + 1) A14 M11 (by omega) (hR12) (hI1) (hS1) (fun s q1 q2 => by rw [z1]; exact hz s q1 q2) (c1) (g3) (by omega))
      · skip
        refine pw_aload_n C dL_law_35 rfl ?_
        refine pw_iload_n C dL_law_36 rfl ?_
        refine pw_cSI C hX dL_law_37 ml_L_12 mc_L_cell (c_cell hsb (i := j) (by omega)) rfl rfl ⟨Nat.le_of_ble_eq_true rfl, Nat.le_of_ble_eq_true rfl⟩ (Nat.le_of_ble_eq_true rfl) (by show 210 + 0 ≤ 916994 ∧ 2700 + 0 ≤ 6350716; omega) (fun c2 G2 Mc hq_ => ?_)
        obtain ⟨bc2, rfl, rfl⟩ := hq_
        refine pw_iconst C dL_law_40 ?_
        refine pw_ishr C dL_law_41 ?_
        refine pw_top (v' := vI (shr c2 3)) shr_v ?_
        refine pw_iconst C dL_law_42 ?_
        refine pw_cSE C hX dL_law_43 ml_L_18 mc_L_below (c_below (x := (shr c2 3)) (n := 3) (by omega)) rfl rfl ⟨Nat.le_of_ble_eq_true rfl, Nat.le_of_ble_eq_true rfl⟩ (Nat.le_of_ble_eq_true rfl) (by show 210 + 0 ≤ 916994 ∧ 2700 + 0 ≤ 6350716; omega) ?_
        have bw_43 := bw_bd (x := (shr c2 3)) (n := 3) (by omega)
        obtain ⟨p3, hp3⟩ : ∃ w, w = bw (shr c2 3) 3 := ⟨_, rfl⟩
        rw [← hp3] at bw_43 ⊢
        refine pw_if_ne (tgt := 63) C dL_law_46 (by decide) (by omega) (fun c_46 => ?_) (fun c_46 => ?_)
        · skip
          refine pw_iconst C dL_law_63 ?_
          refine pw_cVI C hX dL_law_64 ml_L_22 mc_X5_source (c_source hRc hIc.1 (wt := (1 + (w6 / 2))) (of_ := (-1)) (by omega) (by omega)  (by omega)) kc_8 hRc.k rfl rfl ⟨Nat.le_of_ble_eq_true rfl, Nat.le_of_ble_eq_true rfl⟩ (Nat.le_of_ble_eq_true rfl) (by show 210 + 0 ≤ 916994 ∧ 2700 + 0 ≤ 6350716; omega) (fun r_ G2 M16 hq_ => ?_)
          obtain ⟨rfl, rfl, hR17, o18⟩ := hq_
          obtain ⟨A19, eA20⟩ : ∃ w, w = aSrc Ac (1 + (w6 / 2)) (-1) := ⟨_, rfl⟩
          rw [← eA20] at hR17
          have hI1 : Inv A19 := by rw [eA20]; exact hIc.src (by omega) (by omega) (by omega)
          have hS1 : SN A19 := by rw [eA20]; exact hSc.src
          have z1 : A19 0 = Ac 0 := by rw [eA20]; exact aup_n (by omega)
          have c1 : A19 10 2 0 = j + 1 := by rw [eA20]; unfold aSrc; rw [aup_s, sAdd_2, hcj]
          have g3 : ∀ i, 0 ≤ i → i < 24 → A19 (100 + i) 1 3 = -1 := fun i q1 q2 => by rw [eA20]; unfold aSrc; rw [aup_n (by omega)]; exact hf3 i q1 q2
          refine pw_iload_n C dL_law_67 rfl ?_
          refine pw_icmp_eq (tgt := 73) C dL_law_68 (by decide) (by omega) (fun c_68 => ?_) (fun c_68 => ?_)
          rotate_left
          · exact absurd c_68 (by omega)
          refine pw_iinc C dL_law_73 rfl (Nat.le_of_ble_eq_true rfl) rfl ?_
          refine pw_goto (tgt := 10) C dL_law_76 (by decide) ?_
          exact pw_locs (by exact ⟨rfl, cat_vR _, rfl, cat_vR _, rfl, rfl, trivial⟩) (ih_10 (j + 1) A19 M16 (by omega) (hR17) (hI1) (hS1) (fun s q1 q2 => by rw [z1]; exact hz s q1 q2) (c1) (g3) (by omega))
        · skip
          refine pw_aload_n C dL_law_49 rfl ?_
          refine pw_iload_n C dL_law_50 rfl ?_
          refine pw_cSI C hX dL_law_51 ml_L_12 mc_L_cell (c_cell hsb (i := j) (by omega)) rfl rfl ⟨Nat.le_of_ble_eq_true rfl, Nat.le_of_ble_eq_true rfl⟩ (Nat.le_of_ble_eq_true rfl) (by show 210 + 0 ≤ 916994 ∧ 2700 + 0 ≤ 6350716; omega) (fun c3 G2 Mc hq_ => ?_)
          obtain ⟨bc3, rfl, rfl⟩ := hq_
          refine pw_iconst C dL_law_54 ?_
          refine pw_ishr C dL_law_55 ?_
          refine pw_top (v' := vI (shr c3 5)) shr_v ?_
          refine pw_iload_n C dL_law_56 rfl ?_
          refine pw_cSE C hX dL_law_57 ml_L_18 mc_L_below (c_below (x := (shr c3 5)) (n := j) (by omega)) rfl rfl ⟨Nat.le_of_ble_eq_true rfl, Nat.le_of_ble_eq_true rfl⟩ (Nat.le_of_ble_eq_true rfl) (by show 210 + 0 ≤ 916994 ∧ 2700 + 0 ≤ 6350716; omega) ?_
          have bw_57 := bw_bd (x := (shr c3 5)) (n := j) (by omega)
          obtain ⟨p5, hp5⟩ : ∃ w, w = bw (shr c3 5) j := ⟨_, rfl⟩
          rw [← hp5] at bw_57 ⊢
          refine pw_goto (tgt := 64) C dL_law_60 (by decide) ?_
          refine pw_cVI C hX dL_law_64 ml_L_22 mc_X5_source (c_source hRc hIc.1 (wt := (1 + (w6 / 2))) (of_ := p5) (by omega) (by omega)  (by omega)) kc_8 hRc.k rfl rfl ⟨Nat.le_of_ble_eq_true rfl, Nat.le_of_ble_eq_true rfl⟩ (Nat.le_of_ble_eq_true rfl) (by show 210 + 0 ≤ 916994 ∧ 2700 + 0 ≤ 6350716; omega) (fun r_ G2 M21 hq_ => ?_)
          obtain ⟨rfl, rfl, hR22, o23⟩ := hq_
          obtain ⟨A24, eA25⟩ : ∃ w, w = aSrc Ac (1 + (w6 / 2)) p5 := ⟨_, rfl⟩
          rw [← eA25] at hR22
          have hI1 : Inv A24 := by rw [eA25]; exact hIc.src (by omega) (by omega) (by omega)
          have hS1 : SN A24 := by rw [eA25]; exact hSc.src
          have z1 : A24 0 = Ac 0 := by rw [eA25]; exact aup_n (by omega)
          have c1 : A24 10 2 0 = j + 1 := by rw [eA25]; unfold aSrc; rw [aup_s, sAdd_2, hcj]
          have g3 : ∀ i, 0 ≤ i → i < 24 → A24 (100 + i) 1 3 = -1 := fun i q1 q2 => by rw [eA25]; unfold aSrc; rw [aup_n (by omega)]; exact hf3 i q1 q2
          refine pw_iload_n C dL_law_67 rfl ?_
          refine pw_icmp_eq (tgt := 73) C dL_law_68 (by decide) (by omega) (fun c_68 => ?_) (fun c_68 => ?_)
          rotate_left
          · exact absurd c_68 (by omega)
          refine pw_iinc C dL_law_73 rfl (Nat.le_of_ble_eq_true rfl) rfl ?_
          refine pw_goto (tgt := 10) C dL_law_76 (by decide) ?_
          exact pw_locs (by exact ⟨rfl, cat_vR _, rfl, cat_vR _, rfl, rfl, trivial⟩) (ih_10 (j + 1) A24 M21 (by omega) (hR22) (hI1) (hS1) (fun s q1 q2 => by rw [z1]; exact hz s q1 q2) (c1) (g3) (by omega))

