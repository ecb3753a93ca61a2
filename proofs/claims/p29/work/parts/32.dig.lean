/-! ===== the digest ===== -/
/-- what is left of x in an int -/
def wr (x : Int) : Int := (Int32.ofInt x).toInt
section RowsW
variable {E : Ev} {cc : ByteArray} {nL : Nat} {own : String} {tb : List ExceptionTableEntry} {R0 : Room} {G M : Mm} {k n pc : Nat} {ll : List LE} {st : List Value}
theorem pw_i2lW (C : Cx E cc nL own tb R0) {x : Int} (d : decode cc pc = .ok (.i2l, 1)) (kk : PW E G M k n (pc + 1) ll (vL (wr x) :: st)) : PW E G M k n pc ll (vI x :: st) := by
  have e : vI x = vI (wr x) := by unfold wr vI; rw [Int32.ofInt_toInt]
  rw [e]
  have h1 := Int32.le_toInt (Int32.ofInt x)
  have h2 := Int32.toInt_lt (Int32.ofInt x)
  exact pw_i2l C d (by unfold wr; omega) kk
end RowsW
def dgA (A : An) (x : Int) : Int := fr (fun w d => d * 31 + wr (mny A w)) 0 11 x
def dgS (A : An) (x : Int) : Int := fr (fun s d => d * 31 + wr (lea A s 55)) 0 (A 0 0 0) (fr (fun s d => fr (fun f d => (fr (fun w d => d * 31 + wr (oFa A s f w)) 0 7 d) * 31 + wr (nee (A 10) (A (100 + (s * 4 + f))) 50 2)) 0 4 d) 0 (A 0 0 0) x)
def dgT (A : An) (x : Int) : Int := fr (fun t d => fr (fun f d => d * 31 + wr (A (200 + t) 0 f)) 0 4 (fr (fun w d => d * 31 + wr (oTa A t w)) 0 9 d)) 0 (A 0 0 1) x
def dgL (A : An) (x : Int) : Int := fr (fun l d => fr (fun t d => d * 31 + wr (stt A l t)) 0 (A 0 0 1) ((fr (fun w d => d * 31 + wr (oLi A l w)) 0 8 d) * 31 + wr (wou A l 3 50))) 0 (A 0 0 2) x
def dgD (A : An) (x : Int) : Int := fr (fun l d => fr (fun s d => fr (fun f d => d * 31 + wr (tld A l s f)) 0 4 d) 0 (A 0 0 0) d) 0 (A 0 0 2) x
def dig (A : An) : Int := dgD A (dgL A (dgT A (dgS A (dgA A 58223))))
set_option maxHeartbeats 4000000 in
set_option maxRecDepth 100000 in
theorem c_digestStories {X : Xv} {G M : Mm} {B : Int} {A : An} (hR0 : RC G M B A) (hA : AB A) {x : Int} : CT X yX5_digestStories prog_1_method_28_code 8 (some .long) 5 119 0 0 [vR B, vL x] G M (PJ (fun r G1 M1 => G1 = G ∧ r = dgS A x ∧ RC G M1 B A ∧ Ot B (B + 201) M M1)) := by
  refine CT.by (by decide +kernel) [1, 2] ⟨cat_vR _, cat_vL _, trivial⟩ (Nat.le_of_ble_eq_true rfl) (fun E hX C hR hIni => ?_)
  have hn := hA.n
  have hnS := hA.so.c
  have hO0 : Ot B (B + 201) M M := Ot.rf
  refine pw_lload_n C dX5_digestStories_0 rfl ?_
  refine pw_lstore_n C dX5_digestStories_1 (Nat.le_of_ble_eq_true rfl) rfl ?_
  refine pw_iconst C dX5_digestStories_2 ?_
  refine pw_istore C dX5_digestStories_3 (Nat.le_of_ble_eq_true rfl) rfl ?_
  suffices K_5 : ∀ (nn_5 : Nat) (d s : Int) (Ms : Mm), (0 ≤ s ∧ s ≤ A 0 0 0) → (fr (fun s d => fr (fun f d => (fr (fun w d => d * 31 + wr (oFa A s f w)) 0 7 d) * 31 + wr (nee (A 10) (A (100 + (s * 4 + f))) 50 2)) 0 4 d) s (A 0 0 0) d = fr (fun s d => fr (fun f d => (fr (fun w d => d * 31 + wr (oFa A s f w)) 0 7 d) * 31 + wr (nee (A 10) (A (100 + (s * 4 + f))) 50 2)) 0 4 d) 0 (A 0 0 0) x) → (RC G Ms B A) → (Ot B (B + 201) M Ms) → A 0 0 0 - s < (nn_5 : Int) → PW E G Ms 0 0 5 [(0, 1, vR B), (1, 2, vL x), (3, 2, vL d), (5, 1, vI s)] [] from pw_locs (by exact ⟨rfl, cat_vR _, rfl, rfl, rfl, rfl, rfl, rfl, trivial⟩) (K_5 (A 0 0 0 - 0 + 1 : Int).toNat x 0 M (by omega) (by first | exact rfl | omega) (by first | exact hR0 | omega) (by first | exact hO0 | omega) (by omega))
  intro nn_5
  induction nn_5 with
  | zero => intro d s Ms h_s hf_s hRs hOs h_m5; exact absurd h_m5 (by omega)
  | succ nn_5 ih_5 =>
    intro d s Ms h_s hf_s hRs hOs h_m5
    refine pw_iload C dX5_digestStories_5 rfl ?_
    refine pw_aload_n C dX5_digestStories_7 rfl ?_
    refine pw_getE C dX5_digestStories_8 fl_X5_70 rfl hRs.k (hRs.n 0 (by omega)) ?_
    refine pw_icmp_ge (tgt := 88) C dX5_digestStories_11 (by decide) (by omega) (fun c_11 => ?_) (fun c_11 => ?_)
    · skip
      refine pw_iconst C dX5_digestStories_88 ?_
      refine pw_istore C dX5_digestStories_89 (Nat.le_of_ble_eq_true rfl) rfl ?_
      suffices K_91 : ∀ (nn_91 : Nat) (u i : Int) , (0 ≤ i ∧ i ≤ A 0 0 0) → (fr (fun s d => d * 31 + wr (lea A s 55)) i (A 0 0 0) u = fr (fun s d => d * 31 + wr (lea A s 55)) 0 (A 0 0 0) d) → A 0 0 0 - i < (nn_91 : Int) → PW E G Ms 0 0 91 [(0, 1, vR B), (1, 2, vL x), (3, 2, vL u), (5, 1, vI i)] [] from pw_locs (by exact ⟨rfl, cat_vR _, rfl, rfl, rfl, rfl, rfl, rfl, trivial⟩) (K_91 (A 0 0 0 - 0 + 1 : Int).toNat d 0  (by omega) (by first | exact rfl | omega) (by omega))
      intro nn_91
      induction nn_91 with
      | zero => intro u i h_i hf_i h_m91; exact absurd h_m91 (by omega)
      | succ nn_91 ih_91 =>
        intro u i h_i hf_i h_m91
        refine pw_iload C dX5_digestStories_91 rfl ?_
        refine pw_aload_n C dX5_digestStories_93 rfl ?_
        refine pw_getE C dX5_digestStories_94 fl_X5_70 rfl hRs.k (hRs.n 0 (by omega)) ?_
        refine pw_icmp_ge (tgt := 122) C dX5_digestStories_97 (by decide) (by omega) (fun c_97 => ?_) (fun c_97 => ?_)
        · skip
          refine pw_lload_n C dX5_digestStories_122 rfl ?_
          exact pw_lret C hR dX5_digestStories_123 (⟨_, rfl, rfl, (by rw [fr_done (by omega) hf_i, fr_done (by omega) hf_s]; rfl), hRs, hOs⟩) (by omega) (by omega)
        · skip
          refine pw_lload_n C dX5_digestStories_100 rfl ?_
          refine pw_ldc2 (v := Int64.ofInt 31) (x := 31) C dX5_digestStories_101 (List.mem_of_getElem? (i := 703) (by decide +kernel)) rfl ?_
          refine pw_lmul C dX5_digestStories_104 ?_
          refine pw_aload_n C dX5_digestStories_105 rfl ?_
          refine pw_iload C dX5_digestStories_106 rfl ?_
          refine pw_bipush C dX5_digestStories_108 rfl ?_
          refine pw_cVE C hX dX5_digestStories_110 ml_X5_370 mc_X5_lead (c_lead hRs hA (s := i) (wd := 55) (by omega) (by omega) (by omega)) kc_8 hRs.k rfl rfl ⟨Nat.le_of_ble_eq_true rfl, Nat.le_of_ble_eq_true rfl⟩ (Nat.le_of_ble_eq_true rfl) ⟨Nat.le_of_ble_eq_true rfl, Nat.le_of_ble_eq_true rfl⟩ ?_
          refine pw_i2lW C dX5_digestStories_113 ?_
          refine pw_ladd C dX5_digestStories_114 ?_
          refine pw_lstore_n C dX5_digestStories_115 (Nat.le_of_ble_eq_true rfl) rfl ?_
          refine pw_iinc C dX5_digestStories_116 rfl (Nat.le_of_ble_eq_true rfl) rfl ?_
          refine pw_goto (tgt := 91) C dX5_digestStories_119 (by decide) ?_
          exact pw_locs (by exact ⟨rfl, cat_vR _, rfl, rfl, rfl, rfl, rfl, rfl, trivial⟩) (ih_91 ((u * 31) + (wr (lea A i 55))) (i + 1)  (by omega) (fr_go (by omega) hf_i rfl) (by omega))
    · skip
      refine pw_iconst C dX5_digestStories_14 ?_
      refine pw_istore C dX5_digestStories_15 (Nat.le_of_ble_eq_true rfl) rfl ?_
      suffices K_17 : ∀ (nn_17 : Nat) (e f : Int) (Mf : Mm), (0 ≤ f ∧ f ≤ 4) → (fr (fun f d => (fr (fun w d => d * 31 + wr (oFa A s f w)) 0 7 d) * 31 + wr (nee (A 10) (A (100 + (s * 4 + f))) 50 2)) f (4) e = fr (fun f d => (fr (fun w d => d * 31 + wr (oFa A s f w)) 0 7 d) * 31 + wr (nee (A 10) (A (100 + (s * 4 + f))) 50 2)) 0 4 d) → (RC G Mf B A) → (Ot B (B + 201) M Mf) → 4 - f < (nn_17 : Int) → PW E G Mf 0 0 17 [(0, 1, vR B), (1, 2, vL x), (3, 2, vL e), (5, 1, vI s), (6, 1, vI f)] [] from pw_locs (by exact ⟨rfl, cat_vR _, rfl, rfl, rfl, rfl, rfl, rfl, rfl, rfl, trivial⟩) (K_17 (4 - 0 + 1 : Int).toNat d 0 Ms (by omega) (by first | exact rfl | omega) (by first | exact hRs | omega) (by first | exact hOs | omega) (by omega))
      intro nn_17
      induction nn_17 with
      | zero => intro e f Mf h_f hf_f hRf hOf h_m17; exact absurd h_m17 (by omega)
      | succ nn_17 ih_17 =>
        intro e f Mf h_f hf_f hRf hOf h_m17
        refine pw_iload C dX5_digestStories_17 rfl ?_
        refine pw_iconst C dX5_digestStories_19 ?_
        refine pw_icmp_ge (tgt := 82) C dX5_digestStories_20 (by decide) (by omega) (fun c_20 => ?_) (fun c_20 => ?_)
        · skip
          refine pw_iinc C dX5_digestStories_82 rfl (Nat.le_of_ble_eq_true rfl) rfl ?_
          refine pw_goto (tgt := 5) C dX5_digestStories_85 (by decide) ?_
          exact pw_locs (by exact ⟨rfl, cat_vR _, rfl, rfl, rfl, rfl, rfl, rfl, trivial⟩) (ih_5 e (s + 1) Mf (by omega) (fr_go (by omega) hf_s (fr_done (by omega) hf_f).symm) (hRf) (hOf) (by omega))
        · skip
          refine pw_iconst C dX5_digestStories_23 ?_
          refine pw_istore C dX5_digestStories_24 (Nat.le_of_ble_eq_true rfl) rfl ?_
          suffices K_26 : ∀ (nn_26 : Nat) (g w : Int) , (0 ≤ w ∧ w ≤ 7) → (fr (fun w d => d * 31 + wr (oFa A s f w)) w (7) g = fr (fun w d => d * 31 + wr (oFa A s f w)) 0 7 e) → 7 - w < (nn_26 : Int) → PW E G Mf 0 0 26 [(0, 1, vR B), (1, 2, vL x), (3, 2, vL g), (5, 1, vI s), (6, 1, vI f), (7, 1, vI w)] [] from pw_locs (by exact ⟨rfl, cat_vR _, rfl, rfl, rfl, rfl, rfl, rfl, rfl, rfl, rfl, rfl, trivial⟩) (K_26 (7 - 0 + 1 : Int).toNat e 0  (by omega) (by first | exact rfl | omega) (by omega))
          intro nn_26
          induction nn_26 with
          | zero => intro g w h_w hf_w h_m26; exact absurd h_m26 (by omega)
          | succ nn_26 ih_26 =>
            intro g w h_w hf_w h_m26
            refine pw_iload C dX5_digestStories_26 rfl ?_
            refine pw_bipush C dX5_digestStories_28 rfl ?_
            refine pw_icmp_gt (tgt := 57) C dX5_digestStories_30 (by decide) (by omega) (fun c_30 => ?_) (fun c_30 => ?_)
            · skip
              refine pw_lload_n C dX5_digestStories_57 rfl ?_
              refine pw_ldc2 (v := Int64.ofInt 31) (x := 31) C dX5_digestStories_58 (List.mem_of_getElem? (i := 703) (by decide +kernel)) rfl ?_
              refine pw_lmul C dX5_digestStories_61 ?_
              refine pw_aload_n C dX5_digestStories_62 rfl ?_
              refine pw_iload C dX5_digestStories_63 rfl ?_
              refine pw_iload C dX5_digestStories_65 rfl ?_
              refine pw_bipush C dX5_digestStories_67 rfl ?_
              refine pw_iconst C dX5_digestStories_69 ?_
              refine pw_cVI C hX dX5_digestStories_70 ml_X5_366 mc_X5_needs (c_needs hRf hA (s := s) (f := f) (v := 50) (w := 2) (by omega) (by omega) (by omega) (by omega) (by omega)) kc_8 hRf.k rfl rfl ⟨Nat.le_of_ble_eq_true rfl, Nat.le_of_ble_eq_true rfl⟩ (Nat.le_of_ble_eq_true rfl) ⟨Nat.le_of_ble_eq_true rfl, Nat.le_of_ble_eq_true rfl⟩ (fun r_ G M1 hq_ => ?_)
              obtain ⟨rfl, rfl, hR2, o3⟩ := hq_
              have hO4 := hOf.tr (o3.mono (by omega) (by omega))
              refine pw_i2lW C dX5_digestStories_73 ?_
              refine pw_ladd C dX5_digestStories_74 ?_
              refine pw_lstore_n C dX5_digestStories_75 (Nat.le_of_ble_eq_true rfl) rfl ?_
              refine pw_iinc C dX5_digestStories_76 rfl (Nat.le_of_ble_eq_true rfl) rfl ?_
              refine pw_goto (tgt := 17) C dX5_digestStories_79 (by decide) ?_
              exact pw_locs (by exact ⟨rfl, cat_vR _, rfl, rfl, rfl, rfl, rfl, rfl, rfl, rfl, trivial⟩) (ih_17 ((g * 31) + (wr (nee (A 10) (A (100 + (s * 4 + f))) 50 2))) (f + 1) M1 (by omega) (fr_go (by omega) hf_f (by (try dsimp only); rw [fr_done (by omega) hf_w])) (hR2) (hO4) (by omega))
            · skip
              refine pw_lload_n C dX5_digestStories_33 rfl ?_
              refine pw_ldc2 (v := Int64.ofInt 31) (x := 31) C dX5_digestStories_34 (List.mem_of_getElem? (i := 703) (by decide +kernel)) rfl ?_
              refine pw_lmul C dX5_digestStories_37 ?_
              refine pw_aload_n C dX5_digestStories_38 rfl ?_
              refine pw_iload C dX5_digestStories_39 rfl ?_
              refine pw_iload C dX5_digestStories_41 rfl ?_
              refine pw_iload C dX5_digestStories_43 rfl ?_
              refine pw_cVE C hX dX5_digestStories_45 ml_X5_363 mc_X5_ofFact (c_ofFact hRf hA (s := s) (f := f) (w := w) (by omega) (by omega) (by omega) (by omega)) kc_8 hRf.k rfl rfl ⟨Nat.le_of_ble_eq_true rfl, Nat.le_of_ble_eq_true rfl⟩ (Nat.le_of_ble_eq_true rfl) ⟨Nat.le_of_ble_eq_true rfl, Nat.le_of_ble_eq_true rfl⟩ ?_
              refine pw_i2lW C dX5_digestStories_48 ?_
              refine pw_ladd C dX5_digestStories_49 ?_
              refine pw_lstore_n C dX5_digestStories_50 (Nat.le_of_ble_eq_true rfl) rfl ?_
              refine pw_iinc C dX5_digestStories_51 rfl (Nat.le_of_ble_eq_true rfl) rfl ?_
              refine pw_goto (tgt := 26) C dX5_digestStories_54 (by decide) ?_
              exact pw_locs (by exact ⟨rfl, cat_vR _, rfl, rfl, rfl, rfl, rfl, rfl, rfl, rfl, rfl, rfl, trivial⟩) (ih_26 ((g * 31) + (wr (oFa A s f w))) (w + 1)  (by omega) (fr_go (by omega) hf_w rfl) (by omega))

set_option maxHeartbeats 4000000 in
set_option maxRecDepth 100000 in
theorem c_digestTakes {X : Xv} {G M : Mm} {B : Int} {A : An} (hR0 : RC G M B A) (hA : AB A) {x : Int} : CT X yX5_digestTakes prog_1_method_29_code 7 (some .long) 2 44 0 0 [vR B, vL x] G M (PL G M (dgT A x)) := by
  refine CT.by (by decide +kernel) [1, 2] ⟨cat_vR _, cat_vL _, trivial⟩ (Nat.le_of_ble_eq_true rfl) (fun E hX C hR hIni => ?_)
  have hn := hA.n
  have hnS := hA.so.c
  refine pw_lload_n C dX5_digestTakes_0 rfl ?_
  refine pw_lstore_n C dX5_digestTakes_1 (Nat.le_of_ble_eq_true rfl) rfl ?_
  refine pw_iconst C dX5_digestTakes_2 ?_
  refine pw_istore C dX5_digestTakes_3 (Nat.le_of_ble_eq_true rfl) rfl ?_
  suffices K_5 : ∀ (nn_5 : Nat) (d t : Int) , (0 ≤ t ∧ t ≤ A 0 0 1) → (fr (fun t d => fr (fun f d => d * 31 + wr (A (200 + t) 0 f)) 0 4 (fr (fun w d => d * 31 + wr (oTa A t w)) 0 9 d)) t (A 0 0 1) d = dgT A x) → A 0 0 1 - t < (nn_5 : Int) → PW E G M 0 0 5 [(0, 1, vR B), (1, 2, vL x), (3, 2, vL d), (5, 1, vI t)] [] from pw_locs (by exact ⟨rfl, cat_vR _, rfl, rfl, rfl, rfl, rfl, rfl, trivial⟩) (K_5 (A 0 0 1 - 0 + 1 : Int).toNat x 0  (by omega) (by first | exact rfl | omega) (by omega))
  intro nn_5
  induction nn_5 with
  | zero => intro d t h_t hf_t h_m5; exact absurd h_m5 (by omega)
  | succ nn_5 ih_5 =>
    intro d t h_t hf_t h_m5
    refine pw_iload C dX5_digestTakes_5 rfl ?_
    refine pw_aload_n C dX5_digestTakes_7 rfl ?_
    refine pw_getE C dX5_digestTakes_8 fl_X5_284 rfl hR0.k (hR0.n 1 (by omega)) ?_
    refine pw_icmp_ge (tgt := 83) C dX5_digestTakes_11 (by decide) (by omega) (fun c_11 => ?_) (fun c_11 => ?_)
    · skip
      refine pw_lload_n C dX5_digestTakes_83 rfl ?_
      exact pw_lretE C hR dX5_digestTakes_84 rfl rfl (fr_done (by omega) hf_t) (Nat.zero_le _) (Nat.zero_le _)
    · skip
      refine pw_iconst C dX5_digestTakes_14 ?_
      refine pw_istore C dX5_digestTakes_15 (Nat.le_of_ble_eq_true rfl) rfl ?_
      suffices K_17 : ∀ (nn_17 : Nat) (e w : Int) , (0 ≤ w ∧ w ≤ 9) → (fr (fun w d => d * 31 + wr (oTa A t w)) w (9) e = fr (fun w d => d * 31 + wr (oTa A t w)) 0 9 d) → 9 - w < (nn_17 : Int) → PW E G M 0 0 17 [(0, 1, vR B), (1, 2, vL x), (3, 2, vL e), (5, 1, vI t), (6, 1, vI w)] [] from pw_locs (by exact ⟨rfl, cat_vR _, rfl, rfl, rfl, rfl, rfl, rfl, rfl, rfl, trivial⟩) (K_17 (9 - 0 + 1 : Int).toNat d 0  (by omega) (by first | exact rfl | omega) (by omega))
      intro nn_17
      induction nn_17 with
      | zero => intro e w h_w hf_w h_m17; exact absurd h_m17 (by omega)
      | succ nn_17 ih_17 =>
        intro e w h_w hf_w h_m17
        refine pw_iload C dX5_digestTakes_17 rfl ?_
        refine pw_bipush C dX5_digestTakes_19 rfl ?_
        refine pw_icmp_gt (tgt := 46) C dX5_digestTakes_21 (by decide) (by omega) (fun c_21 => ?_) (fun c_21 => ?_)
        · skip
          refine pw_iconst C dX5_digestTakes_46 ?_
          refine pw_istore C dX5_digestTakes_47 (Nat.le_of_ble_eq_true rfl) rfl ?_
          suffices K_49 : ∀ (nn_49 : Nat) (g f : Int) , (0 ≤ f ∧ f ≤ 4) → (fr (fun f d => d * 31 + wr (A (200 + t) 0 f)) f (4) g = fr (fun f d => d * 31 + wr (A (200 + t) 0 f)) 0 4 e) → 4 - f < (nn_49 : Int) → PW E G M 0 0 49 [(0, 1, vR B), (1, 2, vL x), (3, 2, vL g), (5, 1, vI t), (6, 1, vI f)] [] from pw_locs (by exact ⟨rfl, cat_vR _, rfl, rfl, rfl, rfl, rfl, rfl, rfl, rfl, trivial⟩) (K_49 (4 - 0 + 1 : Int).toNat e 0  (by omega) (by first | exact rfl | omega) (by omega))
          intro nn_49
          induction nn_49 with
          | zero => intro g f h_f hf_f h_m49; exact absurd h_m49 (by omega)
          | succ nn_49 ih_49 =>
            intro g f h_f hf_f h_m49
            refine pw_iload C dX5_digestTakes_49 rfl ?_
            refine pw_iconst C dX5_digestTakes_51 ?_
            refine pw_icmp_ge (tgt := 77) C dX5_digestTakes_52 (by decide) (by omega) (fun c_52 => ?_) (fun c_52 => ?_)
            · skip
              refine pw_iinc C dX5_digestTakes_77 rfl (Nat.le_of_ble_eq_true rfl) rfl ?_
              refine pw_goto (tgt := 5) C dX5_digestTakes_80 (by decide) ?_
              exact pw_locs (by exact ⟨rfl, cat_vR _, rfl, rfl, rfl, rfl, rfl, rfl, trivial⟩) (ih_5 g (t + 1)  (by omega) (fr_go (by omega) hf_t (by (try dsimp only); rw [← fr_done (by omega) hf_w, ← fr_done (by omega) hf_f])) (by omega))
            · skip
              refine pw_lload_n C dX5_digestTakes_55 rfl ?_
              refine pw_ldc2 (v := Int64.ofInt 31) (x := 31) C dX5_digestTakes_56 (List.mem_of_getElem? (i := 703) (by decide +kernel)) rfl ?_
              refine pw_lmul C dX5_digestTakes_59 ?_
              refine pw_aload_n C dX5_digestTakes_60 rfl ?_
              refine pw_iload C dX5_digestTakes_61 rfl ?_
              refine pw_iload C dX5_digestTakes_63 rfl ?_
              refine pw_cVE C hX dX5_digestTakes_65 ml_X5_376 mc_X5_says (c_says hR0 hA (t := t) (f := f) (by omega) (by omega) (by omega)) kc_8 hR0.k rfl rfl ⟨Nat.le_of_ble_eq_true rfl, Nat.le_of_ble_eq_true rfl⟩ (Nat.le_of_ble_eq_true rfl) ⟨Nat.le_of_ble_eq_true rfl, Nat.le_of_ble_eq_true rfl⟩ ?_
              refine pw_i2lW C dX5_digestTakes_68 ?_
              refine pw_ladd C dX5_digestTakes_69 ?_
              refine pw_lstore_n C dX5_digestTakes_70 (Nat.le_of_ble_eq_true rfl) rfl ?_
              refine pw_iinc C dX5_digestTakes_71 rfl (Nat.le_of_ble_eq_true rfl) rfl ?_
              refine pw_goto (tgt := 49) C dX5_digestTakes_74 (by decide) ?_
              exact pw_locs (by exact ⟨rfl, cat_vR _, rfl, rfl, rfl, rfl, rfl, rfl, rfl, rfl, trivial⟩) (ih_49 ((g * 31) + (wr (A (200 + t) 0 f))) (f + 1)  (by omega) (fr_go (by omega) hf_f rfl) (by omega))
        · skip
          refine pw_lload_n C dX5_digestTakes_24 rfl ?_
          refine pw_ldc2 (v := Int64.ofInt 31) (x := 31) C dX5_digestTakes_25 (List.mem_of_getElem? (i := 703) (by decide +kernel)) rfl ?_
          refine pw_lmul C dX5_digestTakes_28 ?_
          refine pw_aload_n C dX5_digestTakes_29 rfl ?_
          refine pw_iload C dX5_digestTakes_30 rfl ?_
          refine pw_iload C dX5_digestTakes_32 rfl ?_
          refine pw_cVE C hX dX5_digestTakes_34 ml_X5_373 mc_X5_ofTake (c_ofTake hR0 hA (t := t) (w := w) (by omega) (by omega) (by omega)) kc_8 hR0.k rfl rfl ⟨Nat.le_of_ble_eq_true rfl, Nat.le_of_ble_eq_true rfl⟩ (Nat.le_of_ble_eq_true rfl) ⟨Nat.le_of_ble_eq_true rfl, Nat.le_of_ble_eq_true rfl⟩ ?_
          refine pw_i2lW C dX5_digestTakes_37 ?_
          refine pw_ladd C dX5_digestTakes_38 ?_
          refine pw_lstore_n C dX5_digestTakes_39 (Nat.le_of_ble_eq_true rfl) rfl ?_
          refine pw_iinc C dX5_digestTakes_40 rfl (Nat.le_of_ble_eq_true rfl) rfl ?_
          refine pw_goto (tgt := 17) C dX5_digestTakes_43 (by decide) ?_
          exact pw_locs (by exact ⟨rfl, cat_vR _, rfl, rfl, rfl, rfl, rfl, rfl, rfl, rfl, trivial⟩) (ih_17 ((e * 31) + (wr (oTa A t w))) (w + 1)  (by omega) (fr_go (by omega) hf_w rfl) (by omega))

set_option maxHeartbeats 4000000 in
set_option maxRecDepth 100000 in
theorem c_digestLines {X : Xv} {G M : Mm} {B : Int} {A : An} (hR0 : RC G M B A) (hA : AB A) {x : Int} : CT X yX5_digestLines prog_1_method_30_code 7 (some .long) 5 119 0 0 [vR B, vL x] G M (PJ (fun r G1 M1 => G1 = G ∧ r = dgL A x ∧ RC G M1 B A ∧ Ot B (B + 201) M M1)) := by
  refine CT.by (by decide +kernel) [1, 2] ⟨cat_vR _, cat_vL _, trivial⟩ (Nat.le_of_ble_eq_true rfl) (fun E hX C hR hIni => ?_)
  have hn := hA.n
  have hnS := hA.so.c
  have hO0 : Ot B (B + 201) M M := Ot.rf
  refine pw_lload_n C dX5_digestLines_0 rfl ?_
  refine pw_lstore_n C dX5_digestLines_1 (Nat.le_of_ble_eq_true rfl) rfl ?_
  refine pw_iconst C dX5_digestLines_2 ?_
  refine pw_istore C dX5_digestLines_3 (Nat.le_of_ble_eq_true rfl) rfl ?_
  suffices K_5 : ∀ (nn_5 : Nat) (d l : Int) (Ml : Mm), (0 ≤ l ∧ l ≤ A 0 0 2) → (fr (fun l d => fr (fun t d => d * 31 + wr (stt A l t)) 0 (A 0 0 1) ((fr (fun w d => d * 31 + wr (oLi A l w)) 0 8 d) * 31 + wr (wou A l 3 50))) l (A 0 0 2) d = dgL A x) → (RC G Ml B A) → (Ot B (B + 201) M Ml) → A 0 0 2 - l < (nn_5 : Int) → PW E G Ml 0 0 5 [(0, 1, vR B), (1, 2, vL x), (3, 2, vL d), (5, 1, vI l)] [] from pw_locs (by exact ⟨rfl, cat_vR _, rfl, rfl, rfl, rfl, rfl, rfl, trivial⟩) (K_5 (A 0 0 2 - 0 + 1 : Int).toNat x 0 M (by omega) (by first | exact rfl | omega) (by first | exact hR0 | omega) (by first | exact hO0 | omega) (by omega))
  intro nn_5
  induction nn_5 with
  | zero => intro d l Ml h_l hf_l hRl hOl h_m5; exact absurd h_m5 (by omega)
  | succ nn_5 ih_5 =>
    intro d l Ml h_l hf_l hRl hOl h_m5
    refine pw_iload C dX5_digestLines_5 rfl ?_
    refine pw_aload_n C dX5_digestLines_7 rfl ?_
    refine pw_getE C dX5_digestLines_8 fl_X5_80 rfl hRl.k (hRl.n 2 (by omega)) ?_
    refine pw_icmp_ge (tgt := 103) C dX5_digestLines_11 (by decide) (by omega) (fun c_11 => ?_) (fun c_11 => ?_)
    · skip
      refine pw_lload_n C dX5_digestLines_103 rfl ?_
      exact pw_lret C hR dX5_digestLines_104 (⟨_, rfl, rfl, fr_done (by omega) hf_l, hRl, hOl⟩) (by omega) (by omega)
    · skip
      refine pw_iconst C dX5_digestLines_14 ?_
      refine pw_istore C dX5_digestLines_15 (Nat.le_of_ble_eq_true rfl) rfl ?_
      suffices K_17 : ∀ (nn_17 : Nat) (e w : Int) , (0 ≤ w ∧ w ≤ 8) → (fr (fun w d => d * 31 + wr (oLi A l w)) w (8) e = fr (fun w d => d * 31 + wr (oLi A l w)) 0 8 d) → 8 - w < (nn_17 : Int) → PW E G Ml 0 0 17 [(0, 1, vR B), (1, 2, vL x), (3, 2, vL e), (5, 1, vI l), (6, 1, vI w)] [] from pw_locs (by exact ⟨rfl, cat_vR _, rfl, rfl, rfl, rfl, rfl, rfl, rfl, rfl, trivial⟩) (K_17 (8 - 0 + 1 : Int).toNat d 0  (by omega) (by first | exact rfl | omega) (by omega))
      intro nn_17
      induction nn_17 with
      | zero => intro e w h_w hf_w h_m17; exact absurd h_m17 (by omega)
      | succ nn_17 ih_17 =>
        intro e w h_w hf_w h_m17
        refine pw_iload C dX5_digestLines_17 rfl ?_
        refine pw_bipush C dX5_digestLines_19 rfl ?_
        refine pw_icmp_gt (tgt := 46) C dX5_digestLines_21 (by decide) (by omega) (fun c_21 => ?_) (fun c_21 => ?_)
        · skip
          refine pw_lload_n C dX5_digestLines_46 rfl ?_
          refine pw_ldc2 (v := Int64.ofInt 31) (x := 31) C dX5_digestLines_47 (List.mem_of_getElem? (i := 703) (by decide +kernel)) rfl ?_
          refine pw_lmul C dX5_digestLines_50 ?_
          refine pw_aload_n C dX5_digestLines_51 rfl ?_
          refine pw_iload C dX5_digestLines_52 rfl ?_
          refine pw_iconst C dX5_digestLines_54 ?_
          refine pw_bipush C dX5_digestLines_55 rfl ?_
          refine pw_cVI C hX dX5_digestLines_57 ml_X5_382 mc_X5_wouldArrive (c_wouldArrive hRl hA (l := l) (k := 3) (w := 50) (by omega) (by omega) (by omega) (by omega)) kc_8 hRl.k rfl rfl ⟨Nat.le_of_ble_eq_true rfl, Nat.le_of_ble_eq_true rfl⟩ (Nat.le_of_ble_eq_true rfl) ⟨Nat.le_of_ble_eq_true rfl, Nat.le_of_ble_eq_true rfl⟩ (fun r_ G M1 hq_ => ?_)
          obtain ⟨rfl, rfl, hR2, o3⟩ := hq_
          have hO4 := hOl.tr (o3.mono (by omega) (by omega))
          refine pw_i2lW C dX5_digestLines_60 ?_
          refine pw_ladd C dX5_digestLines_61 ?_
          refine pw_lstore_n C dX5_digestLines_62 (Nat.le_of_ble_eq_true rfl) rfl ?_
          refine pw_iconst C dX5_digestLines_63 ?_
          refine pw_istore C dX5_digestLines_64 (Nat.le_of_ble_eq_true rfl) rfl ?_
          suffices K_66 : ∀ (nn_66 : Nat) (g t : Int) , (0 ≤ t ∧ t ≤ A 0 0 1) → (fr (fun t d => d * 31 + wr (stt A l t)) t (A 0 0 1) g = fr (fun t d => d * 31 + wr (stt A l t)) 0 (A 0 0 1) (e * 31 + wr (wou A l 3 50))) → A 0 0 1 - t < (nn_66 : Int) → PW E G M1 0 0 66 [(0, 1, vR B), (1, 2, vL x), (3, 2, vL g), (5, 1, vI l), (6, 1, vI t)] [] from pw_locs (by exact ⟨rfl, cat_vR _, rfl, rfl, rfl, rfl, rfl, rfl, rfl, rfl, trivial⟩) (K_66 (A 0 0 1 - 0 + 1 : Int).toNat ((e * 31) + (wr (wou A l 3 50))) 0  (by omega) (by first | exact rfl | omega) (by omega))
          intro nn_66
          induction nn_66 with
          | zero => intro g t h_t hf_t h_m66; exact absurd h_m66 (by omega)
          | succ nn_66 ih_66 =>
            intro g t h_t hf_t h_m66
            refine pw_iload C dX5_digestLines_66 rfl ?_
            refine pw_aload_n C dX5_digestLines_68 rfl ?_
            refine pw_getE C dX5_digestLines_69 fl_X5_284 rfl hR2.k (hR2.n 1 (by omega)) ?_
            refine pw_icmp_ge (tgt := 97) C dX5_digestLines_72 (by decide) (by omega) (fun c_72 => ?_) (fun c_72 => ?_)
            · skip
              refine pw_iinc C dX5_digestLines_97 rfl (Nat.le_of_ble_eq_true rfl) rfl ?_
              refine pw_goto (tgt := 5) C dX5_digestLines_100 (by decide) ?_
              exact pw_locs (by exact ⟨rfl, cat_vR _, rfl, rfl, rfl, rfl, rfl, rfl, trivial⟩) (ih_5 g (l + 1) M1 (by omega) (fr_go (by omega) hf_l (by (try dsimp only); rw [← fr_done (by omega) hf_w, ← fr_done (by omega) hf_t])) (hR2) (hO4) (by omega))
            · skip
              refine pw_lload_n C dX5_digestLines_75 rfl ?_
              refine pw_ldc2 (v := Int64.ofInt 31) (x := 31) C dX5_digestLines_76 (List.mem_of_getElem? (i := 703) (by decide +kernel)) rfl ?_
              refine pw_lmul C dX5_digestLines_79 ?_
              refine pw_aload_n C dX5_digestLines_80 rfl ?_
              refine pw_iload C dX5_digestLines_81 rfl ?_
              refine pw_iload C dX5_digestLines_83 rfl ?_
              refine pw_cVE C hX dX5_digestLines_85 ml_X5_385 mc_X5_state (c_state hR2 hA (l := l) (t := t) (by omega) (by omega) (by omega)) kc_8 hR2.k rfl rfl ⟨Nat.le_of_ble_eq_true rfl, Nat.le_of_ble_eq_true rfl⟩ (Nat.le_of_ble_eq_true rfl) ⟨Nat.le_of_ble_eq_true rfl, Nat.le_of_ble_eq_true rfl⟩ ?_
              refine pw_i2lW C dX5_digestLines_88 ?_
              refine pw_ladd C dX5_digestLines_89 ?_
              refine pw_lstore_n C dX5_digestLines_90 (Nat.le_of_ble_eq_true rfl) rfl ?_
              refine pw_iinc C dX5_digestLines_91 rfl (Nat.le_of_ble_eq_true rfl) rfl ?_
              refine pw_goto (tgt := 66) C dX5_digestLines_94 (by decide) ?_
              exact pw_locs (by exact ⟨rfl, cat_vR _, rfl, rfl, rfl, rfl, rfl, rfl, rfl, rfl, trivial⟩) (ih_66 ((g * 31) + (wr (stt A l t))) (t + 1)  (by omega) (fr_go (by omega) hf_t rfl) (by omega))
        · skip
          refine pw_lload_n C dX5_digestLines_24 rfl ?_
          refine pw_ldc2 (v := Int64.ofInt 31) (x := 31) C dX5_digestLines_25 (List.mem_of_getElem? (i := 703) (by decide +kernel)) rfl ?_
          refine pw_lmul C dX5_digestLines_28 ?_
          refine pw_aload_n C dX5_digestLines_29 rfl ?_
          refine pw_iload C dX5_digestLines_30 rfl ?_
          refine pw_iload C dX5_digestLines_32 rfl ?_
          refine pw_cVE C hX dX5_digestLines_34 ml_X5_379 mc_X5_ofLine (c_ofLine hRl hA (l := l) (w := w) (by omega) (by omega) (by omega)) kc_8 hRl.k rfl rfl ⟨Nat.le_of_ble_eq_true rfl, Nat.le_of_ble_eq_true rfl⟩ (Nat.le_of_ble_eq_true rfl) ⟨Nat.le_of_ble_eq_true rfl, Nat.le_of_ble_eq_true rfl⟩ ?_
          refine pw_i2lW C dX5_digestLines_37 ?_
          refine pw_ladd C dX5_digestLines_38 ?_
          refine pw_lstore_n C dX5_digestLines_39 (Nat.le_of_ble_eq_true rfl) rfl ?_
          refine pw_iinc C dX5_digestLines_40 rfl (Nat.le_of_ble_eq_true rfl) rfl ?_
          refine pw_goto (tgt := 17) C dX5_digestLines_43 (by decide) ?_
          exact pw_locs (by exact ⟨rfl, cat_vR _, rfl, rfl, rfl, rfl, rfl, rfl, rfl, rfl, trivial⟩) (ih_17 ((e * 31) + (wr (oLi A l w))) (w + 1)  (by omega) (fr_go (by omega) hf_w rfl) (by omega))

set_option maxHeartbeats 4000000 in
set_option maxRecDepth 100000 in
theorem c_digestDesks {X : Xv} {G M : Mm} {B : Int} {A : An} (hR0 : RC G M B A) (hA : AB A) {x : Int} : CT X yX5_digestDesks prog_1_method_31_code 8 (some .long) 4 93 0 0 [vR B, vL x] G M (PL G M (dgD A x)) := by
  refine CT.by (by decide +kernel) [1, 2] ⟨cat_vR _, cat_vL _, trivial⟩ (Nat.le_of_ble_eq_true rfl) (fun E hX C hR hIni => ?_)
  have hn := hA.n
  have hnS := hA.so.c
  refine pw_lload_n C dX5_digestDesks_0 rfl ?_
  refine pw_lstore_n C dX5_digestDesks_1 (Nat.le_of_ble_eq_true rfl) rfl ?_
  refine pw_iconst C dX5_digestDesks_2 ?_
  refine pw_istore C dX5_digestDesks_3 (Nat.le_of_ble_eq_true rfl) rfl ?_
  suffices K_5 : ∀ (nn_5 : Nat) (d l : Int) , (0 ≤ l ∧ l ≤ A 0 0 2) → (fr (fun l d => fr (fun s d => fr (fun f d => d * 31 + wr (tld A l s f)) 0 4 d) 0 (A 0 0 0) d) l (A 0 0 2) d = dgD A x) → A 0 0 2 - l < (nn_5 : Int) → PW E G M 0 0 5 [(0, 1, vR B), (1, 2, vL x), (3, 2, vL d), (5, 1, vI l)] [] from pw_locs (by exact ⟨rfl, cat_vR _, rfl, rfl, rfl, rfl, rfl, rfl, trivial⟩) (K_5 (A 0 0 2 - 0 + 1 : Int).toNat x 0  (by omega) (by first | exact rfl | omega) (by omega))
  intro nn_5
  induction nn_5 with
  | zero => intro d l h_l hf_l h_m5; exact absurd h_m5 (by omega)
  | succ nn_5 ih_5 =>
    intro d l h_l hf_l h_m5
    refine pw_iload C dX5_digestDesks_5 rfl ?_
    refine pw_aload_n C dX5_digestDesks_7 rfl ?_
    refine pw_getE C dX5_digestDesks_8 fl_X5_80 rfl hR0.k (hR0.n 2 (by omega)) ?_
    refine pw_icmp_ge (tgt := 71) C dX5_digestDesks_11 (by decide) (by omega) (fun c_11 => ?_) (fun c_11 => ?_)
    · skip
      refine pw_lload_n C dX5_digestDesks_71 rfl ?_
      exact pw_lretE C hR dX5_digestDesks_72 rfl rfl (fr_done (by omega) hf_l) (Nat.zero_le _) (Nat.zero_le _)
    · skip
      refine pw_iconst C dX5_digestDesks_14 ?_
      refine pw_istore C dX5_digestDesks_15 (Nat.le_of_ble_eq_true rfl) rfl ?_
      suffices K_17 : ∀ (nn_17 : Nat) (e s : Int) , (0 ≤ s ∧ s ≤ A 0 0 0) → (fr (fun s d => fr (fun f d => d * 31 + wr (tld A l s f)) 0 4 d) s (A 0 0 0) e = fr (fun s d => fr (fun f d => d * 31 + wr (tld A l s f)) 0 4 d) 0 (A 0 0 0) d) → A 0 0 0 - s < (nn_17 : Int) → PW E G M 0 0 17 [(0, 1, vR B), (1, 2, vL x), (3, 2, vL e), (5, 1, vI l), (6, 1, vI s)] [] from pw_locs (by exact ⟨rfl, cat_vR _, rfl, rfl, rfl, rfl, rfl, rfl, rfl, rfl, trivial⟩) (K_17 (A 0 0 0 - 0 + 1 : Int).toNat d 0  (by omega) (by first | exact rfl | omega) (by omega))
      intro nn_17
      induction nn_17 with
      | zero => intro e s h_s hf_s h_m17; exact absurd h_m17 (by omega)
      | succ nn_17 ih_17 =>
        intro e s h_s hf_s h_m17
        refine pw_iload C dX5_digestDesks_17 rfl ?_
        refine pw_aload_n C dX5_digestDesks_19 rfl ?_
        refine pw_getE C dX5_digestDesks_20 fl_X5_70 rfl hR0.k (hR0.n 0 (by omega)) ?_
        refine pw_icmp_ge (tgt := 65) C dX5_digestDesks_23 (by decide) (by omega) (fun c_23 => ?_) (fun c_23 => ?_)
        · skip
          refine pw_iinc C dX5_digestDesks_65 rfl (Nat.le_of_ble_eq_true rfl) rfl ?_
          refine pw_goto (tgt := 5) C dX5_digestDesks_68 (by decide) ?_
          exact pw_locs (by exact ⟨rfl, cat_vR _, rfl, rfl, rfl, rfl, rfl, rfl, trivial⟩) (ih_5 e (l + 1)  (by omega) (fr_go (by omega) hf_l (fr_done (by omega) hf_s).symm) (by omega))
        · skip
          refine pw_iconst C dX5_digestDesks_26 ?_
          refine pw_istore C dX5_digestDesks_27 (Nat.le_of_ble_eq_true rfl) rfl ?_
          suffices K_29 : ∀ (nn_29 : Nat) (g f : Int) , (0 ≤ f ∧ f ≤ 4) → (fr (fun f d => d * 31 + wr (tld A l s f)) f (4) g = fr (fun f d => d * 31 + wr (tld A l s f)) 0 4 e) → 4 - f < (nn_29 : Int) → PW E G M 0 0 29 [(0, 1, vR B), (1, 2, vL x), (3, 2, vL g), (5, 1, vI l), (6, 1, vI s), (7, 1, vI f)] [] from pw_locs (by exact ⟨rfl, cat_vR _, rfl, rfl, rfl, rfl, rfl, rfl, rfl, rfl, rfl, rfl, trivial⟩) (K_29 (4 - 0 + 1 : Int).toNat e 0  (by omega) (by first | exact rfl | omega) (by omega))
          intro nn_29
          induction nn_29 with
          | zero => intro g f h_f hf_f h_m29; exact absurd h_m29 (by omega)
          | succ nn_29 ih_29 =>
            intro g f h_f hf_f h_m29
            refine pw_iload C dX5_digestDesks_29 rfl ?_
            refine pw_iconst C dX5_digestDesks_31 ?_
            refine pw_icmp_ge (tgt := 59) C dX5_digestDesks_32 (by decide) (by omega) (fun c_32 => ?_) (fun c_32 => ?_)
            · skip
              refine pw_iinc C dX5_digestDesks_59 rfl (Nat.le_of_ble_eq_true rfl) rfl ?_
              refine pw_goto (tgt := 17) C dX5_digestDesks_62 (by decide) ?_
              exact pw_locs (by exact ⟨rfl, cat_vR _, rfl, rfl, rfl, rfl, rfl, rfl, rfl, rfl, trivial⟩) (ih_17 g (s + 1)  (by omega) (fr_go (by omega) hf_s (fr_done (by omega) hf_f).symm) (by omega))
            · skip
              refine pw_lload_n C dX5_digestDesks_35 rfl ?_
              refine pw_ldc2 (v := Int64.ofInt 31) (x := 31) C dX5_digestDesks_36 (List.mem_of_getElem? (i := 703) (by decide +kernel)) rfl ?_
              refine pw_lmul C dX5_digestDesks_39 ?_
              refine pw_aload_n C dX5_digestDesks_40 rfl ?_
              refine pw_iload C dX5_digestDesks_41 rfl ?_
              refine pw_iload C dX5_digestDesks_43 rfl ?_
              refine pw_iload C dX5_digestDesks_45 rfl ?_
              refine pw_cVE C hX dX5_digestDesks_47 ml_X5_388 mc_X5_tells (c_tells hR0 hA (l := l) (s := s) (f := f) (by omega) (by omega) (by omega) (by omega)) kc_8 hR0.k rfl rfl ⟨Nat.le_of_ble_eq_true rfl, Nat.le_of_ble_eq_true rfl⟩ (Nat.le_of_ble_eq_true rfl) ⟨Nat.le_of_ble_eq_true rfl, Nat.le_of_ble_eq_true rfl⟩ ?_
              refine pw_i2lW C dX5_digestDesks_50 ?_
              refine pw_ladd C dX5_digestDesks_51 ?_
              refine pw_lstore_n C dX5_digestDesks_52 (Nat.le_of_ble_eq_true rfl) rfl ?_
              refine pw_iinc C dX5_digestDesks_53 rfl (Nat.le_of_ble_eq_true rfl) rfl ?_
              refine pw_goto (tgt := 29) C dX5_digestDesks_56 (by decide) ?_
              exact pw_locs (by exact ⟨rfl, cat_vR _, rfl, rfl, rfl, rfl, rfl, rfl, rfl, rfl, rfl, rfl, trivial⟩) (ih_29 ((g * 31) + (wr (tld A l s f))) (f + 1)  (by omega) (fr_go (by omega) hf_f rfl) (by omega))

set_option maxHeartbeats 4000000 in
set_option maxRecDepth 100000 in
theorem c_digest {X : Xv} {G M : Mm} {B : Int} {A : An} (hR0 : RC G M B A) (hA : AB A) : CT X yX5_digest prog_1_method_27_code 4 (some .long) 6 146 0 0 [vR B] G M (PJ (fun r G1 M1 => G1 = G ∧ r = dig A ∧ RC G M1 B A ∧ Ot B (B + 201) M M1)) := by
  refine CT.by (by decide +kernel) [1] ⟨cat_vR _, trivial⟩ (Nat.le_of_ble_eq_true rfl) (fun E hX C hR hIni => ?_)
  have hn := hA.n
  have hnS := hA.so.c
  have hO0 : Ot B (B + 201) M M := Ot.rf
  refine pw_ldc2 (v := Int64.ofInt 58223) (x := 58223) C dX5_digest_0 (List.mem_of_getElem? (i := 702) (by decide +kernel)) rfl ?_
  refine pw_lstore_n C dX5_digest_3 (Nat.le_of_ble_eq_true rfl) rfl ?_
  refine pw_iconst C dX5_digest_4 ?_
  refine pw_istore_n C dX5_digest_5 (Nat.le_of_ble_eq_true rfl) rfl ?_
  suffices K_6 : ∀ (nn_6 : Nat) (d w : Int) , (0 ≤ w ∧ w ≤ 11) → (fr (fun w d => d * 31 + wr (mny A w)) w (11) d = dgA A 58223) → 11 - w < (nn_6 : Int) → PW E G M 0 0 6 [(0, 1, vR B), (1, 2, vL d), (3, 1, vI w)] [] from pw_locs (by exact ⟨rfl, cat_vR _, rfl, rfl, rfl, rfl, trivial⟩) (K_6 (11 - 0 + 1 : Int).toNat 58223 0  (by omega) (by first | exact rfl | omega) (by omega))
  intro nn_6
  induction nn_6 with
  | zero => intro d w h_w hf_w h_m6; exact absurd h_m6 (by omega)
  | succ nn_6 ih_6 =>
    intro d w h_w hf_w h_m6
    refine pw_iload_n C dX5_digest_6 rfl ?_
    refine pw_bipush C dX5_digest_7 rfl ?_
    refine pw_icmp_gt (tgt := 31) C dX5_digest_9 (by decide) (by omega) (fun c_9 => ?_) (fun c_9 => ?_)
    · skip
      refine pw_aload_n C dX5_digest_31 rfl ?_
      refine pw_lload_n C dX5_digest_32 rfl ?_
      refine pw_cVJ C hX dX5_digest_33 ml_X5_350 mc_X5_digestStories (c_digestStories hR0 hA (x := d)) kc_8 hR0.k rfl rfl ⟨Nat.le_of_ble_eq_true rfl, Nat.le_of_ble_eq_true rfl⟩ (Nat.le_of_ble_eq_true rfl) ⟨Nat.le_of_ble_eq_true rfl, Nat.le_of_ble_eq_true rfl⟩ (fun r_ G M1 hq_ => ?_)
      obtain ⟨rfl, rfl, hR2, o3⟩ := hq_
      have hO4 := hO0.tr o3
      refine pw_lstore_n C dX5_digest_36 (Nat.le_of_ble_eq_true rfl) rfl ?_
      refine pw_aload_n C dX5_digest_37 rfl ?_
      refine pw_lload_n C dX5_digest_38 rfl ?_
      refine pw_cVL C hX dX5_digest_39 ml_X5_354 mc_X5_digestTakes (c_digestTakes hR2 hA (x := (dgS A d))) kc_8 hR2.k rfl rfl ⟨Nat.le_of_ble_eq_true rfl, Nat.le_of_ble_eq_true rfl⟩ (Nat.le_of_ble_eq_true rfl) ⟨Nat.le_of_ble_eq_true rfl, Nat.le_of_ble_eq_true rfl⟩ ?_
      refine pw_lstore_n C dX5_digest_42 (Nat.le_of_ble_eq_true rfl) rfl ?_
      refine pw_aload_n C dX5_digest_43 rfl ?_
      refine pw_lload_n C dX5_digest_44 rfl ?_
      refine pw_cVJ C hX dX5_digest_45 ml_X5_357 mc_X5_digestLines (c_digestLines hR2 hA (x := (dgT A (dgS A d)))) kc_8 hR2.k rfl rfl ⟨Nat.le_of_ble_eq_true rfl, Nat.le_of_ble_eq_true rfl⟩ (Nat.le_of_ble_eq_true rfl) ⟨Nat.le_of_ble_eq_true rfl, Nat.le_of_ble_eq_true rfl⟩ (fun r_ G M5 hq_ => ?_)
      obtain ⟨rfl, rfl, hR6, o7⟩ := hq_
      have hO8 := hO4.tr o7
      refine pw_lstore_n C dX5_digest_48 (Nat.le_of_ble_eq_true rfl) rfl ?_
      refine pw_aload_n C dX5_digest_49 rfl ?_
      refine pw_lload_n C dX5_digest_50 rfl ?_
      refine pw_cVL C hX dX5_digest_51 ml_X5_360 mc_X5_digestDesks (c_digestDesks hR6 hA (x := (dgL A (dgT A (dgS A d))))) kc_8 hR6.k rfl rfl ⟨Nat.le_of_ble_eq_true rfl, Nat.le_of_ble_eq_true rfl⟩ (Nat.le_of_ble_eq_true rfl) ⟨Nat.le_of_ble_eq_true rfl, Nat.le_of_ble_eq_true rfl⟩ ?_
      exact pw_lret C hR dX5_digest_54 (⟨_, rfl, rfl, (by rw [fr_done (by omega) hf_w]; rfl), hR6, hO8⟩) (by omega) (by omega)
    · skip
      refine pw_lload_n C dX5_digest_12 rfl ?_
      refine pw_ldc2 (v := Int64.ofInt 31) (x := 31) C dX5_digest_13 (List.mem_of_getElem? (i := 703) (by decide +kernel)) rfl ?_
      refine pw_lmul C dX5_digest_16 ?_
      refine pw_aload_n C dX5_digest_17 rfl ?_
      refine pw_iload_n C dX5_digest_18 rfl ?_
      refine pw_cVE C hX dX5_digest_19 ml_X5_347 mc_X5_many (c_many hR0 hA (w := w) (by omega) (by omega)) kc_8 hR0.k rfl rfl ⟨Nat.le_of_ble_eq_true rfl, Nat.le_of_ble_eq_true rfl⟩ (Nat.le_of_ble_eq_true rfl) ⟨Nat.le_of_ble_eq_true rfl, Nat.le_of_ble_eq_true rfl⟩ ?_
      refine pw_i2lW C dX5_digest_22 ?_
      refine pw_ladd C dX5_digest_23 ?_
      refine pw_lstore_n C dX5_digest_24 (Nat.le_of_ble_eq_true rfl) rfl ?_
      refine pw_iinc C dX5_digest_25 rfl (Nat.le_of_ble_eq_true rfl) rfl ?_
      refine pw_goto (tgt := 6) C dX5_digest_28 (by decide) ?_
      exact pw_locs (by exact ⟨rfl, cat_vR _, rfl, rfl, rfl, rfl, trivial⟩) (ih_6 ((d * 31) + (wr (mny A w))) (w + 1)  (by omega) (fr_go (by omega) hf_w rfl) (by omega))

