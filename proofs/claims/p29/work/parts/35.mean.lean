/-! ===== the mean delay ===== -/
/-- one take on one line: (sum, count) -/
def mdF (A : An) (l t : Int) (s : Int × Int) : Int × Int := if A (20 + l) 0 t = 0 then (s.1 + (A (20 + l) 3 t - max (A (200 + t) 1 8) (A (200 + t) 1 4)), s.2 + 1) else s
def mdS (A : An) : Int × Int := fr (fun l s => fr (fun t s => mdF A l t s) 0 (A 0 0 1) s) 0 (A 0 0 2) (0, 0)
def mdV (s : Int × Int) : UInt64 := if s.2 = 0 then FP.dconst0 else FP.ddiv (FP.i2d (Int32.ofInt s.1)) (FP.i2d (Int32.ofInt s.2))
def PD (G M : Mm) (x : UInt64) : Option Value → Mm → Mm → Prop := fun v G' M' => v = some (.double x) ∧ G' = G ∧ M' = M
theorem i32_ne0 {x : Int} (h : 0 < x ∧ x ≤ 100000) : Int32.ofInt x ≠ 0 := by
  intro e
  have := congrArg Int32.toInt e
  rw [Int32.toInt_ofInt_of_le (by omega) (by omega)] at this
  have z : Int32.toInt 0 = 0 := by decide
  omega
set_option maxHeartbeats 4000000 in
set_option maxRecDepth 100000 in
theorem c_meanDelay {X : Xv} {G M : Mm} {B : Int} {A : An} (hR0 : RC G M B A) (hA : AB A) : CT X yX5_meanDelay prog_1_method_22_code 5 (some .double) 1 21 0 0 [vR B] G M (PD G M (mdV (mdS A))) := by
  refine CT.by (by decide +kernel) [1] ⟨cat_vR _, trivial⟩ (Nat.le_of_ble_eq_true rfl) (fun E hX C hR hIni => ?_)
  have hn := hA.n
  have hnS := hA.so.c
  refine pw_iconst C dX5_meanDelay_0 ?_
  refine pw_istore_n C dX5_meanDelay_1 (Nat.le_of_ble_eq_true rfl) rfl ?_
  refine pw_iconst C dX5_meanDelay_2 ?_
  refine pw_istore_n C dX5_meanDelay_3 (Nat.le_of_ble_eq_true rfl) rfl ?_
  refine pw_iconst C dX5_meanDelay_4 ?_
  refine pw_istore_n C dX5_meanDelay_5 (Nat.le_of_ble_eq_true rfl) rfl ?_
  suffices K_6 : ∀ (nn_6 : Nat) (u c l : Int) , (0 ≤ l ∧ l ≤ A 0 0 2) → (0 ≤ c ∧ c ≤ 60 * l) → (fr (fun l s => fr (fun t s => mdF A l t s) 0 (A 0 0 1) s) l (A 0 0 2) (u, c) = mdS A) → A 0 0 2 - l < (nn_6 : Int) → PW E G M 0 0 6 [(0, 1, vR B), (1, 1, vI u), (2, 1, vI c), (3, 1, vI l)] [] from pw_locs (by exact ⟨rfl, cat_vR _, rfl, rfl, rfl, rfl, rfl, rfl, trivial⟩) (K_6 (A 0 0 2 - 0 + 1 : Int).toNat 0 0 0  (by omega) (by omega) (by first | exact rfl | omega) (by omega))
  intro nn_6
  induction nn_6 with
  | zero => intro u c l h1 h2 hf h_m6; exact absurd h_m6 (by omega)
  | succ nn_6 ih_6 =>
    intro u c l h1 h2 hf h_m6
    refine pw_iload_n C dX5_meanDelay_6 rfl ?_
    refine pw_aload_n C dX5_meanDelay_7 rfl ?_
    refine pw_getE C dX5_meanDelay_8 fl_X5_80 rfl hR0.k (hR0.n 2 (by omega)) ?_
    refine pw_icmp_ge (tgt := 94) C dX5_meanDelay_11 (by decide) (by omega) (fun c_11 => ?_) (fun c_11 => ?_)
    · skip
      refine pw_iload_n C dX5_meanDelay_94 rfl ?_
      refine pw_if_ne (tgt := 102) C dX5_meanDelay_95 (by decide) (by omega) (fun c_95 => ?_) (fun c_95 => ?_)
      · skip
        refine pw_iload_n C dX5_meanDelay_102 rfl ?_
        refine pw_i2d (x := Int32.ofInt u) C dX5_meanDelay_103 ?_
        refine pw_iload_n C dX5_meanDelay_104 rfl ?_
        refine pw_i2d (x := Int32.ofInt c) C dX5_meanDelay_105 ?_
        refine pw_ddiv C dX5_meanDelay_106 (nn_div (i32_ne0 (by omega))) ?_
        exact pw_dret C hR dX5_meanDelay_107 (⟨by rw [← fr_done (by omega) hf]; unfold mdV; rw [if_neg c_95], rfl, rfl⟩) (by omega) (by omega)
      · skip
        refine pw_dconst0 C dX5_meanDelay_98 ?_
        refine pw_goto (tgt := 107) C dX5_meanDelay_99 (by decide) ?_
        exact pw_dret C hR dX5_meanDelay_107 (⟨by rw [← fr_done (by omega) hf]; unfold mdV; rw [if_pos c_95], rfl, rfl⟩) (by omega) (by omega)
    · skip
      refine pw_iconst C dX5_meanDelay_14 ?_
      refine pw_istore C dX5_meanDelay_15 (Nat.le_of_ble_eq_true rfl) rfl ?_
      suffices K_17 : ∀ (nn_17 : Nat) (v d t : Int) , (0 ≤ t ∧ t ≤ A 0 0 1) → (0 ≤ d ∧ d ≤ 60 * l + t) → (fr (fun t s => mdF A l t s) t (A 0 0 1) (v, d) = fr (fun t s => mdF A l t s) 0 (A 0 0 1) (u, c)) → A 0 0 1 - t < (nn_17 : Int) → PW E G M 0 0 17 [(0, 1, vR B), (1, 1, vI v), (2, 1, vI d), (3, 1, vI l), (4, 1, vI t)] [] from pw_locs (by exact ⟨rfl, cat_vR _, rfl, rfl, rfl, rfl, rfl, rfl, rfl, rfl, trivial⟩) (K_17 (A 0 0 1 - 0 + 1 : Int).toNat u c 0  (by omega) (by omega) (by first | exact rfl | omega) (by omega))
      intro nn_17
      induction nn_17 with
      | zero => intro v d t h3 h4 hg h_m17; exact absurd h_m17 (by omega)
      | succ nn_17 ih_17 =>
        intro v d t h3 h4 hg h_m17
        refine pw_iload C dX5_meanDelay_17 rfl ?_
        refine pw_aload_n C dX5_meanDelay_19 rfl ?_
        refine pw_getE C dX5_meanDelay_20 fl_X5_284 rfl hR0.k (hR0.n 1 (by omega)) ?_
        refine pw_icmp_ge (tgt := 88) C dX5_meanDelay_23 (by decide) (by omega) (fun c_23 => ?_) (fun c_23 => ?_)
        · skip
          refine pw_iinc C dX5_meanDelay_88 rfl (Nat.le_of_ble_eq_true rfl) rfl ?_
          refine pw_goto (tgt := 6) C dX5_meanDelay_91 (by decide) ?_
          exact pw_locs (by exact ⟨rfl, cat_vR _, rfl, rfl, rfl, rfl, rfl, rfl, trivial⟩) (ih_6 v d (l + 1)  (by omega) (by omega) (fr_go (by omega) hf (fr_done (by omega) hg).symm) (by omega))
        · skip
          refine pw_aload_n C dX5_meanDelay_26 rfl ?_
          refine pw_getR C dX5_meanDelay_27 fl_X5_39 hR0.k rfl hR0.r4 ?_
          refine pw_iload_n C dX5_meanDelay_30 rfl ?_
          refine pw_aaldE C dX5_meanDelay_31 hR0.a4 (by omega) (by omega) (hR0.e4 l (by omega)) ?_
          refine pw_iload C dX5_meanDelay_32 rfl ?_
          refine pw_cVE C hX dX5_meanDelay_34 ml_X5_183 mc_X1_isSent (c_X1_isSent (hR0.li l (by omega)) (hA.li l (by omega)) (t := t) (by omega)) kc_4 (hR0.li l (by omega)).k rfl rfl ⟨Nat.le_of_ble_eq_true rfl, Nat.le_of_ble_eq_true rfl⟩ (Nat.le_of_ble_eq_true rfl) ⟨Nat.le_of_ble_eq_true rfl, Nat.le_of_ble_eq_true rfl⟩ ?_
          refine pw_ifB_eq (tgt := 82) C dX5_meanDelay_37 (by decide) (fun c_37 => ?_) (fun c_37 => ?_)
          · skip
            refine pw_iinc C dX5_meanDelay_82 rfl (Nat.le_of_ble_eq_true rfl) rfl ?_
            refine pw_goto (tgt := 17) C dX5_meanDelay_85 (by decide) ?_
            exact pw_locs (by exact ⟨rfl, cat_vR _, rfl, rfl, rfl, rfl, rfl, rfl, rfl, rfl, trivial⟩) (ih_17 v d (t + 1)  (by omega) (by omega) (fr_go (by omega) hg (by (try dsimp only); unfold mdF; exact if_neg c_37)) (by omega))
          · skip
            refine pw_iload_n C dX5_meanDelay_40 rfl ?_
            refine pw_aload_n C dX5_meanDelay_41 rfl ?_
            refine pw_getR C dX5_meanDelay_42 fl_X5_39 hR0.k rfl hR0.r4 ?_
            refine pw_iload_n C dX5_meanDelay_45 rfl ?_
            refine pw_aaldE C dX5_meanDelay_46 hR0.a4 (by omega) (by omega) (hR0.e4 l (by omega)) ?_
            refine pw_getR C dX5_meanDelay_47 fl_X5_307 (hR0.li l (by omega)).k rfl ((hR0.li l (by omega)).r (b := ((B + 177 + 5 * l) + 4)) 3 (by omega)) ?_
            refine pw_iload C dX5_meanDelay_50 rfl ?_
            refine pw_ialdE C dX5_meanDelay_52 ((hR0.li l (by omega)).ai 3 (by omega)) (by omega) ((hR0.li l (by omega)).v 3 (by omega)) ?_
            have b_52 := (hA.li l (by omega)).v3 t (by omega) (by omega)
            refine pw_aload_n C dX5_meanDelay_53 rfl ?_
            refine pw_getR C dX5_meanDelay_54 fl_X5_32 hR0.k rfl hR0.r3 ?_
            refine pw_iload C dX5_meanDelay_57 rfl ?_
            refine pw_aaldE C dX5_meanDelay_59 hR0.a3 (by omega) (by omega) (hR0.e3 t (by omega)) ?_
            refine pw_getE C dX5_meanDelay_60 fl_X5_241 rfl (hR0.ta t (by omega)).k ((hR0.ta t (by omega)).s 8 (by omega)) ?_
            have b_60 := (hA.ta t (by omega)).s8
            refine pw_aload_n C dX5_meanDelay_63 rfl ?_
            refine pw_getR C dX5_meanDelay_64 fl_X5_32 hR0.k rfl hR0.r3 ?_
            refine pw_iload C dX5_meanDelay_67 rfl ?_
            refine pw_aaldE C dX5_meanDelay_69 hR0.a3 (by omega) (by omega) (hR0.e3 t (by omega)) ?_
            refine pw_getE C dX5_meanDelay_70 fl_X5_231 rfl (hR0.ta t (by omega)).k ((hR0.ta t (by omega)).s 4 (by omega)) ?_
            have b_70 := (hA.ta t (by omega)).s4
            refine pw_max C dX5_meanDelay_73 (List.mem_of_getElem? (i := 646) (by decide +kernel)) (by omega) (by omega) ⟨Nat.le_of_ble_eq_true rfl, Nat.le_of_ble_eq_true rfl⟩ ⟨Nat.le_of_ble_eq_true rfl, Nat.le_of_ble_eq_true rfl⟩ ?_
            refine pw_isub C dX5_meanDelay_76 ?_
            refine pw_iadd C dX5_meanDelay_77 ?_
            refine pw_istore_n C dX5_meanDelay_78 (Nat.le_of_ble_eq_true rfl) rfl ?_
            refine pw_iinc C dX5_meanDelay_79 rfl (Nat.le_of_ble_eq_true rfl) rfl ?_
            refine pw_iinc C dX5_meanDelay_82 rfl (Nat.le_of_ble_eq_true rfl) rfl ?_
            refine pw_goto (tgt := 17) C dX5_meanDelay_85 (by decide) ?_
            exact pw_locs (by exact ⟨rfl, cat_vR _, rfl, rfl, rfl, rfl, rfl, rfl, rfl, rfl, trivial⟩) (ih_17 (v + (((A (20 + l)) 3 t) - (max ((A (200 + t)) 1 8) ((A (200 + t)) 1 4)))) (d + 1) (t + 1)  (by omega) (by omega) (fr_go (by omega) hg (by (try dsimp only); unfold mdF; exact if_pos c_37)) (by omega))

