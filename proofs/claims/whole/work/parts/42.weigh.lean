/-! ===== the model: its small methods, and what is weighed ===== -/
theorem RM.r1 {G M : Mm} {Q : Int} {A : An} {D : Fn} {I : Int → Int} (h : RM G M Q A D I) : G 2 242 Q = Q + 1 := h.r 1 (by omega) (by omega)
theorem RM.r2 {G M : Mm} {Q : Int} {A : An} {D : Fn} {I : Int → Int} (h : RM G M Q A D I) : G 2 243 Q = Q + 2 := h.r 2 (by omega) (by omega)
theorem RM.r3 {G M : Mm} {Q : Int} {A : An} {D : Fn} {I : Int → Int} (h : RM G M Q A D I) : G 2 244 Q = Q + 3 := h.r 3 (by omega) (by omega)
theorem RM.r4 {G M : Mm} {Q : Int} {A : An} {D : Fn} {I : Int → Int} (h : RM G M Q A D I) : G 2 245 Q = Q + 4 := h.r 4 (by omega) (by omega)
theorem mup_mup {M : Mm} {b x y v v' : Int} : mup (mup M b x y v) b x y v' = mup M b x y v' := by
  funext b' x' y'
  unfold mup
  split <;> rfl
theorem mup_self {M : Mm} {b x y : Int} : M = mup M b x y (M b x y) := by
  funext b' x' y'
  unfold mup
  split
  · next h => rw [h.1, h.2.1, h.2.2]
  · rfl
theorem RM.th {G M : Mm} {Q : Int} {A : An} {D : Fn} {I : Int → Int} (h : RM G M Q A D I) {x : Int} : RM G (mup M 0 240 Q x) Q A D I := by
  have hq := h.q
  have key : RM G (mup M 0 240 Q x) Q A D I := by
    have a0 := fun b (hb : b ≠ Q) => agr_M0 (G := G) (M := M) (f := 240) (x := x) b hb
    have he : ∀ j n, AL G M (Q + j) n (D 0 j) → 1 ≤ j → j ≤ 4 → AL G (mup M 0 240 Q x) (Q + j) n (D 0 j) := fun j n hl q1 q2 => by
      obtain ⟨b1, b2, b3, b4, b5, b6, b7, b8⟩ := hl
      exact ⟨b1, b2, b3, b4, (mup_n (by omega)).trans b5, by rw [mup_n (by omega)]; exact b6, b7, b8⟩
    refine ⟨hq, h.k, h.r, (mup_n (by omega)).trans h.w, he 1 _ h.l1 (by omega) (by omega), he 2 _ h.l2 (by omega) (by omega), he 3 _ h.l3 (by omega) (by omega), he 4 _ h.l4 (by omega) (by omega), h.e1, h.e2, h.e3, h.e4, fun i q1 q2 => ?_, h.ya, h.ye, fun i q1 q2 => ?_, fun i q1 q2 => ?_, fun i q1 q2 => ?_, h.p⟩
    · have z := (h.p.s i q1 q2).1; exact (h.so i q1 q2).o (a0 _ (by omega))
    · have z := (h.p.f i q1 q2).1; exact (h.fa i q1 q2).o (a0 _ (by omega)) (a0 _ (by omega))
    · have z := (h.p.t i q1 q2).1; exact (h.ta i q1 q2).o (a0 _ (by omega)) (a0 _ (by omega))
    · have z := (h.p.l i q1 q2).1; exact (h.li i q1 q2).o (a0 _ (by omega)) (a0 _ (by omega)) (a0 _ (by omega)) (a0 _ (by omega))
  exact key
/-- with bit r -/
def orb (x r : Int) : Int := ((x.toNat ||| (1 <<< r.toNat) : Nat) : Int)
set_option maxRecDepth 100000 in
theorem orb_k0 : ∀ n : Nat, n < 1024 → (Int32.ofInt (n : Int) ||| (Int32.ofInt 1 <<< (Int32.ofInt 0 &&& 31))) = Int32.ofInt ((n ||| (1 <<< 0) : Nat) : Int) := by decide +kernel
set_option maxRecDepth 100000 in
theorem orb_k1 : ∀ n : Nat, n < 1024 → (Int32.ofInt (n : Int) ||| (Int32.ofInt 1 <<< (Int32.ofInt 1 &&& 31))) = Int32.ofInt ((n ||| (1 <<< 1) : Nat) : Int) := by decide +kernel
set_option maxRecDepth 100000 in
theorem orb_k2 : ∀ n : Nat, n < 1024 → (Int32.ofInt (n : Int) ||| (Int32.ofInt 1 <<< (Int32.ofInt 2 &&& 31))) = Int32.ofInt ((n ||| (1 <<< 2) : Nat) : Int) := by decide +kernel
set_option maxRecDepth 100000 in
theorem orb_k3 : ∀ n : Nat, n < 1024 → (Int32.ofInt (n : Int) ||| (Int32.ofInt 1 <<< (Int32.ofInt 3 &&& 31))) = Int32.ofInt ((n ||| (1 <<< 3) : Nat) : Int) := by decide +kernel
set_option maxRecDepth 100000 in
theorem orb_k4 : ∀ n : Nat, n < 1024 → (Int32.ofInt (n : Int) ||| (Int32.ofInt 1 <<< (Int32.ofInt 4 &&& 31))) = Int32.ofInt ((n ||| (1 <<< 4) : Nat) : Int) := by decide +kernel
set_option maxRecDepth 100000 in
theorem orb_k5 : ∀ n : Nat, n < 1024 → (Int32.ofInt (n : Int) ||| (Int32.ofInt 1 <<< (Int32.ofInt 5 &&& 31))) = Int32.ofInt ((n ||| (1 <<< 5) : Nat) : Int) := by decide +kernel
set_option maxRecDepth 100000 in
theorem orb_k6 : ∀ n : Nat, n < 1024 → (Int32.ofInt (n : Int) ||| (Int32.ofInt 1 <<< (Int32.ofInt 6 &&& 31))) = Int32.ofInt ((n ||| (1 <<< 6) : Nat) : Int) := by decide +kernel
set_option maxRecDepth 100000 in
theorem orb_k7 : ∀ n : Nat, n < 1024 → (Int32.ofInt (n : Int) ||| (Int32.ofInt 1 <<< (Int32.ofInt 7 &&& 31))) = Int32.ofInt ((n ||| (1 <<< 7) : Nat) : Int) := by decide +kernel
set_option maxRecDepth 100000 in
theorem orb_k8 : ∀ n : Nat, n < 1024 → (Int32.ofInt (n : Int) ||| (Int32.ofInt 1 <<< (Int32.ofInt 8 &&& 31))) = Int32.ofInt ((n ||| (1 <<< 8) : Nat) : Int) := by decide +kernel
set_option maxRecDepth 100000 in
theorem orb_k9 : ∀ n : Nat, n < 1024 → (Int32.ofInt (n : Int) ||| (Int32.ofInt 1 <<< (Int32.ofInt 9 &&& 31))) = Int32.ofInt ((n ||| (1 <<< 9) : Nat) : Int) := by decide +kernel
theorem orb_eq {x r : Int} (h : 0 ≤ x ∧ x < 1024) (hr : 0 ≤ r ∧ r < 10) : (Int32.ofInt x ||| (Int32.ofInt 1 <<< (Int32.ofInt r &&& 31))) = Int32.ofInt (orb x r) ∧ 0 ≤ orb x r ∧ orb x r < 1024 := by
  obtain ⟨n, rfl⟩ : ∃ n : Nat, x = (n : Int) := ⟨x.toNat, by omega⟩
  have hn : n < 2 ^ 10 := by omega
  unfold orb
  rw [Int.toNat_natCast]
  rcases (show r = 0 ∨ r = 1 ∨ r = 2 ∨ r = 3 ∨ r = 4 ∨ r = 5 ∨ r = 6 ∨ r = 7 ∨ r = 8 ∨ r = 9 by omega) with rfl | rfl | rfl | rfl | rfl | rfl | rfl | rfl | rfl | rfl
  · exact ⟨orb_k0 n hn, by omega, by have := Nat.or_lt_two_pow (x := n) (y := 1 <<< 0) (n := 10) hn (by decide); exact Int.ofNat_lt.mpr this⟩
  · exact ⟨orb_k1 n hn, by omega, by have := Nat.or_lt_two_pow (x := n) (y := 1 <<< 1) (n := 10) hn (by decide); exact Int.ofNat_lt.mpr this⟩
  · exact ⟨orb_k2 n hn, by omega, by have := Nat.or_lt_two_pow (x := n) (y := 1 <<< 2) (n := 10) hn (by decide); exact Int.ofNat_lt.mpr this⟩
  · exact ⟨orb_k3 n hn, by omega, by have := Nat.or_lt_two_pow (x := n) (y := 1 <<< 3) (n := 10) hn (by decide); exact Int.ofNat_lt.mpr this⟩
  · exact ⟨orb_k4 n hn, by omega, by have := Nat.or_lt_two_pow (x := n) (y := 1 <<< 4) (n := 10) hn (by decide); exact Int.ofNat_lt.mpr this⟩
  · exact ⟨orb_k5 n hn, by omega, by have := Nat.or_lt_two_pow (x := n) (y := 1 <<< 5) (n := 10) hn (by decide); exact Int.ofNat_lt.mpr this⟩
  · exact ⟨orb_k6 n hn, by omega, by have := Nat.or_lt_two_pow (x := n) (y := 1 <<< 6) (n := 10) hn (by decide); exact Int.ofNat_lt.mpr this⟩
  · exact ⟨orb_k7 n hn, by omega, by have := Nat.or_lt_two_pow (x := n) (y := 1 <<< 7) (n := 10) hn (by decide); exact Int.ofNat_lt.mpr this⟩
  · exact ⟨orb_k8 n hn, by omega, by have := Nat.or_lt_two_pow (x := n) (y := 1 <<< 8) (n := 10) hn (by decide); exact Int.ofNat_lt.mpr this⟩
  · exact ⟨orb_k9 n hn, by omega, by have := Nat.or_lt_two_pow (x := n) (y := 1 <<< 9) (n := 10) hn (by decide); exact Int.ofNat_lt.mpr this⟩
def mroS (S F : Fn) (v w : Int) : Int → Int → Int := fun k x => if F 0 k = v ∧ (w = 0 ∨ S 0 k = w) then orb x (S 1 k) else x
def mro (S F : Fn) (v w : Int) : Int := bc (fr (mroS S F v w) 0 (S 2 0) 0)
def mfoS (S F : Fn) (v r : Int) : Int → Int → Int := fun k m => if F 0 k = v ∧ S 1 k = r then max m (S 0 k) else m
def mfo (S F : Fn) (v : Int) : Int := fr (fun r c => c + fr (mfoS S F v r) r (S 2 0) 0) 0 (S 2 0) 0
def mpr (S F : Fn) (v : Int) : Int := if 0 < mro S F v 3 then 3 else if 1 < mro S F v 2 then 2 else if 2 < mro S F v 0 then 1 else 0
abbrev isd (F : Fn) (v : Int) : Prop := fnd (fun k => F 0 k = v) 0 10 < 10
def mstS (S F : Fn) (z : Int) : Int → Int × Int → Int × Int := fun v b => if b.2 < (if isd F v ∧ (z = 0 ∨ 0 < mpr S F v) then mfo S F v else 0) then (v, if isd F v ∧ (z = 0 ∨ 0 < mpr S F v) then mfo S F v else 0) else b
def mst (S F : Fn) (z : Int) : Int := (fr (mstS S F z) 0 100 (-1, 0)).1
def mhd (S F : Fn) : Int := if mst S F 1 = -1 then mst S F 0 else mst S F 1
def mvl (F : Fn) : Int := fr (fun v c => if isd F v then c + 1 else c) 0 100 0
theorem mfo_bd {S F : Fn} {v : Int} (h : SB S) : 0 ≤ mfo S F v ∧ mfo S F v ≤ 30 := by
  have hc := h.c
  have := fr_inv (σ := Int) (f := fun r c => c + fr (mfoS S F v r) r (S 2 0) 0) (hi := S 2 0) (P := fun i c => 0 ≤ c ∧ c ≤ 3 * i) (lo := 0) (s := 0) hc.1 (by omega) (fun r c h1 h2 hp => by
    have z := fr_inv (σ := Int) (f := mfoS S F v r) (hi := S 2 0) (P := fun _ c => 0 ≤ c ∧ c ≤ 3) (lo := r) (s := 0) (by omega) (by omega) (fun k m q1 q2 hp => by
      have := h.w k (by omega) q2
      unfold mfoS; split <;> omega)
    (try dsimp only); omega)
  unfold mfo; omega
theorem mst_bd {S F : Fn} {z : Int} : -1 ≤ mst S F z ∧ mst S F z ≤ 99 := by
  have := fr_inv (σ := Int × Int) (f := mstS S F z) (hi := 100) (P := fun i b => -1 ≤ b.1 ∧ b.1 < 100) (lo := 0) (s := (-1, 0)) (by omega) ⟨by decide, by decide⟩ (fun v b h1 h2 hp => by
    unfold mstS
    generalize (if isd F v ∧ (z = 0 ∨ 0 < mpr S F v) then mfo S F v else 0) = f
    by_cases h : b.2 < f
    · rw [if_pos h]; exact ⟨(by omega : (-1 : Int) ≤ v), h2⟩
    · rw [if_neg h]; exact hp)
  have h2 : (-1 ≤ mst S F z ∧ mst S F z < 100) := this
  omega
set_option maxHeartbeats 4000000 in
set_option maxRecDepth 100000 in
theorem m_isIn {X : Xv} {G M : Mm} {v lo hi : Int} (hv : -2147483648 ≤ v ∧ v ≤ 2147483647) (hl : -1000 ≤ lo ∧ lo ≤ 100000) (hh : -1000 ≤ hi ∧ hi ≤ 100000) : CT X yX10_isIn prog_8_method_1_code 3 (some .boolean) 0 0 0 0 [vI v, vI lo, vI hi] G M (PE G M (bI (lo ≤ v ∧ v ≤ hi))) := by
  refine CT.by (by decide +kernel) [1, 1, 1] ⟨cat_vI _, cat_vI _, cat_vI _, trivial⟩ (Nat.le_of_ble_eq_true rfl) (fun E hX C hR hIni => ?_)
  refine pw_iload_n C dX10_isIn_0 rfl ?_
  refine pw_iload_n C dX10_isIn_1 rfl ?_
  refine pw_icmp_lt (tgt := 14) C dX10_isIn_2 (by decide) (by omega) (fun c_2 => ?_) (fun c_2 => ?_)
  · skip
    refine pw_iconst C dX10_isIn_14 ?_
    exact pw_zretE C hR dX10_isIn_15 (by omega) rfl rfl (by first | exact (bI_t (by omega)).symm | exact (bI_f (by omega)).symm) (Nat.zero_le _) (Nat.zero_le _)
  · skip
    refine pw_iload_n C dX10_isIn_5 rfl ?_
    refine pw_iload_n C dX10_isIn_6 rfl ?_
    refine pw_icmp_gt (tgt := 14) C dX10_isIn_7 (by decide) (by omega) (fun c_7 => ?_) (fun c_7 => ?_)
    · skip
      refine pw_iconst C dX10_isIn_14 ?_
      exact pw_zretE C hR dX10_isIn_15 (by omega) rfl rfl (by first | exact (bI_t (by omega)).symm | exact (bI_f (by omega)).symm) (Nat.zero_le _) (Nat.zero_le _)
    · skip
      refine pw_iconst C dX10_isIn_10 ?_
      refine pw_goto (tgt := 15) C dX10_isIn_11 (by decide) ?_
      exact pw_zretE C hR dX10_isIn_15 (by omega) rfl rfl (by first | exact (bI_t (by omega)).symm | exact (bI_f (by omega)).symm) (Nat.zero_le _) (Nat.zero_le _)

set_option maxHeartbeats 4000000 in
set_option maxRecDepth 100000 in
theorem m_has {X : Xv} {G M : Mm} {set f : Int} (hset : 0 ≤ set ∧ set < 16) (hf9 : 0 ≤ f ∧ f < 4) : CT X yX10_has prog_8_method_2_code 2 (some .boolean) 0 0 0 0 [vI set, vI f] G M (PE G M (bI (ins set f))) := by
  refine CT.by (by decide +kernel) [1, 1] ⟨cat_vI _, cat_vI _, trivial⟩ (Nat.le_of_ble_eq_true rfl) (fun E hX C hR hIni => ?_)
  refine pw_iload_n C dX10_has_0 rfl ?_
  refine pw_iload_n C dX10_has_1 rfl ?_
  refine pw_ishr C dX10_has_2 ?_
  refine pw_iconst C dX10_has_3 ?_
  refine pw_iand C dX10_has_4 ?_
  refine pw_top (v' := vI (bI (ins set f))) (congrArg Value.int (ins_eq hset hf9)) ?_
  have b01 := bI_01 (ins set f)
  refine pw_iconst C dX10_has_5 ?_
  refine pw_icmp_ne (tgt := 13) C dX10_has_6 (by decide) (by omega) (fun c_6 => ?_) (fun c_6 => ?_)
  · skip
    refine pw_iconst C dX10_has_13 ?_
    exact pw_zretE C hR dX10_has_14 (by omega) rfl rfl (by first | exact (bI_t (bI_1.mp (by omega))).symm | exact (bI_f (fun z => by have := bI_t z; omega)).symm) (Nat.zero_le _) (Nat.zero_le _)
  · skip
    refine pw_iconst C dX10_has_9 ?_
    refine pw_goto (tgt := 14) C dX10_has_10 (by decide) ?_
    exact pw_zretE C hR dX10_has_14 (by omega) rfl rfl (by first | exact (bI_t (bI_1.mp (by omega))).symm | exact (bI_f (fun z => by have := bI_t z; omega)).symm) (Nat.zero_le _) (Nat.zero_le _)

set_option maxHeartbeats 4000000 in
set_option maxRecDepth 100000 in
theorem m_isNoSource {X : Xv} {G M : Mm} {Q : Int} {A : An} {D : Fn} {I : Int → Int} (hM : RM G M Q A D I) (hA : AB A) {i : Int} (r_i : -2147483648 ≤ i ∧ i ≤ 2147483647) : CT X yX10_isNoSource prog_8_method_7_code 2 (some .boolean) 1 22 0 0 [vR Q, vI i] G M (PE G M (bI (¬ (0 ≤ i ∧ i < A 10 2 0)))) := by
  refine CT.by (by decide +kernel) [1, 1] ⟨cat_vR _, cat_vI _, trivial⟩ (Nat.le_of_ble_eq_true rfl) (fun E hX C hR hIni => ?_)
  have hn := hA.n
  have hnS := hA.so.c
  refine pw_iload_n C dX10_isNoSource_0 rfl ?_
  refine pw_iconst C dX10_isNoSource_1 ?_
  refine pw_aload_n C dX10_isNoSource_2 rfl ?_
  refine pw_getR C dX10_isNoSource_3 fl_X10_10 hM.k rfl hM.r1 ?_
  refine pw_cVE C hX dX10_isNoSource_6 ml_X10_33 mc_Jx4a65c_size_8abf5 (c_size hM.l1) kc_2 hM.l1.k rfl rfl ⟨Nat.le_of_ble_eq_true rfl, Nat.le_of_ble_eq_true rfl⟩ (Nat.le_of_ble_eq_true rfl) ⟨Nat.le_of_ble_eq_true rfl, Nat.le_of_ble_eq_true rfl⟩ ?_
  refine pw_iconst C dX10_isNoSource_9 ?_
  refine pw_isub C dX10_isNoSource_10 ?_
  refine pw_cSE C hX dX10_isNoSource_11 ml_X10_37 mc_X10_isIn (m_isIn (v := i) (lo := 0) (hi := ((A 10 2 0) - 1)) (by omega) (by omega) (by omega)) rfl rfl ⟨Nat.le_of_ble_eq_true rfl, Nat.le_of_ble_eq_true rfl⟩ (Nat.le_of_ble_eq_true rfl) ⟨Nat.le_of_ble_eq_true rfl, Nat.le_of_ble_eq_true rfl⟩ ?_
  refine pw_ifB_ne (tgt := 21) C dX10_isNoSource_14 (by decide) (fun c_14 => ?_) (fun c_14 => ?_)
  · skip
    refine pw_iconst C dX10_isNoSource_21 ?_
    exact pw_zretE C hR dX10_isNoSource_22 (by omega) rfl rfl (by first | exact (bI_t (by omega)).symm | exact (bI_f (by omega)).symm) (Nat.zero_le _) (Nat.zero_le _)
  · skip
    refine pw_iconst C dX10_isNoSource_17 ?_
    refine pw_goto (tgt := 22) C dX10_isNoSource_18 (by decide) ?_
    exact pw_zretE C hR dX10_isNoSource_22 (by omega) rfl rfl (by first | exact (bI_t (by omega)).symm | exact (bI_f (by omega)).symm) (Nat.zero_le _) (Nat.zero_le _)

set_option maxHeartbeats 4000000 in
set_option maxRecDepth 100000 in
theorem m_isNoStory {X : Xv} {G M : Mm} {Q : Int} {A : An} {D : Fn} {I : Int → Int} (hM : RM G M Q A D I) (hA : AB A) {i : Int} (r_i : -2147483648 ≤ i ∧ i ≤ 2147483647) : CT X yX10_isNoStory prog_8_method_8_code 2 (some .boolean) 1 22 0 0 [vR Q, vI i] G M (PE G M (bI (¬ (0 ≤ i ∧ i < A 0 0 0)))) := by
  refine CT.by (by decide +kernel) [1, 1] ⟨cat_vR _, cat_vI _, trivial⟩ (Nat.le_of_ble_eq_true rfl) (fun E hX C hR hIni => ?_)
  have hn := hA.n
  have hnS := hA.so.c
  refine pw_iload_n C dX10_isNoStory_0 rfl ?_
  refine pw_iconst C dX10_isNoStory_1 ?_
  refine pw_aload_n C dX10_isNoStory_2 rfl ?_
  refine pw_getR C dX10_isNoStory_3 fl_X10_16 hM.k rfl hM.r2 ?_
  refine pw_cVE C hX dX10_isNoStory_6 ml_X10_33 mc_Jx4a65c_size_8abf5 (c_size hM.l2) kc_2 hM.l2.k rfl rfl ⟨Nat.le_of_ble_eq_true rfl, Nat.le_of_ble_eq_true rfl⟩ (Nat.le_of_ble_eq_true rfl) ⟨Nat.le_of_ble_eq_true rfl, Nat.le_of_ble_eq_true rfl⟩ ?_
  refine pw_iconst C dX10_isNoStory_9 ?_
  refine pw_isub C dX10_isNoStory_10 ?_
  refine pw_cSE C hX dX10_isNoStory_11 ml_X10_37 mc_X10_isIn (m_isIn (v := i) (lo := 0) (hi := ((A 0 0 0) - 1)) (by omega) (by omega) (by omega)) rfl rfl ⟨Nat.le_of_ble_eq_true rfl, Nat.le_of_ble_eq_true rfl⟩ (Nat.le_of_ble_eq_true rfl) ⟨Nat.le_of_ble_eq_true rfl, Nat.le_of_ble_eq_true rfl⟩ ?_
  refine pw_ifB_ne (tgt := 21) C dX10_isNoStory_14 (by decide) (fun c_14 => ?_) (fun c_14 => ?_)
  · skip
    refine pw_iconst C dX10_isNoStory_21 ?_
    exact pw_zretE C hR dX10_isNoStory_22 (by omega) rfl rfl (by first | exact (bI_t (by omega)).symm | exact (bI_f (by omega)).symm) (Nat.zero_le _) (Nat.zero_le _)
  · skip
    refine pw_iconst C dX10_isNoStory_17 ?_
    refine pw_goto (tgt := 22) C dX10_isNoStory_18 (by decide) ?_
    exact pw_zretE C hR dX10_isNoStory_22 (by omega) rfl rfl (by first | exact (bI_t (by omega)).symm | exact (bI_f (by omega)).symm) (Nat.zero_le _) (Nat.zero_le _)

set_option maxHeartbeats 4000000 in
set_option maxRecDepth 100000 in
theorem m_isNoLine {X : Xv} {G M : Mm} {Q : Int} {A : An} {D : Fn} {I : Int → Int} (hM : RM G M Q A D I) (hA : AB A) {i : Int} (r_i : -2147483648 ≤ i ∧ i ≤ 2147483647) : CT X yX10_isNoLine prog_8_method_10_code 2 (some .boolean) 1 22 0 0 [vR Q, vI i] G M (PE G M (bI (¬ (0 ≤ i ∧ i < A 0 0 2)))) := by
  refine CT.by (by decide +kernel) [1, 1] ⟨cat_vR _, cat_vI _, trivial⟩ (Nat.le_of_ble_eq_true rfl) (fun E hX C hR hIni => ?_)
  have hn := hA.n
  have hnS := hA.so.c
  refine pw_iload_n C dX10_isNoLine_0 rfl ?_
  refine pw_iconst C dX10_isNoLine_1 ?_
  refine pw_aload_n C dX10_isNoLine_2 rfl ?_
  refine pw_getR C dX10_isNoLine_3 fl_X10_22 hM.k rfl hM.r4 ?_
  refine pw_cVE C hX dX10_isNoLine_6 ml_X10_33 mc_Jx4a65c_size_8abf5 (c_size hM.l4) kc_2 hM.l4.k rfl rfl ⟨Nat.le_of_ble_eq_true rfl, Nat.le_of_ble_eq_true rfl⟩ (Nat.le_of_ble_eq_true rfl) ⟨Nat.le_of_ble_eq_true rfl, Nat.le_of_ble_eq_true rfl⟩ ?_
  refine pw_iconst C dX10_isNoLine_9 ?_
  refine pw_isub C dX10_isNoLine_10 ?_
  refine pw_cSE C hX dX10_isNoLine_11 ml_X10_37 mc_X10_isIn (m_isIn (v := i) (lo := 0) (hi := ((A 0 0 2) - 1)) (by omega) (by omega) (by omega)) rfl rfl ⟨Nat.le_of_ble_eq_true rfl, Nat.le_of_ble_eq_true rfl⟩ (Nat.le_of_ble_eq_true rfl) ⟨Nat.le_of_ble_eq_true rfl, Nat.le_of_ble_eq_true rfl⟩ ?_
  refine pw_ifB_ne (tgt := 21) C dX10_isNoLine_14 (by decide) (fun c_14 => ?_) (fun c_14 => ?_)
  · skip
    refine pw_iconst C dX10_isNoLine_21 ?_
    exact pw_zretE C hR dX10_isNoLine_22 (by omega) rfl rfl (by first | exact (bI_t (by omega)).symm | exact (bI_f (by omega)).symm) (Nat.zero_le _) (Nat.zero_le _)
  · skip
    refine pw_iconst C dX10_isNoLine_17 ?_
    refine pw_goto (tgt := 22) C dX10_isNoLine_18 (by decide) ?_
    exact pw_zretE C hR dX10_isNoLine_22 (by omega) rfl rfl (by first | exact (bI_t (by omega)).symm | exact (bI_f (by omega)).symm) (Nat.zero_le _) (Nat.zero_le _)

set_option maxHeartbeats 4000000 in
set_option maxRecDepth 100000 in
theorem m_isNoTake {X : Xv} {G M : Mm} {Q : Int} {A : An} {D : Fn} {I : Int → Int} (hM : RM G M Q A D I) (hA : AB A) {i : Int} (r_i : -2147483648 ≤ i ∧ i ≤ 2147483647) : CT X yX10_isNoTake prog_8_method_11_code 2 (some .boolean) 1 22 0 0 [vR Q, vI i] G M (PE G M (bI (¬ (0 ≤ i ∧ i < A 0 0 1)))) := by
  refine CT.by (by decide +kernel) [1, 1] ⟨cat_vR _, cat_vI _, trivial⟩ (Nat.le_of_ble_eq_true rfl) (fun E hX C hR hIni => ?_)
  have hn := hA.n
  have hnS := hA.so.c
  refine pw_iload_n C dX10_isNoTake_0 rfl ?_
  refine pw_iconst C dX10_isNoTake_1 ?_
  refine pw_aload_n C dX10_isNoTake_2 rfl ?_
  refine pw_getR C dX10_isNoTake_3 fl_X10_19 hM.k rfl hM.r3 ?_
  refine pw_cVE C hX dX10_isNoTake_6 ml_X10_33 mc_Jx4a65c_size_8abf5 (c_size hM.l3) kc_2 hM.l3.k rfl rfl ⟨Nat.le_of_ble_eq_true rfl, Nat.le_of_ble_eq_true rfl⟩ (Nat.le_of_ble_eq_true rfl) ⟨Nat.le_of_ble_eq_true rfl, Nat.le_of_ble_eq_true rfl⟩ ?_
  refine pw_iconst C dX10_isNoTake_9 ?_
  refine pw_isub C dX10_isNoTake_10 ?_
  refine pw_cSE C hX dX10_isNoTake_11 ml_X10_37 mc_X10_isIn (m_isIn (v := i) (lo := 0) (hi := ((A 0 0 1) - 1)) (by omega) (by omega) (by omega)) rfl rfl ⟨Nat.le_of_ble_eq_true rfl, Nat.le_of_ble_eq_true rfl⟩ (Nat.le_of_ble_eq_true rfl) ⟨Nat.le_of_ble_eq_true rfl, Nat.le_of_ble_eq_true rfl⟩ ?_
  refine pw_ifB_ne (tgt := 21) C dX10_isNoTake_14 (by decide) (fun c_14 => ?_) (fun c_14 => ?_)
  · skip
    refine pw_iconst C dX10_isNoTake_21 ?_
    exact pw_zretE C hR dX10_isNoTake_22 (by omega) rfl rfl (by first | exact (bI_t (by omega)).symm | exact (bI_f (by omega)).symm) (Nat.zero_le _) (Nat.zero_le _)
  · skip
    refine pw_iconst C dX10_isNoTake_17 ?_
    refine pw_goto (tgt := 22) C dX10_isNoTake_18 (by decide) ?_
    exact pw_zretE C hR dX10_isNoTake_22 (by omega) rfl rfl (by first | exact (bI_t (by omega)).symm | exact (bI_f (by omega)).symm) (Nat.zero_le _) (Nat.zero_le _)

set_option maxHeartbeats 4000000 in
set_option maxRecDepth 100000 in
theorem m_isNoFact {X : Xv} {G M : Mm} {Q : Int} {A : An} {D : Fn} {I : Int → Int} (hM : RM G M Q A D I) (hA : AB A) {s f : Int} (r_s : -2147483648 ≤ s ∧ s ≤ 2147483647) (r_f : -2147483648 ≤ f ∧ f ≤ 2147483647) : CT X yX10_isNoFact prog_8_method_9_code 3 (some .boolean) 2 43 0 0 [vR Q, vI s, vI f] G M (PE G M (bI (¬ ((0 ≤ s ∧ s < A 0 0 0) ∧ 0 ≤ f ∧ f < 4)))) := by
  refine CT.by (by decide +kernel) [1, 1, 1] ⟨cat_vR _, cat_vI _, cat_vI _, trivial⟩ (Nat.le_of_ble_eq_true rfl) (fun E hX C hR hIni => ?_)
  have hn := hA.n
  have hnS := hA.so.c
  refine pw_aload_n C dX10_isNoFact_0 rfl ?_
  refine pw_iload_n C dX10_isNoFact_1 rfl ?_
  refine pw_cVE C hX dX10_isNoFact_2 ml_X10_41 mc_X10_isNoStory (m_isNoStory hM hA (i := s) (by omega)) kc_13 hM.k rfl rfl ⟨Nat.le_of_ble_eq_true rfl, Nat.le_of_ble_eq_true rfl⟩ (Nat.le_of_ble_eq_true rfl) ⟨Nat.le_of_ble_eq_true rfl, Nat.le_of_ble_eq_true rfl⟩ ?_
  refine pw_ifB_ne (tgt := 17) C dX10_isNoFact_5 (by decide) (fun c_5 => ?_) (fun c_5 => ?_)
  · skip
    refine pw_iconst C dX10_isNoFact_17 ?_
    refine pw_goto (tgt := 22) C dX10_isNoFact_18 (by decide) ?_
    exact pw_zretE C hR dX10_isNoFact_22 (by omega) rfl rfl (by first | exact (bI_t (by omega)).symm | exact (bI_f (by omega)).symm) (Nat.zero_le _) (Nat.zero_le _)
  · skip
    refine pw_iload_n C dX10_isNoFact_8 rfl ?_
    refine pw_iconst C dX10_isNoFact_9 ?_
    refine pw_iconst C dX10_isNoFact_10 ?_
    refine pw_cSE C hX dX10_isNoFact_11 ml_X10_37 mc_X10_isIn (m_isIn (v := f) (lo := 0) (hi := 3) (by omega) (by omega) (by omega)) rfl rfl ⟨Nat.le_of_ble_eq_true rfl, Nat.le_of_ble_eq_true rfl⟩ (Nat.le_of_ble_eq_true rfl) ⟨Nat.le_of_ble_eq_true rfl, Nat.le_of_ble_eq_true rfl⟩ ?_
    refine pw_ifB_ne (tgt := 21) C dX10_isNoFact_14 (by decide) (fun c_14 => ?_) (fun c_14 => ?_)
    · skip
      refine pw_iconst C dX10_isNoFact_21 ?_
      exact pw_zretE C hR dX10_isNoFact_22 (by omega) rfl rfl (by first | exact (bI_t (by omega)).symm | exact (bI_f (by omega)).symm) (Nat.zero_le _) (Nat.zero_le _)
    · skip
      refine pw_iconst C dX10_isNoFact_17 ?_
      refine pw_goto (tgt := 22) C dX10_isNoFact_18 (by decide) ?_
      exact pw_zretE C hR dX10_isNoFact_22 (by omega) rfl rfl (by first | exact (bI_t (by omega)).symm | exact (bI_f (by omega)).symm) (Nat.zero_le _) (Nat.zero_le _)

set_option maxHeartbeats 4000000 in
set_option maxRecDepth 100000 in
theorem m_thrown {X : Xv} {G M : Mm} {Q : Int} {A : An} {D : Fn} {I : Int → Int} (hM : RM G M Q A D I) (hA : AB A) {x : Int} (hx : M 0 240 Q = x) : CT X yX10_thrown prog_8_method_4_code 1 (some .int) 0 0 0 0 [vR Q] G M (PE G M x) := by
  refine CT.by (by decide +kernel) [1] ⟨cat_vR _, trivial⟩ (Nat.le_of_ble_eq_true rfl) (fun E hX C hR hIni => ?_)
  have hn := hA.n
  have hnS := hA.so.c
  refine pw_aload_n C dX10_thrown_0 rfl ?_
  refine pw_getE C dX10_thrown_1 fl_X10_25 rfl hM.k hx ?_
  exact pw_iretE C hR dX10_thrown_4 rfl rfl (rfl) (Nat.zero_le _) (Nat.zero_le _)

set_option maxHeartbeats 4000000 in
set_option maxRecDepth 100000 in
theorem m_fact {X : Xv} {G M : Mm} {Q : Int} {A : An} {D : Fn} {I : Int → Int} (hM : RM G M Q A D I) (hA : AB A) {s f : Int} (hs9 : 0 ≤ s ∧ s < A 0 0 0) (hf9 : 0 ≤ f ∧ f < 4) : CT X yX10_fact prog_8_method_12_code 3 (some (FieldType.object "SlugwireModel$Fact")) 3 64 0 0 [vR Q, vI s, vI f] G M (PR G M (D 3 (s * 4 + f))) := by
  refine CT.by (by decide +kernel) [1, 1, 1] ⟨cat_vR _, cat_vI _, cat_vI _, trivial⟩ (Nat.le_of_ble_eq_true rfl) (fun E hX C hR hIni => ?_)
  have hn := hA.n
  have hnS := hA.so.c
  refine pw_aload_n C dX10_fact_0 rfl ?_
  refine pw_getR C dX10_fact_1 fl_X10_16 hM.k rfl hM.r2 ?_
  refine pw_iload_n C dX10_fact_4 rfl ?_
  refine pw_cVR C hX dX10_fact_5 ml_X10_45 mc_Jx4a65c_get_915e3 (hM.g2 (i := s) (by omega)) kc_2 hM.l2.k rfl rfl ⟨Nat.le_of_ble_eq_true rfl, Nat.le_of_ble_eq_true rfl⟩ (Nat.le_of_ble_eq_true rfl) ⟨Nat.le_of_ble_eq_true rfl, Nat.le_of_ble_eq_true rfl⟩ ?_
  refine pw_castA (t := 6) (Cn := "SlugwireModel$Fact") C dX10_fact_8 (List.mem_of_getElem? (i := 1119) (by decide +kernel)) (by omega) (fun _ => rfl) rfl (hM.ya s (by omega) (by omega)).1 ?_
  refine pw_iload_n C dX10_fact_11 rfl ?_
  refine pw_aaldE C dX10_fact_12 (hM.ya s (by omega) (by omega)) (by omega) (by omega) (hM.ye s f (by omega) (by omega) (by omega) (by omega)) ?_
  exact pw_aretE C hR dX10_fact_13 (Or.inl ⟨_, rfl⟩) rfl rfl (rfl) (Nat.zero_le _) (Nat.zero_le _)

set_option maxHeartbeats 4000000 in
set_option maxRecDepth 100000 in
theorem m_isSaid {X : Xv} {G M : Mm} {a : Int} {F : Fn} (hF : MFa G M a F) (hB : FB0 F) {v : Int} (hv : -1 ≤ v ∧ v ≤ 100) : CT X yX10_isSaid prog_8_method_17_code 3 (some .boolean) 0 0 0 0 [vR a, vI v] G M (PE G M (bI (isd F v))) := by
  refine CT.by (by decide +kernel) [1, 1] ⟨cat_vR _, cat_vI _, trivial⟩ (Nat.le_of_ble_eq_true rfl) (fun E hX C hR hIni => ?_)
  refine pw_iconst C dX10_isSaid_0 ?_
  refine pw_istore_n C dX10_isSaid_1 (Nat.le_of_ble_eq_true rfl) rfl ?_
  suffices K_2 : ∀ (nn_2 : Nat) (k : Int) , (0 ≤ k ∧ k ≤ 10) → (fnd (fun k => F 0 k = v) k 10 = fnd (fun k => F 0 k = v) 0 10) → 10 - k < (nn_2 : Int) → PW E G M 0 0 2 [(0, 1, vR a), (1, 1, vI v), (2, 1, vI k)] [] from pw_locs (by exact ⟨rfl, cat_vR _, rfl, rfl, rfl, rfl, trivial⟩) (K_2 (10 - 0 + 1 : Int).toNat 0  (by omega) (by first | exact rfl | omega) (by omega))
  intro nn_2
  induction nn_2 with
  | zero => intro k h1 hf h_m2; exact absurd h_m2 (by omega)
  | succ nn_2 ih_2 =>
    intro k h1 hf h_m2
    refine pw_iload_n C dX10_isSaid_2 rfl ?_
    refine pw_bipush C dX10_isSaid_3 rfl ?_
    refine pw_icmp_ge (tgt := 26) C dX10_isSaid_5 (by decide) (by omega) (fun c_5 => ?_) (fun c_5 => ?_)
    · skip
      refine pw_iconst C dX10_isSaid_26 ?_
      exact pw_zretE C hR dX10_isSaid_27 (by omega) rfl rfl ((bI_f (by show ¬ fnd (fun k => F 0 k = v) 0 10 < 10; rw [← fnd_no (by omega) hf]; omega)).symm) (Nat.zero_le _) (Nat.zero_le _)
    · skip
      refine pw_aload_n C dX10_isSaid_8 rfl ?_
      refine pw_getR C dX10_isSaid_9 fl_X10_51 hF.1 rfl hF.2.1 ?_
      refine pw_iload_n C dX10_isSaid_12 rfl ?_
      refine pw_ialdE C dX10_isSaid_13 hF.2.2.1 (by omega) (hF.2.2.2.1 k (by omega) (by omega)) ?_
      have b_13 := hB.v0 k (by omega) (by omega)
      refine pw_iload_n C dX10_isSaid_14 rfl ?_
      refine pw_icmp_ne (tgt := 20) C dX10_isSaid_15 (by decide) (by omega) (fun c_15 => ?_) (fun c_15 => ?_)
      · skip
        refine pw_iinc C dX10_isSaid_20 rfl (Nat.le_of_ble_eq_true rfl) rfl ?_
        refine pw_goto (tgt := 2) C dX10_isSaid_23 (by decide) ?_
        exact pw_locs (by exact ⟨rfl, cat_vR _, rfl, rfl, rfl, rfl, trivial⟩) (ih_2 (k + 1)  (by omega) (fnd_go (by omega) hf c_15) (by omega))
      · skip
        refine pw_iconst C dX10_isSaid_18 ?_
        exact pw_zretE C hR dX10_isSaid_19 (by omega) rfl rfl ((bI_t (by show fnd (fun k => F 0 k = v) 0 10 < 10; rw [← fnd_at (by omega) hf (by omega)]; omega)).symm) (Nat.zero_le _) (Nat.zero_le _)

set_option maxHeartbeats 4000000 in
set_option maxRecDepth 100000 in
theorem m_saying {X : Xv} {G M : Mm} {a : Int} {F : Fn} (hF : MFa G M a F) (hB : FB0 F) : CT X yX10_saying prog_8_method_20_code 3 (some .int) 0 0 0 0 [vR a] G M (PE G M (cSay F)) := by
  refine CT.by (by decide +kernel) [1] ⟨cat_vR _, trivial⟩ (Nat.le_of_ble_eq_true rfl) (fun E hX C hR hIni => ?_)
  refine pw_iconst C dX10_saying_0 ?_
  refine pw_istore_n C dX10_saying_1 (Nat.le_of_ble_eq_true rfl) rfl ?_
  refine pw_iconst C dX10_saying_2 ?_
  refine pw_istore_n C dX10_saying_3 (Nat.le_of_ble_eq_true rfl) rfl ?_
  suffices K_4 : ∀ (nn_4 : Nat) (c k : Int) , (0 ≤ k ∧ k ≤ 10) → (fr (fun s c => if ¬ F 0 s = -1 then c + 1 else c) k 10 c = cSay F) → 10 - k < (nn_4 : Int) → PW E G M 0 0 4 [(0, 1, vR a), (1, 1, vI c), (2, 1, vI k)] [] from pw_locs (by exact ⟨rfl, cat_vR _, rfl, rfl, rfl, rfl, trivial⟩) (K_4 (10 - 0 + 1 : Int).toNat 0 0  (by omega) (by first | exact rfl | omega) (by omega))
  intro nn_4
  induction nn_4 with
  | zero => intro c k h1 hf h_m4; exact absurd h_m4 (by omega)
  | succ nn_4 ih_4 =>
    intro c k h1 hf h_m4
    refine pw_iload_n C dX10_saying_4 rfl ?_
    refine pw_bipush C dX10_saying_5 rfl ?_
    refine pw_icmp_ge (tgt := 34) C dX10_saying_7 (by decide) (by omega) (fun c_7 => ?_) (fun c_7 => ?_)
    · skip
      refine pw_iload_n C dX10_saying_34 rfl ?_
      exact pw_iretE C hR dX10_saying_35 rfl rfl (fr_done (by omega) hf) (Nat.zero_le _) (Nat.zero_le _)
    · skip
      refine pw_iload_n C dX10_saying_10 rfl ?_
      refine pw_aload_n C dX10_saying_11 rfl ?_
      refine pw_getR C dX10_saying_12 fl_X10_51 hF.1 rfl hF.2.1 ?_
      refine pw_iload_n C dX10_saying_15 rfl ?_
      refine pw_ialdE C dX10_saying_16 hF.2.2.1 (by omega) (hF.2.2.2.1 k (by omega) (by omega)) ?_
      have b_16 := hB.v0 k (by omega) (by omega)
      refine pw_iconst C dX10_saying_17 ?_
      refine pw_icmp_eq (tgt := 25) C dX10_saying_18 (by decide) (by omega) (fun c_18 => ?_) (fun c_18 => ?_)
      · skip
        refine pw_iconst C dX10_saying_25 ?_
        refine pw_iadd C dX10_saying_26 ?_
        refine pw_istore_n C dX10_saying_27 (Nat.le_of_ble_eq_true rfl) rfl ?_
        refine pw_iinc C dX10_saying_28 rfl (Nat.le_of_ble_eq_true rfl) rfl ?_
        refine pw_goto (tgt := 4) C dX10_saying_31 (by decide) ?_
        exact pw_locs (by exact ⟨rfl, cat_vR _, rfl, rfl, rfl, rfl, trivial⟩) (ih_4 (c + 0) (k + 1)  (by omega) (fr_go (by omega) hf (by (try dsimp only); rw [if_neg (fun q => q c_18)]; omega)) (by omega))
      · skip
        refine pw_iconst C dX10_saying_21 ?_
        refine pw_goto (tgt := 26) C dX10_saying_22 (by decide) ?_
        refine pw_iadd C dX10_saying_26 ?_
        refine pw_istore_n C dX10_saying_27 (Nat.le_of_ble_eq_true rfl) rfl ?_
        refine pw_iinc C dX10_saying_28 rfl (Nat.le_of_ble_eq_true rfl) rfl ?_
        refine pw_goto (tgt := 4) C dX10_saying_31 (by decide) ?_
        exact pw_locs (by exact ⟨rfl, cat_vR _, rfl, rfl, rfl, rfl, trivial⟩) (ih_4 (c + 1) (k + 1)  (by omega) (fr_go (by omega) hf (by (try dsimp only); rw [if_pos c_18])) (by omega))

set_option maxHeartbeats 4000000 in
set_option maxRecDepth 100000 in
theorem m_values {X : Xv} {G M : Mm} {a : Int} {F : Fn} (hF : MFa G M a F) (hB : FB0 F) : CT X yX10_values prog_8_method_21_code 3 (some .int) 1 22 0 0 [vR a] G M (PE G M (mvl F)) := by
  refine CT.by (by decide +kernel) [1] ⟨cat_vR _, trivial⟩ (Nat.le_of_ble_eq_true rfl) (fun E hX C hR hIni => ?_)
  refine pw_iconst C dX10_values_0 ?_
  refine pw_istore_n C dX10_values_1 (Nat.le_of_ble_eq_true rfl) rfl ?_
  refine pw_iconst C dX10_values_2 ?_
  refine pw_istore_n C dX10_values_3 (Nat.le_of_ble_eq_true rfl) rfl ?_
  suffices K_4 : ∀ (nn_4 : Nat) (c v : Int) , (0 ≤ v ∧ v ≤ 100) → (fr (fun v c => if isd F v then c + 1 else c) v 100 c = mvl F) → 100 - v < (nn_4 : Int) → PW E G M 0 0 4 [(0, 1, vR a), (1, 1, vI c), (2, 1, vI v)] [] from pw_locs (by exact ⟨rfl, cat_vR _, rfl, rfl, rfl, rfl, trivial⟩) (K_4 (100 - 0 + 1 : Int).toNat 0 0  (by omega) (by first | exact rfl | omega) (by omega))
  intro nn_4
  induction nn_4 with
  | zero => intro c v h1 hf h_m4; exact absurd h_m4 (by omega)
  | succ nn_4 ih_4 =>
    intro c v h1 hf h_m4
    refine pw_iload_n C dX10_values_4 rfl ?_
    refine pw_bipush C dX10_values_5 rfl ?_
    refine pw_icmp_ge (tgt := 32) C dX10_values_7 (by decide) (by omega) (fun c_7 => ?_) (fun c_7 => ?_)
    · skip
      refine pw_iload_n C dX10_values_32 rfl ?_
      exact pw_iretE C hR dX10_values_33 rfl rfl (fr_done (by omega) hf) (Nat.zero_le _) (Nat.zero_le _)
    · skip
      refine pw_iload_n C dX10_values_10 rfl ?_
      refine pw_aload_n C dX10_values_11 rfl ?_
      refine pw_iload_n C dX10_values_12 rfl ?_
      refine pw_cSE C hX dX10_values_13 ml_X10_81 mc_X10_isSaid (m_isSaid hF hB (v := v) (by omega)) rfl rfl ⟨Nat.le_of_ble_eq_true rfl, Nat.le_of_ble_eq_true rfl⟩ (Nat.le_of_ble_eq_true rfl) ⟨Nat.le_of_ble_eq_true rfl, Nat.le_of_ble_eq_true rfl⟩ ?_
      refine pw_ifB_eq (tgt := 23) C dX10_values_16 (by decide) (fun c_16 => ?_) (fun c_16 => ?_)
      · skip
        refine pw_iconst C dX10_values_23 ?_
        refine pw_iadd C dX10_values_24 ?_
        refine pw_istore_n C dX10_values_25 (Nat.le_of_ble_eq_true rfl) rfl ?_
        refine pw_iinc C dX10_values_26 rfl (Nat.le_of_ble_eq_true rfl) rfl ?_
        refine pw_goto (tgt := 4) C dX10_values_29 (by decide) ?_
        exact pw_locs (by exact ⟨rfl, cat_vR _, rfl, rfl, rfl, rfl, trivial⟩) (ih_4 (c + 0) (v + 1)  (by omega) (fr_go (by omega) hf (by (try dsimp only); rw [if_neg c_16]; omega)) (by omega))
      · skip
        refine pw_iconst C dX10_values_19 ?_
        refine pw_goto (tgt := 24) C dX10_values_20 (by decide) ?_
        refine pw_iadd C dX10_values_24 ?_
        refine pw_istore_n C dX10_values_25 (Nat.le_of_ble_eq_true rfl) rfl ?_
        refine pw_iinc C dX10_values_26 rfl (Nat.le_of_ble_eq_true rfl) rfl ?_
        refine pw_goto (tgt := 4) C dX10_values_29 (by decide) ?_
        exact pw_locs (by exact ⟨rfl, cat_vR _, rfl, rfl, rfl, rfl, trivial⟩) (ih_4 (c + 1) (v + 1)  (by omega) (fr_go (by omega) hf (by (try dsimp only); rw [if_pos c_16])) (by omega))

set_option maxHeartbeats 4000000 in
set_option maxRecDepth 100000 in
theorem m_roots {X : Xv} {G M : Mm} {Q : Int} {A : An} {D : Fn} {I : Int → Int} (hM : RM G M Q A D I) (hA : AB A) {a : Int} {F : Fn} (hF : MFa G M a F) (hB : FB0 F) {v : Int} (hv : -1 ≤ v ∧ v ≤ 100) {w : Int} (hw : 0 ≤ w ∧ w ≤ 3) : CT X yX10_roots prog_8_method_13_code 6 (some .int) 3 64 0 0 [vR Q, vR a, vI v, vI w] G M (PE G M (mro (A 10) F v w)) := by
  refine CT.by (by decide +kernel) [1, 1, 1, 1] ⟨cat_vR _, cat_vR _, cat_vI _, cat_vI _, trivial⟩ (Nat.le_of_ble_eq_true rfl) (fun E hX C hR hIni => ?_)
  have hn := hA.n
  have hnS := hA.so.c
  refine pw_iconst C dX10_roots_0 ?_
  refine pw_istore C dX10_roots_1 (Nat.le_of_ble_eq_true rfl) rfl ?_
  refine pw_iconst C dX10_roots_3 ?_
  refine pw_istore C dX10_roots_4 (Nat.le_of_ble_eq_true rfl) rfl ?_
  suffices K_6 : ∀ (nn_6 : Nat) (x k : Int) , (0 ≤ k ∧ k ≤ A 10 2 0) → (0 ≤ x ∧ x < 1024) → (fr (mroS (A 10) F v w) k (A 10 2 0) x = fr (mroS (A 10) F v w) 0 (A 10 2 0) 0) → A 10 2 0 - k < (nn_6 : Int) → PW E G M 0 0 6 [(0, 1, vR Q), (1, 1, vR a), (2, 1, vI v), (3, 1, vI w), (4, 1, vI x), (5, 1, vI k)] [] from pw_locs (by exact ⟨rfl, cat_vR _, rfl, cat_vR _, rfl, rfl, rfl, rfl, rfl, rfl, rfl, rfl, trivial⟩) (K_6 (A 10 2 0 - 0 + 1 : Int).toNat 0 0  (by omega) (by omega) (by first | exact rfl | omega) (by omega))
  intro nn_6
  induction nn_6 with
  | zero => intro x k h1 h2 hf h_m6; exact absurd h_m6 (by omega)
  | succ nn_6 ih_6 =>
    intro x k h1 h2 hf h_m6
    refine pw_iload C dX10_roots_6 rfl ?_
    refine pw_aload_n C dX10_roots_8 rfl ?_
    refine pw_getR C dX10_roots_9 fl_X10_10 hM.k rfl hM.r1 ?_
    refine pw_cVE C hX dX10_roots_12 ml_X10_33 mc_Jx4a65c_size_8abf5 (c_size hM.l1) kc_2 hM.l1.k rfl rfl ⟨Nat.le_of_ble_eq_true rfl, Nat.le_of_ble_eq_true rfl⟩ (Nat.le_of_ble_eq_true rfl) ⟨Nat.le_of_ble_eq_true rfl, Nat.le_of_ble_eq_true rfl⟩ ?_
    refine pw_icmp_ge (tgt := 80) C dX10_roots_15 (by decide) (by omega) (fun c_15 => ?_) (fun c_15 => ?_)
    · skip
      refine pw_iload C dX10_roots_80 rfl ?_
      refine pw_cSE C hX dX10_roots_82 ml_X10_65 mc_J6_bitCount_0f7a4 (c_bitCount (x := x) (by omega)) rfl rfl ⟨Nat.le_of_ble_eq_true rfl, Nat.le_of_ble_eq_true rfl⟩ (Nat.le_of_ble_eq_true rfl) ⟨Nat.le_of_ble_eq_true rfl, Nat.le_of_ble_eq_true rfl⟩ ?_
      exact pw_iretE C hR dX10_roots_85 rfl rfl (by unfold mro; rw [← fr_done (by omega) hf]) (Nat.zero_le _) (Nat.zero_le _)
    · skip
      refine pw_aload_n C dX10_roots_18 rfl ?_
      refine pw_getR C dX10_roots_19 fl_X10_51 hF.1 rfl hF.2.1 ?_
      refine pw_iload C dX10_roots_22 rfl ?_
      refine pw_ialdE C dX10_roots_24 hF.2.2.1 (by omega) (hF.2.2.2.1 k (by omega) (by omega)) ?_
      have b_24 := hB.v0 k (by omega) (by omega)
      refine pw_iload_n C dX10_roots_25 rfl ?_
      refine pw_icmp_ne (tgt := 74) C dX10_roots_26 (by decide) (by omega) (fun c_26 => ?_) (fun c_26 => ?_)
      · skip
        refine pw_iinc C dX10_roots_74 rfl (Nat.le_of_ble_eq_true rfl) rfl ?_
        refine pw_goto (tgt := 6) C dX10_roots_77 (by decide) ?_
        exact pw_locs (by exact ⟨rfl, cat_vR _, rfl, cat_vR _, rfl, rfl, rfl, rfl, rfl, rfl, rfl, rfl, trivial⟩) (ih_6 x (k + 1)  (by omega) (by omega) (fr_go (by omega) hf (by unfold mroS; exact if_neg (fun q => c_26 q.1))) (by omega))
      · skip
        refine pw_iload_n C dX10_roots_29 rfl ?_
        refine pw_if_eq (tgt := 52) C dX10_roots_30 (by decide) (by omega) (fun c_30 => ?_) (fun c_30 => ?_)
        · skip
          refine pw_iload C dX10_roots_52 rfl ?_
          refine pw_iconst C dX10_roots_54 ?_
          refine pw_aload_n C dX10_roots_55 rfl ?_
          refine pw_getR C dX10_roots_56 fl_X10_10 hM.k rfl hM.r1 ?_
          refine pw_iload C dX10_roots_59 rfl ?_
          refine pw_cVR C hX dX10_roots_61 ml_X10_45 mc_Jx4a65c_get_915e3 (hM.g1 (i := k) (by omega)) kc_2 hM.l1.k rfl rfl ⟨Nat.le_of_ble_eq_true rfl, Nat.le_of_ble_eq_true rfl⟩ (Nat.le_of_ble_eq_true rfl) ⟨Nat.le_of_ble_eq_true rfl, Nat.le_of_ble_eq_true rfl⟩ ?_
          refine pw_cast (Cn := "SlugwireModel$Source") C dX10_roots_64 (List.mem_of_getElem? (i := 954) (by decide +kernel)) (by rw [(hM.so k (by omega) (by omega)).1]; exact kc_11) ?_
          refine pw_getE C dX10_roots_67 fl_X10_62 rfl (hM.so k (by omega) (by omega)).1 (hM.so k (by omega) (by omega)).2.2 ?_
          have b_67 := hA.so.r k (by omega) (by omega)
          refine pw_ishl C dX10_roots_70 ?_
          refine pw_ior C dX10_roots_71 ?_
          have ho := orb_eq (x := x) (r := (A 10 1 k)) (by omega) (by omega)
          refine pw_top (v' := vI (orb x (A 10 1 k))) (congrArg Value.int ho.1) ?_
          refine pw_istore C dX10_roots_72 (Nat.le_of_ble_eq_true rfl) rfl ?_
          refine pw_iinc C dX10_roots_74 rfl (Nat.le_of_ble_eq_true rfl) rfl ?_
          refine pw_goto (tgt := 6) C dX10_roots_77 (by decide) ?_
          exact pw_locs (by exact ⟨rfl, cat_vR _, rfl, cat_vR _, rfl, rfl, rfl, rfl, rfl, rfl, rfl, rfl, trivial⟩) (ih_6 (orb x (A 10 1 k)) (k + 1)  (by omega) (by omega) (fr_go (by omega) hf (by unfold mroS; exact if_pos ⟨by omega, by omega⟩)) (by omega))
        · skip
          refine pw_aload_n C dX10_roots_33 rfl ?_
          refine pw_getR C dX10_roots_34 fl_X10_10 hM.k rfl hM.r1 ?_
          refine pw_iload C dX10_roots_37 rfl ?_
          refine pw_cVR C hX dX10_roots_39 ml_X10_45 mc_Jx4a65c_get_915e3 (hM.g1 (i := k) (by omega)) kc_2 hM.l1.k rfl rfl ⟨Nat.le_of_ble_eq_true rfl, Nat.le_of_ble_eq_true rfl⟩ (Nat.le_of_ble_eq_true rfl) ⟨Nat.le_of_ble_eq_true rfl, Nat.le_of_ble_eq_true rfl⟩ ?_
          refine pw_cast (Cn := "SlugwireModel$Source") C dX10_roots_42 (List.mem_of_getElem? (i := 954) (by decide +kernel)) (by rw [(hM.so k (by omega) (by omega)).1]; exact kc_11) ?_
          refine pw_getE C dX10_roots_45 fl_X10_59 rfl (hM.so k (by omega) (by omega)).1 (hM.so k (by omega) (by omega)).2.1 ?_
          have b_45 := hA.so.w k (by omega) (by omega)
          refine pw_iload_n C dX10_roots_48 rfl ?_
          refine pw_icmp_ne (tgt := 74) C dX10_roots_49 (by decide) (by omega) (fun c_49 => ?_) (fun c_49 => ?_)
          · skip
            refine pw_iinc C dX10_roots_74 rfl (Nat.le_of_ble_eq_true rfl) rfl ?_
            refine pw_goto (tgt := 6) C dX10_roots_77 (by decide) ?_
            exact pw_locs (by exact ⟨rfl, cat_vR _, rfl, cat_vR _, rfl, rfl, rfl, rfl, rfl, rfl, rfl, rfl, trivial⟩) (ih_6 x (k + 1)  (by omega) (by omega) (fr_go (by omega) hf (by unfold mroS; exact if_neg (by omega))) (by omega))
          · skip
            refine pw_iload C dX10_roots_52 rfl ?_
            refine pw_iconst C dX10_roots_54 ?_
            refine pw_aload_n C dX10_roots_55 rfl ?_
            refine pw_getR C dX10_roots_56 fl_X10_10 hM.k rfl hM.r1 ?_
            refine pw_iload C dX10_roots_59 rfl ?_
            refine pw_cVR C hX dX10_roots_61 ml_X10_45 mc_Jx4a65c_get_915e3 (hM.g1 (i := k) (by omega)) kc_2 hM.l1.k rfl rfl ⟨Nat.le_of_ble_eq_true rfl, Nat.le_of_ble_eq_true rfl⟩ (Nat.le_of_ble_eq_true rfl) ⟨Nat.le_of_ble_eq_true rfl, Nat.le_of_ble_eq_true rfl⟩ ?_
            refine pw_cast (Cn := "SlugwireModel$Source") C dX10_roots_64 (List.mem_of_getElem? (i := 954) (by decide +kernel)) (by rw [(hM.so k (by omega) (by omega)).1]; exact kc_11) ?_
            refine pw_getE C dX10_roots_67 fl_X10_62 rfl (hM.so k (by omega) (by omega)).1 (hM.so k (by omega) (by omega)).2.2 ?_
            have b_67 := hA.so.r k (by omega) (by omega)
            refine pw_ishl C dX10_roots_70 ?_
            refine pw_ior C dX10_roots_71 ?_
            have ho := orb_eq (x := x) (r := (A 10 1 k)) (by omega) (by omega)
            refine pw_top (v' := vI (orb x (A 10 1 k))) (congrArg Value.int ho.1) ?_
            refine pw_istore C dX10_roots_72 (Nat.le_of_ble_eq_true rfl) rfl ?_
            refine pw_iinc C dX10_roots_74 rfl (Nat.le_of_ble_eq_true rfl) rfl ?_
            refine pw_goto (tgt := 6) C dX10_roots_77 (by decide) ?_
            exact pw_locs (by exact ⟨rfl, cat_vR _, rfl, cat_vR _, rfl, rfl, rfl, rfl, rfl, rfl, rfl, rfl, trivial⟩) (ih_6 (orb x (A 10 1 k)) (k + 1)  (by omega) (by omega) (fr_go (by omega) hf (by unfold mroS; exact if_pos ⟨by omega, by omega⟩)) (by omega))

set_option maxHeartbeats 4000000 in
set_option maxRecDepth 100000 in
theorem m_force {X : Xv} {G M : Mm} {Q : Int} {A : An} {D : Fn} {I : Int → Int} (hM : RM G M Q A D I) (hA : AB A) {a : Int} {F : Fn} (hF : MFa G M a F) (hB : FB0 F) {v : Int} (hv : -1 ≤ v ∧ v ≤ 100) : CT X yX10_force prog_8_method_14_code 7 (some .int) 3 64 0 0 [vR Q, vR a, vI v] G M (PE G M (mfo (A 10) F v)) := by
  refine CT.by (by decide +kernel) [1, 1, 1] ⟨cat_vR _, cat_vR _, cat_vI _, trivial⟩ (Nat.le_of_ble_eq_true rfl) (fun E hX C hR hIni => ?_)
  have hn := hA.n
  have hnS := hA.so.c
  refine pw_iconst C dX10_force_0 ?_
  refine pw_istore_n C dX10_force_1 (Nat.le_of_ble_eq_true rfl) rfl ?_
  refine pw_iconst C dX10_force_2 ?_
  refine pw_istore C dX10_force_3 (Nat.le_of_ble_eq_true rfl) rfl ?_
  suffices K_5 : ∀ (nn_5 : Nat) (c r : Int) , (0 ≤ r ∧ r ≤ A 10 2 0) → (fr (fun r c => c + fr (mfoS (A 10) F v r) r (A 10 2 0) 0) r (A 10 2 0) c = mfo (A 10) F v) → A 10 2 0 - r < (nn_5 : Int) → PW E G M 0 0 5 [(0, 1, vR Q), (1, 1, vR a), (2, 1, vI v), (3, 1, vI c), (4, 1, vI r)] [] from pw_locs (by exact ⟨rfl, cat_vR _, rfl, cat_vR _, rfl, rfl, rfl, rfl, rfl, rfl, trivial⟩) (K_5 (A 10 2 0 - 0 + 1 : Int).toNat 0 0  (by omega) (by first | exact rfl | omega) (by omega))
  intro nn_5
  induction nn_5 with
  | zero => intro c r h1 hf h_m5; exact absurd h_m5 (by omega)
  | succ nn_5 ih_5 =>
    intro c r h1 hf h_m5
    refine pw_iload C dX10_force_5 rfl ?_
    refine pw_aload_n C dX10_force_7 rfl ?_
    refine pw_getR C dX10_force_8 fl_X10_10 hM.k rfl hM.r1 ?_
    refine pw_cVE C hX dX10_force_11 ml_X10_33 mc_Jx4a65c_size_8abf5 (c_size hM.l1) kc_2 hM.l1.k rfl rfl ⟨Nat.le_of_ble_eq_true rfl, Nat.le_of_ble_eq_true rfl⟩ (Nat.le_of_ble_eq_true rfl) ⟨Nat.le_of_ble_eq_true rfl, Nat.le_of_ble_eq_true rfl⟩ ?_
    refine pw_icmp_ge (tgt := 106) C dX10_force_14 (by decide) (by omega) (fun c_14 => ?_) (fun c_14 => ?_)
    · skip
      refine pw_iload_n C dX10_force_106 rfl ?_
      exact pw_iretE C hR dX10_force_107 rfl rfl (fr_done (by omega) hf) (Nat.zero_le _) (Nat.zero_le _)
    · skip
      refine pw_iconst C dX10_force_17 ?_
      refine pw_istore C dX10_force_18 (Nat.le_of_ble_eq_true rfl) rfl ?_
      refine pw_iload C dX10_force_20 rfl ?_
      refine pw_istore C dX10_force_22 (Nat.le_of_ble_eq_true rfl) rfl ?_
      suffices K_24 : ∀ (nn_24 : Nat) (m k : Int) , (r ≤ k ∧ k ≤ A 10 2 0) → (0 ≤ m ∧ m ≤ 3) → (fr (mfoS (A 10) F v r) k (A 10 2 0) m = fr (mfoS (A 10) F v r) r (A 10 2 0) 0) → A 10 2 0 - k < (nn_24 : Int) → PW E G M 0 0 24 [(0, 1, vR Q), (1, 1, vR a), (2, 1, vI v), (3, 1, vI c), (4, 1, vI r), (5, 1, vI m), (6, 1, vI k)] [] from pw_locs (by exact ⟨rfl, cat_vR _, rfl, cat_vR _, rfl, rfl, rfl, rfl, rfl, rfl, rfl, rfl, rfl, rfl, trivial⟩) (K_24 (A 10 2 0 - r + 1 : Int).toNat 0 r  (by omega) (by omega) (by first | exact rfl | omega) (by omega))
      intro nn_24
      induction nn_24 with
      | zero => intro m k h2 h3 hg h_m24; exact absurd h_m24 (by omega)
      | succ nn_24 ih_24 =>
        intro m k h2 h3 hg h_m24
        refine pw_iload C dX10_force_24 rfl ?_
        refine pw_aload_n C dX10_force_26 rfl ?_
        refine pw_getR C dX10_force_27 fl_X10_10 hM.k rfl hM.r1 ?_
        refine pw_cVE C hX dX10_force_30 ml_X10_33 mc_Jx4a65c_size_8abf5 (c_size hM.l1) kc_2 hM.l1.k rfl rfl ⟨Nat.le_of_ble_eq_true rfl, Nat.le_of_ble_eq_true rfl⟩ (Nat.le_of_ble_eq_true rfl) ⟨Nat.le_of_ble_eq_true rfl, Nat.le_of_ble_eq_true rfl⟩ ?_
        refine pw_icmp_ge (tgt := 95) C dX10_force_33 (by decide) (by omega) (fun c_33 => ?_) (fun c_33 => ?_)
        · skip
          refine pw_iload_n C dX10_force_95 rfl ?_
          refine pw_iload C dX10_force_96 rfl ?_
          refine pw_iadd C dX10_force_98 ?_
          refine pw_istore_n C dX10_force_99 (Nat.le_of_ble_eq_true rfl) rfl ?_
          refine pw_iinc C dX10_force_100 rfl (Nat.le_of_ble_eq_true rfl) rfl ?_
          refine pw_goto (tgt := 5) C dX10_force_103 (by decide) ?_
          exact pw_locs (by exact ⟨rfl, cat_vR _, rfl, cat_vR _, rfl, rfl, rfl, rfl, rfl, rfl, trivial⟩) (ih_5 (c + m) (r + 1)  (by omega) (fr_go (by omega) hf (by (try dsimp only); rw [← fr_done (by omega) hg])) (by omega))
        · skip
          refine pw_aload_n C dX10_force_36 rfl ?_
          refine pw_getR C dX10_force_37 fl_X10_51 hF.1 rfl hF.2.1 ?_
          refine pw_iload C dX10_force_40 rfl ?_
          refine pw_ialdE C dX10_force_42 hF.2.2.1 (by omega) (hF.2.2.2.1 k (by omega) (by omega)) ?_
          have b_42 := hB.v0 k (by omega) (by omega)
          refine pw_iload_n C dX10_force_43 rfl ?_
          refine pw_icmp_ne (tgt := 89) C dX10_force_44 (by decide) (by omega) (fun c_44 => ?_) (fun c_44 => ?_)
          · skip
            refine pw_iinc C dX10_force_89 rfl (Nat.le_of_ble_eq_true rfl) rfl ?_
            refine pw_goto (tgt := 24) C dX10_force_92 (by decide) ?_
            exact pw_locs (by exact ⟨rfl, cat_vR _, rfl, cat_vR _, rfl, rfl, rfl, rfl, rfl, rfl, rfl, rfl, rfl, rfl, trivial⟩) (ih_24 m (k + 1)  (by omega) (by omega) (fr_go (by omega) hg (by unfold mfoS; exact if_neg (fun q => c_44 q.1))) (by omega))
          · skip
            refine pw_aload_n C dX10_force_47 rfl ?_
            refine pw_getR C dX10_force_48 fl_X10_10 hM.k rfl hM.r1 ?_
            refine pw_iload C dX10_force_51 rfl ?_
            refine pw_cVR C hX dX10_force_53 ml_X10_45 mc_Jx4a65c_get_915e3 (hM.g1 (i := k) (by omega)) kc_2 hM.l1.k rfl rfl ⟨Nat.le_of_ble_eq_true rfl, Nat.le_of_ble_eq_true rfl⟩ (Nat.le_of_ble_eq_true rfl) ⟨Nat.le_of_ble_eq_true rfl, Nat.le_of_ble_eq_true rfl⟩ ?_
            refine pw_cast (Cn := "SlugwireModel$Source") C dX10_force_56 (List.mem_of_getElem? (i := 954) (by decide +kernel)) (by rw [(hM.so k (by omega) (by omega)).1]; exact kc_11) ?_
            refine pw_getE C dX10_force_59 fl_X10_62 rfl (hM.so k (by omega) (by omega)).1 (hM.so k (by omega) (by omega)).2.2 ?_
            have b_59 := hA.so.r k (by omega) (by omega)
            refine pw_iload C dX10_force_62 rfl ?_
            refine pw_icmp_ne (tgt := 89) C dX10_force_64 (by decide) (by omega) (fun c_64 => ?_) (fun c_64 => ?_)
            · skip
              refine pw_iinc C dX10_force_89 rfl (Nat.le_of_ble_eq_true rfl) rfl ?_
              refine pw_goto (tgt := 24) C dX10_force_92 (by decide) ?_
              exact pw_locs (by exact ⟨rfl, cat_vR _, rfl, cat_vR _, rfl, rfl, rfl, rfl, rfl, rfl, rfl, rfl, rfl, rfl, trivial⟩) (ih_24 m (k + 1)  (by omega) (by omega) (fr_go (by omega) hg (by unfold mfoS; exact if_neg (fun q => c_64 q.2))) (by omega))
            · skip
              refine pw_iload C dX10_force_67 rfl ?_
              refine pw_aload_n C dX10_force_69 rfl ?_
              refine pw_getR C dX10_force_70 fl_X10_10 hM.k rfl hM.r1 ?_
              refine pw_iload C dX10_force_73 rfl ?_
              refine pw_cVR C hX dX10_force_75 ml_X10_45 mc_Jx4a65c_get_915e3 (hM.g1 (i := k) (by omega)) kc_2 hM.l1.k rfl rfl ⟨Nat.le_of_ble_eq_true rfl, Nat.le_of_ble_eq_true rfl⟩ (Nat.le_of_ble_eq_true rfl) ⟨Nat.le_of_ble_eq_true rfl, Nat.le_of_ble_eq_true rfl⟩ ?_
              refine pw_cast (Cn := "SlugwireModel$Source") C dX10_force_78 (List.mem_of_getElem? (i := 954) (by decide +kernel)) (by rw [(hM.so k (by omega) (by omega)).1]; exact kc_11) ?_
              refine pw_getE C dX10_force_81 fl_X10_59 rfl (hM.so k (by omega) (by omega)).1 (hM.so k (by omega) (by omega)).2.1 ?_
              have b_81 := hA.so.w k (by omega) (by omega)
              refine pw_max C dX10_force_84 (List.mem_of_getElem? (i := 1222) (by decide +kernel)) (by omega) (by omega) ⟨Nat.le_of_ble_eq_true rfl, Nat.le_of_ble_eq_true rfl⟩ ⟨Nat.le_of_ble_eq_true rfl, Nat.le_of_ble_eq_true rfl⟩ ?_
              refine pw_istore C dX10_force_87 (Nat.le_of_ble_eq_true rfl) rfl ?_
              refine pw_iinc C dX10_force_89 rfl (Nat.le_of_ble_eq_true rfl) rfl ?_
              refine pw_goto (tgt := 24) C dX10_force_92 (by decide) ?_
              exact pw_locs (by exact ⟨rfl, cat_vR _, rfl, cat_vR _, rfl, rfl, rfl, rfl, rfl, rfl, rfl, rfl, rfl, rfl, trivial⟩) (ih_24 (max m (A 10 0 k)) (k + 1)  (by omega) (by omega) (fr_go (by omega) hg (by unfold mfoS; exact if_pos ⟨by omega, by omega⟩)) (by omega))

set_option maxHeartbeats 4000000 in
set_option maxRecDepth 100000 in
theorem m_proof {X : Xv} {G M : Mm} {Q : Int} {A : An} {D : Fn} {I : Int → Int} (hM : RM G M Q A D I) (hA : AB A) {a : Int} {F : Fn} (hF : MFa G M a F) (hB : FB0 F) {v : Int} (hv : -1 ≤ v ∧ v ≤ 100) : CT X yX10_proof prog_8_method_15_code 3 (some .int) 4 89 0 0 [vR Q, vR a, vI v] G M (PE G M (mpr (A 10) F v)) := by
  refine CT.by (by decide +kernel) [1, 1, 1] ⟨cat_vR _, cat_vR _, cat_vI _, trivial⟩ (Nat.le_of_ble_eq_true rfl) (fun E hX C hR hIni => ?_)
  have hn := hA.n
  have hnS := hA.so.c
  refine pw_aload_n C dX10_proof_0 rfl ?_
  refine pw_aload_n C dX10_proof_1 rfl ?_
  refine pw_iload_n C dX10_proof_2 rfl ?_
  refine pw_iconst C dX10_proof_3 ?_
  refine pw_cVE C hX dX10_proof_4 ml_X10_77 mc_X10_roots (m_roots hM hA hF hB (v := v) (by omega) (w := 3) (by omega)) kc_13 hM.k rfl rfl ⟨Nat.le_of_ble_eq_true rfl, Nat.le_of_ble_eq_true rfl⟩ (Nat.le_of_ble_eq_true rfl) ⟨Nat.le_of_ble_eq_true rfl, Nat.le_of_ble_eq_true rfl⟩ ?_
  have b_mro1 := bc_bd (fr (mroS (A 10) F v 3) 0 (A 10 2 0) 0)
  have b_mrq1 : mro (A 10) F v 3 = _ := rfl
  replace b_mro1 : 0 ≤ mro (A 10) F v 3 ∧ mro (A 10) F v 3 ≤ 10 := b_mro1
  clear b_mrq1
  refine pw_if_le (tgt := 12) C dX10_proof_7 (by decide) (by omega) (fun c_7 => ?_) (fun c_7 => ?_)
  · skip
    refine pw_aload_n C dX10_proof_12 rfl ?_
    refine pw_aload_n C dX10_proof_13 rfl ?_
    refine pw_iload_n C dX10_proof_14 rfl ?_
    refine pw_iconst C dX10_proof_15 ?_
    refine pw_cVE C hX dX10_proof_16 ml_X10_77 mc_X10_roots (m_roots hM hA hF hB (v := v) (by omega) (w := 2) (by omega)) kc_13 hM.k rfl rfl ⟨Nat.le_of_ble_eq_true rfl, Nat.le_of_ble_eq_true rfl⟩ (Nat.le_of_ble_eq_true rfl) ⟨Nat.le_of_ble_eq_true rfl, Nat.le_of_ble_eq_true rfl⟩ ?_
    have b_mro2 := bc_bd (fr (mroS (A 10) F v 2) 0 (A 10 2 0) 0)
    have b_mrq2 : mro (A 10) F v 2 = _ := rfl
    replace b_mro2 : 0 ≤ mro (A 10) F v 2 ∧ mro (A 10) F v 2 ≤ 10 := b_mro2
    clear b_mrq2
    refine pw_iconst C dX10_proof_19 ?_
    refine pw_icmp_le (tgt := 27) C dX10_proof_20 (by decide) (by omega) (fun c_20 => ?_) (fun c_20 => ?_)
    · skip
      refine pw_aload_n C dX10_proof_27 rfl ?_
      refine pw_aload_n C dX10_proof_28 rfl ?_
      refine pw_iload_n C dX10_proof_29 rfl ?_
      refine pw_iconst C dX10_proof_30 ?_
      refine pw_cVE C hX dX10_proof_31 ml_X10_77 mc_X10_roots (m_roots hM hA hF hB (v := v) (by omega) (w := 0) (by omega)) kc_13 hM.k rfl rfl ⟨Nat.le_of_ble_eq_true rfl, Nat.le_of_ble_eq_true rfl⟩ (Nat.le_of_ble_eq_true rfl) ⟨Nat.le_of_ble_eq_true rfl, Nat.le_of_ble_eq_true rfl⟩ ?_
      have b_mro3 := bc_bd (fr (mroS (A 10) F v 0) 0 (A 10 2 0) 0)
      have b_mrq3 : mro (A 10) F v 0 = _ := rfl
      replace b_mro3 : 0 ≤ mro (A 10) F v 0 ∧ mro (A 10) F v 0 ≤ 10 := b_mro3
      clear b_mrq3
      refine pw_iconst C dX10_proof_34 ?_
      refine pw_icmp_le (tgt := 42) C dX10_proof_35 (by decide) (by omega) (fun c_35 => ?_) (fun c_35 => ?_)
      · skip
        refine pw_iconst C dX10_proof_42 ?_
        exact pw_iretE C hR dX10_proof_43 rfl rfl (by unfold mpr; first | rw [if_pos (by omega)] | rw [if_neg (by omega), if_pos (by omega)] | rw [if_neg (by omega), if_neg (by omega), if_pos (by omega)] | rw [if_neg (by omega), if_neg (by omega), if_neg (by omega)]) (Nat.zero_le _) (Nat.zero_le _)
      · skip
        refine pw_iconst C dX10_proof_38 ?_
        refine pw_goto (tgt := 43) C dX10_proof_39 (by decide) ?_
        exact pw_iretE C hR dX10_proof_43 rfl rfl (by unfold mpr; first | rw [if_pos (by omega)] | rw [if_neg (by omega), if_pos (by omega)] | rw [if_neg (by omega), if_neg (by omega), if_pos (by omega)] | rw [if_neg (by omega), if_neg (by omega), if_neg (by omega)]) (Nat.zero_le _) (Nat.zero_le _)
    · skip
      refine pw_iconst C dX10_proof_23 ?_
      refine pw_goto (tgt := 43) C dX10_proof_24 (by decide) ?_
      exact pw_iretE C hR dX10_proof_43 rfl rfl (by unfold mpr; first | rw [if_pos (by omega)] | rw [if_neg (by omega), if_pos (by omega)] | rw [if_neg (by omega), if_neg (by omega), if_pos (by omega)] | rw [if_neg (by omega), if_neg (by omega), if_neg (by omega)]) (Nat.zero_le _) (Nat.zero_le _)
  · skip
    refine pw_iconst C dX10_proof_10 ?_
    exact pw_iretE C hR dX10_proof_11 rfl rfl (by unfold mpr; first | rw [if_pos (by omega)] | rw [if_neg (by omega), if_pos (by omega)] | rw [if_neg (by omega), if_neg (by omega), if_pos (by omega)] | rw [if_neg (by omega), if_neg (by omega), if_neg (by omega)]) (Nat.zero_le _) (Nat.zero_le _)

set_option maxHeartbeats 4000000 in
set_option maxRecDepth 100000 in
theorem m_strongest {X : Xv} {G M : Mm} {Q : Int} {A : An} {D : Fn} {I : Int → Int} (hM : RM G M Q A D I) (hA : AB A) {a : Int} {F : Fn} (hF : MFa G M a F) (hB : FB0 F) {z : Int} (hz : z = 0 ∨ z = 1) : CT X yX10_strongest prog_8_method_16_code 7 (some .int) 5 111 0 0 [vR Q, vR a, vI z] G M (PE G M (mst (A 10) F z)) := by
  refine CT.by (by decide +kernel) [1, 1, 1] ⟨cat_vR _, cat_vR _, cat_vI _, trivial⟩ (Nat.le_of_ble_eq_true rfl) (fun E hX C hR hIni => ?_)
  have hn := hA.n
  have hnS := hA.so.c
  refine pw_iconst C dX10_strongest_0 ?_
  refine pw_istore_n C dX10_strongest_1 (Nat.le_of_ble_eq_true rfl) rfl ?_
  refine pw_iconst C dX10_strongest_2 ?_
  refine pw_istore C dX10_strongest_3 (Nat.le_of_ble_eq_true rfl) rfl ?_
  refine pw_iconst C dX10_strongest_5 ?_
  refine pw_istore C dX10_strongest_6 (Nat.le_of_ble_eq_true rfl) rfl ?_
  suffices K_8 : ∀ (nn_8 : Nat) (b m v : Int) , (0 ≤ v ∧ v ≤ 100) → (-1 ≤ b ∧ b ≤ 99) → (0 ≤ m ∧ m ≤ 30) → (fr (mstS (A 10) F z) v 100 (b, m) = fr (mstS (A 10) F z) 0 100 (-1, 0)) → 100 - v < (nn_8 : Int) → PW E G M 0 0 8 [(0, 1, vR Q), (1, 1, vR a), (2, 1, vI z), (3, 1, vI b), (4, 1, vI m), (5, 1, vI v)] [] from pw_locs (by exact ⟨rfl, cat_vR _, rfl, cat_vR _, rfl, rfl, rfl, rfl, rfl, rfl, rfl, rfl, trivial⟩) (K_8 (100 - 0 + 1 : Int).toNat (-1) 0 0  (by omega) (by omega) (by omega) (by first | exact rfl | omega) (by omega))
  intro nn_8
  induction nn_8 with
  | zero => intro b m v h1 h2 h3 hf h_m8; exact absurd h_m8 (by omega)
  | succ nn_8 ih_8 =>
    intro b m v h1 h2 h3 hf h_m8
    refine pw_iload C dX10_strongest_8 rfl ?_
    refine pw_bipush C dX10_strongest_10 rfl ?_
    refine pw_icmp_ge (tgt := 74) C dX10_strongest_12 (by decide) (by omega) (fun c_12 => ?_) (fun c_12 => ?_)
    · skip
      refine pw_iload_n C dX10_strongest_74 rfl ?_
      exact pw_iretE C hR dX10_strongest_75 rfl rfl (by unfold mst; rw [← fr_done (by omega) hf]) (Nat.zero_le _) (Nat.zero_le _)
    · skip
      refine pw_aload_n C dX10_strongest_15 rfl ?_
      refine pw_iload C dX10_strongest_16 rfl ?_
      refine pw_cSE C hX dX10_strongest_18 ml_X10_81 mc_X10_isSaid (m_isSaid hF hB (v := v) (by omega)) rfl rfl ⟨Nat.le_of_ble_eq_true rfl, Nat.le_of_ble_eq_true rfl⟩ (Nat.le_of_ble_eq_true rfl) ⟨Nat.le_of_ble_eq_true rfl, Nat.le_of_ble_eq_true rfl⟩ ?_
      refine pw_ifB_eq (tgt := 48) C dX10_strongest_21 (by decide) (fun c_21 => ?_) (fun c_21 => ?_)
      · skip
        refine pw_iconst C dX10_strongest_48 ?_
        refine pw_istore C dX10_strongest_49 (Nat.le_of_ble_eq_true rfl) rfl ?_
        refine pw_iload C dX10_strongest_51 rfl ?_
        refine pw_iload C dX10_strongest_53 rfl ?_
        refine pw_icmp_gt (tgt := 61) C dX10_strongest_55 (by decide) (by omega) (fun c_55 => ?_) (fun c_55 => ?_)
        · skip
          refine pw_iload C dX10_strongest_61 rfl ?_
          refine pw_istore_n C dX10_strongest_63 (Nat.le_of_ble_eq_true rfl) rfl ?_
          refine pw_iload C dX10_strongest_64 rfl ?_
          refine pw_istore C dX10_strongest_66 (Nat.le_of_ble_eq_true rfl) rfl ?_
          refine pw_iinc C dX10_strongest_68 rfl (Nat.le_of_ble_eq_true rfl) rfl ?_
          refine pw_goto (tgt := 8) C dX10_strongest_71 (by decide) ?_
          exact pw_locs (by exact ⟨rfl, cat_vR _, rfl, cat_vR _, rfl, rfl, rfl, rfl, rfl, rfl, rfl, rfl, trivial⟩) (ih_8 v 0 (v + 1)  (by omega) (by omega) (by omega) (fr_go (by omega) hf (by unfold mstS; rw [if_neg (show ¬ (isd F v ∧ (z = 0 ∨ 0 < mpr (A 10) F v)) from fun q => c_21 q.1)]; exact if_pos c_55)) (by omega))
        · skip
          refine pw_goto (tgt := 68) C dX10_strongest_58 (by decide) ?_
          refine pw_iinc C dX10_strongest_68 rfl (Nat.le_of_ble_eq_true rfl) rfl ?_
          refine pw_goto (tgt := 8) C dX10_strongest_71 (by decide) ?_
          exact pw_locs (by exact ⟨rfl, cat_vR _, rfl, cat_vR _, rfl, rfl, rfl, rfl, rfl, rfl, rfl, rfl, trivial⟩) (ih_8 b m (v + 1)  (by omega) (by omega) (by omega) (fr_go (by omega) hf (by unfold mstS; rw [if_neg (show ¬ (isd F v ∧ (z = 0 ∨ 0 < mpr (A 10) F v)) from fun q => c_21 q.1)]; exact if_neg c_55)) (by omega))
      · skip
        refine pw_iload_n C dX10_strongest_24 rfl ?_
        refine pw_if_eq (tgt := 38) C dX10_strongest_25 (by decide) (by omega) (fun c_25 => ?_) (fun c_25 => ?_)
        · skip
          refine pw_aload_n C dX10_strongest_38 rfl ?_
          refine pw_aload_n C dX10_strongest_39 rfl ?_
          refine pw_iload C dX10_strongest_40 rfl ?_
          refine pw_cVE C hX dX10_strongest_42 ml_X10_89 mc_X10_force (m_force hM hA hF hB (v := v) (by omega)) kc_13 hM.k rfl rfl ⟨Nat.le_of_ble_eq_true rfl, Nat.le_of_ble_eq_true rfl⟩ (Nat.le_of_ble_eq_true rfl) ⟨Nat.le_of_ble_eq_true rfl, Nat.le_of_ble_eq_true rfl⟩ ?_
          have b_mfo4 := mfo_bd (F := F) (v := v) hA.so
          refine pw_goto (tgt := 49) C dX10_strongest_45 (by decide) ?_
          refine pw_istore C dX10_strongest_49 (Nat.le_of_ble_eq_true rfl) rfl ?_
          refine pw_iload C dX10_strongest_51 rfl ?_
          refine pw_iload C dX10_strongest_53 rfl ?_
          refine pw_icmp_gt (tgt := 61) C dX10_strongest_55 (by decide) (by omega) (fun c_55 => ?_) (fun c_55 => ?_)
          · skip
            refine pw_iload C dX10_strongest_61 rfl ?_
            refine pw_istore_n C dX10_strongest_63 (Nat.le_of_ble_eq_true rfl) rfl ?_
            refine pw_iload C dX10_strongest_64 rfl ?_
            refine pw_istore C dX10_strongest_66 (Nat.le_of_ble_eq_true rfl) rfl ?_
            refine pw_iinc C dX10_strongest_68 rfl (Nat.le_of_ble_eq_true rfl) rfl ?_
            refine pw_goto (tgt := 8) C dX10_strongest_71 (by decide) ?_
            exact pw_locs (by exact ⟨rfl, cat_vR _, rfl, cat_vR _, rfl, rfl, rfl, rfl, rfl, rfl, rfl, rfl, trivial⟩) (ih_8 v (mfo (A 10) F v) (v + 1)  (by omega) (by omega) (by omega) (fr_go (by omega) hf (by unfold mstS; rw [if_pos (show isd F v ∧ (z = 0 ∨ 0 < mpr (A 10) F v) from ⟨c_21, by omega⟩)]; exact if_pos c_55)) (by omega))
          · skip
            refine pw_goto (tgt := 68) C dX10_strongest_58 (by decide) ?_
            refine pw_iinc C dX10_strongest_68 rfl (Nat.le_of_ble_eq_true rfl) rfl ?_
            refine pw_goto (tgt := 8) C dX10_strongest_71 (by decide) ?_
            exact pw_locs (by exact ⟨rfl, cat_vR _, rfl, cat_vR _, rfl, rfl, rfl, rfl, rfl, rfl, rfl, rfl, trivial⟩) (ih_8 b m (v + 1)  (by omega) (by omega) (by omega) (fr_go (by omega) hf (by unfold mstS; rw [if_pos (show isd F v ∧ (z = 0 ∨ 0 < mpr (A 10) F v) from ⟨c_21, by omega⟩)]; exact if_neg c_55)) (by omega))
        · skip
          refine pw_aload_n C dX10_strongest_28 rfl ?_
          refine pw_aload_n C dX10_strongest_29 rfl ?_
          refine pw_iload C dX10_strongest_30 rfl ?_
          refine pw_cVE C hX dX10_strongest_32 ml_X10_85 mc_X10_proof (m_proof hM hA hF hB (v := v) (by omega)) kc_13 hM.k rfl rfl ⟨Nat.le_of_ble_eq_true rfl, Nat.le_of_ble_eq_true rfl⟩ (Nat.le_of_ble_eq_true rfl) ⟨Nat.le_of_ble_eq_true rfl, Nat.le_of_ble_eq_true rfl⟩ ?_
          have b_mpr5 : 0 ≤ mpr (A 10) F v ∧ mpr (A 10) F v ≤ 3 := by unfold mpr; omega
          refine pw_if_le (tgt := 48) C dX10_strongest_35 (by decide) (by omega) (fun c_35 => ?_) (fun c_35 => ?_)
          · skip
            refine pw_iconst C dX10_strongest_48 ?_
            refine pw_istore C dX10_strongest_49 (Nat.le_of_ble_eq_true rfl) rfl ?_
            refine pw_iload C dX10_strongest_51 rfl ?_
            refine pw_iload C dX10_strongest_53 rfl ?_
            refine pw_icmp_gt (tgt := 61) C dX10_strongest_55 (by decide) (by omega) (fun c_55 => ?_) (fun c_55 => ?_)
            · skip
              refine pw_iload C dX10_strongest_61 rfl ?_
              refine pw_istore_n C dX10_strongest_63 (Nat.le_of_ble_eq_true rfl) rfl ?_
              refine pw_iload C dX10_strongest_64 rfl ?_
              refine pw_istore C dX10_strongest_66 (Nat.le_of_ble_eq_true rfl) rfl ?_
              refine pw_iinc C dX10_strongest_68 rfl (Nat.le_of_ble_eq_true rfl) rfl ?_
              refine pw_goto (tgt := 8) C dX10_strongest_71 (by decide) ?_
              exact pw_locs (by exact ⟨rfl, cat_vR _, rfl, cat_vR _, rfl, rfl, rfl, rfl, rfl, rfl, rfl, rfl, trivial⟩) (ih_8 v 0 (v + 1)  (by omega) (by omega) (by omega) (fr_go (by omega) hf (by unfold mstS; rw [if_neg (show ¬ (isd F v ∧ (z = 0 ∨ 0 < mpr (A 10) F v)) from fun q => by have := q.2; omega)]; exact if_pos c_55)) (by omega))
            · skip
              refine pw_goto (tgt := 68) C dX10_strongest_58 (by decide) ?_
              refine pw_iinc C dX10_strongest_68 rfl (Nat.le_of_ble_eq_true rfl) rfl ?_
              refine pw_goto (tgt := 8) C dX10_strongest_71 (by decide) ?_
              exact pw_locs (by exact ⟨rfl, cat_vR _, rfl, cat_vR _, rfl, rfl, rfl, rfl, rfl, rfl, rfl, rfl, trivial⟩) (ih_8 b m (v + 1)  (by omega) (by omega) (by omega) (fr_go (by omega) hf (by unfold mstS; rw [if_neg (show ¬ (isd F v ∧ (z = 0 ∨ 0 < mpr (A 10) F v)) from fun q => by have := q.2; omega)]; exact if_neg c_55)) (by omega))
          · skip
            refine pw_aload_n C dX10_strongest_38 rfl ?_
            refine pw_aload_n C dX10_strongest_39 rfl ?_
            refine pw_iload C dX10_strongest_40 rfl ?_
            refine pw_cVE C hX dX10_strongest_42 ml_X10_89 mc_X10_force (m_force hM hA hF hB (v := v) (by omega)) kc_13 hM.k rfl rfl ⟨Nat.le_of_ble_eq_true rfl, Nat.le_of_ble_eq_true rfl⟩ (Nat.le_of_ble_eq_true rfl) ⟨Nat.le_of_ble_eq_true rfl, Nat.le_of_ble_eq_true rfl⟩ ?_
            have b_mfo6 := mfo_bd (F := F) (v := v) hA.so
            refine pw_goto (tgt := 49) C dX10_strongest_45 (by decide) ?_
            refine pw_istore C dX10_strongest_49 (Nat.le_of_ble_eq_true rfl) rfl ?_
            refine pw_iload C dX10_strongest_51 rfl ?_
            refine pw_iload C dX10_strongest_53 rfl ?_
            refine pw_icmp_gt (tgt := 61) C dX10_strongest_55 (by decide) (by omega) (fun c_55 => ?_) (fun c_55 => ?_)
            · skip
              refine pw_iload C dX10_strongest_61 rfl ?_
              refine pw_istore_n C dX10_strongest_63 (Nat.le_of_ble_eq_true rfl) rfl ?_
              refine pw_iload C dX10_strongest_64 rfl ?_
              refine pw_istore C dX10_strongest_66 (Nat.le_of_ble_eq_true rfl) rfl ?_
              refine pw_iinc C dX10_strongest_68 rfl (Nat.le_of_ble_eq_true rfl) rfl ?_
              refine pw_goto (tgt := 8) C dX10_strongest_71 (by decide) ?_
              exact pw_locs (by exact ⟨rfl, cat_vR _, rfl, cat_vR _, rfl, rfl, rfl, rfl, rfl, rfl, rfl, rfl, trivial⟩) (ih_8 v (mfo (A 10) F v) (v + 1)  (by omega) (by omega) (by omega) (fr_go (by omega) hf (by unfold mstS; rw [if_pos (show isd F v ∧ (z = 0 ∨ 0 < mpr (A 10) F v) from ⟨c_21, by omega⟩)]; exact if_pos c_55)) (by omega))
            · skip
              refine pw_goto (tgt := 68) C dX10_strongest_58 (by decide) ?_
              refine pw_iinc C dX10_strongest_68 rfl (Nat.le_of_ble_eq_true rfl) rfl ?_
              refine pw_goto (tgt := 8) C dX10_strongest_71 (by decide) ?_
              exact pw_locs (by exact ⟨rfl, cat_vR _, rfl, cat_vR _, rfl, rfl, rfl, rfl, rfl, rfl, rfl, rfl, trivial⟩) (ih_8 b m (v + 1)  (by omega) (by omega) (by omega) (fr_go (by omega) hf (by unfold mstS; rw [if_pos (show isd F v ∧ (z = 0 ∨ 0 < mpr (A 10) F v) from ⟨c_21, by omega⟩)]; exact if_neg c_55)) (by omega))

set_option maxHeartbeats 4000000 in
set_option maxRecDepth 100000 in
theorem m_truth {X : Xv} {G M : Mm} {Q : Int} {A : An} {D : Fn} {I : Int → Int} (hM : RM G M Q A D I) (hA : AB A) {a : Int} {F : Fn} (hF : MFa G M a F) (hB : FB0 F) : CT X yX10_truth prog_8_method_18_code 2 (some .int) 6 137 0 0 [vR Q, vR a] G M (PE G M (mst (A 10) F 1)) := by
  refine CT.by (by decide +kernel) [1, 1] ⟨cat_vR _, cat_vR _, trivial⟩ (Nat.le_of_ble_eq_true rfl) (fun E hX C hR hIni => ?_)
  have hn := hA.n
  have hnS := hA.so.c
  refine pw_aload_n C dX10_truth_0 rfl ?_
  refine pw_aload_n C dX10_truth_1 rfl ?_
  refine pw_iconst C dX10_truth_2 ?_
  refine pw_cVE C hX dX10_truth_3 ml_X10_92 mc_X10_strongest (m_strongest hM hA hF hB (z := 1) (by omega)) kc_13 hM.k rfl rfl ⟨Nat.le_of_ble_eq_true rfl, Nat.le_of_ble_eq_true rfl⟩ (Nat.le_of_ble_eq_true rfl) ⟨Nat.le_of_ble_eq_true rfl, Nat.le_of_ble_eq_true rfl⟩ ?_
  have b_mst7 := mst_bd (S := A 10) (F := F) (z := 1)
  exact pw_iretE C hR dX10_truth_6 rfl rfl (rfl) (Nat.zero_le _) (Nat.zero_le _)

set_option maxHeartbeats 4000000 in
set_option maxRecDepth 100000 in
theorem m_heard {X : Xv} {G M : Mm} {Q : Int} {A : An} {D : Fn} {I : Int → Int} (hM : RM G M Q A D I) (hA : AB A) {a : Int} {F : Fn} (hF : MFa G M a F) (hB : FB0 F) : CT X yX10_heard prog_8_method_19_code 3 (some .int) 7 158 0 0 [vR Q, vR a] G M (PE G M (mhd (A 10) F)) := by
  refine CT.by (by decide +kernel) [1, 1] ⟨cat_vR _, cat_vR _, trivial⟩ (Nat.le_of_ble_eq_true rfl) (fun E hX C hR hIni => ?_)
  have hn := hA.n
  have hnS := hA.so.c
  refine pw_aload_n C dX10_heard_0 rfl ?_
  refine pw_aload_n C dX10_heard_1 rfl ?_
  refine pw_cVE C hX dX10_heard_2 ml_X10_96 mc_X10_truth (m_truth hM hA hF hB) kc_13 hM.k rfl rfl ⟨Nat.le_of_ble_eq_true rfl, Nat.le_of_ble_eq_true rfl⟩ (Nat.le_of_ble_eq_true rfl) ⟨Nat.le_of_ble_eq_true rfl, Nat.le_of_ble_eq_true rfl⟩ ?_
  have b_mst8 := mst_bd (S := A 10) (F := F) (z := 1)
  refine pw_istore_n C dX10_heard_5 (Nat.le_of_ble_eq_true rfl) rfl ?_
  refine pw_iload_n C dX10_heard_6 rfl ?_
  refine pw_iconst C dX10_heard_7 ?_
  refine pw_icmp_eq (tgt := 15) C dX10_heard_8 (by decide) (by omega) (fun c_8 => ?_) (fun c_8 => ?_)
  · skip
    refine pw_aload_n C dX10_heard_15 rfl ?_
    refine pw_aload_n C dX10_heard_16 rfl ?_
    refine pw_iconst C dX10_heard_17 ?_
    refine pw_cVE C hX dX10_heard_18 ml_X10_92 mc_X10_strongest (m_strongest hM hA hF hB (z := 0) (by omega)) kc_13 hM.k rfl rfl ⟨Nat.le_of_ble_eq_true rfl, Nat.le_of_ble_eq_true rfl⟩ (Nat.le_of_ble_eq_true rfl) ⟨Nat.le_of_ble_eq_true rfl, Nat.le_of_ble_eq_true rfl⟩ ?_
    have b_mst9 := mst_bd (S := A 10) (F := F) (z := 0)
    exact pw_iretE C hR dX10_heard_21 rfl rfl (by unfold mhd; rw [if_pos c_8]) (Nat.zero_le _) (Nat.zero_le _)
  · skip
    refine pw_iload_n C dX10_heard_11 rfl ?_
    refine pw_goto (tgt := 21) C dX10_heard_12 (by decide) ?_
    exact pw_iretE C hR dX10_heard_21 rfl rfl (by unfold mhd; rw [if_neg c_8]) (Nat.zero_le _) (Nat.zero_le _)

set_option maxHeartbeats 4000000 in
set_option maxRecDepth 100000 in
theorem m_words {X : Xv} {G M : Mm} {k n : Int} (hk : 0 ≤ k ∧ k ≤ 4) (hn : 0 ≤ n ∧ n ≤ 10) : CT X yX10_words prog_8_method_29_code 2 (some .int) 0 0 0 0 [vI k, vI n] G M (PE G M (if k = 0 then 8 else if k = 3 then 20 + 15 * n else 60 + 30 * n)) := by
  refine CT.by (by decide +kernel) [1, 1] ⟨cat_vI _, cat_vI _, trivial⟩ (Nat.le_of_ble_eq_true rfl) (fun E hX C hR hIni => ?_)
  refine pw_iload_n C dX10_words_0 rfl ?_
  refine pw_if_ne (tgt := 9) C dX10_words_1 (by decide) (by omega) (fun c_1 => ?_) (fun c_1 => ?_)
  · skip
    refine pw_iload_n C dX10_words_9 rfl ?_
    refine pw_iconst C dX10_words_10 ?_
    refine pw_icmp_ne (tgt := 24) C dX10_words_11 (by decide) (by omega) (fun c_11 => ?_) (fun c_11 => ?_)
    · skip
      refine pw_bipush C dX10_words_24 rfl ?_
      refine pw_bipush C dX10_words_26 rfl ?_
      refine pw_iload_n C dX10_words_28 rfl ?_
      refine pw_imul C dX10_words_29 ?_
      refine pw_iadd C dX10_words_30 ?_
      exact pw_iretE C hR dX10_words_31 rfl rfl (by rw [if_neg (by omega), if_neg (by omega)]) (Nat.zero_le _) (Nat.zero_le _)
    · skip
      refine pw_bipush C dX10_words_14 rfl ?_
      refine pw_bipush C dX10_words_16 rfl ?_
      refine pw_iload_n C dX10_words_18 rfl ?_
      refine pw_imul C dX10_words_19 ?_
      refine pw_iadd C dX10_words_20 ?_
      refine pw_goto (tgt := 31) C dX10_words_21 (by decide) ?_
      exact pw_iretE C hR dX10_words_31 rfl rfl (by rw [if_neg (by omega), if_pos (by omega)]) (Nat.zero_le _) (Nat.zero_le _)
  · skip
    refine pw_bipush C dX10_words_4 rfl ?_
    refine pw_goto (tgt := 31) C dX10_words_6 (by decide) ?_
    exact pw_iretE C hR dX10_words_31 rfl rfl (by rw [if_pos (by omega)]) (Nat.zero_le _) (Nat.zero_le _)

