/-! ===== lists that grow; iterators ===== -/
theorem vwrap (x : Int) : True := trivial
/-- what growing leaves -/
def GRW (mb : Int) (G M : Mm) (q n e r : Int) (G1 M1 : Mm) : Prop := r = G 4 0 0 ∧ ALm mb G1 M1 q n r ∧ n < G1 1 r 0 ∧ G1 0 r 0 = 107 ∧ (∀ j, 0 ≤ j → j < n → G1 3 r j = G 3 e j) ∧ G1 4 0 0 = G 4 0 0 + 1 ∧ ∀ b, b < G 4 0 0 → b ≠ q → agr G M G1 M1 b
theorem GRW.mk' {mb : Int} {G M G1 M1 : Mm} {q n e m r : Int} (hL : ALm mb G M q n e) (h : CPd G M e m r G1 M1) (hm : n < m ∧ m ≤ 100) (hc : cpL G e = n) : GRW mb G M q n e r (mup G1 2 21 q r) M1 := by
  obtain ⟨rfl, h2, h3, h4, h5, h6⟩ := h
  have hq := h6.1 q hL.1.2
  have hb := hL.b
  obtain ⟨b1, b2, b3, b4, b5, b6, b7, b8⟩ := hL
  refine ⟨rfl, ⟨?_, ?_, ?_, ?_, ?_, ?_, ?_, Or.inl ⟨?_, ?_, ?_⟩⟩, ?_, ?_, fun j q1 q2 => ?_, ?_, fun b q1 q2 => ?_⟩
  · rw [mup_n (by omega)]; omega
  · rw [mup_n (by omega)]; omega
  · rw [mup_n (by omega)]; exact hq.1.trans b3
  · rw [mup_s]
  · rw [hq.2.2.2.2.1]; exact b5
  · rw [hq.2.2.2.2.1]; exact b6
  · exact b7
  · rw [mup_n (by omega)]; exact h3
  · rw [mup_n (by omega)]; omega
  · rw [mup_n (by omega)]; omega
  · rw [mup_n (by omega)]; omega
  · rw [mup_n (by omega)]; exact h3
  · rw [mup_n (by omega)]; exact h5 j q1 (by omega)
  · rw [mup_n (by omega)]; exact h2
  · exact (h6.1 b q1).tr (agr_G2 b q2)
theorem CPd.z {G M : Mm} {e m : Int} (hc : cpL G e = 0) : CPd G M e m (G 4 0 0) (nG G 107 m) (nM G M) :=
  ⟨rfl, nG_next, nG_kind, nG_len, fun j q1 q2 => by omega, Kp.rf.new⟩
def ADD (G M : Mm) (q n e v : Int) (G1 M1 : Mm) : Prop := ∃ e1, AL G1 M1 q (n + 1) e1 ∧ (∀ j, 0 ≤ j → j < n → G1 3 e1 j = G 3 e j) ∧ G1 3 e1 n = v ∧ (e1 = e ∧ G 0 e 0 = 107 ∧ G1 4 0 0 = G 4 0 0 ∨ e1 = G 4 0 0 ∧ G1 4 0 0 = G 4 0 0 + 1) ∧ ∀ b, b < G 4 0 0 → b ≠ q → b ≠ e1 → agr G M G1 M1 b
theorem ADD.mk' {mb : Int} {G M : Mm} {q n e v : Int} (hL : ALm mb G M q n e) (hmb : mb ≤ n + 1) (hn : n ≤ 60) (hk : G 0 e 0 = 107) (hc : n < G 1 e 0) : AL (mup G 3 e n v) (mup M 0 22 q (n + 1)) q (n + 1) e ∧ (∀ j, 0 ≤ j → j < n → mup G 3 e n v 3 e j = G 3 e j) ∧ mup G 3 e n v 3 e n = v ∧ mup G 3 e n v 4 0 0 = G 4 0 0 ∧ ∀ b, b ≠ q → b ≠ e → agr G M (mup G 3 e n v) (mup M 0 22 q (n + 1)) b := by
  obtain ⟨b1, b2, b3, b4, b5, b6, b7, b8⟩ := hL
  refine ⟨⟨?_, ?_, ?_, ?_, ?_, ?_, by omega, Or.inl ⟨?_, ?_, ?_⟩⟩, fun j q1 q2 => ?_, ?_, ?_, fun b q1 q2 => ?_⟩
  · rw [mup_n (by omega)]; exact b1
  · rw [mup_n (by omega)]; exact b2
  · rw [mup_n (by omega)]; exact b3
  · rw [mup_n (by omega)]; exact b4
  · rw [mup_s]
  · rw [mup_n (by omega)]; omega
  · rw [mup_n (by omega)]; exact hk
  · rw [mup_n (by omega)]; omega
  · rw [mup_n (by omega)]; omega
  · rw [mup_n (by omega)]
  · rw [mup_s]
  · rw [mup_n (by omega)]
  · exact (agr_G3 b q2).tr (agr_M0 b q1)
theorem ALm.md {mb mb' : Int} {G M : Mm} {q n e x : Int} (h : ALm mb G M q n e) (hx : 0 ≤ x ∧ x ≤ mb') (hb : mb' ≤ 101) : ALm mb' G (mup M 0 20 q x) q n e := by
  obtain ⟨b1, b2, b3, b4, b5, b6, b7, b8⟩ := h
  exact ⟨b1, b2, b3, b4, (mup_n (by omega)).trans b5, by rw [mup_s]; exact hx, by omega, b8⟩
/-- an iterator: over q, at c -/
def IT (G M : Mm) (it q c : Int) : Prop := (0 ≤ it ∧ it < G 4 0 0) ∧ G 0 it 0 = 1 ∧ G 2 3 it = q ∧ M 0 0 it = c ∧ M 0 2 it = M 0 20 q
def nxM (M : Mm) (it c : Int) : Mm := mup (mup M 0 0 it (c + 1)) 0 1 it c
theorem IT.k {G M : Mm} {it q c : Int} (h : IT G M it q c) : G 0 it 0 = 1 := h.2.1
theorem IT.nx {G M : Mm} {it q c : Int} (h : IT G M it q c) (hq : it ≠ q) : IT G (nxM M it c) it q (c + 1) := by
  obtain ⟨a1, a2, a3, a4, a5⟩ := h
  refine ⟨a1, a2, a3, ?_, ?_⟩
  · unfold nxM; rw [mup_n (by omega), mup_s]
  · unfold nxM; rw [mup_n (by omega), mup_n (by omega), mup_n (by omega), mup_n (by omega)]; exact a5
theorem nx_agr {G M : Mm} {it c : Int} : ∀ b, b ≠ it → agr G M G (nxM M it c) b := fun b hb => (agr_M0 b hb).tr (agr_M0 b hb)
theorem IT.o {G M G1 M1 : Mm} {it q c : Int} (h : IT G M it q c) (h1 : agr G M G1 M1 it) (h2 : M1 0 20 q = M 0 20 q) (h4 : G 4 0 0 ≤ G1 4 0 0) : IT G1 M1 it q c := by
  obtain ⟨a1, a2, a3, a4, a5⟩ := h
  exact ⟨by omega, h1.1.trans a2, (h1.2.2.1 _).trans a3, (h1.2.2.2.2.1 _).trans a4, by rw [h1.2.2.2.2.1, h2]; exact a5⟩
theorem OkO.kp2 {G M G1 M1 : Mm} {v q : Int} (h : OkO G v) (ho : ∀ b, b < G 4 0 0 → b ≠ q → agr G M G1 M1 b) (h4 : G1 4 0 0 = G 4 0 0 + 1) (hv : v ≠ q) : OkO G1 v := by
  have a := ho _ h.1 hv
  exact ⟨by have := h.1; omega, by rw [a.1]; exact h.2⟩
set_option maxHeartbeats 4000000 in
set_option maxRecDepth 100000 in
theorem c_grow1 {X : Xv} {G M : Mm} {q n e mb : Int} (hL : ALm mb G M q n e) (hcp : cpL G e = n) (hn6 : n ≤ 60) (hfit : ∀ j, 0 ≤ j → j < n → OkO G (G 3 e j)) : CT X yJx4a65c_grow_92f84 prog_28_method_6_code 4 (some (FieldType.array (FieldType.object "java/lang/Object"))) 3 89 1 100 [vR q, vI (n + 1)] G M (PQ (fun r G1 M1 => GRW mb G M q n e r G1 M1)) := by
  refine CT.by (by decide +kernel) [1, 1] ⟨cat_vR _, cat_vI _, trivial⟩ (Nat.le_of_ble_eq_true rfl) (fun E hX C hR hIni => ?_)
  have hb := hL.b
  obtain ⟨c0, hc0⟩ : ∃ c, emX X 0 = c := ⟨_, rfl⟩
  have hcn : 0 ≤ c0 := by rw [← hc0]; exact emX_nn
  have hen := hL.2.1
  refine pw_aload_n C dJx4a65c_grow_92f84_0 rfl ?_
  refine pw_getR C dJx4a65c_grow_92f84_1 fl_Jx4a65c_9 hL.k rfl hL.ed ?_
  refine pw_alenL C dJx4a65c_grow_92f84_4 hL.kk ?_
  refine pw_istore_n C dJx4a65c_grow_92f84_5 (Nat.le_of_ble_eq_true rfl) rfl ?_
  refine pw_iload_n C dJx4a65c_grow_92f84_6 rfl ?_
  refine pw_if_gt (tgt := 20) C dJx4a65c_grow_92f84_7 (by decide) (by omega) (fun c_7 => ?_) (fun c_7 => ?_)
  · skip
    refine pw_iload_n C dJx4a65c_grow_92f84_20 rfl ?_
    refine pw_iload_n C dJx4a65c_grow_92f84_21 rfl ?_
    refine pw_iload_n C dJx4a65c_grow_92f84_22 rfl ?_
    refine pw_isub C dJx4a65c_grow_92f84_23 ?_
    refine pw_iload_n C dJx4a65c_grow_92f84_24 rfl ?_
    refine pw_iconst C dJx4a65c_grow_92f84_25 ?_
    refine pw_ishr C dJx4a65c_grow_92f84_26 ?_
    refine pw_top (v' := vI ((cpL G e) / 2)) (congrArg Value.int (shr1_eq (by omega))) ?_
    refine pw_cSE C hX dJx4a65c_grow_92f84_27 ml_Jx4a65c_73 mc_J8_newLength_cabcc (c_newLen (a := (cpL G e)) (b := ((n + 1) - (cpL G e))) (c := ((cpL G e) / 2)) (by omega) (by omega) (by omega)) rfl rfl ⟨Nat.le_of_ble_eq_true rfl, Nat.le_of_ble_eq_true rfl⟩ (Nat.le_of_ble_eq_true rfl) ⟨Nat.le_of_ble_eq_true rfl, Nat.le_of_ble_eq_true rfl⟩ ?_
    refine pw_istore_n C dJx4a65c_grow_92f84_30 (Nat.le_of_ble_eq_true rfl) rfl ?_
    refine pw_aload_n C dJx4a65c_grow_92f84_31 rfl ?_
    refine pw_aload_n C dJx4a65c_grow_92f84_32 rfl ?_
    refine pw_getR C dJx4a65c_grow_92f84_33 fl_Jx4a65c_9 hL.k rfl hL.ed ?_
    refine pw_iload_n C dJx4a65c_grow_92f84_36 rfl ?_
    refine pw_cSQ C hX dJx4a65c_grow_92f84_37 ml_Jx4a65c_66 mc_J7_copyOf_1904c (c_copyOf2 (e := e) (m := ((cpL G e) + max ((n + 1) - (cpL G e)) ((cpL G e) / 2))) (ks := (((cpL G e) + max ((n + 1) - (cpL G e)) ((cpL G e) / 2))).toNat) hL.2.1 hL.kk (by omega) (by omega) (fun j q1 q2 => hfit j q1 (by omega))) rfl rfl ⟨Nat.le_of_ble_eq_true rfl, Nat.le_of_ble_eq_true rfl⟩ (Nat.le_of_ble_eq_true rfl) (by show 0 + 1 ≤ 1 ∧ 0 + (((cpL G e) + max ((n + 1) - (cpL G e)) ((cpL G e) / 2))).toNat ≤ 100; omega) (fun r_ G1 M1 hq_ => ?_)
    have hw_ := GRW.mk' hL hq_ (by omega) hcp
    refine pw_dup_x1 C dJx4a65c_grow_92f84_40 (cat_vR _) (cat_vR _) ?_
    refine pw_putR C dJx4a65c_grow_92f84_41 fl_Jx4a65c_9 (fun h => by cases h) (Or.inr ⟨_, rfl⟩) ?_ rfl ?_
    · have q_ := hw_.2.1.k; rw [mup_n (by omega)] at q_; exact q_
    exact pw_aret C hR dJx4a65c_grow_92f84_44 (Or.inr ⟨_, rfl⟩) (⟨_, rfl, hw_⟩) (Nat.le_refl _) (by show 0 + _ ≤ 100; omega)
  · skip
    refine pw_aload_n C dJx4a65c_grow_92f84_10 rfl ?_
    refine pw_getR C dJx4a65c_grow_92f84_11 fl_Jx4a65c_9 hL.k rfl hL.ed ?_
    refine pw_gets C hX dJx4a65c_grow_92f84_14 (List.mem_of_getElem? (i := 891) (by decide +kernel)) (Or.inl ⟨rfl, rfl⟩) hc0 ?_
    refine pw_acmp_eq (tgt := 45) C dJx4a65c_grow_92f84_17 (by decide) (by omega) (fun c_17 => ?_) (fun c_17 => ?_)
    · skip
      refine pw_aload_n C dJx4a65c_grow_92f84_45 rfl ?_
      refine pw_bipush C dJx4a65c_grow_92f84_46 rfl ?_
      refine pw_iload_n C dJx4a65c_grow_92f84_48 rfl ?_
      refine pw_max C dJx4a65c_grow_92f84_49 (List.mem_of_getElem? (i := 1041) (by decide +kernel)) (by omega) (by omega) ⟨Nat.le_of_ble_eq_true rfl, Nat.le_of_ble_eq_true rfl⟩ (by show 0 ≤ 1 ∧ 0 ≤ 100; omega) ?_
      refine pw_newq (t := 7) (Cn := "java/lang/Object") (ks := ((max 10 (n + 1))).toNat) C dJx4a65c_grow_92f84_52 (List.mem_of_getElem? (i := 1042) (by decide +kernel)) (by decide) (by omega) (fun _ => rfl) (by omega) (by omega) (Nat.le_refl _) (show 0 + ((max 10 (n + 1))).toNat ≤ 100 by omega) ?_
      show PW E (nG G 107 (max 10 (n + 1))) (nM G M) _ _ _ _ _
      have hw_ := GRW.mk' hL (CPd.z (G := G) (M := M) (e := e) (m := (max 10 (n + 1))) (by omega)) (by omega) hcp
      refine pw_dup_x1 C dJx4a65c_grow_92f84_55 (cat_vR _) (cat_vR _) ?_
      refine pw_putR C dJx4a65c_grow_92f84_56 fl_Jx4a65c_9 (fun h => by cases h) (Or.inr ⟨_, rfl⟩) ?_ rfl ?_
      · have q_ := hw_.2.1.k; rw [mup_n (by omega)] at q_; exact q_
      exact pw_aret C hR dJx4a65c_grow_92f84_59 (Or.inr ⟨_, rfl⟩) (⟨_, rfl, hw_⟩) (Nat.le_refl _) (by show 0 + _ ≤ 100; omega)
    · skip
      refine pw_iload_n C dJx4a65c_grow_92f84_20 rfl ?_
      refine pw_iload_n C dJx4a65c_grow_92f84_21 rfl ?_
      refine pw_iload_n C dJx4a65c_grow_92f84_22 rfl ?_
      refine pw_isub C dJx4a65c_grow_92f84_23 ?_
      refine pw_iload_n C dJx4a65c_grow_92f84_24 rfl ?_
      refine pw_iconst C dJx4a65c_grow_92f84_25 ?_
      refine pw_ishr C dJx4a65c_grow_92f84_26 ?_
      refine pw_top (v' := vI ((cpL G e) / 2)) (congrArg Value.int (shr1_eq (by omega))) ?_
      refine pw_cSE C hX dJx4a65c_grow_92f84_27 ml_Jx4a65c_73 mc_J8_newLength_cabcc (c_newLen (a := (cpL G e)) (b := ((n + 1) - (cpL G e))) (c := ((cpL G e) / 2)) (by omega) (by omega) (by omega)) rfl rfl ⟨Nat.le_of_ble_eq_true rfl, Nat.le_of_ble_eq_true rfl⟩ (Nat.le_of_ble_eq_true rfl) ⟨Nat.le_of_ble_eq_true rfl, Nat.le_of_ble_eq_true rfl⟩ ?_
      refine pw_istore_n C dJx4a65c_grow_92f84_30 (Nat.le_of_ble_eq_true rfl) rfl ?_
      refine pw_aload_n C dJx4a65c_grow_92f84_31 rfl ?_
      refine pw_aload_n C dJx4a65c_grow_92f84_32 rfl ?_
      refine pw_getR C dJx4a65c_grow_92f84_33 fl_Jx4a65c_9 hL.k rfl hL.ed ?_
      refine pw_iload_n C dJx4a65c_grow_92f84_36 rfl ?_
      refine pw_cSQ C hX dJx4a65c_grow_92f84_37 ml_Jx4a65c_66 mc_J7_copyOf_1904c (c_copyOf2 (e := e) (m := ((cpL G e) + max ((n + 1) - (cpL G e)) ((cpL G e) / 2))) (ks := (((cpL G e) + max ((n + 1) - (cpL G e)) ((cpL G e) / 2))).toNat) hL.2.1 hL.kk (by omega) (by omega) (fun j q1 q2 => hfit j q1 (by omega))) rfl rfl ⟨Nat.le_of_ble_eq_true rfl, Nat.le_of_ble_eq_true rfl⟩ (Nat.le_of_ble_eq_true rfl) (by show 0 + 1 ≤ 1 ∧ 0 + (((cpL G e) + max ((n + 1) - (cpL G e)) ((cpL G e) / 2))).toNat ≤ 100; omega) (fun r_ G1 M1 hq_ => ?_)
      have hw_ := GRW.mk' hL hq_ (by omega) hcp
      refine pw_dup_x1 C dJx4a65c_grow_92f84_40 (cat_vR _) (cat_vR _) ?_
      refine pw_putR C dJx4a65c_grow_92f84_41 fl_Jx4a65c_9 (fun h => by cases h) (Or.inr ⟨_, rfl⟩) ?_ rfl ?_
      · have q_ := hw_.2.1.k; rw [mup_n (by omega)] at q_; exact q_
      exact pw_aret C hR dJx4a65c_grow_92f84_44 (Or.inr ⟨_, rfl⟩) (⟨_, rfl, hw_⟩) (Nat.le_refl _) (by show 0 + _ ≤ 100; omega)

set_option maxHeartbeats 4000000 in
set_option maxRecDepth 100000 in
theorem c_grow0 {X : Xv} {G M : Mm} {q n e mb : Int} (hL : ALm mb G M q n e) (hcp : cpL G e = n) (hn6 : n ≤ 60) (hfit : ∀ j, 0 ≤ j → j < n → OkO G (G 3 e j)) : CT X yJx4a65c_grow_d5877 prog_28_method_7_code 1 (some (FieldType.array (FieldType.object "java/lang/Object"))) 4 112 1 100 [vR q] G M (PQ (fun r G1 M1 => GRW mb G M q n e r G1 M1)) := by
  refine CT.by (by decide +kernel) [1] ⟨cat_vR _, trivial⟩ (Nat.le_of_ble_eq_true rfl) (fun E hX C hR hIni => ?_)
  have hb := hL.b
  refine pw_aload_n C dJx4a65c_grow_d5877_0 rfl ?_
  refine pw_aload_n C dJx4a65c_grow_d5877_1 rfl ?_
  refine pw_getE C dJx4a65c_grow_d5877_2 fl_Jx4a65c_48 rfl hL.k hL.sz ?_
  refine pw_iconst C dJx4a65c_grow_d5877_5 ?_
  refine pw_iadd C dJx4a65c_grow_d5877_6 ?_
  refine pw_cVQ C hX dJx4a65c_grow_d5877_7 ml_Jx4a65c_69 mc_Jx4a65c_grow_92f84 (c_grow1 hL hcp hn6 hfit) kc_2 hL.k rfl rfl ⟨Nat.le_of_ble_eq_true rfl, Nat.le_of_ble_eq_true rfl⟩ (Nat.le_of_ble_eq_true rfl) ⟨Nat.le_of_ble_eq_true rfl, Nat.le_of_ble_eq_true rfl⟩ (fun r_ G1 M1 hq_ => ?_)
  exact pw_aret C hR dJx4a65c_grow_d5877_10 (Or.inr ⟨_, rfl⟩) (⟨_, rfl, hq_⟩) (Nat.le_of_ble_eq_true rfl) (Nat.le_of_ble_eq_true rfl)

set_option maxHeartbeats 4000000 in
set_option maxRecDepth 100000 in
theorem c_add3 {X : Xv} {G M : Mm} {q n e mb : Int} (hL : ALm mb G M q n e) (hmb : mb ≤ n + 1) (hn6 : n ≤ 60) (hfit : ∀ j, 0 ≤ j → j < n → OkO G (G 3 e j)) {v : Int} (hv : OkO G v) (hvq : v ≠ q) : CT X yJx4a65c_add_72be8 prog_28_method_24_code 4 (none) 5 132 1 100 [vR q, vR v, vR e, vI n] G M (PU (fun G1 M1 => ADD G M q n e v G1 M1)) := by
  refine CT.by (by decide +kernel) [1, 1, 1, 1] ⟨cat_vR _, cat_vR _, cat_vR _, cat_vI _, trivial⟩ (Nat.le_of_ble_eq_true rfl) (fun E hX C hR hIni => ?_)
  have hb := hL.b
  have hcp := hL.cap
  refine pw_iload_n C dJx4a65c_add_72be8_0 rfl ?_
  refine pw_aload_n C dJx4a65c_add_72be8_1 rfl ?_
  refine pw_alenL C dJx4a65c_add_72be8_2 hL.kk ?_
  refine pw_icmp_ne (tgt := 11) C dJx4a65c_add_72be8_3 (by decide) (by omega) (fun c_3 => ?_) (fun c_3 => ?_)
  · skip
    refine pw_aload_n C dJx4a65c_add_72be8_11 rfl ?_
    refine pw_iload_n C dJx4a65c_add_72be8_12 rfl ?_
    refine pw_aload_n C dJx4a65c_add_72be8_13 rfl ?_
    have hk1 : G 0 e 0 = 107 ∧ n < G 1 e 0 := by have := hL.cap; have hz := hL.2.2.2.2.2.2.2; unfold cpL at c_3 this; split at c_3 <;> omega
    refine pw_aastO C dJx4a65c_add_72be8_14 hk1.1 (by omega) hv ?_
    have hw_ := ADD.mk' (v := v) hL hmb hn6 hk1.1 hk1.2
    refine pw_aload_n C dJx4a65c_add_72be8_15 rfl ?_
    refine pw_iload_n C dJx4a65c_add_72be8_16 rfl ?_
    refine pw_iconst C dJx4a65c_add_72be8_17 ?_
    refine pw_iadd C dJx4a65c_add_72be8_18 ?_
    refine pw_putI C dJx4a65c_add_72be8_19 fl_Jx4a65c_48 (fun h => by cases h) ((mup_n (by omega)).trans hL.k) rfl ?_
    exact pw_vret C hR dJx4a65c_add_72be8_22 (⟨rfl, _, hw_.1, hw_.2.1, hw_.2.2.1, Or.inl ⟨rfl, hk1.1, hw_.2.2.2.1⟩, fun b q1 q2 q3 => hw_.2.2.2.2 b q2 q3⟩) (Nat.le_of_ble_eq_true rfl) (Nat.le_of_ble_eq_true rfl)
  · skip
    refine pw_aload_n C dJx4a65c_add_72be8_6 rfl ?_
    refine pw_cVQ C hX dJx4a65c_add_72be8_7 ml_Jx4a65c_129 mc_Jx4a65c_grow_d5877 (c_grow0 hL (by omega) hn6 hfit) kc_2 hL.k rfl rfl ⟨Nat.le_of_ble_eq_true rfl, Nat.le_of_ble_eq_true rfl⟩ (Nat.le_of_ble_eq_true rfl) ⟨Nat.le_of_ble_eq_true rfl, Nat.le_of_ble_eq_true rfl⟩ (fun r_ G1 M1 hq_ => ?_)
    refine pw_astore_n C dJx4a65c_add_72be8_10 (Nat.le_of_ble_eq_true rfl) rfl ?_
    refine pw_aload_n C dJx4a65c_add_72be8_11 rfl ?_
    refine pw_iload_n C dJx4a65c_add_72be8_12 rfl ?_
    refine pw_aload_n C dJx4a65c_add_72be8_13 rfl ?_
    obtain ⟨rfl, hL1, hlt1, hk1, hv1, ht1, ho1⟩ := hq_
    refine pw_aastO C dJx4a65c_add_72be8_14 hk1 (by omega) (hv.kp2 ho1 ht1 hvq) ?_
    have hw_ := ADD.mk' (v := v) hL1 hmb hn6 hk1 hlt1
    refine pw_aload_n C dJx4a65c_add_72be8_15 rfl ?_
    refine pw_iload_n C dJx4a65c_add_72be8_16 rfl ?_
    refine pw_iconst C dJx4a65c_add_72be8_17 ?_
    refine pw_iadd C dJx4a65c_add_72be8_18 ?_
    refine pw_putI C dJx4a65c_add_72be8_19 fl_Jx4a65c_48 (fun h => by cases h) ((mup_n (by omega)).trans hL1.k) rfl ?_
    exact pw_vret C hR dJx4a65c_add_72be8_22 (⟨rfl, _, hw_.1, fun j q1 q2 => (hw_.2.1 j q1 q2).trans (hv1 j q1 q2), hw_.2.2.1, Or.inr ⟨rfl, hw_.2.2.2.1.trans ht1⟩, fun b q1 q2 q3 => (ho1 b q1 q2).tr (hw_.2.2.2.2 b q2 q3)⟩) (Nat.le_of_ble_eq_true rfl) (Nat.le_of_ble_eq_true rfl)

set_option maxHeartbeats 4000000 in
set_option maxRecDepth 100000 in
theorem c_add {X : Xv} {G M : Mm} {q n e : Int} (hL : AL G M q n e) (hn6 : n ≤ 60) (hfit : ∀ j, 0 ≤ j → j < n → OkO G (G 3 e j)) {v : Int} (hv : OkO G v) (hvq : v ≠ q) : CT X yJx4a65c_add_9ea2d prog_28_method_25_code 2 (some .boolean) 6 155 1 100 [vR q, vR v] G M (PI (fun r G1 M1 => r = 1 ∧ ADD G M q n e v G1 M1)) := by
  refine CT.by (by decide +kernel) [1, 1] ⟨cat_vR _, cat_vR _, trivial⟩ (Nat.le_of_ble_eq_true rfl) (fun E hX C hR hIni => ?_)
  have hb := hL.b
  refine pw_aload_n C dJx4a65c_add_9ea2d_0 rfl ?_
  refine pw_dup C dJx4a65c_add_9ea2d_1 (cat_vR _) ?_
  refine pw_getE C dJx4a65c_add_9ea2d_2 fl_Jx4a65c_63 rfl hL.k rfl ?_
  have b_m2 := hL.m
  refine pw_iconst C dJx4a65c_add_9ea2d_5 ?_
  refine pw_iadd C dJx4a65c_add_9ea2d_6 ?_
  refine pw_putI C dJx4a65c_add_9ea2d_7 fl_Jx4a65c_63 (fun h => by cases h) hL.k rfl ?_
  have hL0 : ALm (n + 1) G (mup M 0 20 q ((M 0 20 q) + 1)) q n e := hL.md (by have := hL.m; omega) (by omega)
  generalize hM0 : mup M 0 20 q ((M 0 20 q) + 1) = M0 at hL0 ⊢
  refine pw_aload_n C dJx4a65c_add_9ea2d_10 rfl ?_
  refine pw_aload_n C dJx4a65c_add_9ea2d_11 rfl ?_
  refine pw_aload_n C dJx4a65c_add_9ea2d_12 rfl ?_
  refine pw_getR C dJx4a65c_add_9ea2d_13 fl_Jx4a65c_9 hL0.k rfl hL0.ed ?_
  refine pw_aload_n C dJx4a65c_add_9ea2d_16 rfl ?_
  refine pw_getE C dJx4a65c_add_9ea2d_17 fl_Jx4a65c_48 rfl hL0.k hL0.sz ?_
  refine pw_cVU C hX dJx4a65c_add_9ea2d_20 ml_Jx4a65c_131 mc_Jx4a65c_add_72be8 (c_add3 hL0 (by omega) hn6 hfit hv hvq) kc_2 hL0.k rfl rfl ⟨Nat.le_of_ble_eq_true rfl, Nat.le_of_ble_eq_true rfl⟩ (Nat.le_of_ble_eq_true rfl) ⟨Nat.le_of_ble_eq_true rfl, Nat.le_of_ble_eq_true rfl⟩ (fun G1 M1 hq_ => ?_)
  refine pw_iconst C dJx4a65c_add_9ea2d_23 ?_
  exact pw_zret C hR dJx4a65c_add_9ea2d_24 (by omega) ((by obtain ⟨e1, a1, a2, a3, a4, a5⟩ := hq_; subst hM0; exact ⟨_, rfl, rfl, e1, a1, a2, a3, a4, fun b q1 q2 q3 => (agr_M0 b q2).tr (a5 b q1 q2 q3)⟩)) (Nat.le_of_ble_eq_true rfl) (Nat.le_of_ble_eq_true rfl)

