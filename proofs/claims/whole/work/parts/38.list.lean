/-! ===== java.util.ArrayList ===== -/
theorem fl_Jxc12de_7 : FL RJxc12de 7 2 20 (some false) .int := ⟨1, 0, _, _, _, "java/util/AbstractList", by decide, by decide, rfl, by decide, Or.inl (List.mem_of_getElem? (i := 897) (by decide +kernel)), Or.inl rfl, (fun b h => by cases h; rfl), by decide +kernel, (fun h => by cases h)⟩
/-- the empty arrays stand -/
def EM (X : Xv) (G : Mm) : Prop := (G 0 (emX X 0) 0 = 98 ∧ emX X 0 < G 4 0 0) ∧ G 0 (emX X 1) 0 = 99 ∧ emX X 1 < G 4 0 0
theorem EM.kp {X : Xv} {G M G1 M1 : Mm} (h : EM X G) (hk : Kp G M G1 M1) : EM X G1 := by
  have a := hk.1 _ h.1.2
  have b := hk.1 _ h.2.2
  have c := hk.2
  exact ⟨⟨a.1.trans h.1.1, by have := h.1.2; omega⟩, b.1.trans h.2.1, by have := h.2.2; omega⟩
theorem OkO.kp {G M G1 M1 : Mm} {v : Int} (h : OkO G v) (hk : Kp G M G1 M1) : OkO G1 v := by
  have a := hk.1 _ h.1
  have c := hk.2
  exact ⟨by have := h.1; omega, by rw [a.1]; exact h.2⟩
/-- a list at q, of n elements, its array e -/
def ALm (mb : Int) (G M : Mm) (q n e : Int) : Prop := (0 ≤ q ∧ q < G 4 0 0) ∧ (0 ≤ e ∧ e < G 4 0 0) ∧ G 0 q 0 = 2 ∧ G 2 21 q = e ∧ M 0 22 q = n ∧ (0 ≤ M 0 20 q ∧ M 0 20 q ≤ mb) ∧ (0 ≤ n ∧ n ≤ 100 ∧ mb ≤ 101) ∧ (G 0 e 0 = 107 ∧ n ≤ G 1 e 0 ∧ G 1 e 0 ≤ 100 ∨ n = 0 ∧ (G 0 e 0 = 98 ∨ G 0 e 0 = 99))
abbrev AL (G M : Mm) (q n e : Int) : Prop := ALm n G M q n e
/-- an array's room, as it is asked -/
def cpL (G : Mm) (e : Int) : Int := if G 0 e 0 = 107 then G 1 e 0 else 0
section ALs
variable {G M G1 M1 : Mm} {q n e mb : Int}
theorem ALm.k (h : ALm mb G M q n e) : G 0 q 0 = 2 := h.2.2.1
theorem ALm.ed (h : ALm mb G M q n e) : G 2 21 q = e := h.2.2.2.1
theorem ALm.sz (h : ALm mb G M q n e) : M 0 22 q = n := h.2.2.2.2.1
theorem ALm.m (h : ALm mb G M q n e) : 0 ≤ M 0 20 q ∧ M 0 20 q ≤ mb := h.2.2.2.2.2.1
theorem ALm.b (h : ALm mb G M q n e) : 0 ≤ n ∧ n ≤ 100 ∧ mb ≤ 101 := h.2.2.2.2.2.2.1
theorem ALm.ar (h : ALm mb G M q n e) (hn : 0 < n) : AR G 7 e (G 1 e 0) ∧ n ≤ G 1 e 0 := by
  rcases h.2.2.2.2.2.2.2 with ⟨a, b, c⟩ | ⟨a, b⟩
  · exact ⟨⟨a, rfl⟩, b⟩
  · omega
theorem ALm.kk (h : ALm mb G M q n e) : G 0 e 0 = 107 ∧ 0 ≤ G 1 e 0 ∧ G 1 e 0 ≤ 1000 ∨ (G 0 e 0 = 98 ∨ G 0 e 0 = 99) := by
  have := h.b
  rcases h.2.2.2.2.2.2.2 with ⟨a, b, c⟩ | ⟨a, b⟩
  · exact Or.inl ⟨a, by omega, by omega⟩
  · exact Or.inr b
theorem ALm.cap (h : ALm mb G M q n e) : n ≤ cpL G e ∧ cpL G e ≤ 100 := by
  have := h.b
  unfold cpL
  rcases h.2.2.2.2.2.2.2 with ⟨a, b, c⟩ | ⟨a, b⟩
  · rw [if_pos a]; omega
  · rw [if_neg (by omega)]; omega
theorem ALm.o (h : ALm mb G M q n e) (hq : agr G M G1 M1 q) (he : agr G M G1 M1 e) (h4 : G 4 0 0 ≤ G1 4 0 0) : ALm mb G1 M1 q n e := by
  obtain ⟨a1, a2, a3, a4, a5, a6, a7, a8⟩ := h
  refine ⟨by omega, by omega, hq.1.trans a3, (hq.2.2.1 _).trans a4, (hq.2.2.2.2.1 _).trans a5, by rw [hq.2.2.2.2.1]; exact a6, a7, ?_⟩
  rw [he.1, he.2.1]; exact a8
theorem ALm.kp (h : ALm mb G M q n e) (hk : Kp G M G1 M1) : ALm mb G1 M1 q n e := h.o (hk.1 _ h.1.2) (hk.1 _ h.2.1.2) hk.2
end ALs
section JRows3
variable {E : Ev} {cc : ByteArray} {nL : Nat} {own : String} {tb : List ExceptionTableEntry} {R0 : Room} {G M : Mm} {k n pc : Nat} {ll : List LE} {st : List Value}
theorem pw_alenL (C : Cx E cc nL own tb R0) {a : Int} (d : decode cc pc = .ok (.arraylength, 1)) (hk : G 0 a 0 = 107 ∧ 0 ≤ G 1 a 0 ∧ G 1 a 0 ≤ 1000 ∨ (G 0 a 0 = 98 ∨ G 0 a 0 = 99)) (kk : PW E G M k n (pc + 1) ll (vI (cpL G a) :: st)) : PW E G M k n pc ll (vR a :: st) := by
  unfold cpL at kk
  rcases hk with hk | hk
  · rw [if_pos hk.1] at kk
    exact pw_alen C d (by omega) rfl kk
  · rw [if_neg (by omega)] at kk
    exact pw_alen0 C d hk kk
end JRows3
/-- what a copy of an array leaves -/
def CPd (G M : Mm) (e m r : Int) (G1 M1 : Mm) : Prop := r = G 4 0 0 ∧ G1 4 0 0 = G 4 0 0 + 1 ∧ G1 0 r 0 = 107 ∧ G1 1 r 0 = m ∧ (∀ j, 0 ≤ j → j < min (cpL G e) m → G1 3 r j = G 3 e j) ∧ Kp G M G1 M1
theorem CPd.mk' {G M : Mm} {e m z : Int} (he : e < G 4 0 0) (hz : z = min (cpL G e) m) : CPd G M e m (G 4 0 0) (cpG (nG G 107 m) e (G 4 0 0) z) (nM G M) := by
  refine ⟨rfl, ?_, ?_, ?_, fun j q1 q2 => ?_, ?_, ?_⟩
  · rw [cpG_out (by omega), nG_next]
  · rw [cpG_out (by omega), nG_kind]
  · rw [cpG_out (by omega), nG_len]
  · rw [cpG_in (by omega), nG_o3 (by omega)]
  · intro a ha
    exact (agr_n a (by omega)).tr (agr_cpG a (by omega))
  · rw [cpG_out (by omega), nG_next]; omega
theorem shr1_eq {x : Int} (h : 0 ≤ x ∧ x ≤ 100) : (Int32.ofInt x) >>> ((Int32.ofInt 1) &&& 31) = Int32.ofInt (x / 2) := by
  have key : ∀ n : Nat, n < 101 → (Int32.ofInt (n : Int)) >>> ((Int32.ofInt 1) &&& 31) = Int32.ofInt ((n : Int) / 2) := by decide +kernel
  have := key x.toNat (by omega)
  rwa [show ((x.toNat : Nat) : Int) = x by omega] at this
set_option maxHeartbeats 4000000 in
set_option maxRecDepth 100000 in
theorem c_size {X : Xv} {G M : Mm} {q n e mb : Int} (hL : ALm mb G M q n e) : CT X yJx4a65c_size_8abf5 prog_28_method_8_code 1 (some .int) 0 0 0 0 [vR q] G M (PE G M n) := by
  refine CT.by (by decide +kernel) [1] ⟨cat_vR _, trivial⟩ (Nat.le_of_ble_eq_true rfl) (fun E hX C hR hIni => ?_)
  refine pw_aload_n C dJx4a65c_size_8abf5_0 rfl ?_
  refine pw_getE C dJx4a65c_size_8abf5_1 fl_Jx4a65c_48 rfl hL.k hL.sz ?_
  exact pw_iretE C hR dJx4a65c_size_8abf5_4 rfl rfl (rfl) (Nat.zero_le _) (Nat.zero_le _)

set_option maxHeartbeats 4000000 in
set_option maxRecDepth 100000 in
theorem c_chk3 {X : Xv} {G M : Mm} {i n : Int} (hi : 0 ≤ i ∧ i < n) (hn : n ≤ 1000) : CT X yJ3_checkIndex_8e157 prog_38_method_11_code 3 (some .int) 0 0 0 0 [vI i, vI n, vR (-1)] G M (PE G M i) := by
  refine CT.by (by decide +kernel) [1, 1, 1] ⟨cat_vI _, cat_vI _, cat_vR _, trivial⟩ (Nat.le_of_ble_eq_true rfl) (fun E hX C hR hIni => ?_)
  refine pw_iload_n C dJ3_checkIndex_8e157_0 rfl ?_
  refine pw_if_lt (tgt := 9) C dJ3_checkIndex_8e157_1 (by decide) (by omega) (fun c_1 => ?_) (fun c_1 => ?_)
  · exact absurd c_1 (by omega)
  refine pw_iload_n C dJ3_checkIndex_8e157_4 rfl ?_
  refine pw_iload_n C dJ3_checkIndex_8e157_5 rfl ?_
  refine pw_icmp_lt (tgt := 16) C dJ3_checkIndex_8e157_6 (by decide) (by omega) (fun c_6 => ?_) (fun c_6 => ?_)
  rotate_left
  · exact absurd c_6 (by omega)
  refine pw_iload_n C dJ3_checkIndex_8e157_16 rfl ?_
  exact pw_iretE C hR dJ3_checkIndex_8e157_17 rfl rfl (rfl) (Nat.zero_le _) (Nat.zero_le _)

set_option maxHeartbeats 4000000 in
set_option maxRecDepth 100000 in
theorem c_chk {X : Xv} {G M : Mm} {i n : Int} (hi : 0 ≤ i ∧ i < n) (hn : n ≤ 1000) : CT X yJ15_checkIndex_7cf53 prog_34_method_17_code 2 (some .int) 1 22 0 0 [vI i, vI n] G M (PE G M i) := by
  refine CT.by (by decide +kernel) [1, 1] ⟨cat_vI _, cat_vI _, trivial⟩ (Nat.le_of_ble_eq_true rfl) (fun E hX C hR hIni => ?_)
  refine pw_iload_n C dJ15_checkIndex_7cf53_0 rfl ?_
  refine pw_iload_n C dJ15_checkIndex_7cf53_1 rfl ?_
  refine pw_null C dJ15_checkIndex_7cf53_2 ?_
  refine pw_cSE C hX dJ15_checkIndex_7cf53_3 ml_J15_105 mc_J3_checkIndex_8e157 (c_chk3 (i := i) (n := n) (by omega) (by omega)) rfl rfl ⟨Nat.le_of_ble_eq_true rfl, Nat.le_of_ble_eq_true rfl⟩ (Nat.le_of_ble_eq_true rfl) ⟨Nat.le_of_ble_eq_true rfl, Nat.le_of_ble_eq_true rfl⟩ ?_
  exact pw_iretE C hR dJ15_checkIndex_7cf53_6 rfl rfl (rfl) (Nat.zero_le _) (Nat.zero_le _)

set_option maxHeartbeats 4000000 in
set_option maxRecDepth 100000 in
theorem c_eld {X : Xv} {G M : Mm} {q n e mb : Int} (hL : ALm mb G M q n e) {i : Int} (hi : 0 ≤ i ∧ i < n) : CT X yJx4a65c_elementData_915e3 prog_28_method_18_code 2 (some (FieldType.object "java/lang/Object")) 0 0 0 0 [vR q, vI i] G M (PR G M (G 3 e i)) := by
  refine CT.by (by decide +kernel) [1, 1] ⟨cat_vR _, cat_vI _, trivial⟩ (Nat.le_of_ble_eq_true rfl) (fun E hX C hR hIni => ?_)
  have hb := hL.b
  have hA := hL.ar (by omega)
  refine pw_aload_n C dJx4a65c_elementData_915e3_0 rfl ?_
  refine pw_getR C dJx4a65c_elementData_915e3_1 fl_Jx4a65c_9 hL.k rfl hL.ed ?_
  refine pw_iload_n C dJx4a65c_elementData_915e3_4 rfl ?_
  refine pw_aaldE C dJx4a65c_elementData_915e3_5 hA.1 (by omega) (by omega) rfl ?_
  exact pw_aretE C hR dJx4a65c_elementData_915e3_6 (Or.inl ⟨_, rfl⟩) rfl rfl (rfl) (Nat.zero_le _) (Nat.zero_le _)

set_option maxHeartbeats 4000000 in
set_option maxRecDepth 100000 in
theorem c_get {X : Xv} {G M : Mm} {q n e mb : Int} (hL : ALm mb G M q n e) {i : Int} (hi : 0 ≤ i ∧ i < n) : CT X yJx4a65c_get_915e3 prog_28_method_20_code 2 (some (FieldType.object "java/lang/Object")) 2 43 0 0 [vR q, vI i] G M (PR G M (G 3 e i)) := by
  refine CT.by (by decide +kernel) [1, 1] ⟨cat_vR _, cat_vI _, trivial⟩ (Nat.le_of_ble_eq_true rfl) (fun E hX C hR hIni => ?_)
  have hb := hL.b
  refine pw_iload_n C dJx4a65c_get_915e3_0 rfl ?_
  refine pw_aload_n C dJx4a65c_get_915e3_1 rfl ?_
  refine pw_getE C dJx4a65c_get_915e3_2 fl_Jx4a65c_48 rfl hL.k hL.sz ?_
  refine pw_cSE C hX dJx4a65c_get_915e3_5 ml_Jx4a65c_118 mc_J15_checkIndex_7cf53 (c_chk (i := i) (n := n) (by omega) (by omega)) rfl rfl ⟨Nat.le_of_ble_eq_true rfl, Nat.le_of_ble_eq_true rfl⟩ (Nat.le_of_ble_eq_true rfl) ⟨Nat.le_of_ble_eq_true rfl, Nat.le_of_ble_eq_true rfl⟩ ?_
  refine pw_pop C dJx4a65c_get_915e3_8 rfl ?_
  refine pw_aload_n C dJx4a65c_get_915e3_9 rfl ?_
  refine pw_iload_n C dJx4a65c_get_915e3_10 rfl ?_
  refine pw_cVR C hX dJx4a65c_get_915e3_11 ml_Jx4a65c_123 mc_Jx4a65c_elementData_915e3 (c_eld hL (i := i) (by omega)) kc_2 hL.k rfl rfl ⟨Nat.le_of_ble_eq_true rfl, Nat.le_of_ble_eq_true rfl⟩ (Nat.le_of_ble_eq_true rfl) ⟨Nat.le_of_ble_eq_true rfl, Nat.le_of_ble_eq_true rfl⟩ ?_
  exact pw_aretE C hR dJx4a65c_get_915e3_14 (Or.inl ⟨_, rfl⟩) rfl rfl (rfl) (Nat.zero_le _) (Nat.zero_le _)

set_option maxHeartbeats 4000000 in
set_option maxRecDepth 100000 in
theorem c_newLen {X : Xv} {G M : Mm} {a b c : Int} (ha : 0 ≤ a ∧ a ≤ 1000) (hb : 1 ≤ b ∧ b ≤ 1000) (hc : 0 ≤ c ∧ c ≤ 1000) : CT X yJ8_newLength_cabcc prog_37_method_27_code 4 (some .int) 1 15 0 0 [vI a, vI b, vI c] G M (PE G M (a + max b c)) := by
  refine CT.by (by decide +kernel) [1, 1, 1] ⟨cat_vI _, cat_vI _, cat_vI _, trivial⟩ (Nat.le_of_ble_eq_true rfl) (fun E hX C hR hIni => ?_)
  refine pw_iload_n C dJ8_newLength_cabcc_0 rfl ?_
  refine pw_iload_n C dJ8_newLength_cabcc_1 rfl ?_
  refine pw_iload_n C dJ8_newLength_cabcc_2 rfl ?_
  refine pw_max C dJ8_newLength_cabcc_3 (List.mem_of_getElem? (i := 1005) (by decide +kernel)) (by omega) (by omega) ⟨Nat.le_of_ble_eq_true rfl, Nat.le_of_ble_eq_true rfl⟩ ⟨Nat.le_of_ble_eq_true rfl, Nat.le_of_ble_eq_true rfl⟩ ?_
  refine pw_iadd C dJ8_newLength_cabcc_6 ?_
  refine pw_istore_n C dJ8_newLength_cabcc_7 (Nat.le_of_ble_eq_true rfl) rfl ?_
  refine pw_iconst C dJ8_newLength_cabcc_8 ?_
  refine pw_iload_n C dJ8_newLength_cabcc_9 rfl ?_
  refine pw_icmp_ge (tgt := 21) C dJ8_newLength_cabcc_10 (by decide) (by omega) (fun c_10 => ?_) (fun c_10 => ?_)
  · exact absurd c_10 (by omega)
  refine pw_iload_n C dJ8_newLength_cabcc_13 rfl ?_
  refine pw_ldc (v := Int32.ofInt 2147483639) C dJ8_newLength_cabcc_14 (List.mem_of_getElem? (i := 1006) (by decide +kernel)) ?_
  refine pw_icmp_gt (tgt := 21) C dJ8_newLength_cabcc_16 (by decide) (by omega) (fun c_16 => ?_) (fun c_16 => ?_)
  · exact absurd c_16 (by omega)
  refine pw_iload_n C dJ8_newLength_cabcc_19 rfl ?_
  exact pw_iretE C hR dJ8_newLength_cabcc_20 rfl rfl (rfl) (Nat.zero_le _) (Nat.zero_le _)

set_option maxHeartbeats 4000000 in
set_option maxRecDepth 100000 in
theorem c_copyOf3 {X : Xv} {G M : Mm} {e m : Int} {ks : Nat} (he : 0 ≤ e ∧ e < G 4 0 0) (hk : G 0 e 0 = 107 ∧ 0 ≤ G 1 e 0 ∧ G 1 e 0 ≤ 1000 ∨ (G 0 e 0 = 98 ∨ G 0 e 0 = 99)) (hm : 0 ≤ m ∧ m ≤ 1000) (hks : m = (ks : Int)) (hfit : ∀ j, 0 ≤ j → j < min (cpL G e) m → OkO G (G 3 e j)) {c2 : Int} (hc2 : emX X 2 = c2) : CT X yJ7_copyOf_6403c prog_30_method_120_code 4 (some (FieldType.array (FieldType.object "java/lang/Object"))) 1 45 1 ks [vR e, vI m, vR c2] G M (PQ (fun r G1 M1 => CPd G M e m r G1 M1)) := by
  refine CT.by (by decide +kernel) [1, 1, 1] ⟨cat_vR _, cat_vI _, cat_vR _, trivial⟩ (Nat.le_of_ble_eq_true rfl) (fun E hX C hR hIni => ?_)
  have hc0 : 0 ≤ cpL G e ∧ cpL G e ≤ 1000 := by unfold cpL; split <;> omega
  have hkN : nG G 107 m 0 e 0 = 107 ∧ 0 ≤ nG G 107 m 1 e 0 ∧ nG G 107 m 1 e 0 ≤ 1000 ∨ (nG G 107 m 0 e 0 = 98 ∨ nG G 107 m 0 e 0 = 99) := by rw [nG_o0 (by omega), nG_o1 (by omega)]; exact hk
  have hcN : cpL (nG G 107 m) e = cpL G e := by unfold cpL; rw [nG_o0 (by omega), nG_o1 (by omega)]
  have hk0 : nG G 107 m 0 e 0 = 107 ∧ min (cpL G e) m ≤ nG G 107 m 1 e 0 ∨ min (cpL G e) m = 0 ∧ (nG G 107 m 0 e 0 = 98 ∨ nG G 107 m 0 e 0 = 99) := by
    rw [nG_o0 (by omega), nG_o1 (by omega)]
    unfold cpL
    rcases hk with hk | hk
    · rw [if_pos hk.1]; exact Or.inl ⟨hk.1, by omega⟩
    · rw [if_neg (by omega)]; exact Or.inr ⟨by omega, hk⟩
  have hfN : ∀ j, 0 ≤ j → j < min (cpL G e) m → OkO (nG G 107 m) (nG G 107 m 3 e j) := fun j q1 q2 => by rw [nG_o3 (by omega)]; exact (hfit j q1 q2).kp (M := M) Kp.rf.new
  refine pw_aload_n C dJ7_copyOf_6403c_0 rfl ?_
  refine pw_ldcM C hX dJ7_copyOf_6403c_1 (List.mem_of_getElem? (i := 1036) (by decide +kernel)) (Or.inl ⟨rfl, rfl⟩) hc2 ?_
  refine pw_acmp_ne (tgt := 13) C dJ7_copyOf_6403c_3 (by decide) (by have := emX_nn (X := X) (j := 2); have := emX_nn (X := X) (j := 3); omega) (fun h => absurd rfl h) (fun _ => ?_)
  refine pw_iload_n C dJ7_copyOf_6403c_6 rfl ?_
  refine pw_newq (t := 7) (Cn := "java/lang/Object") (ks := ks) C dJ7_copyOf_6403c_7 (List.mem_of_getElem? (i := 1038) (by decide +kernel)) (by decide) (by omega) (fun _ => rfl) (by omega) hks (Nat.le_refl _) (Nat.le_of_eq (Nat.zero_add ks)) ?_
  show PW E (nG G 107 m) (nM G M) _ _ _ _ _
  refine pw_goto (tgt := 24) C dJ7_copyOf_6403c_10 (by decide) ?_
  refine pw_astore_n C dJ7_copyOf_6403c_24 (Nat.le_of_ble_eq_true rfl) rfl ?_
  refine pw_aload_n C dJ7_copyOf_6403c_25 rfl ?_
  refine pw_iconst C dJ7_copyOf_6403c_26 ?_
  refine pw_aload_n C dJ7_copyOf_6403c_27 rfl ?_
  refine pw_iconst C dJ7_copyOf_6403c_28 ?_
  refine pw_aload_n C dJ7_copyOf_6403c_29 rfl ?_
  refine pw_alenL C dJ7_copyOf_6403c_30 hkN ?_
  rw [hcN]
  refine pw_iload_n C dJ7_copyOf_6403c_31 rfl ?_
  refine pw_min C dJ7_copyOf_6403c_32 (List.mem_of_getElem? (i := 1039) (by decide +kernel)) (by omega) (by omega) ⟨Nat.le_of_ble_eq_true rfl, Nat.le_of_ble_eq_true rfl⟩ (by show 0 + 1 ≤ 1 ∧ 0 + ks ≤ ks; omega) ?_
  refine pw_copyR C dJ7_copyOf_6403c_35 (List.mem_of_getElem? (i := 1040) (by decide +kernel)) hk0 nG_kind (by rw [nG_len]; omega) hfN ⟨Nat.le_of_ble_eq_true rfl, Nat.le_of_ble_eq_true rfl⟩ (fun G2 eG2 => ?_)
  subst eG2
  refine pw_aload_n C dJ7_copyOf_6403c_38 rfl ?_
  exact pw_aret C hR dJ7_copyOf_6403c_39 (Or.inr ⟨_, rfl⟩) (⟨_, rfl, CPd.mk' he.2 rfl⟩) (Nat.le_refl _) (Nat.le_of_eq (Nat.zero_add ks))

set_option maxHeartbeats 4000000 in
set_option maxRecDepth 100000 in
theorem c_copyOf2 {X : Xv} {G M : Mm} {e m : Int} {ks : Nat} (he : 0 ≤ e ∧ e < G 4 0 0) (hk : G 0 e 0 = 107 ∧ 0 ≤ G 1 e 0 ∧ G 1 e 0 ≤ 1000 ∨ (G 0 e 0 = 98 ∨ G 0 e 0 = 99)) (hm : 0 ≤ m ∧ m ≤ 1000) (hks : m = (ks : Int)) (hfit : ∀ j, 0 ≤ j → j < min (cpL G e) m → OkO G (G 3 e j)) : CT X yJ7_copyOf_1904c prog_30_method_119_code 2 (some (FieldType.array (FieldType.object "java/lang/Object"))) 2 68 1 ks [vR e, vI m] G M (PQ (fun r G1 M1 => CPd G M e m r G1 M1)) := by
  refine CT.by (by decide +kernel) [1, 1] ⟨cat_vR _, cat_vI _, trivial⟩ (Nat.le_of_ble_eq_true rfl) (fun E hX C hR hIni => ?_)
  obtain ⟨c2, hc2⟩ : ∃ c, emX X 2 = c := ⟨_, rfl⟩
  refine pw_aload_n C dJ7_copyOf_1904c_0 rfl ?_
  refine pw_iload_n C dJ7_copyOf_1904c_1 rfl ?_
  refine pw_aload_n C dJ7_copyOf_1904c_2 rfl ?_
  refine pw_getC C hX dJ7_copyOf_1904c_3 (List.mem_of_getElem? (i := 1013) (by decide +kernel)) (by rcases hk with hk | hk; exact Or.inl hk.1; exact Or.inr hk) ⟨Nat.le_of_ble_eq_true rfl, Nat.le_of_ble_eq_true rfl⟩ hc2 ?_
  refine pw_cSQ C hX dJ7_copyOf_1904c_6 ml_J7_300 mc_J7_copyOf_6403c (c_copyOf3 (e := e) (m := m) he hk hm hks hfit hc2) rfl rfl ⟨Nat.le_of_ble_eq_true rfl, Nat.le_of_ble_eq_true rfl⟩ (Nat.le_of_ble_eq_true rfl) (by show 0 + 1 ≤ 1 ∧ 0 + ks ≤ ks; omega) (fun r_ G1 M1 hq_ => ?_)
  exact pw_aret C hR dJ7_copyOf_1904c_9 (Or.inr ⟨_, rfl⟩) (⟨_, rfl, hq_⟩) (Nat.le_refl _) (Nat.le_of_eq (Nat.zero_add ks))

set_option maxHeartbeats 4000000 in
set_option maxRecDepth 100000 in
theorem c_toArray {X : Xv} {G M : Mm} {q n e mb : Int} (hL : ALm mb G M q n e) {ks : Nat} (hks : n = (ks : Int)) (hfit : ∀ j, 0 ≤ j → j < n → OkO G (G 3 e j)) : CT X yJx4a65c_toArray_d5877 prog_28_method_16_code 1 (some (FieldType.array (FieldType.object "java/lang/Object"))) 3 89 1 ks [vR q] G M (PQ (fun r G1 M1 => CPd G M e n r G1 M1)) := by
  refine CT.by (by decide +kernel) [1] ⟨cat_vR _, trivial⟩ (Nat.le_of_ble_eq_true rfl) (fun E hX C hR hIni => ?_)
  have hb := hL.b
  refine pw_aload_n C dJx4a65c_toArray_d5877_0 rfl ?_
  refine pw_getR C dJx4a65c_toArray_d5877_1 fl_Jx4a65c_9 hL.k rfl hL.ed ?_
  refine pw_aload_n C dJx4a65c_toArray_d5877_4 rfl ?_
  refine pw_getE C dJx4a65c_toArray_d5877_5 fl_Jx4a65c_48 rfl hL.k hL.sz ?_
  refine pw_cSQ C hX dJx4a65c_toArray_d5877_8 ml_Jx4a65c_66 mc_J7_copyOf_1904c (c_copyOf2 (e := e) (m := n) hL.2.1 hL.kk (by omega) hks (fun j q1 q2 => hfit j q1 (by omega))) rfl rfl ⟨Nat.le_of_ble_eq_true rfl, Nat.le_of_ble_eq_true rfl⟩ (Nat.le_of_ble_eq_true rfl) (by show 0 + 1 ≤ 1 ∧ 0 + ks ≤ ks; omega) (fun r_ G1 M1 hq_ => ?_)
  exact pw_aret C hR dJx4a65c_toArray_d5877_11 (Or.inr ⟨_, rfl⟩) (⟨_, rfl, hq_⟩) (Nat.le_refl _) (Nat.le_of_eq (Nat.zero_add ks))

