theorem pw_min {E : Ev} {cc : ByteArray} {nL : Nat} {own : String} {tb : List ExceptionTableEntry} {R0 : Room} {G M : Mm} {k n pc : Nat} {ll : List LE} {st : List Value} (C : Cx E cc nL own tb R0) {idx : Nat} {x y : Int} (d : decode cc pc = .ok (.invokestatic idx, 3)) (hl : Cond.methodLink own idx Lib.Math.min.name ∈ lw_tbl) (hx9 : -2147483648 ≤ x ∧ x ≤ 2147483647) (hy9 : -2147483648 ≤ y ∧ y ≤ 2147483647) (hroom : 1 ≤ R0.frames ∧ 2 * st.length + 13 ≤ R0.locals) (hkn : k ≤ R0.cells ∧ n ≤ R0.slots) (kk : PW E G M k n (pc + 3) ll (vI (min x y) :: st)) : PW E G M k n pc ll (vI y :: vI x :: st) := by
  obtain ⟨⟨l, D, cA, B0⟩, p, e, R, s, m, args, below, meth, c, Q⟩ := E
  obtain ⟨hx, hb, hml, hown, hlocks, htb, hR, hK⟩ := C
  subst hR
  intro H locs ls h1 h2 h3
  have q := kk H locs ls h1 h2 h3
  have hsum := sum_le st
  refine va_mmin hx hb (by rw [h3.1]) hown (kw hK hl rfl) (kw hK (List.mem_of_getElem? (i := 667) (by decide +kernel)) rfl) (kw hK (List.mem_of_getElem? (i := 65) (by decide +kernel)) rfl) (kw hK (List.mem_of_getElem? (i := 668) (by decide +kernel)) rfl) hroom.1 (by have := hroom.2; omega) hkn.1 hkn.2 d ?_
  have e9 : (if Int32.ofInt y < Int32.ofInt x then Int32.ofInt y else Int32.ofInt x) = Int32.ofInt (min x y) := by
    by_cases h : y < x
    · rw [if_pos ((i32_lt (by omega)).mpr h)]; congr 1; omega
    · rw [if_neg (fun z => h ((i32_lt (by omega)).mp z))]; congr 1; omega
  rw [e9]
  exact q
theorem pw_max {E : Ev} {cc : ByteArray} {nL : Nat} {own : String} {tb : List ExceptionTableEntry} {R0 : Room} {G M : Mm} {k n pc : Nat} {ll : List LE} {st : List Value} (C : Cx E cc nL own tb R0) {idx : Nat} {x y : Int} (d : decode cc pc = .ok (.invokestatic idx, 3)) (hl : Cond.methodLink own idx Lib.Math.max.name ∈ lw_tbl) (hx9 : -2147483648 ≤ x ∧ x ≤ 2147483647) (hy9 : -2147483648 ≤ y ∧ y ≤ 2147483647) (hroom : 1 ≤ R0.frames ∧ 2 * st.length + 13 ≤ R0.locals) (hkn : k ≤ R0.cells ∧ n ≤ R0.slots) (kk : PW E G M k n (pc + 3) ll (vI (max x y) :: st)) : PW E G M k n pc ll (vI y :: vI x :: st) := by
  obtain ⟨⟨l, D, cA, B0⟩, p, e, R, s, m, args, below, meth, c, Q⟩ := E
  obtain ⟨hx, hb, hml, hown, hlocks, htb, hR, hK⟩ := C
  subst hR
  intro H locs ls h1 h2 h3
  have q := kk H locs ls h1 h2 h3
  have hsum := sum_le st
  refine va_mmax hx hb (by rw [h3.1]) hown (kw hK hl rfl) (kw hK (List.mem_of_getElem? (i := 432) (by decide +kernel)) rfl) (kw hK (List.mem_of_getElem? (i := 65) (by decide +kernel)) rfl) (kw hK (List.mem_of_getElem? (i := 433) (by decide +kernel)) rfl) hroom.1 (by have := hroom.2; omega) hkn.1 hkn.2 d ?_
  have e9 : (if Int32.ofInt x < Int32.ofInt y then Int32.ofInt y else Int32.ofInt x) = Int32.ofInt (max x y) := by
    by_cases h : x < y
    · rw [if_pos ((i32_lt (by omega)).mpr h)]; congr 1; omega
    · rw [if_neg (fun z => h ((i32_lt (by omega)).mp z))]; congr 1; omega
  rw [e9]
  exact q
set_option maxHeartbeats 4000000 in
set_option maxRecDepth 100000 in
theorem c_fill {X : Xv} {G M : Mm} {a len x : Int} (hA : AI G a len) (hl : 0 ≤ len ∧ len ≤ 1000) : CT X yJ7_fill_53178 prog_23_method_103_code 4 (none) 0 0 0 0 [vR a, vI x] G M (PU (fun G1 M1 => G1 = G ∧ M1 = flM M a len x)) := by
  refine CT.by (by decide +kernel) [1, 1] ⟨cat_vR _, cat_vI _, trivial⟩ (Nat.le_of_ble_eq_true rfl) (fun E hX C hR hIni => ?_)
  refine pw_iconst C dJ7_fill_53178_0 ?_
  refine pw_istore_n C dJ7_fill_53178_1 (Nat.le_of_ble_eq_true rfl) rfl ?_
  refine pw_mem (G' := G) (M' := flM M a 0 x) rfl flM_0 ?_
  refine pw_aload_n C dJ7_fill_53178_2 rfl ?_
  refine pw_alenE C dJ7_fill_53178_3 hA ?_
  refine pw_istore_n C dJ7_fill_53178_4 (Nat.le_of_ble_eq_true rfl) rfl ?_
  suffices K_5 : ∀ (nn_5 : Nat) (i : Int) , (0 ≤ i ∧ i ≤ len) → len - i < (nn_5 : Int) → PW E G (flM M a i x) 0 0 5 [(0, 1, vR a), (1, 1, vI x), (2, 1, vI i), (3, 1, vI len)] [] from pw_locs (by exact ⟨rfl, cat_vR _, rfl, rfl, rfl, rfl, rfl, rfl, trivial⟩) (K_5 (len - 0 + 1 : Int).toNat 0  (by omega) (by omega))
  intro nn_5
  induction nn_5 with
  | zero => intro i h1 h_m5; exact absurd h_m5 (by omega)
  | succ nn_5 ih_5 =>
    intro i h1 h_m5
    refine pw_iload_n C dJ7_fill_53178_5 rfl ?_
    refine pw_iload_n C dJ7_fill_53178_6 rfl ?_
    refine pw_icmp_ge (tgt := 20) C dJ7_fill_53178_7 (by decide) (by omega) (fun c_7 => ?_) (fun c_7 => ?_)
    · skip
      exact pw_vret C hR dJ7_fill_53178_20 (⟨rfl, rfl, by rw [show i = len by omega]⟩) (by omega) (by omega)
    · skip
      refine pw_aload_n C dJ7_fill_53178_10 rfl ?_
      refine pw_iload_n C dJ7_fill_53178_11 rfl ?_
      refine pw_iload_n C dJ7_fill_53178_12 rfl ?_
      refine pw_iastE C dJ7_fill_53178_13 hA (by omega) ?_
      rw [flM_1 (by omega)]
      refine pw_iinc C dJ7_fill_53178_14 rfl (Nat.le_of_ble_eq_true rfl) rfl ?_
      refine pw_goto (tgt := 5) C dJ7_fill_53178_17 (by decide) ?_
      exact pw_locs (by exact ⟨rfl, cat_vR _, rfl, rfl, rfl, rfl, rfl, rfl, trivial⟩) (ih_5 (i + 1)  (by omega) (by omega))

/-- bit f of a set -/
abbrev ins (x f : Int) : Prop := (x / 2 ^ f.toNat) % 2 = 1
theorem ins_dec : True := trivial
/-- how many bits, of ten -/
def bc (x : Int) : Int := bI (ins x 0) + bI (ins x 1) + bI (ins x 2) + bI (ins x 3) + bI (ins x 4) + bI (ins x 5) + bI (ins x 6) + bI (ins x 7) + bI (ins x 8) + bI (ins x 9)
def us (x : Int32) (y : Int32) : Int32 := (x.toUInt32 >>> (y.toUInt32 &&& Int32.toUInt32 31)).toInt32
def bcE (x : Int32) : Int32 :=
  let a := x - (us x (Int32.ofInt 1) &&& 1431655765)
  let b := (a &&& 858993459) + (us a (Int32.ofInt 2) &&& 858993459)
  let c := (b + us b (Int32.ofInt 4)) &&& 252645135
  let d := c + us c (Int32.ofInt 8)
  let e := d + us d (Int32.ofInt 16)
  e &&& Int32.ofInt 63
set_option maxRecDepth 100000 in
theorem bcE_k : ∀ n : Nat, n < 1024 → bcE (Int32.ofInt (n : Int)) = Int32.ofInt (bc (n : Int)) := by decide +kernel
theorem bcE_eq {x : Int} (h : 0 ≤ x ∧ x < 1024) : bcE (Int32.ofInt x) = Int32.ofInt (bc x) := by
  have := bcE_k x.toNat (by omega)
  rwa [Int.toNat_of_nonneg h.1] at this
set_option maxRecDepth 100000 in
theorem ins_k : ∀ n : Nat, n < 64 → (Int32.ofInt ((n / 4 : Nat) : Int) >>> (Int32.ofInt ((n % 4 : Nat) : Int) &&& 31)) &&& Int32.ofInt 1 = Int32.ofInt (bI (ins ((n / 4 : Nat) : Int) ((n % 4 : Nat) : Int))) := by decide +kernel
theorem ins_eq {x f : Int} (h : 0 ≤ x ∧ x < 16) (hf : 0 ≤ f ∧ f < 4) : (Int32.ofInt x >>> (Int32.ofInt f &&& 31)) &&& Int32.ofInt 1 = Int32.ofInt (bI (ins x f)) := by
  have := ins_k (4 * x.toNat + f.toNat) (by omega)
  rwa [show (4 * x.toNat + f.toNat) / 4 = x.toNat by omega, show (4 * x.toNat + f.toNat) % 4 = f.toNat by omega, Int.toNat_of_nonneg h.1, Int.toNat_of_nonneg hf.1] at this
theorem bc_bd (x : Int) : 0 ≤ bc x ∧ bc x ≤ 10 := by
  unfold bc
  have h0 := bI_01 (ins x 0)
  have h1 := bI_01 (ins x 1)
  have h2 := bI_01 (ins x 2)
  have h3 := bI_01 (ins x 3)
  have h4 := bI_01 (ins x 4)
  have h5 := bI_01 (ins x 5)
  have h6 := bI_01 (ins x 6)
  have h7 := bI_01 (ins x 7)
  have h8 := bI_01 (ins x 8)
  have h9 := bI_01 (ins x 9)
  omega
set_option maxHeartbeats 4000000 in
set_option maxRecDepth 100000 in
theorem c_bitCount {X : Xv} {G M : Mm} {x : Int} (hx : 0 ≤ x ∧ x < 1024) : CT X yJ6_bitCount_0f7a4 cJ6_bitCount_0f7a4 1 (some .int) 0 0 0 0 [vI x] G M (PE G M (bc x)) := by
  refine CT.by (by decide +kernel) [1] ⟨cat_vI _, trivial⟩ (Nat.le_of_ble_eq_true rfl) (fun E hX C hR hIni => ?_)
  refine pw_iload_n C dJ6_bitCount_0f7a4_0 rfl ?_
  refine pw_iload_n C dJ6_bitCount_0f7a4_1 rfl ?_
  refine pw_iconst C dJ6_bitCount_0f7a4_2 ?_
  refine pw_iushr C dJ6_bitCount_0f7a4_3 ?_
  refine pw_ldcw (v := 1431655765) C dJ6_bitCount_0f7a4_4 (List.mem_of_getElem? (i := 489) (by decide +kernel)) ?_
  refine pw_iand C dJ6_bitCount_0f7a4_7 ?_
  refine pw_isubw C dJ6_bitCount_0f7a4_8 ?_
  refine pw_istore_n C dJ6_bitCount_0f7a4_9 (Nat.le_of_ble_eq_true rfl) rfl ?_
  refine pw_iload_n C dJ6_bitCount_0f7a4_10 rfl ?_
  refine pw_ldcw (v := 858993459) C dJ6_bitCount_0f7a4_11 (List.mem_of_getElem? (i := 490) (by decide +kernel)) ?_
  refine pw_iand C dJ6_bitCount_0f7a4_14 ?_
  refine pw_iload_n C dJ6_bitCount_0f7a4_15 rfl ?_
  refine pw_iconst C dJ6_bitCount_0f7a4_16 ?_
  refine pw_iushr C dJ6_bitCount_0f7a4_17 ?_
  refine pw_ldcw (v := 858993459) C dJ6_bitCount_0f7a4_18 (List.mem_of_getElem? (i := 490) (by decide +kernel)) ?_
  refine pw_iand C dJ6_bitCount_0f7a4_21 ?_
  refine pw_iaddw C dJ6_bitCount_0f7a4_22 ?_
  refine pw_istore_n C dJ6_bitCount_0f7a4_23 (Nat.le_of_ble_eq_true rfl) rfl ?_
  refine pw_iload_n C dJ6_bitCount_0f7a4_24 rfl ?_
  refine pw_iload_n C dJ6_bitCount_0f7a4_25 rfl ?_
  refine pw_iconst C dJ6_bitCount_0f7a4_26 ?_
  refine pw_iushr C dJ6_bitCount_0f7a4_27 ?_
  refine pw_iaddw C dJ6_bitCount_0f7a4_28 ?_
  refine pw_ldcw (v := 252645135) C dJ6_bitCount_0f7a4_29 (List.mem_of_getElem? (i := 491) (by decide +kernel)) ?_
  refine pw_iand C dJ6_bitCount_0f7a4_32 ?_
  refine pw_istore_n C dJ6_bitCount_0f7a4_33 (Nat.le_of_ble_eq_true rfl) rfl ?_
  refine pw_iload_n C dJ6_bitCount_0f7a4_34 rfl ?_
  refine pw_iload_n C dJ6_bitCount_0f7a4_35 rfl ?_
  refine pw_bipush C dJ6_bitCount_0f7a4_36 rfl ?_
  refine pw_iushr C dJ6_bitCount_0f7a4_38 ?_
  refine pw_iaddw C dJ6_bitCount_0f7a4_39 ?_
  refine pw_istore_n C dJ6_bitCount_0f7a4_40 (Nat.le_of_ble_eq_true rfl) rfl ?_
  refine pw_iload_n C dJ6_bitCount_0f7a4_41 rfl ?_
  refine pw_iload_n C dJ6_bitCount_0f7a4_42 rfl ?_
  refine pw_bipush C dJ6_bitCount_0f7a4_43 rfl ?_
  refine pw_iushr C dJ6_bitCount_0f7a4_45 ?_
  refine pw_iaddw C dJ6_bitCount_0f7a4_46 ?_
  refine pw_istore_n C dJ6_bitCount_0f7a4_47 (Nat.le_of_ble_eq_true rfl) rfl ?_
  refine pw_iload_n C dJ6_bitCount_0f7a4_48 rfl ?_
  refine pw_bipush C dJ6_bitCount_0f7a4_49 rfl ?_
  refine pw_iand C dJ6_bitCount_0f7a4_51 ?_
  refine pw_top (v' := vI (bc x)) (congrArg Value.int (bcE_eq hx)) ?_
  exact pw_iretE C hR dJ6_bitCount_0f7a4_52 rfl rfl rfl (Nat.zero_le _) (Nat.zero_le _)
