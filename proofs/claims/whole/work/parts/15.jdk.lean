theorem pw_min {E : Ev} {cc : ByteArray} {nL : Nat} {own : String} {tb : List ExceptionTableEntry} {R0 : Room} {G M : Mm} {k n pc : Nat} {ll : List LE} {st : List Value} (C : Cx E cc nL own tb R0) {idx : Nat} {x y : Int} (d : decode cc pc = .ok (.invokestatic idx, 3)) (hl : Cond.methodLink own idx Lib.Math.min.name ∈ lw_tbl) (hx9 : -2147483648 ≤ x ∧ x ≤ 2147483647) (hy9 : -2147483648 ≤ y ∧ y ≤ 2147483647) (hroom : 1 ≤ R0.frames ∧ 2 * st.length + 13 ≤ R0.locals) (hkn : k ≤ R0.cells ∧ n ≤ R0.slots) (kk : PW E G M k n (pc + 3) ll (vI (min x y) :: st)) : PW E G M k n pc ll (vI y :: vI x :: st) := by
  obtain ⟨⟨l, D, cA, B0⟩, p, e, R, s, m, args, below, meth, c, Q⟩ := E
  obtain ⟨hx, hb, hml, hown, hlocks, htb, hR, hK⟩ := C
  subst hR
  intro H locs ls h1 h2 h3
  have q := kk H locs ls h1 h2 h3
  have hsum := sum_le st
  refine va_mmin hx hb (by rw [h3.1]) hown (kw hK hl rfl) (kw hK (List.mem_of_getElem? (i := 649) (by decide +kernel)) rfl) (kw hK (List.mem_of_getElem? (i := 113) (by decide +kernel)) rfl) (kw hK (List.mem_of_getElem? (i := 650) (by decide +kernel)) rfl) hroom.1 (by have := hroom.2; omega) hkn.1 hkn.2 d ?_
  have e9 : (if Int32.ofInt y < Int32.ofInt x then Int32.ofInt y else Int32.ofInt x) = Int32.ofInt (min x y) := by
    by_cases h : y < x
    · rw [if_pos ((i32_lt (by omega)).mpr h)]; congr 1; omega
    · rw [if_neg (fun z => h ((i32_lt (by omega)).mp z))]; congr 1; omega
  rw [e9]
  exact q
theorem pw_max {E : Ev} {cc : ByteArray} {nL : Nat} {own : String} {tb : List ExceptionTableEntry} {R0 : Room} {G M : Mm} {k n pc : Nat} {ll : List LE} {st : List Value} (C : Cx E cc nL own tb R0) {idx : Nat} {x y : Int} (d : decode cc pc = .ok (.invokestatic idx, 3)) (hl : Cond.methodLink own idx Lib.Math.max.name ∈ lw_tbl) (hx9 : -2147483648 ≤ x ∧ x ≤ 2147483647) (hy9 : -2147483648 ≤ y ∧ y ≤ 2147483647) (hroom : 1 ≤ R0.frames ∧ 2 * st.length + 13 ≤ R0.locals) (hkn : k ≤ R0.cells ∧ n ≤ R0.slots) (kk : PW E G M k n (pc + 3) ll (vI (max x y) :: st)) : PW E G M k n pc ll (vI y :: vI x :: st) := by
  obtain ⟨⟨l, D, cA, B0⟩, p, e, R, s, m, args, below, meth, c, Q⟩ := E
  obtain ⟨hx, hb, hml, hown, hlocks, htb, hR, hK⟩ := C
  subst hR
  intro H locs ls h1 h2 h3
  have q := kk H locs ls h1 h2 h3
  have hsum := sum_le st
  refine va_mmax hx hb (by rw [h3.1]) hown (kw hK hl rfl) (kw hK (List.mem_of_getElem? (i := 332) (by decide +kernel)) rfl) (kw hK (List.mem_of_getElem? (i := 113) (by decide +kernel)) rfl) (kw hK (List.mem_of_getElem? (i := 333) (by decide +kernel)) rfl) hroom.1 (by have := hroom.2; omega) hkn.1 hkn.2 d ?_
  have e9 : (if Int32.ofInt x < Int32.ofInt y then Int32.ofInt y else Int32.ofInt x) = Int32.ofInt (max x y) := by
    by_cases h : x < y
    · rw [if_pos ((i32_lt (by omega)).mpr h)]; congr 1; omega
    · rw [if_neg (fun z => h ((i32_lt (by omega)).mp z))]; congr 1; omega
  rw [e9]
  exact q
set_option maxHeartbeats 4000000 in
set_option maxRecDepth 100000 in
theorem c_fill {X : Xv} {G M : Mm} {a len x : Int} (hA : AI G a len) (hl : 0 ≤ len ∧ len ≤ 1000) : CT X yJ7_fill_53178 prog_30_method_103_code 4 (none) 0 0 0 0 [vR a, vI x] G M (PU (fun G1 M1 => G1 = G ∧ M1 = flM M a len x)) := by
  refine CT.by (by decide +kernel) [1, 1] ⟨cat_vR _, cat_vI _, trivial⟩ (Nat.le_of_ble_eq_true rfl) (fun E hX C hR hIni => ?_)
  refine pw_iconst C dJ7_fill_53178_0 ?_
  refine pw_istore_n C dJ7_fill_53178_1 (Nat.le_of_ble_eq_true rfl) rfl ?_
  refine pw_mem (G' := G) (M' := flM M a 0 x) rfl flM_0 ?_
  refine pw_aload_n C dJ7_fill_53178_2 rfl ?_
  refine pw_alenE C dJ7_fill_53178_3 hA ?_
  refine pw_istore_n C dJ7_fill_53178_4 (Nat.le_of_ble_eq_true rfl) rfl ?_
  suffices K_5 : ∀ (nn_5 : Nat) (i : Int) , 0 ≤ i ∧ i ≤ len → len - i < (nn_5 : Int) → PW E G (flM M a i x) 0 0 5 [(0, 1, vR a), (1, 1, vI x), (2, 1, vI i), (3, 1, vI len)] [] from pw_locs (by exact ⟨rfl, cat_vR _, rfl, rfl, rfl, rfl, rfl, rfl, trivial⟩) (K_5 (len - 0 + 1).toNat 0  (by omega) (by omega))
  intro nn_5
  induction nn_5 with
  | zero => intro i h1 h_m5; exact absurd h_m5 (by omega)
  | succ nn_5 ih_5 =>
    intro i h1 h_m5
    refine pw_iload_n C dJ7_fill_53178_5 rfl ?_
    refine pw_iload_n C dJ7_fill_53178_6 rfl ?_
    refine pw_icmp_ge (tgt := 20) C dJ7_fill_53178_7 (by decide) (by omega) (fun c_7 => ?_) (fun c_7 => ?_)
    · skip
      exact pw_vret C hR dJ7_fill_53178_20 (⟨rfl, rfl, by rw [show i = len by omega]⟩) (by omega) (by omega)
    · skip
      refine pw_aload_n C dJ7_fill_53178_10 rfl ?_
      refine pw_iload_n C dJ7_fill_53178_11 rfl ?_
      refine pw_iload_n C dJ7_fill_53178_12 rfl ?_
      refine pw_iastE C dJ7_fill_53178_13 hA (by omega) ?_
      rw [flM_1 (by omega)]
      refine pw_iinc C dJ7_fill_53178_14 rfl (Nat.le_of_ble_eq_true rfl) rfl ?_
      refine pw_goto (tgt := 5) C dJ7_fill_53178_17 (by decide) ?_
      exact pw_locs (by exact ⟨rfl, cat_vR _, rfl, rfl, rfl, rfl, rfl, rfl, trivial⟩) (ih_5 (i + 1)  (by omega) (by omega))

