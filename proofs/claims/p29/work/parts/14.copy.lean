/-! ===== System.arraycopy of numbers, from 0 to 0 ===== -/
def cpM (M : Mm) (a0 a n : Int) : Mm := fun b x y => if b = 1 ∧ x = a ∧ 0 ≤ y ∧ y < n then M 1 a0 y else M b x y
theorem cpM_in {M : Mm} {a0 a n y : Int} (h : 0 ≤ y ∧ y < n) : cpM M a0 a n 1 a y = M 1 a0 y := by simp [cpM, h]
theorem cpM_out {M : Mm} {a0 a n b x y : Int} (h : ¬ (b = 1 ∧ x = a ∧ 0 ≤ y ∧ y < n)) : cpM M a0 a n b x y = M b x y := by
  unfold cpM
  rw [if_neg h]
theorem agr_cp {G M : Mm} {a0 a n : Int} : ∀ a', a' ≠ a → agr G M G (cpM M a0 a n) a' := fun a' h =>
  ⟨rfl, rfl, fun _ => rfl, fun _ => rfl, fun f' => cpM_out (by omega), fun j => cpM_out (by omega)⟩
section Copy
variable {E : Ev} {cc : ByteArray} {nL : Nat} {own : String} {tb : List ExceptionTableEntry} {R0 : Room} {G M : Mm} {k n pc : Nat} {ll : List LE} {st : List Value}
theorem natT (z : Int32) (h : ¬ z < 0) : z.toInt = (z.toNatClampNeg : Int) := by
  have hz0 : (0 : Int) ≤ z.toInt := by
    have := Int32.not_lt.mp h
    simpa using Int32.le_iff_toInt_le.mp this
  show z.toInt = ((z.toInt.toNat : Nat) : Int)
  omega
theorem pw_copyI (C : Cx E cc nL own tb R0) {a0 a z : Int} {idx t : Nat} (d : decode cc pc = .ok (.invokestatic idx, 3)) (hl : Cond.methodLink own idx arraycopyName ∈ lw_tbl) (ht : t < 2) (hk0 : G 0 a0 0 = (t : Int) + 100) (hk : G 0 a 0 = (t : Int) + 100) (hz : 0 ≤ z ∧ z ≤ G 1 a0 0 ∧ z ≤ G 1 a 0)
    (hfit : t = 0 ∨ ∀ j, 0 ≤ j → j < z → M 1 a0 j = 0 ∨ M 1 a0 j = 1) (hroom : 1 ≤ R0.frames ∧ 2 * st.length + 40 ≤ R0.locals) (kk : ∀ M1, M1 = cpM M a0 a z → PW E G M1 k n (pc + 3) ll st) : PW E G M k n pc ll (vI z :: vI 0 :: vR a :: vI 0 :: vR a0 :: st) := by
  obtain ⟨⟨l, D, cA, B0⟩, p, e, R, s, m, args, below, meth, c, Q⟩ := E
  obtain ⟨hx, hb, hml, hown, hlocks, htb, hR, hK⟩ := C
  subst hR
  intro H locs ls g1 g2 g3
  have hn0 : 0 ≤ a0 := g1.nn (by omega)
  have hn1 : 0 ≤ a := g1.nn (by omega)
  have hlo : (B0 : Int) ≤ a := g1.lo (by omega) (by omega)
  obtain ⟨y1, y2, y3⟩ := g1.ar (a := a0) (t := t) (by omega) hk0
  obtain ⟨z1, z2, z3⟩ := g1.ar (a := a) (t := t) (by omega) hk
  have hty : ∃ ty, (tysL cA)[t]? = some (cA t, ty) ∧ refKind ty = false ∧ ∀ x, (t = 0 ∨ x = 0 ∨ x = 1) → fits ty (vI x) = true := by
    match t, ht with
    | 0, _ => exact ⟨_, rfl, rfl, fun x _ => rfl⟩
    | 1, _ => exact ⟨_, rfl, rfl, fun x h => by rcases h with h | rfl | rfl <;> first | rfl | (exact absurd h (by decide))⟩
    | t + 2, h => omega
  obtain ⟨ty, hty, hprim, hft⟩ := hty
  rw [vR_pos hn0, vR_pos hn1]
  have hav : ∀ (N : Mm) (b j : Int), avx G N t b j = vI (N 1 b j) := fun N b j => by simp only [avx, ht, if_true]
  have hsum := sum_le st
  have hw : nativeFrameWords "java/lang/System" "arraycopy" 5 ≤ 20 := by decide
  have hcz := i32_clamp hz.1 (show z ≤ 2147483647 by omega)
  have hz0 : ¬ Int32.ofInt z < 0 := by
    intro q
    have q2 : Int32.ofInt z < Int32.ofInt 0 := q
    rw [i32_lt (by omega)] at q2
    omega
  have h00 : ¬ Int32.ofInt 0 < 0 := by decide
  have hc0 : (Int32.ofInt 0).toNatClampNeg = 0 := rfl
  intro T hT X
  obtain ⟨hak0, k0, hkk0, cm0, hcc0⟩ := (hK.2.1.2 t _ hty).1 (G 1 a0 0).toNat (fun j => avx G M t a0 (j : Int))
  obtain ⟨hak1, k1, hkk1, cm1, hcc1⟩ := (hK.2.1.2 t _ hty).1 (G 1 a 0).toNat (fun j => avx G M t a (j : Int))
  obtain ⟨vm', X', step⟩ := X.arraycopy hx hown (kw hK hl rfl) (kw hK (List.mem_of_getElem? (i := 653) (by decide +kernel)) rfl) (kw hK (List.mem_of_getElem? (i := 652) (by decide +kernel)) rfl) (kw hK (List.mem_of_getElem? (i := 67) (by decide +kernel)) rfl) (src := a0.toNat) (dst := a.toNat) (srcPos := Int32.ofInt 0) (destPos := Int32.ofInt 0) (n := Int32.ofInt z) (by rw [hT]; exact y3) (by rw [hT]; exact z3)
    (fun _ h => by cases h) (fun _ h => by cases h) (fun h => by cases h) (fun h => by cases h) hkk0 hkk1 hcc0 hcc1 (by simp [hprim]) h00 h00 hz0
    (by rw [natT _ h00, natT _ hz0, hcz, hc0, arrV_size]; omega)
    (by rw [natT _ h00, natT _ hz0, hcz, hc0, arrV_size]; omega)
    (fun vm₁ _ i hi => by
      rw [hcz] at hi
      have e : (arrV (cA t) (G 1 a0 0).toNat (fun j => avx G M t a0 (j : Int))).slots.getD ((Int32.ofInt 0).toNatClampNeg + i) .null = vI (M 1 a0 (i : Int)) := by
        rw [hc0, Nat.zero_add, Array.getD_eq_getD_getElem?, arrV_read _ _ (by omega), hav]
        rfl
      refine ⟨?_, ?_⟩
      · rw [e]
        exact hft _ (hfit.elim Or.inl fun h => Or.inr (h i (by omega) (by omega)))
      · rw [e]
        exact trivial)
    (g := F0 m pc ls (.int (Int32.ofInt z) :: .int (Int32.ofInt 0) :: .ref a.toNat :: .int (Int32.ofInt 0) :: .ref a0.toNat :: st)) rfl (by rw [g3.1]) (rest := st) rfl (by rw [hb]; exact d) hroom.1 (by show 2 * 0 + _ + _ ≤ _; have := hroom.2; omega)
  have e1 : copied (arrV (cA t) (G 1 a0 0).toNat (fun j => avx G M t a0 (j : Int))) (arrV (cA t) (G 1 a 0).toNat (fun j => avx G M t a (j : Int))) (Int32.ofInt 0) (Int32.ofInt 0) (Int32.ofInt z) = arrV (cA t) (G 1 a 0).toNat (fun j => avx G (cpM M a0 a z) t a (j : Int)) := by
    have := va_copied (fun x : Value => x) (cA t) (cA t) (n0 := (G 1 a0 0).toNat) (n1 := (G 1 a 0).toNat) (sp := (Int32.ofInt 0).toNatClampNeg) (dp := (Int32.ofInt 0).toNatClampNeg) (n := (Int32.ofInt z).toNatClampNeg) (fun j => avx G M t a0 (j : Int)) (fun j => avx G M t a (j : Int)) (by rw [hc0, hcz]; omega)
    refine this.trans ?_
    congr 1
    funext j
    rw [hc0, hcz]
    unfold va_cpy
    by_cases hj : 0 ≤ j ∧ j < 0 + z.toNat
    · rw [if_pos hj]
      dsimp only
      rw [hav, hav, cpM_in (by omega)]
      congr 2
      omega
    · rw [if_neg hj]
      dsimp only
      rw [hav, hav, cpM_out (by omega)]
  rw [e1] at X' step
  have hlt : a.toNat < H.size := (Array.getElem?_eq_some_iff.mp z3).1
  have oq : ∀ q : Nat, q ≠ a.toNat → (H.setIfInBounds a.toNat (arrV (cA t) (G 1 a 0).toNat (fun j => avx G (cpM M a0 a z) t a (j : Int))))[q]? = H[q]? := fun q hq => by simp [Array.getElem?_setIfInBounds, Ne.symm hq]
  have hheap : ((T.setVm vm').setCell a.toNat (arrV (cA t) (G 1 a 0).toNat (fun j => avx G (cpM M a0 a z) t a (j : Int)))).heap = H.setIfInBounds a.toNat (arrV (cA t) (G 1 a 0).toNat (fun j => avx G (cpM M a0 a z) t a (j : Int))) := by rw [← hT]; rfl
  obtain ⟨t2, a1, b1⟩ := kk _ rfl _ _ ls (g1.set (a := a) (by omega) (by simp) oq ⟨fun ci hc hk' => by omega, fun t' ht' hk' => by
      have : t' = t := by omega
      subst this
      exact ⟨z1, z2, by simp [Array.getElem?_setIfInBounds, hlt]⟩, fun hk' => by omega⟩ agr_cp rfl rfl) ⟨by simp; exact g2.1, fun q q1 q2 => by
      rw [oq q (by omega)]
      exact g2.2.1 q q1 q2, fun q hq => by
      rcases List.mem_append.mp hq with h | h
      · exact g2.2.2 q h
      · obtain ⟨y, -, hy⟩ := List.mem_map.mp h
        rw [← hy]
        show B0 ≤ a.toNat
        omega⟩ g3 _ hheap X'
  exact ⟨t2, step t2 a1, b1⟩
end Copy
/-- row i of an object's value replaced whole -/
def rup (L : Fn) (i : Int) (f : Int → Int) : Fn := fun i' t' => if i' = i then f t' else L i' t'
theorem rup_s (L : Fn) (i : Int) (f : Int → Int) (t : Int) : rup L i f i t = f t := by simp [rup]
theorem rup_n {L : Fn} {i : Int} {f : Int → Int} {i' t : Int} (h : i' ≠ i) : rup L i f i' t = L i' t := by simp [rup, h]
theorem OR.wc {K na ns len : Int} {G M M1 : Mm} {a b a0 : Int} {L : Fn} {f : Int → Int} (h : OR K na ns len G M a L) (i : Int) (hb : b = a + 1 + i ∧ 0 ≤ i ∧ i < na) (hs : ∀ t, 0 ≤ t → t < len → M 1 a0 t = f t) (hM : M1 = cpM M a0 b len) : OR K na ns len G M1 a (rup L i f) := by
  obtain ⟨rfl, h1, h2⟩ := hb
  subst hM
  refine ⟨h.1, h.2.1, fun i' t' q1 q2 q3 q4 => ?_, fun s q1 q2 => ?_⟩
  · by_cases e : i' = i
    · rw [e, cpM_in ⟨q3, q4⟩, rup_s]
      exact hs t' q3 q4
    · rw [cpM_out (by omega), rup_n e]
      exact h.2.2.1 i' t' q1 q2 q3 q4
  · rw [cpM_out (by omega), rup_n (by omega)]
    exact h.2.2.2 s q1 q2
theorem Ot.cp {lo hi a0 a n : Int} {M M' : Mm} (h : Ot lo hi M M') (ha : lo ≤ a ∧ a ≤ hi) : Ot lo hi M (cpM M' a0 a n) := fun b hb =>
  ⟨fun f' => (cpM_out (by omega)).trans ((h b hb).1 f'), fun j => (cpM_out (by omega)).trans ((h b hb).2 j)⟩
/-- Arrays.fill -/
def flM (M : Mm) (a n x : Int) : Mm := fun b p j => if b = 1 ∧ p = a ∧ 0 ≤ j ∧ j < n then x else M b p j
theorem flM_in {M : Mm} {a n x j : Int} (h : 0 ≤ j ∧ j < n) : flM M a n x 1 a j = x := by simp [flM, h]
theorem flM_out {M : Mm} {a n x b p j : Int} (h : ¬ (b = 1 ∧ p = a ∧ 0 ≤ j ∧ j < n)) : flM M a n x b p j = M b p j := by
  unfold flM
  rw [if_neg h]
theorem flM_0 {M : Mm} {a x : Int} : M = flM M a 0 x := by
  funext b p j
  rw [flM_out (by omega)]
theorem flM_1 {M : Mm} {a x i : Int} (h : 0 ≤ i) : mup (flM M a i x) 1 a i x = flM M a (i + 1) x := by
  funext b p j
  unfold mup flM
  by_cases h1 : b = 1 ∧ p = a ∧ j = i
  · rw [if_pos h1, if_pos (by omega)]
  · rw [if_neg h1]
    by_cases h2 : b = 1 ∧ p = a ∧ 0 ≤ j ∧ j < i
    · rw [if_pos h2, if_pos (by omega)]
    · rw [if_neg h2, if_neg (by omega)]
theorem Ot.fl {lo hi a n x : Int} {M M' : Mm} (h : Ot lo hi M M') (ha : lo ≤ a ∧ a ≤ hi) : Ot lo hi M (flM M' a n x) := fun b hb =>
  ⟨fun f' => (flM_out (by omega)).trans ((h b hb).1 f'), fun j => (flM_out (by omega)).trans ((h b hb).2 j)⟩
theorem OR.wf {K na ns len : Int} {G M M1 : Mm} {a b x : Int} {L : Fn} (h : OR K na ns len G M a L) (i : Int) (hb : b = a + 1 + i ∧ 0 ≤ i ∧ i < na) (hM : M1 = flM M b len x) : OR K na ns len G M1 a (rup L i (fun _ => x)) := by
  obtain ⟨rfl, h1, h2⟩ := hb
  subst hM
  refine ⟨h.1, h.2.1, fun i' t' q1 q2 q3 q4 => ?_, fun s q1 q2 => ?_⟩
  · by_cases e : i' = i
    · rw [e, flM_in ⟨q3, q4⟩, rup_s]
    · rw [flM_out (by omega), rup_n e]
      exact h.2.2.1 i' t' q1 q2 q3 q4
  · rw [flM_out (by omega), rup_n (by omega)]
    exact h.2.2.2 s q1 q2
