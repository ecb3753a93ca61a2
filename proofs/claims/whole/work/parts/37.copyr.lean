/-! ===== System.arraycopy of references; a story's array into a list ===== -/
section CopyR
variable {E : Ev} {cc : ByteArray} {nL : Nat} {own : String} {tb : List ExceptionTableEntry} {R0 : Room} {G M : Mm} {k n pc : Nat} {ll : List LE} {st : List Value}
theorem OkO.cell {D : va_G} {cA : Nat → ClassId} {B0 : Nat} {l : Launch} {s : State} {args : Array Value} {H : Heap} (hK : Ks (l, D, cA, B0) s) (h : HR D cA B0 G M H) {v : Int} (hv : OkO G v) {comp : ClassId} (hc : s.vm.findClass "java/lang/Object" = some comp) :
    0 ≤ v ∧ ∃ cv : Cell, H[v.toNat]? = some cv ∧ (∀ k, cv.vm ≠ .statics k) ∧ (∃ k, s.vm.classes[cv.cls]? = some k) ∧ s.vm.assignable cv.cls comp = true := by
  rcases hv.2 with ⟨Cv, hkv, hcv⟩ | hv
  · have hnv : 0 ≤ v := h.nn (by obtain ⟨ci, T, N, e, -⟩ := hkv; omega)
    obtain ⟨cv, g1, g2, g3⟩ := h.recv hK hkv rfl
    obtain ⟨kv, hkv', -⟩ := Vm.findClass_spec g3
    obtain ⟨c1, c2, f1, f2, f3⟩ := Cond.castable_spec (kw (args := args) hK hcv rfl)
    cases g3.symm.trans f1
    cases hc.symm.trans f2
    exact ⟨hnv, cv, g1, fun k e => (by rw [e] at g2; cases g2), ⟨kv, hkv'⟩, f3⟩
  · have hnv : 0 ≤ v := h.nn (by omega)
    obtain ⟨z1, z2, z3⟩ := h.ar (a := v) (t := 6) (by omega) hv
    obtain ⟨-, kA, comp', k1, k2, k3, k4⟩ := hK.2.1.2 6 _ rfl
    obtain ⟨c1, c2, f1, f2, f3⟩ := Cond.castable_spec (kw (args := args) hK (List.mem_of_getElem? (i := 1528) (by decide +kernel) : Cond.castable "[LSlugwireModel$Fact;" "java/lang/Object" ∈ lw_tbl) rfl)
    have e1 : c1 = cA 6 := Option.some.inj (f1.symm.trans k4)
    cases hc.symm.trans f2
    subst e1
    exact ⟨hnv, _, z3, (fun k e => by cases e), ⟨kA, k1⟩, f3⟩
theorem pw_aastO (C : Cx E cc nL own tb R0) {a i v : Int} (d : decode cc pc = .ok (.aastore, 1)) (hk : G 0 a 0 = 107) (hi : 0 ≤ i ∧ i < G 1 a 0) (hv : OkO G v) (kk : PW E (mup G 3 a i v) M k n (pc + 1) ll st) : PW E G M k n pc ll (vR v :: vI i :: vR a :: st) := by
  obtain ⟨⟨l, D, cA, B0⟩, p, e, R, s, m, args, below, meth, c, Q⟩ := E
  obtain ⟨hx, hb, hml, hown, hlocks, htb, hR, hK⟩ := C
  intro H locs ls h1 h2 h3
  have hnn : 0 ≤ a := h1.nn (by omega)
  have hlo : (B0 : Int) ≤ a := h1.lo (by omega) (by omega)
  have hk7 : G 0 a 0 = ((7 : Nat) : Int) + 100 := hk
  obtain ⟨z1, z2, z3⟩ := h1.ar (a := a) (t := 7) (by omega) hk7
  obtain ⟨-, kA, comp, k1, k2, k3, -⟩ := hK.2.1.2 7 _ rfl
  obtain ⟨hnv, cv, g1, g2, ⟨kv, hkv'⟩, hasg⟩ := hv.cell (args := args) hK h1 k3
  obtain ⟨kcomp, hkc, -⟩ := Vm.findClass_spec k3
  have hin := i32_vin hi.1 (n := (G 1 a 0).toNat) (by omega) (by omega)
  rw [vR_pos hnn, vR_pos hnv]
  refine W.aast hx hb z3 (fun q h => by cases h) (fun h => by cases h) k1 k2 rfl hkc ⟨fun q => hin (Or.inl q), by rw [arrV_size, i32_clamp hi.1 (by omega)]; omega⟩ g1 g2 hkv' hasg rfl rfl d fun H1 e1 e2 e3 => ?_
  rw [i32_clamp hi.1 (by omega)] at e1
  have a1 : ¬ 7 < 2 := by omega
  have a2 : ¬ 7 = 2 := by omega
  exact kk H1 _ ls (ast_ok h1 (t := 7) (by omega) hk7 hi e1 e2 e3 (by simp only [avx, a1, a2, if_false]; rw [mup_s, vR_pos hnv]) (fun j hj => by simp only [avx, a1, a2, if_false]; rw [mup_n (by omega)]) agr_G3 (mup_n (by omega)) (mup_n (by omega)) (mup_n (by omega))) (h2.put e2 e3 (show B0 ≤ a.toNat by omega)) h3
theorem pw_copyR (C : Cx E cc nL own tb R0) {a0 a z : Int} {idx : Nat} (d : decode cc pc = .ok (.invokestatic idx, 3)) (hl : Cond.methodLink own idx arraycopyName ∈ lw_tbl) (hk0 : G 0 a0 0 = 107 ∧ z ≤ G 1 a0 0 ∨ z = 0 ∧ (G 0 a0 0 = 98 ∨ G 0 a0 0 = 99)) (hk : G 0 a 0 = 107) (hz : 0 ≤ z ∧ z ≤ G 1 a 0)
    (hfit : ∀ j, 0 ≤ j → j < z → OkO G (G 3 a0 j)) (hroom : 1 ≤ R0.frames ∧ 2 * st.length + 40 ≤ R0.locals) (kk : ∀ G1, G1 = cpG G a0 a z → PW E G1 M k n (pc + 3) ll st) : PW E G M k n pc ll (vI z :: vI 0 :: vR a :: vI 0 :: vR a0 :: st) := by
  obtain ⟨⟨l, D, cA, B0⟩, p, e, R, s, m, args, below, meth, c, Q⟩ := E
  obtain ⟨hx, hb, hml, hown, hlocks, htb, hR, hK⟩ := C
  subst hR
  intro H locs ls g1 g2 g3
  have hn0 : 0 ≤ a0 := g1.nn (by omega)
  have hn1 : 0 ≤ a := g1.nn (by omega)
  have hlo : (B0 : Int) ≤ a := g1.lo (by omega) (by omega)
  have hk7 : G 0 a 0 = ((7 : Nat) : Int) + 100 := hk
  obtain ⟨z1, z2, z3⟩ := g1.ar (a := a) (t := 7) (by omega) hk7
  obtain ⟨-, kA, comp, k1, k2, k3, -⟩ := hK.2.1.2 7 _ rfl
  obtain ⟨kcomp, hkc, -⟩ := Vm.findClass_spec k3
  have hsrc : ∃ (cs : Cell) (N : Nat) (f : Nat → Value), H[a0.toNat]? = some cs ∧ (cs.cls = cA 7 ∧ cs.slots = (arrV (cA 7) N f).slots ∧ (∀ k, cs.vm ≠ .statics k) ∧ cs.vm ≠ .unknown) ∧ z.toNat ≤ N ∧ ∀ j : Nat, j < z.toNat → f j = vR (G 3 a0 (j : Int)) := by
    rcases hk0 with ⟨q1, q2⟩ | ⟨q1, q2⟩
    · obtain ⟨-, -, y3⟩ := g1.ar (a := a0) (t := 7) (by omega) q1
      exact ⟨_, (G 1 a0 0).toNat, (fun j => avx G M 7 a0 (j : Int)), y3, ⟨rfl, rfl, (fun _ h => by cases h), (fun h => by cases h)⟩, by omega, fun j _ => rfl⟩
    · obtain ⟨-, -, -, -, h9⟩ := g1.1 a0 (by omega)
      obtain ⟨cl, w1, w2, w3, w4, w5⟩ := h9 q2
      exact ⟨cl, 0, (fun _ => .null), w1, ⟨w2, (Array.eq_empty_of_size_eq_zero w3).trans (Array.eq_empty_of_size_eq_zero (arrV_size _ _ _)).symm, (fun k e => by rw [e] at w4; cases w4), w5⟩, by omega, fun j hj => by omega⟩
  obtain ⟨cs, N, f, y3, ⟨y4, y5, y6, y7⟩, hzN, hfz⟩ := hsrc
  rw [vR_pos hn0, vR_pos hn1]
  have hsum := sum_le st
  have hw : nativeFrameWords "java/lang/System" "arraycopy" 5 ≤ 20 := by decide
  have hcz := i32_clamp hz.1 (show z ≤ 2147483647 by omega)
  have hz0 : ¬ Int32.ofInt z < 0 := by
    intro q
    have q2 : Int32.ofInt z < Int32.ofInt 0 := q
    rw [i32_lt (by omega)] at q2
    omega
  have h00 : ¬ Int32.ofInt 0 < 0 := by decide
  have hc0 : (Int32.ofInt 0).toNatClampNeg = 0 := rfl
  intro T hT X
  obtain ⟨vm', X', step⟩ := X.arraycopy hx hown (kw hK hl rfl) (kw hK (List.mem_of_getElem? (i := 631) (by decide +kernel)) rfl) (kw hK (List.mem_of_getElem? (i := 630) (by decide +kernel)) rfl) (kw hK (List.mem_of_getElem? (i := 114) (by decide +kernel)) rfl) (src := a0.toNat) (dst := a.toNat) (srcPos := Int32.ofInt 0) (destPos := Int32.ofInt 0) (n := Int32.ofInt z) (by rw [hT]; exact y3) (by rw [hT]; exact z3)
    y6 (fun _ h => by cases h) y7 (fun h => by cases h) (by rw [y4]; exact k1) k1 k2 k2 rfl h00 h00 hz0
    (by rw [natT _ h00, natT _ hz0, hcz, hc0, y5, arrV_size]; omega)
    (by rw [natT _ h00, natT _ hz0, hcz, hc0, arrV_size]; omega)
    (fun vm₁ hal i hi => by
      rw [hcz] at hi
      have e : cs.slots.getD ((Int32.ofInt 0).toNatClampNeg + i) .null = vR (G 3 a0 (i : Int)) := by
        rw [y5, hc0, Nat.zero_add, Array.getD_eq_getD_getElem?, arrV_read _ _ (by omega), hfz i hi]
        rfl
      obtain ⟨hnv, cv, b1, b2, ⟨kv, b3⟩, b4⟩ := (hfit i (by omega) (by omega)).cell (args := args) hK g1 k3
      obtain ⟨kv', b5, -⟩ := hal.2.2 _ _ b3
      obtain ⟨kc', b6, -⟩ := hal.2.2 _ _ hkc
      rw [e, vR_pos hnv]
      exact ⟨rfl, cv, by show T.heap[_]? = _; rw [hT]; exact b1, b2, ⟨kv', b5⟩, ⟨kc', b6⟩, by show vm₁.assignable _ _ = true; rw [hal.assignable]; exact b4⟩)
    (g := F0 m pc ls (.int (Int32.ofInt z) :: .int (Int32.ofInt 0) :: .ref a.toNat :: .int (Int32.ofInt 0) :: .ref a0.toNat :: st)) rfl (by rw [g3.1]) (rest := st) rfl (by rw [hb]; exact d) hroom.1 (by show 2 * 0 + _ + _ ≤ _; have := hroom.2; omega)
  have e1 : copied cs (arrV (cA 7) (G 1 a 0).toNat (fun j => avx G M 7 a (j : Int))) (Int32.ofInt 0) (Int32.ofInt 0) (Int32.ofInt z) = arrV (cA 7) (G 1 a 0).toNat (fun j => avx (cpG G a0 a z) M 7 a (j : Int)) := by
    have := va_copiedX (fun x : Value => x) cs (cA 7) (n0 := N) (n1 := (G 1 a 0).toNat) (sp := (Int32.ofInt 0).toNatClampNeg) (dp := (Int32.ofInt 0).toNatClampNeg) (n := (Int32.ofInt z).toNatClampNeg) f (fun j => avx G M 7 a (j : Int)) (fun j hj => by rw [y5]; exact arrV_read _ _ hj) (by rw [hc0, hcz]; omega)
    refine this.trans ?_
    congr 1
    funext j
    rw [hc0, hcz]
    unfold va_cpy
    by_cases hj : 0 ≤ j ∧ j < 0 + z.toNat
    · rw [if_pos hj]
      rw [show 0 + (j - 0) = j by omega, hfz j (by omega)]
      show _ = vR (cpG G a0 a z 3 a (j : Int))
      rw [cpG_in (by omega)]
    · rw [if_neg hj]
      show vR (G 3 a (j : Int)) = vR (cpG G a0 a z 3 a (j : Int))
      rw [cpG_out (by omega)]
  rw [e1] at X' step
  have hlt : a.toNat < H.size := (Array.getElem?_eq_some_iff.mp z3).1
  have oq : ∀ q : Nat, q ≠ a.toNat → (H.setIfInBounds a.toNat (arrV (cA 7) (G 1 a 0).toNat (fun j => avx (cpG G a0 a z) M 7 a (j : Int))))[q]? = H[q]? := fun q hq => by simp [Array.getElem?_setIfInBounds, Ne.symm hq]
  have hheap : ((T.setVm vm').setCell a.toNat (arrV (cA 7) (G 1 a 0).toNat (fun j => avx (cpG G a0 a z) M 7 a (j : Int)))).heap = H.setIfInBounds a.toNat (arrV (cA 7) (G 1 a 0).toNat (fun j => avx (cpG G a0 a z) M 7 a (j : Int))) := by rw [← hT]; rfl
  have ek : cpG G a0 a z 0 a 0 = G 0 a 0 := cpG_out (by omega)
  have el : cpG G a0 a z 1 a 0 = G 1 a 0 := cpG_out (by omega)
  obtain ⟨t2, a1, b1⟩ := kk _ rfl _ _ ls (g1.set (a := a) (by omega) (by simp) oq ⟨fun ci hc hk' => by omega, fun t' ht' hk' => by
      have : t' = 7 := by omega
      subst this
      rw [el]
      exact ⟨z1, z2, by simp [Array.getElem?_setIfInBounds, hlt]⟩, fun hk' => by omega⟩ agr_cpG ek (cpG_out (by omega))) ⟨by simp; exact g2.1, fun q q1 q2 => by
      rw [oq q (by omega)]
      exact g2.2.1 q q1 q2, fun q hq => by
      rcases List.mem_append.mp hq with h | h
      · exact g2.2.2 q h
      · obtain ⟨y, -, hy⟩ := List.mem_map.mp h
        rw [← hy]
        show B0 ≤ a.toNat
        omega⟩ g3 _ hheap X'
  exact ⟨t2, step t2 a1, b1⟩
end CopyR
