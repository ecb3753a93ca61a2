/-! ===== more rows for the law ===== -/
theorem RC.og {G M G1 M1 : Mm} {B : Int} {A : An} (h : RC G M B A) (ag : ∀ b, B ≤ b → b ≤ B + 201 → agr G M G1 M1 b) : RC G1 M1 B A := by
  obtain ⟨⟨a1, a2, a3, a4, a5, a6, a7, a8⟩, b1, b2, b3, b4, b5, b6, b7⟩ := h
  have aB := ag B (by omega) (by omega)
  refine ⟨⟨aB.1.trans a1, by rw [aB.2.2.1, aB.2.2.1, aB.2.2.1, aB.2.2.1, aB.2.2.1, aB.2.2.1]; exact a2, AR.o a3 (ag _ (by omega) (by omega)), AR.o a4 (ag _ (by omega) (by omega)), AR.o a5 (ag _ (by omega) (by omega)), fun f q1 q2 => by rw [(ag _ (by omega) (by omega)).2.2.2.1]; exact a6 f q1 q2, fun f q1 q2 => by rw [(ag _ (by omega) (by omega)).2.2.2.1]; exact a7 f q1 q2, fun f q1 q2 => by rw [(ag _ (by omega) (by omega)).2.2.2.1]; exact a8 f q1 q2⟩, fun s q1 q2 => by rw [aB.2.2.2.2.1]; exact b1 s q1 q2, b2.o (by omega) (fun b _ _ => ag b (by omega) (by omega)), ?_, fun f q1 q2 => (b4 f q1 q2).o (by omega) (fun b _ _ => ag b (by omega) (by omega)), fun t q1 q2 => (b5 t q1 q2).o (by omega) (fun b _ _ => ag b (by omega) (by omega)), fun l q1 q2 => (b6 l q1 q2).o (by omega) (fun b _ _ => ag b (by omega) (by omega)), ?_⟩
  · obtain ⟨Y, hY⟩ := b3; exact ⟨Y, hY.o (by omega) (fun b _ _ => ag b (by omega) (by omega))⟩
  · obtain ⟨Z, hZ⟩ := b7; exact ⟨Z, hZ.o (by omega) (fun b _ _ => ag b (by omega) (by omega))⟩
theorem pw_cVD {E : Ev} {cc : ByteArray} {nL : Nat} {own : String} {tb : List ExceptionTableEntry} {R0 : Room} {G M : Mm} {k n pc : Nat} {ll : List LE} {st : List Value} (C : Cx E cc nL own tb R0) {X : Xv} (hX : E.1 = X) {idx : Nat} {y : MethodName} {b : ByteArray} {nL' np fr lo mc ms : Nat} {ret : Option FieldType} {a K : Int} {As st0 : List Value} {G1 M1 : Mm} {x : UInt64} (d : decode cc pc = .ok (.invokevirtual idx, 3)) (hl : ML own idx y) (hy : MV y b nL' ret np) (hM : CT X y b nL' ret fr lo mc ms (vR a :: As) G M (PD G1 M1 x)) (hcl : KC K y.cls) (hk : G 0 a 0 = K) (hst : st0 = As.reverse ++ vR a :: st) (hn : As.length = np) (hroom : fr + 1 ≤ R0.frames ∧ 8 + (nL' + 11) + lo ≤ R0.locals) (hW : st.length ≤ 4) (hf : k + mc ≤ R0.cells ∧ n + ms ≤ R0.slots) (kk : PW E G1 M1 (k + mc) (n + ms) (pc + 3) ll (.double x :: st)) : PW E G M k n pc ll st0 := by
  refine pw_callV C hX d hl hy hM hcl hk hst hn hroom hW hf ?_
  intro r G' M' hq
  obtain ⟨rfl, rfl, rfl⟩ := hq
  exact kk
theorem hv_bd2 {A : An} {s set z : Int} : 0 ≤ hv A s set z ∧ hv A s set z ≤ 4 := hv_bd
theorem hv_step1 {A : An} {s set z f : Int} (hf : 0 ≤ f ∧ f < 4) (hn : ¬ (ins set f ∧ vtf A z (s * 4 + f) = -1)) : f ≤ hv A s set z ↔ f + 1 ≤ hv A s set z := by
  have sp := fnd_spec (p := fun f => ins set f ∧ vtf A z (s * 4 + f) = -1) (lo := 0) (hi := 4) (by omega)
  have e : hv A s set z = fnd (fun f => ins set f ∧ vtf A z (s * 4 + f) = -1) 0 4 := rfl
  rw [← e] at sp
  refine ⟨fun q => ?_, fun q => by omega⟩
  apply Classical.byContradiction
  intro w
  have ef : hv A s set z = f := by omega
  have p := sp.2.2.2 (by omega)
  rw [ef] at p
  exact hn p
theorem hv_step0 {A : An} {s set z f : Int} (hf : 0 ≤ f ∧ f < 4) (hp : ins set f ∧ vtf A z (s * 4 + f) = -1) : ¬ f + 1 ≤ hv A s set z := by
  have sp := fnd_spec (p := fun f => ins set f ∧ vtf A z (s * 4 + f) = -1) (lo := 0) (hi := 4) (by omega)
  have e : hv A s set z = fnd (fun f => ins set f ∧ vtf A z (s * 4 + f) = -1) 0 4 := rfl
  rw [← e] at sp
  intro q
  exact sp.2.2.1 f hf.1 (by omega) hp
