/-! ===== the model's writers: sources, stories, lines, what is said, rivals, lines that are down ===== -/
section Wide
variable {E : Ev} {cc : ByteArray} {nL : Nat} {own : String} {tb : List ExceptionTableEntry} {R0 : Room} {G M : Mm} {k n pc : Nat} {ll : List LE} {st : List Value}
theorem pw_callVw (C : Cx E cc nL own tb R0) {X : Xv} (hX : E.1 = X) {idx : Nat} {y : MethodName} {b : ByteArray} {nL' np fr lo mc ms : Nat} {ret : Option FieldType} {a K : Int} {As st0 : List Value} {Post : Option Value → Mm → Mm → Prop} (d : decode cc pc = .ok (.invokevirtual idx, 3)) (hl : ML own idx y) (hy : MV y b nL' ret np) (hM : CT X y b nL' ret fr lo mc ms (vR a :: As) G M Post) (hcl : KC K y.cls) (hk : G 0 a 0 = K)
    (hst : st0 = As.reverse ++ vR a :: st) (hn : As.length = np) (hroom : fr + 1 ≤ R0.frames ∧ 8 + (nL' + 11) + lo ≤ R0.locals) (hW : (st.map fun v => v.category).sum ≤ 8) (hf : k + mc ≤ R0.cells ∧ n + ms ≤ R0.slots)
    (kk : ∀ r G' M', Post r G' M' → PW E G' M' (k + mc) (n + ms) (pc + 3) ll (r.toList ++ st)) : PW E G M k n pc ll st0 := by
  obtain ⟨⟨l, D, cA, B0⟩, p, e, R, s, m, args, below, meth, c, Q⟩ := E
  obtain ⟨hx, hb, hml, hown, hlocks, htb, hR, hK⟩ := C
  subst hX; subst hR; subst hst
  intro H locs ls h1 h2 h3
  have hnn : 0 ≤ a := h1.nn (by obtain ⟨ci, T, N, e, -⟩ := hcl; omega)
  have hrc := h1.recv hK hcl hk
  have hpa := Pn.at (av := vR a :: As) hK h1 h2
  rw [vR_pos hnn] at hM hpa ⊢
  obtain ⟨w1, w2, w3, w4, w5, w6⟩ := hy
  have hws : ∀ w ∈ [Cond.code y b nL' ret], ∀ (a' : Array Value) (U : State), s.WarmedH U.vm → w.before a' U = true := fun w hw a' U hW => by
    cases List.mem_singleton.mp hw
    exact okw_warm (A := args) hW rfl (kw hK w3 rfl)
  refine run_fin (av := (Value.ref a.toNat :: As).toArray) ?_ h2 h3 kk
  rcases hl with h | ⟨host, h⟩
  · exact va_runV (rest := st) ⟨hx, hb, hml, hown, fun w hw => kw hK (ho := by exact (List.mem_filter.mp hw).2) (List.mem_filter.mp hw).1⟩ (Ts := lw_tbl.filter okw) hM ⟨⟨rfl, rfl, hroom.1, hroom.2, hws, List.mem_singleton.mpr rfl, kw hK w3 rfl, kw hK w4 rfl, w5, np_of w6, kw hK h rfl⟩, kw hK w1 rfl, kw hK w2 rfl⟩ ⟨Pn.blind, hrc, hpa⟩ rfl hn (h3.1.trans hml) rfl (lv_room hW) d hf
  · exact va_runVN (rest := st) ⟨hx, hb, hml, hown, fun w hw => kw hK (ho := by exact (List.mem_filter.mp hw).2) (List.mem_filter.mp hw).1⟩ (Ts := lw_tbl.filter okw) hM ⟨⟨⟨rfl, rfl, hroom.1, hroom.2, hws, List.mem_singleton.mpr rfl⟩, kw hK w3 rfl, kw hK w4 rfl, w5, np_of w6, kw hK h rfl⟩, kw hK w1 rfl, kw hK w2 rfl⟩ ⟨Pn.blind, hrc, hpa⟩ rfl hn (h3.1.trans hml) rfl (lv_room hW) d hf
theorem pw_callSw (C : Cx E cc nL own tb R0) {X : Xv} (hX : E.1 = X) {idx : Nat} {y : MethodName} {b : ByteArray} {nL' np fr lo mc ms : Nat} {ret : Option FieldType} {As st0 : List Value} {Post : Option Value → Mm → Mm → Prop} (d : decode cc pc = .ok (.invokestatic idx, 3)) (hl : ML own idx y) (hy : MS y b nL' ret np) (hM : CT X y b nL' ret fr lo mc ms As G M Post)
    (hst : st0 = As.reverse ++ st) (hn : As.length = np) (hroom : fr + 1 ≤ R0.frames ∧ 8 + (nL' + 11) + lo ≤ R0.locals) (hW : (st.map fun v => v.category).sum ≤ 8) (hf : k + mc ≤ R0.cells ∧ n + ms ≤ R0.slots)
    (kk : ∀ r G' M', Post r G' M' → PW E G' M' (k + mc) (n + ms) (pc + 3) ll (r.toList ++ st)) : PW E G M k n pc ll st0 := by
  obtain ⟨⟨l, D, cA, B0⟩, p, e, R, s, m, args, below, meth, c, Q⟩ := E
  obtain ⟨hx, hb, hml, hown, hlocks, htb, hR, hK⟩ := C
  subst hX; subst hR; subst hst
  intro H locs ls h1 h2 h3
  have hpa := Pn.at (av := As) hK h1 h2
  obtain ⟨w1, w3, w4, w5, w6⟩ := hy
  have hws : ∀ w ∈ [Cond.code y b nL' ret], ∀ (a' : Array Value) (U : State), s.WarmedH U.vm → w.before a' U = true := fun w hw a' U hW => by
    cases List.mem_singleton.mp hw
    exact okw_warm (A := args) hW rfl (kw hK w3 rfl)
  refine run_fin (av := As.toArray) ?_ h2 h3 kk
  rcases hl with h | ⟨host, h⟩
  · exact va_runS (rest := st) ⟨hx, hb, hml, hown, fun w hw => kw hK (ho := by exact (List.mem_filter.mp hw).2) (List.mem_filter.mp hw).1⟩ (Ts := lw_tbl.filter okw) hM ⟨⟨rfl, rfl, hroom.1, hroom.2, hws, List.mem_singleton.mpr rfl, kw hK w3 rfl, kw hK w4 rfl, w5, np_of w6, kw hK h rfl⟩, kw hK w1 rfl⟩ ⟨Pn.blind, hpa⟩ rfl hn (h3.1.trans hml) rfl (lv_room hW) d hf
  · exact va_runSN (rest := st) ⟨hx, hb, hml, hown, fun w hw => kw hK (ho := by exact (List.mem_filter.mp hw).2) (List.mem_filter.mp hw).1⟩ (Ts := lw_tbl.filter okw) hM ⟨⟨⟨rfl, rfl, hroom.1, hroom.2, hws, List.mem_singleton.mpr rfl⟩, kw hK w3 rfl, kw hK w4 rfl, w5, np_of w6, kw hK h rfl⟩, kw hK w1 rfl, trivial⟩ ⟨Pn.blind, hpa⟩ rfl hn (h3.1.trans hml) rfl (lv_room hW) d hf
theorem pw_callIw (C : Cx E cc nL own tb R0) {X : Xv} (hX : E.1 = X) {idx : Nat} {y : MethodName} {b : ByteArray} {nL' np fr lo mc ms : Nat} {a : Int} {As st0 : List Value} {Post : Option Value → Mm → Mm → Prop} (d : decode cc pc = .ok (.invokespecial idx, 3)) (hl : ML own idx y) (hy : MI y b nL' np) (hM : CT X y b nL' none fr lo mc ms (vR a :: As) G M Post) (hnn : 0 ≤ a)
    (hst : st0 = As.reverse ++ vR a :: st) (hn : As.length = np) (hroom : fr + 1 ≤ R0.frames ∧ 8 + (nL' + 11) + lo ≤ R0.locals) (hW : (st.map fun v => v.category).sum ≤ 8) (hf : k + mc ≤ R0.cells ∧ n + ms ≤ R0.slots)
    (kk : ∀ r G' M', Post r G' M' → PW E G' M' (k + mc) (n + ms) (pc + 3) ll (r.toList ++ st)) : PW E G M k n pc ll st0 := by
  obtain ⟨⟨l, D, cA, B0⟩, p, e, R, s, m, args, below, meth, c, Q⟩ := E
  obtain ⟨hx, hb, hml, hown, hlocks, htb, hR, hK⟩ := C
  subst hX; subst hR; subst hst
  intro H locs ls h1 h2 h3
  have hpa := Pn.at (av := vR a :: As) hK h1 h2
  rw [vR_pos hnn] at hM hpa ⊢
  obtain ⟨w1, w2, w3, w4, w5, w6⟩ := hy
  have hws : ∀ w ∈ [Cond.code y b nL' none], ∀ (a' : Array Value) (U : State), s.WarmedH U.vm → w.before a' U = true := fun w hw a' U hW => by
    cases List.mem_singleton.mp hw
    exact okw_warm (A := args) hW rfl (kw hK w3 rfl)
  refine run_fin (av := (Value.ref a.toNat :: As).toArray) ?_ h2 h3 kk
  rcases hl with h | ⟨host, h⟩
  · exact va_runI (rest := st) ⟨hx, hb, hml, hown, fun w hw => kw hK (ho := by exact (List.mem_filter.mp hw).2) (List.mem_filter.mp hw).1⟩ (Ts := lw_tbl.filter okw) hM ⟨⟨rfl, rfl, hroom.1, hroom.2, hws, List.mem_singleton.mpr rfl, kw hK w3 rfl, kw hK w4 rfl, w5, np_of w6, kw hK h rfl⟩, w2, kw hK w1 rfl⟩ ⟨Pn.blind, hpa⟩ rfl hn (h3.1.trans hml) rfl (lv_room hW) d hf
  · exact va_runIN (rest := st) ⟨hx, hb, hml, hown, fun w hw => kw hK (ho := by exact (List.mem_filter.mp hw).2) (List.mem_filter.mp hw).1⟩ (Ts := lw_tbl.filter okw) hM ⟨⟨⟨rfl, rfl, hroom.1, hroom.2, hws, List.mem_singleton.mpr rfl⟩, kw hK w3 rfl, kw hK w4 rfl, w5, np_of w6, kw hK h rfl⟩, w2, kw hK w1 rfl⟩ ⟨Pn.blind, hpa⟩ rfl hn (h3.1.trans hml) rfl (lv_room hW) d hf
theorem pw_cVEw (C : Cx E cc nL own tb R0) {X : Xv} (hX : E.1 = X) {idx : Nat} {y : MethodName} {b : ByteArray} {nL' np fr lo mc ms : Nat} {ret : Option FieldType} {a K : Int} {As st0 : List Value} {G1 M1 : Mm} {x : Int} (d : decode cc pc = .ok (.invokevirtual idx, 3)) (hl : ML own idx y) (hy : MV y b nL' ret np) (hM : CT X y b nL' ret fr lo mc ms (vR a :: As) G M (PE G1 M1 x)) (hcl : KC K y.cls) (hk : G 0 a 0 = K) (hst : st0 = As.reverse ++ vR a :: st) (hn : As.length = np) (hroom : fr + 1 ≤ R0.frames ∧ 8 + (nL' + 11) + lo ≤ R0.locals) (hW : (st.map fun v => v.category).sum ≤ 8) (hf : k + mc ≤ R0.cells ∧ n + ms ≤ R0.slots) (kk : PW E G1 M1 (k + mc) (n + ms) (pc + 3) ll (vI x :: st)) : PW E G M k n pc ll st0 := by
  refine pw_callVw C hX d hl hy hM hcl hk hst hn hroom hW hf ?_
  intro r G' M' hq; obtain ⟨rfl, rfl, rfl⟩ := hq
  exact kk
theorem pw_cVRw (C : Cx E cc nL own tb R0) {X : Xv} (hX : E.1 = X) {idx : Nat} {y : MethodName} {b : ByteArray} {nL' np fr lo mc ms : Nat} {ret : Option FieldType} {a K : Int} {As st0 : List Value} {G1 M1 : Mm} {x : Int} (d : decode cc pc = .ok (.invokevirtual idx, 3)) (hl : ML own idx y) (hy : MV y b nL' ret np) (hM : CT X y b nL' ret fr lo mc ms (vR a :: As) G M (PR G1 M1 x)) (hcl : KC K y.cls) (hk : G 0 a 0 = K) (hst : st0 = As.reverse ++ vR a :: st) (hn : As.length = np) (hroom : fr + 1 ≤ R0.frames ∧ 8 + (nL' + 11) + lo ≤ R0.locals) (hW : (st.map fun v => v.category).sum ≤ 8) (hf : k + mc ≤ R0.cells ∧ n + ms ≤ R0.slots) (kk : PW E G1 M1 (k + mc) (n + ms) (pc + 3) ll (vR x :: st)) : PW E G M k n pc ll st0 := by
  refine pw_callVw C hX d hl hy hM hcl hk hst hn hroom hW hf ?_
  intro r G' M' hq; obtain ⟨rfl, rfl, rfl⟩ := hq
  exact kk
theorem pw_cSEw (C : Cx E cc nL own tb R0) {X : Xv} (hX : E.1 = X) {idx : Nat} {y : MethodName} {b : ByteArray} {nL' np fr lo mc ms : Nat} {ret : Option FieldType} {As st0 : List Value} {G1 M1 : Mm} {x : Int} (d : decode cc pc = .ok (.invokestatic idx, 3)) (hl : ML own idx y) (hy : MS y b nL' ret np) (hM : CT X y b nL' ret fr lo mc ms As G M (PE G1 M1 x)) (hst : st0 = As.reverse ++ st) (hn : As.length = np) (hroom : fr + 1 ≤ R0.frames ∧ 8 + (nL' + 11) + lo ≤ R0.locals) (hW : (st.map fun v => v.category).sum ≤ 8) (hf : k + mc ≤ R0.cells ∧ n + ms ≤ R0.slots) (kk : PW E G1 M1 (k + mc) (n + ms) (pc + 3) ll (vI x :: st)) : PW E G M k n pc ll st0 := by
  refine pw_callSw C hX d hl hy hM hst hn hroom hW hf ?_
  intro r G' M' hq; obtain ⟨rfl, rfl, rfl⟩ := hq
  exact kk
theorem pw_cIUw (C : Cx E cc nL own tb R0) {X : Xv} (hX : E.1 = X) {idx : Nat} {y : MethodName} {b : ByteArray} {nL' np fr lo mc ms : Nat} {a : Int} {As st0 : List Value} {P : Mm → Mm → Prop} (d : decode cc pc = .ok (.invokespecial idx, 3)) (hl : ML own idx y) (hy : MI y b nL' np) (hM : CT X y b nL' none fr lo mc ms (vR a :: As) G M (PU P)) (hnn : 0 ≤ a) (hst : st0 = As.reverse ++ vR a :: st) (hn : As.length = np) (hroom : fr + 1 ≤ R0.frames ∧ 8 + (nL' + 11) + lo ≤ R0.locals) (hW : (st.map fun v => v.category).sum ≤ 8) (hf : k + mc ≤ R0.cells ∧ n + ms ≤ R0.slots) (kk : ∀ G1 M1, P G1 M1 → PW E G1 M1 (k + mc) (n + ms) (pc + 3) ll st) : PW E G M k n pc ll st0 := by
  refine pw_callIw C hX d hl hy hM hnn hst hn hroom hW hf ?_
  intro r G' M' hq; obtain ⟨rfl, h⟩ := hq
  exact kk G' M' h
end Wide
theorem cat5 {a b c d e : Value} (h1 : a.category = 1) (h2 : b.category = 1) (h3 : c.category = 1) (h4 : d.category = 1) (h5 : e.category = 1) : ([a, b, c, d, e].map fun v => v.category).sum ≤ 8 := by
  simp [h1, h2, h3, h4, h5]
theorem cat6 {a b c d e f : Value} (h1 : a.category = 1) (h2 : b.category = 1) (h3 : c.category = 1) (h4 : d.category = 1) (h5 : e.category = 1) (h6 : f.category = 1) : ([a, b, c, d, e, f].map fun v => v.category).sum ≤ 8 := by
  simp [h1, h2, h3, h4, h5, h6]
theorem MFa.sv {G M : Mm} {a j v : Int} {F S : Fn} (h : MFa G M a F) : MFa G (mup M 1 (a + 1) j v) a (setl S (lup F 0 j v)) := by
  obtain ⟨a1, a2, a3, a4, a5⟩ := h
  refine ⟨a1, a2, a3, fun k q1 q2 => ?_, ?_⟩
  · unfold setl
    rw [lup_n (by omega), lup_n (by omega), lup_n (by omega)]
    by_cases e : k = j
    · rw [e, mup_s, lup_s]
    · rw [mup_n (by omega), lup_n (by omega)]; exact a4 k q1 q2
  · unfold setl
    rw [mup_n (by omega), lup_n (by omega), lup_n (by omega), lup_n (by omega), lup_n (by omega)]; exact a5
theorem MFa.rv {G M : Mm} {a v : Int} {F : Fn} (h : MFa G M a F) : MFa G (mup M 0 161 a v) a (lup F 1 3 v) := by
  obtain ⟨a1, a2, a3, a4, a5⟩ := h
  refine ⟨a1, a2, a3, fun k q1 q2 => ?_, ?_⟩
  · rw [mup_n (by omega), lup_n (by omega)]; exact a4 k q1 q2
  · rw [mup_s, lup_s]
theorem MLi.dn {G M : Mm} {a v : Int} {L : Fn} (h : MLi G M a L) : MLi G (mup M 0 182 a v) a (lup L 4 2 v) := by
  obtain ⟨a1, a2, a3, a4, a5, ⟨b1, b2, b3, b4⟩, a7⟩ := h
  refine ⟨a1, a2, a3, a4, a5, ⟨?_, ?_, ?_, ?_⟩, fun t q1 q2 => ?_⟩
  · rw [mup_n (by omega), lup_n (by omega)]; exact b1
  · rw [mup_n (by omega), lup_n (by omega)]; exact b2
  · rw [mup_s, lup_s]
  · rw [mup_n (by omega), lup_n (by omega)]; exact b4
  · have z := a7 t q1 q2
    rw [mup_n (by omega), mup_n (by omega), mup_n (by omega), lup_n (by omega), lup_n (by omega)]; exact z
theorem AB.say {A : An} (hA : AB A) {so i v : Int} (hi : 0 ≤ i ∧ i < 24) (hv : -1 ≤ v ∧ v ≤ 99) : AB (aSay A so i v) := by
  have hF := hA.fa i hi
  refine hA.uF i hi (setl_FB hA.so (fun j q1 q2 => ?_) ?_)
  · rw [lup_c]
    split
    · exact hv
    · exact hF.v0 j q1 q2
  · rw [lup_n (by omega)]; exact hF.s3
theorem setl_0 {S F : Fn} (j : Int) : setl S F 0 j = F 0 j := by
  unfold setl
  rw [lup_n (by omega), lup_n (by omega), lup_n (by omega)]
/-- a story under way -/
def YM (x n : Int) (G0 M0 G M : Mm) : Prop := Kp G0 M0 G M ∧ AR G 6 x 4 ∧ (∀ f, 0 ≤ f → f < n → G 3 x f = x + 1 + 2 * f ∧ MFa G M (x + 1 + 2 * f) F00) ∧ G 4 0 0 = x + 1 + 2 * n ∧ G0 4 0 0 = x ∧ 0 ≤ x
theorem YM.z {x : Int} {G M : Mm} (hx : G 4 0 0 = x) (h0 : 0 ≤ x) : YM x 0 G M (nG G 106 4) (nM G M) :=
  ⟨Kp.rf.new, by rw [← hx]; exact ⟨nG_kind, nG_len⟩, fun f _ _ => by omega, by rw [nG_next]; omega, hx, h0⟩
theorem YM.st {x n : Int} {G0 M0 G M G1 M1 : Mm} (h : YM x n G0 M0 G M) (hn : 0 ≤ n) (hm : Mad (fun G1 M1 => MFa G1 M1 (x + 1 + 2 * n) F00) (x + 1 + 2 * n) (x + 1 + 2 * n + 2) (nG G 9 0) (nM G M) G1 M1) : YM x (n + 1) G0 M0 (mup G1 3 x n (x + 1 + 2 * n)) M1 := by
  obtain ⟨h1, h2, h3, h4, h5, h6⟩ := h
  obtain ⟨m1, m2, m3⟩ := hm
  have ag : ∀ b, b < x + 1 + 2 * n → agr G M G1 M1 b := fun b hb => (agr_n b (by omega)).tr (m3 b hb)
  have ah : ∀ b, b ≠ x → agr G1 M1 (mup G1 3 x n (x + 1 + 2 * n)) M1 b := fun b hb => agr_G3 b hb
  refine ⟨⟨fun b hb => (h1.1 b hb).tr ((ag b (by omega)).tr (ah b (by omega))), ?_⟩, ?_, fun f q1 q2 => ?_, ?_, h5, h6⟩
  · rw [mup_n (by omega)]; omega
  · have z := AR.o h2 (ag x (by omega))
    exact ⟨(mup_n (by omega)).trans z.1, (mup_n (by omega)).trans z.2⟩
  · by_cases e : f = n
    · rw [e]
      exact ⟨mup_s _ _ _ _ _, m1.o (ah _ (by omega)) (ah _ (by omega))⟩
    · have z := h3 f q1 (by omega)
      refine ⟨?_, z.2.o ((ag _ (by omega)).tr (ah _ (by omega))) ((ag _ (by omega)).tr (ah _ (by omega)))⟩
      rw [mup_n (by omega), (ag x (by omega)).2.2.2.1]; exact z.1
  · rw [mup_n (by omega)]; omega
set_option maxHeartbeats 4000000 in
set_option maxRecDepth 100000 in
theorem m_source {X : Xv} {G M : Mm} {Q : Int} {A : An} {D : Fn} {I : Int → Int} (hM : RM G M Q A D I) (hA : AB A) (hW : WF A) {w o : Int} (r_w : -2147483648 ≤ w ∧ w ≤ 2147483647) (r_o : -2147483648 ≤ o ∧ o ≤ 2147483647) : CT X yX10_source prog_8_method_22_code 3 (some .int) 7 176 2 103 [vR Q, vI w, vI o] G M (PI (fun r G1 M1 => Fq Q G (mup M 0 240 Q (cd3 (o = -1 ∨ (0 ≤ o ∧ o < A 10 2 0)) (1 ≤ w ∧ w ≤ 3) (A 10 2 0 < 10))) G1 M1 ∧ (cd3 (o = -1 ∨ (0 ≤ o ∧ o < A 10 2 0)) (1 ≤ w ∧ w ≤ 3) (A 10 2 0 < 10) = 0 → r = A 10 2 0) ∧ ∃ D1 I1, RM G1 M1 Q (if cd3 (o = -1 ∨ (0 ≤ o ∧ o < A 10 2 0)) (1 ≤ w ∧ w ≤ 3) (A 10 2 0 < 10) = 0 then aSrc A w o else A) D1 I1)) := by
  refine CT.by (by decide +kernel) [1, 1, 1] ⟨cat_vR _, cat_vI _, cat_vI _, trivial⟩ (Nat.le_of_ble_eq_true rfl) (fun E hX C hR hIni => ?_)
  have hn := hA.n
  have hnS := hA.so.c
  refine pw_aload_n C dX10_source_0 rfl ?_
  refine pw_iload_n C dX10_source_1 rfl ?_
  refine pw_iconst C dX10_source_2 ?_
  refine pw_icmp_eq (tgt := 18) C dX10_source_3 (by decide) (by omega) (fun c_3 => ?_) (fun c_3 => ?_)
  · skip
    refine pw_iconst C dX10_source_18 ?_
    refine pw_iconst C dX10_source_19 ?_
    refine pw_cVI C hX dX10_source_20 ml_X10_103 mc_X10_start (m_start hM hA (z := 0) (w := 1) (by omega) (by omega)) kc_13 hM.k rfl rfl ⟨Nat.le_of_ble_eq_true rfl, Nat.le_of_ble_eq_true rfl⟩ (Nat.le_of_ble_eq_true rfl) (by show 0 + 0 ≤ 2 ∧ 0 + 0 ≤ 103; omega) (fun r_ G M1 hq_ => ?_)
    obtain ⟨rfl, rfl, e1⟩ := hq_
    rw [if_pos rfl] at e1
    have hMn : RM G M1 Q A D I := by rw [e1]; exact hM.th
    clear hM
    have hM := hMn
    clear hMn
    have hK1 : Kp G M1 G M1 := Kp.rf
    refine pw_ifL_nen (tgt := 73) C dX10_source_23 (by decide) rfl ?_
    refine pw_aload_n C dX10_source_26 rfl ?_
    refine pw_iload_n C dX10_source_27 rfl ?_
    refine pw_iconst C dX10_source_28 ?_
    refine pw_iconst C dX10_source_29 ?_
    refine pw_cSE C hX dX10_source_30 ml_X10_37 mc_X10_isIn (m_isIn (v := w) (lo := 1) (hi := 3) (by omega) (by omega) (by omega)) rfl rfl ⟨Nat.le_of_ble_eq_true rfl, Nat.le_of_ble_eq_true rfl⟩ (Nat.le_of_ble_eq_true rfl) (by show 0 + 0 ≤ 2 ∧ 0 + 0 ≤ 103; omega) ?_
    refine pw_ifB_ne (tgt := 40) C dX10_source_33 (by decide) (fun c_33 => ?_) (fun c_33 => ?_)
    · skip
      refine pw_iconst C dX10_source_40 ?_
      refine pw_iconst C dX10_source_41 ?_
      refine pw_cVI C hX dX10_source_42 ml_X10_29 mc_X10_refuse (m_refuse hM hA (z := 0) (w := 2) (by omega) (by omega) (by rw [e1, mup_s])) kc_13 hM.k rfl rfl ⟨Nat.le_of_ble_eq_true rfl, Nat.le_of_ble_eq_true rfl⟩ (Nat.le_of_ble_eq_true rfl) (by show 0 + 0 ≤ 2 ∧ 0 + 0 ≤ 103; omega) (fun r_ G M2 hq_ => ?_)
      obtain ⟨rfl, rfl, e2⟩ := hq_
      rw [if_pos rfl] at e2
      have hMn : RM G M2 Q A D I := by rw [e2]; exact hM.th
      rw [e1, mup_mup] at e2
      clear hM
      have hM := hMn
      clear hMn
      have hK2 : Kp G M2 G M2 := Kp.rf
      refine pw_ifL_nen (tgt := 73) C dX10_source_45 (by decide) rfl ?_
      refine pw_aload_n C dX10_source_48 rfl ?_
      refine pw_aload_n C dX10_source_49 rfl ?_
      refine pw_getR C dX10_source_50 fl_X10_10 hM.k rfl hM.r1 ?_
      refine pw_cVE C hX dX10_source_53 ml_X10_33 mc_Jx4a65c_size_8abf5 (c_size hM.l1) kc_2 hM.l1.k rfl rfl ⟨Nat.le_of_ble_eq_true rfl, Nat.le_of_ble_eq_true rfl⟩ (Nat.le_of_ble_eq_true rfl) (by show 0 + 0 ≤ 2 ∧ 0 + 0 ≤ 103; omega) ?_
      refine pw_bipush C dX10_source_56 rfl ?_
      refine pw_icmp_ne (tgt := 65) C dX10_source_58 (by decide) (by omega) (fun c_58 => ?_) (fun c_58 => ?_)
      · skip
        refine pw_iconst C dX10_source_65 ?_
        refine pw_iconst C dX10_source_66 ?_
        refine pw_cVI C hX dX10_source_67 ml_X10_29 mc_X10_refuse (m_refuse hM hA (z := 0) (w := 3) (by omega) (by omega) (by rw [e2, mup_s])) kc_13 hM.k rfl rfl ⟨Nat.le_of_ble_eq_true rfl, Nat.le_of_ble_eq_true rfl⟩ (Nat.le_of_ble_eq_true rfl) (by show 0 + 0 ≤ 2 ∧ 0 + 0 ≤ 103; omega) (fun r_ G M3 hq_ => ?_)
        obtain ⟨rfl, rfl, e3⟩ := hq_
        rw [if_pos rfl] at e3
        have hMn : RM G M3 Q A D I := by rw [e3]; exact hM.th
        rw [e2, mup_mup] at e3
        clear hM
        have hM := hMn
        clear hMn
        have hK3 : Kp G M3 G M3 := Kp.rf
        refine pw_ifL_eq (tgt := 75) C dX10_source_70 (by decide) rfl ?_
        refine pw_aload_n C dX10_source_75 rfl ?_
        refine pw_getR C dX10_source_76 fl_X10_10 hM.k rfl hM.r1 ?_
        refine pw_new C dX10_source_79 nl_X10_57 (Nat.le_of_ble_eq_true rfl) (Nat.le_of_ble_eq_true rfl) ?_
        have hKn : Kp G M3 (nG G 11 0) (nM G M3) := Kp.rf.new
        have hn0 : nG G 11 0 0 (G 4 0 0) 0 = 11 := nG_kind
        have hn4 : nG G 11 0 4 0 0 = G 4 0 0 + 1 := nG_next
        have hnz : ∀ f, nM G M3 0 f (G 4 0 0) = 0 := fun f => nM_fld
        have hq9 := hM.q
        obtain ⟨x, ex⟩ : ∃ x, G 4 0 0 = x := ⟨_, rfl⟩
        rw [ex] at hn0 hn4 hnz hq9 ⊢
        generalize nG G 11 0 = Gn at hKn hn0 hn4 ⊢
        generalize nM G M3 = Mn at hKn hnz ⊢
        have hMn := hM.kp hKn
        refine pw_dup C dX10_source_82 (cat_vR _) ?_
        refine pw_iload_n C dX10_source_83 rfl ?_
        refine pw_iload_n C dX10_source_84 rfl ?_
        refine pw_iload_n C dX10_source_85 rfl ?_
        refine pw_iconst C dX10_source_86 ?_
        refine pw_icmp_ne (tgt := 100) C dX10_source_87 (by decide) (by omega) (fun c_87 => ?_) (fun c_87 => ?_)
        · skip
          refine pw_aload_n C dX10_source_100 rfl ?_
          refine pw_getR C dX10_source_101 fl_X10_10 hMn.k rfl hMn.r1 ?_
          refine pw_iload_n C dX10_source_104 rfl ?_
          refine pw_cVRw C hX dX10_source_105 ml_X10_45 mc_Jx4a65c_get_915e3 (hMn.g1 (i := o) (by omega)) kc_2 hMn.l1.k rfl rfl ⟨Nat.le_of_ble_eq_true rfl, Nat.le_of_ble_eq_true rfl⟩ (cat5 rfl rfl (cat_vR _) (cat_vR _) (cat_vR _)) (by show 1 + 0 ≤ 2 ∧ 3 + 0 ≤ 103; omega) ?_
          refine pw_cast (Cn := "SlugwireModel$Source") C dX10_source_108 (List.mem_of_getElem? (i := 954) (by decide +kernel)) (by rw [(hMn.so o (by omega) (by omega)).1]; exact kc_11) ?_
          refine pw_getE C dX10_source_111 fl_X10_62 rfl (hMn.so o (by omega) (by omega)).1 (hMn.so o (by omega) (by omega)).2.2 ?_
          have b_111 := hA.so.r o (by omega) (by omega)
          refine pw_cIU C hX dX10_source_114 ml_X10_106 mc_X8_init (m_sourceInit (a := x) (w := w) (of := o) (r := (A 10 1 o)) (by omega) hn0) (by omega) rfl rfl ⟨Nat.le_of_ble_eq_true rfl, Nat.le_of_ble_eq_true rfl⟩ (Nat.le_of_ble_eq_true rfl) (by show 1 + 0 ≤ 2 ∧ 3 + 0 ≤ 103; omega) (fun Gn M2 hq_ => ?_)
          obtain ⟨rfl, hs2, ho2⟩ := hq_
          have hK2 := hKn.w (x := x) (by omega) ho2 rfl
          have hM2 := hM.kp hK2
          refine pw_cVI C hX dX10_source_117 ml_X10_109 mc_Jx4a65c_add_9ea2d (c_add hM2.l1 (by omega) (fun j q1 q2 => by rw [hM2.e1 j q1 q2]; have z := (hM2.p.s j q1 q2).1; exact okS (by omega) (hM2.so j q1 q2).1) (v := x) (okS (by omega) hs2.1) (by omega)) kc_2 hM2.l1.k rfl rfl ⟨Nat.le_of_ble_eq_true rfl, Nat.le_of_ble_eq_true rfl⟩ (Nat.le_of_ble_eq_true rfl) (by show 1 + 1 ≤ 2 ∧ 3 + 100 ≤ 103; omega) (fun r_ Ga Ma hq_ => ?_)
          obtain ⟨rfl, hadd⟩ := hq_
          obtain ⟨D9, I9, hMa, hFa⟩ := hM.addS hA ex hK2 hn4 hs2 (o := o) ((if_neg (by omega)).symm) hadd
          have hc9 : aSrc A w o 10 2 0 = A 10 2 0 + 1 := by unfold aSrc; rw [aup_s, sAdd_2]
          refine pw_pop C dX10_source_120 rfl ?_
          refine pw_aload_n C dX10_source_121 rfl ?_
          refine pw_getR C dX10_source_122 fl_X10_10 hMa.k rfl hMa.r1 ?_
          have hLz := hMa.l1
          rw [hc9] at hLz
          refine pw_cVE C hX dX10_source_125 ml_X10_33 mc_Jx4a65c_size_8abf5 (c_size hLz) kc_2 hMa.l1.k rfl rfl ⟨Nat.le_of_ble_eq_true rfl, Nat.le_of_ble_eq_true rfl⟩ (Nat.le_of_ble_eq_true rfl) (by show (1 + 1) + 0 ≤ 2 ∧ (3 + 100) + 0 ≤ 103; omega) ?_
          refine pw_iconst C dX10_source_128 ?_
          refine pw_isub C dX10_source_129 ?_
          exact pw_iret C hR dX10_source_130 ((by have hcd : cd3 (o = -1 ∨ (0 ≤ o ∧ o < A 10 2 0)) (1 ≤ w ∧ w ≤ 3) (A 10 2 0 < 10) = 0 := (by unfold cd3; first | (exfalso; omega) | rw [if_pos (by omega)] | rw [if_neg (by omega), if_pos (by omega)] | rw [if_neg (by omega), if_neg (by omega), if_pos (by omega)] | rw [if_neg (by omega), if_neg (by omega), if_neg (by omega)]); exact ⟨_, rfl, by rw [hcd, ← e3]; exact hFa, fun _ => by omega, _, _, by rw [if_pos hcd]; exact hMa⟩)) (by show _ ≤ 2; omega) (by show _ ≤ 103; omega)
        · skip
          refine pw_aload_n C dX10_source_90 rfl ?_
          refine pw_getR C dX10_source_91 fl_X10_10 hMn.k rfl hMn.r1 ?_
          refine pw_cVEw C hX dX10_source_94 ml_X10_33 mc_Jx4a65c_size_8abf5 (c_size hMn.l1) kc_2 hMn.l1.k rfl rfl ⟨Nat.le_of_ble_eq_true rfl, Nat.le_of_ble_eq_true rfl⟩ (cat5 rfl rfl (cat_vR _) (cat_vR _) (cat_vR _)) (by show 1 + 0 ≤ 2 ∧ 3 + 0 ≤ 103; omega) ?_
          refine pw_goto (tgt := 114) C dX10_source_97 (by decide) ?_
          refine pw_cIU C hX dX10_source_114 ml_X10_106 mc_X8_init (m_sourceInit (a := x) (w := w) (of := o) (r := (A 10 2 0)) (by omega) hn0) (by omega) rfl rfl ⟨Nat.le_of_ble_eq_true rfl, Nat.le_of_ble_eq_true rfl⟩ (Nat.le_of_ble_eq_true rfl) (by show 1 + 0 ≤ 2 ∧ 3 + 0 ≤ 103; omega) (fun Gn M2 hq_ => ?_)
          obtain ⟨rfl, hs2, ho2⟩ := hq_
          have hK2 := hKn.w (x := x) (by omega) ho2 rfl
          have hM2 := hM.kp hK2
          refine pw_cVI C hX dX10_source_117 ml_X10_109 mc_Jx4a65c_add_9ea2d (c_add hM2.l1 (by omega) (fun j q1 q2 => by rw [hM2.e1 j q1 q2]; have z := (hM2.p.s j q1 q2).1; exact okS (by omega) (hM2.so j q1 q2).1) (v := x) (okS (by omega) hs2.1) (by omega)) kc_2 hM2.l1.k rfl rfl ⟨Nat.le_of_ble_eq_true rfl, Nat.le_of_ble_eq_true rfl⟩ (Nat.le_of_ble_eq_true rfl) (by show 1 + 1 ≤ 2 ∧ 3 + 100 ≤ 103; omega) (fun r_ Ga Ma hq_ => ?_)
          obtain ⟨rfl, hadd⟩ := hq_
          obtain ⟨D9, I9, hMa, hFa⟩ := hM.addS hA ex hK2 hn4 hs2 (o := o) ((if_pos (by omega)).symm) hadd
          have hc9 : aSrc A w o 10 2 0 = A 10 2 0 + 1 := by unfold aSrc; rw [aup_s, sAdd_2]
          refine pw_pop C dX10_source_120 rfl ?_
          refine pw_aload_n C dX10_source_121 rfl ?_
          refine pw_getR C dX10_source_122 fl_X10_10 hMa.k rfl hMa.r1 ?_
          have hLz := hMa.l1
          rw [hc9] at hLz
          refine pw_cVE C hX dX10_source_125 ml_X10_33 mc_Jx4a65c_size_8abf5 (c_size hLz) kc_2 hMa.l1.k rfl rfl ⟨Nat.le_of_ble_eq_true rfl, Nat.le_of_ble_eq_true rfl⟩ (Nat.le_of_ble_eq_true rfl) (by show (1 + 1) + 0 ≤ 2 ∧ (3 + 100) + 0 ≤ 103; omega) ?_
          refine pw_iconst C dX10_source_128 ?_
          refine pw_isub C dX10_source_129 ?_
          exact pw_iret C hR dX10_source_130 ((by have hcd : cd3 (o = -1 ∨ (0 ≤ o ∧ o < A 10 2 0)) (1 ≤ w ∧ w ≤ 3) (A 10 2 0 < 10) = 0 := (by unfold cd3; first | (exfalso; omega) | rw [if_pos (by omega)] | rw [if_neg (by omega), if_pos (by omega)] | rw [if_neg (by omega), if_neg (by omega), if_pos (by omega)] | rw [if_neg (by omega), if_neg (by omega), if_neg (by omega)]); exact ⟨_, rfl, by rw [hcd, ← e3]; exact hFa, fun _ => by omega, _, _, by rw [if_pos hcd]; exact hMa⟩)) (by show _ ≤ 2; omega) (by show _ ≤ 103; omega)
      · skip
        refine pw_iconst C dX10_source_61 ?_
        refine pw_goto (tgt := 66) C dX10_source_62 (by decide) ?_
        refine pw_iconst C dX10_source_66 ?_
        refine pw_cVI C hX dX10_source_67 ml_X10_29 mc_X10_refuse (m_refuse hM hA (z := 1) (w := 3) (by omega) (by omega) (by rw [e2, mup_s])) kc_13 hM.k rfl rfl ⟨Nat.le_of_ble_eq_true rfl, Nat.le_of_ble_eq_true rfl⟩ (Nat.le_of_ble_eq_true rfl) (by show 0 + 0 ≤ 2 ∧ 0 + 0 ≤ 103; omega) (fun r_ G M6 hq_ => ?_)
        obtain ⟨rfl, rfl, e6⟩ := hq_
        rw [if_neg (by decide)] at e6
        have hMn : RM G M6 Q A D I := by rw [e6]; exact hM.th
        rw [e2, mup_mup] at e6
        clear hM
        have hM := hMn
        clear hMn
        have hK6 : Kp G M6 G M6 := Kp.rf
        refine pw_ifL_eqn (tgt := 75) C dX10_source_70 (by decide) rfl ?_
        refine pw_iconst C dX10_source_73 ?_
        exact pw_iret C hR dX10_source_74 ((by have hcd : cd3 (o = -1 ∨ (0 ≤ o ∧ o < A 10 2 0)) (1 ≤ w ∧ w ≤ 3) (A 10 2 0 < 10) = 3 := (by unfold cd3; first | (exfalso; omega) | rw [if_pos (by omega)] | rw [if_neg (by omega), if_pos (by omega)] | rw [if_neg (by omega), if_neg (by omega), if_pos (by omega)] | rw [if_neg (by omega), if_neg (by omega), if_neg (by omega)]); exact ⟨_, rfl, by rw [hcd, ← e6]; exact Fq.rf, fun h => absurd (hcd.symm.trans h) (by decide), D, I, by rw [if_neg (fun h => absurd (hcd.symm.trans h) (by decide))]; exact hM⟩)) (by show _ ≤ 2; omega) (by show _ ≤ 103; omega)
    · skip
      refine pw_iconst C dX10_source_36 ?_
      refine pw_goto (tgt := 41) C dX10_source_37 (by decide) ?_
      refine pw_iconst C dX10_source_41 ?_
      refine pw_cVI C hX dX10_source_42 ml_X10_29 mc_X10_refuse (m_refuse hM hA (z := 1) (w := 2) (by omega) (by omega) (by rw [e1, mup_s])) kc_13 hM.k rfl rfl ⟨Nat.le_of_ble_eq_true rfl, Nat.le_of_ble_eq_true rfl⟩ (Nat.le_of_ble_eq_true rfl) (by show 0 + 0 ≤ 2 ∧ 0 + 0 ≤ 103; omega) (fun r_ G M7 hq_ => ?_)
      obtain ⟨rfl, rfl, e7⟩ := hq_
      rw [if_neg (by decide)] at e7
      have hMn : RM G M7 Q A D I := by rw [e7]; exact hM.th
      rw [e1, mup_mup] at e7
      clear hM
      have hM := hMn
      clear hMn
      have hK7 : Kp G M7 G M7 := Kp.rf
      refine pw_ifL_ne (tgt := 73) C dX10_source_45 (by decide) rfl ?_
      refine pw_iconst C dX10_source_73 ?_
      exact pw_iret C hR dX10_source_74 ((by have hcd : cd3 (o = -1 ∨ (0 ≤ o ∧ o < A 10 2 0)) (1 ≤ w ∧ w ≤ 3) (A 10 2 0 < 10) = 2 := (by unfold cd3; first | (exfalso; omega) | rw [if_pos (by omega)] | rw [if_neg (by omega), if_pos (by omega)] | rw [if_neg (by omega), if_neg (by omega), if_pos (by omega)] | rw [if_neg (by omega), if_neg (by omega), if_neg (by omega)]); exact ⟨_, rfl, by rw [hcd, ← e7]; exact Fq.rf, fun h => absurd (hcd.symm.trans h) (by decide), D, I, by rw [if_neg (fun h => absurd (hcd.symm.trans h) (by decide))]; exact hM⟩)) (by show _ ≤ 2; omega) (by show _ ≤ 103; omega)
  · skip
    refine pw_aload_n C dX10_source_6 rfl ?_
    refine pw_iload_n C dX10_source_7 rfl ?_
    refine pw_cVE C hX dX10_source_8 ml_X10_100 mc_X10_isNoSource (m_isNoSource hM hA (i := o) (by omega)) kc_13 hM.k rfl rfl ⟨Nat.le_of_ble_eq_true rfl, Nat.le_of_ble_eq_true rfl⟩ (Nat.le_of_ble_eq_true rfl) (by show 0 + 0 ≤ 2 ∧ 0 + 0 ≤ 103; omega) ?_
    refine pw_ifB_eq (tgt := 18) C dX10_source_11 (by decide) (fun c_11 => ?_) (fun c_11 => ?_)
    · skip
      refine pw_iconst C dX10_source_18 ?_
      refine pw_iconst C dX10_source_19 ?_
      refine pw_cVI C hX dX10_source_20 ml_X10_103 mc_X10_start (m_start hM hA (z := 0) (w := 1) (by omega) (by omega)) kc_13 hM.k rfl rfl ⟨Nat.le_of_ble_eq_true rfl, Nat.le_of_ble_eq_true rfl⟩ (Nat.le_of_ble_eq_true rfl) (by show 0 + 0 ≤ 2 ∧ 0 + 0 ≤ 103; omega) (fun r_ G M8 hq_ => ?_)
      obtain ⟨rfl, rfl, e8⟩ := hq_
      rw [if_pos rfl] at e8
      have hMn : RM G M8 Q A D I := by rw [e8]; exact hM.th
      clear hM
      have hM := hMn
      clear hMn
      have hK8 : Kp G M8 G M8 := Kp.rf
      refine pw_ifL_nen (tgt := 73) C dX10_source_23 (by decide) rfl ?_
      refine pw_aload_n C dX10_source_26 rfl ?_
      refine pw_iload_n C dX10_source_27 rfl ?_
      refine pw_iconst C dX10_source_28 ?_
      refine pw_iconst C dX10_source_29 ?_
      refine pw_cSE C hX dX10_source_30 ml_X10_37 mc_X10_isIn (m_isIn (v := w) (lo := 1) (hi := 3) (by omega) (by omega) (by omega)) rfl rfl ⟨Nat.le_of_ble_eq_true rfl, Nat.le_of_ble_eq_true rfl⟩ (Nat.le_of_ble_eq_true rfl) (by show 0 + 0 ≤ 2 ∧ 0 + 0 ≤ 103; omega) ?_
      refine pw_ifB_ne (tgt := 40) C dX10_source_33 (by decide) (fun c_33 => ?_) (fun c_33 => ?_)
      · skip
        refine pw_iconst C dX10_source_40 ?_
        refine pw_iconst C dX10_source_41 ?_
        refine pw_cVI C hX dX10_source_42 ml_X10_29 mc_X10_refuse (m_refuse hM hA (z := 0) (w := 2) (by omega) (by omega) (by rw [e8, mup_s])) kc_13 hM.k rfl rfl ⟨Nat.le_of_ble_eq_true rfl, Nat.le_of_ble_eq_true rfl⟩ (Nat.le_of_ble_eq_true rfl) (by show 0 + 0 ≤ 2 ∧ 0 + 0 ≤ 103; omega) (fun r_ G M9 hq_ => ?_)
        obtain ⟨rfl, rfl, e9⟩ := hq_
        rw [if_pos rfl] at e9
        have hMn : RM G M9 Q A D I := by rw [e9]; exact hM.th
        rw [e8, mup_mup] at e9
        clear hM
        have hM := hMn
        clear hMn
        have hK9 : Kp G M9 G M9 := Kp.rf
        refine pw_ifL_nen (tgt := 73) C dX10_source_45 (by decide) rfl ?_
        refine pw_aload_n C dX10_source_48 rfl ?_
        refine pw_aload_n C dX10_source_49 rfl ?_
        refine pw_getR C dX10_source_50 fl_X10_10 hM.k rfl hM.r1 ?_
        refine pw_cVE C hX dX10_source_53 ml_X10_33 mc_Jx4a65c_size_8abf5 (c_size hM.l1) kc_2 hM.l1.k rfl rfl ⟨Nat.le_of_ble_eq_true rfl, Nat.le_of_ble_eq_true rfl⟩ (Nat.le_of_ble_eq_true rfl) (by show 0 + 0 ≤ 2 ∧ 0 + 0 ≤ 103; omega) ?_
        refine pw_bipush C dX10_source_56 rfl ?_
        refine pw_icmp_ne (tgt := 65) C dX10_source_58 (by decide) (by omega) (fun c_58 => ?_) (fun c_58 => ?_)
        · skip
          refine pw_iconst C dX10_source_65 ?_
          refine pw_iconst C dX10_source_66 ?_
          refine pw_cVI C hX dX10_source_67 ml_X10_29 mc_X10_refuse (m_refuse hM hA (z := 0) (w := 3) (by omega) (by omega) (by rw [e9, mup_s])) kc_13 hM.k rfl rfl ⟨Nat.le_of_ble_eq_true rfl, Nat.le_of_ble_eq_true rfl⟩ (Nat.le_of_ble_eq_true rfl) (by show 0 + 0 ≤ 2 ∧ 0 + 0 ≤ 103; omega) (fun r_ G M10 hq_ => ?_)
          obtain ⟨rfl, rfl, e10⟩ := hq_
          rw [if_pos rfl] at e10
          have hMn : RM G M10 Q A D I := by rw [e10]; exact hM.th
          rw [e9, mup_mup] at e10
          clear hM
          have hM := hMn
          clear hMn
          have hK10 : Kp G M10 G M10 := Kp.rf
          refine pw_ifL_eq (tgt := 75) C dX10_source_70 (by decide) rfl ?_
          refine pw_aload_n C dX10_source_75 rfl ?_
          refine pw_getR C dX10_source_76 fl_X10_10 hM.k rfl hM.r1 ?_
          refine pw_new C dX10_source_79 nl_X10_57 (Nat.le_of_ble_eq_true rfl) (Nat.le_of_ble_eq_true rfl) ?_
          have hKn : Kp G M10 (nG G 11 0) (nM G M10) := Kp.rf.new
          have hn0 : nG G 11 0 0 (G 4 0 0) 0 = 11 := nG_kind
          have hn4 : nG G 11 0 4 0 0 = G 4 0 0 + 1 := nG_next
          have hnz : ∀ f, nM G M10 0 f (G 4 0 0) = 0 := fun f => nM_fld
          have hq9 := hM.q
          obtain ⟨x, ex⟩ : ∃ x, G 4 0 0 = x := ⟨_, rfl⟩
          rw [ex] at hn0 hn4 hnz hq9 ⊢
          generalize nG G 11 0 = Gn at hKn hn0 hn4 ⊢
          generalize nM G M10 = Mn at hKn hnz ⊢
          have hMn := hM.kp hKn
          refine pw_dup C dX10_source_82 (cat_vR _) ?_
          refine pw_iload_n C dX10_source_83 rfl ?_
          refine pw_iload_n C dX10_source_84 rfl ?_
          refine pw_iload_n C dX10_source_85 rfl ?_
          refine pw_iconst C dX10_source_86 ?_
          refine pw_icmp_ne (tgt := 100) C dX10_source_87 (by decide) (by omega) (fun c_87 => ?_) (fun c_87 => ?_)
          · skip
            refine pw_aload_n C dX10_source_100 rfl ?_
            refine pw_getR C dX10_source_101 fl_X10_10 hMn.k rfl hMn.r1 ?_
            refine pw_iload_n C dX10_source_104 rfl ?_
            refine pw_cVRw C hX dX10_source_105 ml_X10_45 mc_Jx4a65c_get_915e3 (hMn.g1 (i := o) (by omega)) kc_2 hMn.l1.k rfl rfl ⟨Nat.le_of_ble_eq_true rfl, Nat.le_of_ble_eq_true rfl⟩ (cat5 rfl rfl (cat_vR _) (cat_vR _) (cat_vR _)) (by show 1 + 0 ≤ 2 ∧ 3 + 0 ≤ 103; omega) ?_
            refine pw_cast (Cn := "SlugwireModel$Source") C dX10_source_108 (List.mem_of_getElem? (i := 954) (by decide +kernel)) (by rw [(hMn.so o (by omega) (by omega)).1]; exact kc_11) ?_
            refine pw_getE C dX10_source_111 fl_X10_62 rfl (hMn.so o (by omega) (by omega)).1 (hMn.so o (by omega) (by omega)).2.2 ?_
            have b_111 := hA.so.r o (by omega) (by omega)
            refine pw_cIU C hX dX10_source_114 ml_X10_106 mc_X8_init (m_sourceInit (a := x) (w := w) (of := o) (r := (A 10 1 o)) (by omega) hn0) (by omega) rfl rfl ⟨Nat.le_of_ble_eq_true rfl, Nat.le_of_ble_eq_true rfl⟩ (Nat.le_of_ble_eq_true rfl) (by show 1 + 0 ≤ 2 ∧ 3 + 0 ≤ 103; omega) (fun Gn M2 hq_ => ?_)
            obtain ⟨rfl, hs2, ho2⟩ := hq_
            have hK2 := hKn.w (x := x) (by omega) ho2 rfl
            have hM2 := hM.kp hK2
            refine pw_cVI C hX dX10_source_117 ml_X10_109 mc_Jx4a65c_add_9ea2d (c_add hM2.l1 (by omega) (fun j q1 q2 => by rw [hM2.e1 j q1 q2]; have z := (hM2.p.s j q1 q2).1; exact okS (by omega) (hM2.so j q1 q2).1) (v := x) (okS (by omega) hs2.1) (by omega)) kc_2 hM2.l1.k rfl rfl ⟨Nat.le_of_ble_eq_true rfl, Nat.le_of_ble_eq_true rfl⟩ (Nat.le_of_ble_eq_true rfl) (by show 1 + 1 ≤ 2 ∧ 3 + 100 ≤ 103; omega) (fun r_ Ga Ma hq_ => ?_)
            obtain ⟨rfl, hadd⟩ := hq_
            obtain ⟨D9, I9, hMa, hFa⟩ := hM.addS hA ex hK2 hn4 hs2 (o := o) ((if_neg (by omega)).symm) hadd
            have hc9 : aSrc A w o 10 2 0 = A 10 2 0 + 1 := by unfold aSrc; rw [aup_s, sAdd_2]
            refine pw_pop C dX10_source_120 rfl ?_
            refine pw_aload_n C dX10_source_121 rfl ?_
            refine pw_getR C dX10_source_122 fl_X10_10 hMa.k rfl hMa.r1 ?_
            have hLz := hMa.l1
            rw [hc9] at hLz
            refine pw_cVE C hX dX10_source_125 ml_X10_33 mc_Jx4a65c_size_8abf5 (c_size hLz) kc_2 hMa.l1.k rfl rfl ⟨Nat.le_of_ble_eq_true rfl, Nat.le_of_ble_eq_true rfl⟩ (Nat.le_of_ble_eq_true rfl) (by show (1 + 1) + 0 ≤ 2 ∧ (3 + 100) + 0 ≤ 103; omega) ?_
            refine pw_iconst C dX10_source_128 ?_
            refine pw_isub C dX10_source_129 ?_
            exact pw_iret C hR dX10_source_130 ((by have hcd : cd3 (o = -1 ∨ (0 ≤ o ∧ o < A 10 2 0)) (1 ≤ w ∧ w ≤ 3) (A 10 2 0 < 10) = 0 := (by unfold cd3; first | (exfalso; omega) | rw [if_pos (by omega)] | rw [if_neg (by omega), if_pos (by omega)] | rw [if_neg (by omega), if_neg (by omega), if_pos (by omega)] | rw [if_neg (by omega), if_neg (by omega), if_neg (by omega)]); exact ⟨_, rfl, by rw [hcd, ← e10]; exact hFa, fun _ => by omega, _, _, by rw [if_pos hcd]; exact hMa⟩)) (by show _ ≤ 2; omega) (by show _ ≤ 103; omega)
          · skip
            refine pw_aload_n C dX10_source_90 rfl ?_
            refine pw_getR C dX10_source_91 fl_X10_10 hMn.k rfl hMn.r1 ?_
            refine pw_cVEw C hX dX10_source_94 ml_X10_33 mc_Jx4a65c_size_8abf5 (c_size hMn.l1) kc_2 hMn.l1.k rfl rfl ⟨Nat.le_of_ble_eq_true rfl, Nat.le_of_ble_eq_true rfl⟩ (cat5 rfl rfl (cat_vR _) (cat_vR _) (cat_vR _)) (by show 1 + 0 ≤ 2 ∧ 3 + 0 ≤ 103; omega) ?_
            refine pw_goto (tgt := 114) C dX10_source_97 (by decide) ?_
            refine pw_cIU C hX dX10_source_114 ml_X10_106 mc_X8_init (m_sourceInit (a := x) (w := w) (of := o) (r := (A 10 2 0)) (by omega) hn0) (by omega) rfl rfl ⟨Nat.le_of_ble_eq_true rfl, Nat.le_of_ble_eq_true rfl⟩ (Nat.le_of_ble_eq_true rfl) (by show 1 + 0 ≤ 2 ∧ 3 + 0 ≤ 103; omega) (fun Gn M2 hq_ => ?_)
            obtain ⟨rfl, hs2, ho2⟩ := hq_
            have hK2 := hKn.w (x := x) (by omega) ho2 rfl
            have hM2 := hM.kp hK2
            refine pw_cVI C hX dX10_source_117 ml_X10_109 mc_Jx4a65c_add_9ea2d (c_add hM2.l1 (by omega) (fun j q1 q2 => by rw [hM2.e1 j q1 q2]; have z := (hM2.p.s j q1 q2).1; exact okS (by omega) (hM2.so j q1 q2).1) (v := x) (okS (by omega) hs2.1) (by omega)) kc_2 hM2.l1.k rfl rfl ⟨Nat.le_of_ble_eq_true rfl, Nat.le_of_ble_eq_true rfl⟩ (Nat.le_of_ble_eq_true rfl) (by show 1 + 1 ≤ 2 ∧ 3 + 100 ≤ 103; omega) (fun r_ Ga Ma hq_ => ?_)
            obtain ⟨rfl, hadd⟩ := hq_
            obtain ⟨D9, I9, hMa, hFa⟩ := hM.addS hA ex hK2 hn4 hs2 (o := o) ((if_pos (by omega)).symm) hadd
            have hc9 : aSrc A w o 10 2 0 = A 10 2 0 + 1 := by unfold aSrc; rw [aup_s, sAdd_2]
            refine pw_pop C dX10_source_120 rfl ?_
            refine pw_aload_n C dX10_source_121 rfl ?_
            refine pw_getR C dX10_source_122 fl_X10_10 hMa.k rfl hMa.r1 ?_
            have hLz := hMa.l1
            rw [hc9] at hLz
            refine pw_cVE C hX dX10_source_125 ml_X10_33 mc_Jx4a65c_size_8abf5 (c_size hLz) kc_2 hMa.l1.k rfl rfl ⟨Nat.le_of_ble_eq_true rfl, Nat.le_of_ble_eq_true rfl⟩ (Nat.le_of_ble_eq_true rfl) (by show (1 + 1) + 0 ≤ 2 ∧ (3 + 100) + 0 ≤ 103; omega) ?_
            refine pw_iconst C dX10_source_128 ?_
            refine pw_isub C dX10_source_129 ?_
            exact pw_iret C hR dX10_source_130 ((by have hcd : cd3 (o = -1 ∨ (0 ≤ o ∧ o < A 10 2 0)) (1 ≤ w ∧ w ≤ 3) (A 10 2 0 < 10) = 0 := (by unfold cd3; first | (exfalso; omega) | rw [if_pos (by omega)] | rw [if_neg (by omega), if_pos (by omega)] | rw [if_neg (by omega), if_neg (by omega), if_pos (by omega)] | rw [if_neg (by omega), if_neg (by omega), if_neg (by omega)]); exact ⟨_, rfl, by rw [hcd, ← e10]; exact hFa, fun _ => by omega, _, _, by rw [if_pos hcd]; exact hMa⟩)) (by show _ ≤ 2; omega) (by show _ ≤ 103; omega)
        · skip
          refine pw_iconst C dX10_source_61 ?_
          refine pw_goto (tgt := 66) C dX10_source_62 (by decide) ?_
          refine pw_iconst C dX10_source_66 ?_
          refine pw_cVI C hX dX10_source_67 ml_X10_29 mc_X10_refuse (m_refuse hM hA (z := 1) (w := 3) (by omega) (by omega) (by rw [e9, mup_s])) kc_13 hM.k rfl rfl ⟨Nat.le_of_ble_eq_true rfl, Nat.le_of_ble_eq_true rfl⟩ (Nat.le_of_ble_eq_true rfl) (by show 0 + 0 ≤ 2 ∧ 0 + 0 ≤ 103; omega) (fun r_ G M13 hq_ => ?_)
          obtain ⟨rfl, rfl, e13⟩ := hq_
          rw [if_neg (by decide)] at e13
          have hMn : RM G M13 Q A D I := by rw [e13]; exact hM.th
          rw [e9, mup_mup] at e13
          clear hM
          have hM := hMn
          clear hMn
          have hK13 : Kp G M13 G M13 := Kp.rf
          refine pw_ifL_eqn (tgt := 75) C dX10_source_70 (by decide) rfl ?_
          refine pw_iconst C dX10_source_73 ?_
          exact pw_iret C hR dX10_source_74 ((by have hcd : cd3 (o = -1 ∨ (0 ≤ o ∧ o < A 10 2 0)) (1 ≤ w ∧ w ≤ 3) (A 10 2 0 < 10) = 3 := (by unfold cd3; first | (exfalso; omega) | rw [if_pos (by omega)] | rw [if_neg (by omega), if_pos (by omega)] | rw [if_neg (by omega), if_neg (by omega), if_pos (by omega)] | rw [if_neg (by omega), if_neg (by omega), if_neg (by omega)]); exact ⟨_, rfl, by rw [hcd, ← e13]; exact Fq.rf, fun h => absurd (hcd.symm.trans h) (by decide), D, I, by rw [if_neg (fun h => absurd (hcd.symm.trans h) (by decide))]; exact hM⟩)) (by show _ ≤ 2; omega) (by show _ ≤ 103; omega)
      · skip
        refine pw_iconst C dX10_source_36 ?_
        refine pw_goto (tgt := 41) C dX10_source_37 (by decide) ?_
        refine pw_iconst C dX10_source_41 ?_
        refine pw_cVI C hX dX10_source_42 ml_X10_29 mc_X10_refuse (m_refuse hM hA (z := 1) (w := 2) (by omega) (by omega) (by rw [e8, mup_s])) kc_13 hM.k rfl rfl ⟨Nat.le_of_ble_eq_true rfl, Nat.le_of_ble_eq_true rfl⟩ (Nat.le_of_ble_eq_true rfl) (by show 0 + 0 ≤ 2 ∧ 0 + 0 ≤ 103; omega) (fun r_ G M14 hq_ => ?_)
        obtain ⟨rfl, rfl, e14⟩ := hq_
        rw [if_neg (by decide)] at e14
        have hMn : RM G M14 Q A D I := by rw [e14]; exact hM.th
        rw [e8, mup_mup] at e14
        clear hM
        have hM := hMn
        clear hMn
        have hK14 : Kp G M14 G M14 := Kp.rf
        refine pw_ifL_ne (tgt := 73) C dX10_source_45 (by decide) rfl ?_
        refine pw_iconst C dX10_source_73 ?_
        exact pw_iret C hR dX10_source_74 ((by have hcd : cd3 (o = -1 ∨ (0 ≤ o ∧ o < A 10 2 0)) (1 ≤ w ∧ w ≤ 3) (A 10 2 0 < 10) = 2 := (by unfold cd3; first | (exfalso; omega) | rw [if_pos (by omega)] | rw [if_neg (by omega), if_pos (by omega)] | rw [if_neg (by omega), if_neg (by omega), if_pos (by omega)] | rw [if_neg (by omega), if_neg (by omega), if_neg (by omega)]); exact ⟨_, rfl, by rw [hcd, ← e14]; exact Fq.rf, fun h => absurd (hcd.symm.trans h) (by decide), D, I, by rw [if_neg (fun h => absurd (hcd.symm.trans h) (by decide))]; exact hM⟩)) (by show _ ≤ 2; omega) (by show _ ≤ 103; omega)
    · skip
      refine pw_iconst C dX10_source_14 ?_
      refine pw_goto (tgt := 19) C dX10_source_15 (by decide) ?_
      refine pw_iconst C dX10_source_19 ?_
      refine pw_cVI C hX dX10_source_20 ml_X10_103 mc_X10_start (m_start hM hA (z := 1) (w := 1) (by omega) (by omega)) kc_13 hM.k rfl rfl ⟨Nat.le_of_ble_eq_true rfl, Nat.le_of_ble_eq_true rfl⟩ (Nat.le_of_ble_eq_true rfl) (by show 0 + 0 ≤ 2 ∧ 0 + 0 ≤ 103; omega) (fun r_ G M15 hq_ => ?_)
      obtain ⟨rfl, rfl, e15⟩ := hq_
      rw [if_neg (by decide)] at e15
      have hMn : RM G M15 Q A D I := by rw [e15]; exact hM.th
      clear hM
      have hM := hMn
      clear hMn
      have hK15 : Kp G M15 G M15 := Kp.rf
      refine pw_ifL_ne (tgt := 73) C dX10_source_23 (by decide) rfl ?_
      refine pw_iconst C dX10_source_73 ?_
      exact pw_iret C hR dX10_source_74 ((by have hcd : cd3 (o = -1 ∨ (0 ≤ o ∧ o < A 10 2 0)) (1 ≤ w ∧ w ≤ 3) (A 10 2 0 < 10) = 1 := (by unfold cd3; first | (exfalso; omega) | rw [if_pos (by omega)] | rw [if_neg (by omega), if_pos (by omega)] | rw [if_neg (by omega), if_neg (by omega), if_pos (by omega)] | rw [if_neg (by omega), if_neg (by omega), if_neg (by omega)]); exact ⟨_, rfl, by rw [hcd, ← e15]; exact Fq.rf, fun h => absurd (hcd.symm.trans h) (by decide), D, I, by rw [if_neg (fun h => absurd (hcd.symm.trans h) (by decide))]; exact hM⟩)) (by show _ ≤ 2; omega) (by show _ ≤ 103; omega)

set_option maxHeartbeats 4000000 in
set_option maxRecDepth 100000 in
theorem m_story {X : Xv} {G M : Mm} {Q : Int} {A : An} {D : Fn} {I : Int → Int} (hM : RM G M Q A D I) (hA : AB A) (hW : WF A) (hB : BK A)  : CT X yX10_story prog_8_method_23_code 1 (some .int) 7 176 10 152 [vR Q] G M (PI (fun r G1 M1 => Fq Q G (mup M 0 240 Q (cd1 (A 0 0 0 < 6))) G1 M1 ∧ (cd1 (A 0 0 0 < 6) = 0 → r = A 0 0 0) ∧ ∃ D1 I1, RM G1 M1 Q (if cd1 (A 0 0 0 < 6) = 0 then aSty A else A) D1 I1)) := by
  refine CT.by (by decide +kernel) [1] ⟨cat_vR _, trivial⟩ (Nat.le_of_ble_eq_true rfl) (fun E hX C hR hIni => ?_)
  have hn := hA.n
  have hnS := hA.so.c
  refine pw_aload_n C dX10_story_0 rfl ?_
  refine pw_aload_n C dX10_story_1 rfl ?_
  refine pw_getR C dX10_story_2 fl_X10_16 hM.k rfl hM.r2 ?_
  refine pw_cVE C hX dX10_story_5 ml_X10_33 mc_Jx4a65c_size_8abf5 (c_size hM.l2) kc_2 hM.l2.k rfl rfl ⟨Nat.le_of_ble_eq_true rfl, Nat.le_of_ble_eq_true rfl⟩ (Nat.le_of_ble_eq_true rfl) (by show 0 + 0 ≤ 10 ∧ 0 + 0 ≤ 152; omega) ?_
  refine pw_bipush C dX10_story_8 rfl ?_
  refine pw_icmp_ne (tgt := 17) C dX10_story_10 (by decide) (by omega) (fun c_10 => ?_) (fun c_10 => ?_)
  · skip
    refine pw_iconst C dX10_story_17 ?_
    refine pw_iconst C dX10_story_18 ?_
    refine pw_cVI C hX dX10_story_19 ml_X10_103 mc_X10_start (m_start hM hA (z := 0) (w := 1) (by omega) (by omega)) kc_13 hM.k rfl rfl ⟨Nat.le_of_ble_eq_true rfl, Nat.le_of_ble_eq_true rfl⟩ (Nat.le_of_ble_eq_true rfl) (by show 0 + 0 ≤ 10 ∧ 0 + 0 ≤ 152; omega) (fun r_ G M1 hq_ => ?_)
    obtain ⟨rfl, rfl, e1⟩ := hq_
    rw [if_pos rfl] at e1
    have hMn : RM G M1 Q A D I := by rw [e1]; exact hM.th
    clear hM
    have hM := hMn
    clear hMn
    have hK1 : Kp G M1 G M1 := Kp.rf
    refine pw_ifL_eq (tgt := 27) C dX10_story_22 (by decide) rfl ?_
    refine pw_aload_n C dX10_story_27 rfl ?_
    refine pw_getR C dX10_story_28 fl_X10_16 hM.k rfl hM.r2 ?_
    refine pw_iconst C dX10_story_31 ?_
    have hq9 := hM.q
    obtain ⟨x, ex⟩ : ∃ x, G 4 0 0 = x := ⟨_, rfl⟩
    have hY := YM.z (M := M1) ex (by omega)
    refine pw_newq (t := 6) (Cn := "SlugwireModel$Fact") (ks := 4) C dX10_story_32 (List.mem_of_getElem? (i := 1047) (by decide +kernel)) (by decide) (by omega) (fun _ => rfl) (by omega) rfl (Nat.le_of_ble_eq_true rfl) (Nat.le_of_ble_eq_true rfl) ?_
    show PW E (nG G 106 4) (nM G M1) _ _ _ _ _
    rw [ex]
    generalize nG G 106 4 = Gy0 at hY ⊢
    generalize nM G M1 = My0 at hY ⊢
    refine pw_dup C dX10_story_35 (cat_vR _) ?_
    refine pw_iconst C dX10_story_36 ?_
    refine pw_new C dX10_story_37 nl_X10_52 (Nat.le_of_ble_eq_true rfl) (Nat.le_of_ble_eq_true rfl) ?_
    have hk0 : nG Gy0 9 0 0 (Gy0 4 0 0) 0 = 9 := nG_kind
    have hk4 : nG Gy0 9 0 4 0 0 = Gy0 4 0 0 + 1 := nG_next
    have hkz : ∀ f, nM Gy0 My0 0 f (Gy0 4 0 0) = 0 := fun f => nM_fld
    rw [show Gy0 4 0 0 = (x + 1 + 2 * 0) from hY.2.2.2.1] at hk0 hk4 hkz ⊢
    refine pw_dup C dX10_story_40 (cat_vR _) ?_
    refine pw_cIUw C hX dX10_story_41 ml_X10_113 mc_X6_init (m_factInit (a := (x + 1 + 2 * 0)) (by have := hY.2.2.2.2.2; omega) hk0 hk4 hkz) (by have := hY.2.2.2.2.2; omega) rfl rfl ⟨Nat.le_of_ble_eq_true rfl, Nat.le_of_ble_eq_true rfl⟩ (cat5 (cat_vR _) rfl (cat_vR _) (cat_vR _) (cat_vR _)) (by show (1 + 1) + 1 ≤ 10 ∧ (4 + 2) + 10 ≤ 152; omega) (fun Gi1 Mi1 hm_ => ?_)
    have hs_ := AR.o hY.2.1 ((agr_n (G := Gy0) (M := My0) (K := 9) (len := 0) x (by have := hY.2.2.2.1; omega)).tr (hm_.2.2 x (by omega)))
    refine pw_aast (t := 6) C dX10_story_44 (by omega) hs_.1 (by rw [hs_.2]; omega) (fun _ => rfl) (by rw [hm_.1.1]; exact kc_9) (Or.inl rfl) ?_
    have hYn := hY.st (by omega) hm_
    clear hs_ hm_ hk0 hk4 hkz hY
    rw [show (0 : Int) + 1 = 1 by omega] at hYn
    have hY := hYn
    clear hYn
    generalize mup Gi1 3 x 0 (x + 1 + 2 * 0) = Gy1 at hY ⊢
    refine pw_dup C dX10_story_45 (cat_vR _) ?_
    refine pw_iconst C dX10_story_46 ?_
    refine pw_new C dX10_story_47 nl_X10_52 (Nat.le_of_ble_eq_true rfl) (Nat.le_of_ble_eq_true rfl) ?_
    have hk0 : nG Gy1 9 0 0 (Gy1 4 0 0) 0 = 9 := nG_kind
    have hk4 : nG Gy1 9 0 4 0 0 = Gy1 4 0 0 + 1 := nG_next
    have hkz : ∀ f, nM Gy1 Mi1 0 f (Gy1 4 0 0) = 0 := fun f => nM_fld
    rw [show Gy1 4 0 0 = (x + 1 + 2 * 1) from hY.2.2.2.1] at hk0 hk4 hkz ⊢
    refine pw_dup C dX10_story_50 (cat_vR _) ?_
    refine pw_cIUw C hX dX10_story_51 ml_X10_113 mc_X6_init (m_factInit (a := (x + 1 + 2 * 1)) (by have := hY.2.2.2.2.2; omega) hk0 hk4 hkz) (by have := hY.2.2.2.2.2; omega) rfl rfl ⟨Nat.le_of_ble_eq_true rfl, Nat.le_of_ble_eq_true rfl⟩ (cat5 (cat_vR _) rfl (cat_vR _) (cat_vR _) (cat_vR _)) (by show (((1 + 1) + 1) + 1) + 1 ≤ 10 ∧ (((4 + 2) + 10) + 2) + 10 ≤ 152; omega) (fun Gi2 Mi2 hm_ => ?_)
    have hs_ := AR.o hY.2.1 ((agr_n (G := Gy1) (M := Mi1) (K := 9) (len := 0) x (by have := hY.2.2.2.1; omega)).tr (hm_.2.2 x (by omega)))
    refine pw_aast (t := 6) C dX10_story_54 (by omega) hs_.1 (by rw [hs_.2]; omega) (fun _ => rfl) (by rw [hm_.1.1]; exact kc_9) (Or.inl rfl) ?_
    have hYn := hY.st (by omega) hm_
    clear hs_ hm_ hk0 hk4 hkz hY
    rw [show (1 : Int) + 1 = 2 by omega] at hYn
    have hY := hYn
    clear hYn
    generalize mup Gi2 3 x 1 (x + 1 + 2 * 1) = Gy2 at hY ⊢
    refine pw_dup C dX10_story_55 (cat_vR _) ?_
    refine pw_iconst C dX10_story_56 ?_
    refine pw_new C dX10_story_57 nl_X10_52 (Nat.le_of_ble_eq_true rfl) (Nat.le_of_ble_eq_true rfl) ?_
    have hk0 : nG Gy2 9 0 0 (Gy2 4 0 0) 0 = 9 := nG_kind
    have hk4 : nG Gy2 9 0 4 0 0 = Gy2 4 0 0 + 1 := nG_next
    have hkz : ∀ f, nM Gy2 Mi2 0 f (Gy2 4 0 0) = 0 := fun f => nM_fld
    rw [show Gy2 4 0 0 = (x + 1 + 2 * 2) from hY.2.2.2.1] at hk0 hk4 hkz ⊢
    refine pw_dup C dX10_story_60 (cat_vR _) ?_
    refine pw_cIUw C hX dX10_story_61 ml_X10_113 mc_X6_init (m_factInit (a := (x + 1 + 2 * 2)) (by have := hY.2.2.2.2.2; omega) hk0 hk4 hkz) (by have := hY.2.2.2.2.2; omega) rfl rfl ⟨Nat.le_of_ble_eq_true rfl, Nat.le_of_ble_eq_true rfl⟩ (cat5 (cat_vR _) rfl (cat_vR _) (cat_vR _) (cat_vR _)) (by show (((((1 + 1) + 1) + 1) + 1) + 1) + 1 ≤ 10 ∧ (((((4 + 2) + 10) + 2) + 10) + 2) + 10 ≤ 152; omega) (fun Gi3 Mi3 hm_ => ?_)
    have hs_ := AR.o hY.2.1 ((agr_n (G := Gy2) (M := Mi2) (K := 9) (len := 0) x (by have := hY.2.2.2.1; omega)).tr (hm_.2.2 x (by omega)))
    refine pw_aast (t := 6) C dX10_story_64 (by omega) hs_.1 (by rw [hs_.2]; omega) (fun _ => rfl) (by rw [hm_.1.1]; exact kc_9) (Or.inl rfl) ?_
    have hYn := hY.st (by omega) hm_
    clear hs_ hm_ hk0 hk4 hkz hY
    rw [show (2 : Int) + 1 = 3 by omega] at hYn
    have hY := hYn
    clear hYn
    generalize mup Gi3 3 x 2 (x + 1 + 2 * 2) = Gy3 at hY ⊢
    refine pw_dup C dX10_story_65 (cat_vR _) ?_
    refine pw_iconst C dX10_story_66 ?_
    refine pw_new C dX10_story_67 nl_X10_52 (Nat.le_of_ble_eq_true rfl) (Nat.le_of_ble_eq_true rfl) ?_
    have hk0 : nG Gy3 9 0 0 (Gy3 4 0 0) 0 = 9 := nG_kind
    have hk4 : nG Gy3 9 0 4 0 0 = Gy3 4 0 0 + 1 := nG_next
    have hkz : ∀ f, nM Gy3 Mi3 0 f (Gy3 4 0 0) = 0 := fun f => nM_fld
    rw [show Gy3 4 0 0 = (x + 1 + 2 * 3) from hY.2.2.2.1] at hk0 hk4 hkz ⊢
    refine pw_dup C dX10_story_70 (cat_vR _) ?_
    refine pw_cIUw C hX dX10_story_71 ml_X10_113 mc_X6_init (m_factInit (a := (x + 1 + 2 * 3)) (by have := hY.2.2.2.2.2; omega) hk0 hk4 hkz) (by have := hY.2.2.2.2.2; omega) rfl rfl ⟨Nat.le_of_ble_eq_true rfl, Nat.le_of_ble_eq_true rfl⟩ (cat5 (cat_vR _) rfl (cat_vR _) (cat_vR _) (cat_vR _)) (by show (((((((1 + 1) + 1) + 1) + 1) + 1) + 1) + 1) + 1 ≤ 10 ∧ (((((((4 + 2) + 10) + 2) + 10) + 2) + 10) + 2) + 10 ≤ 152; omega) (fun Gi4 Mi4 hm_ => ?_)
    have hs_ := AR.o hY.2.1 ((agr_n (G := Gy3) (M := Mi3) (K := 9) (len := 0) x (by have := hY.2.2.2.1; omega)).tr (hm_.2.2 x (by omega)))
    refine pw_aast (t := 6) C dX10_story_74 (by omega) hs_.1 (by rw [hs_.2]; omega) (fun _ => rfl) (by rw [hm_.1.1]; exact kc_9) (Or.inl rfl) ?_
    have hYn := hY.st (by omega) hm_
    clear hs_ hm_ hk0 hk4 hkz hY
    rw [show (3 : Int) + 1 = 4 by omega] at hYn
    have hY := hYn
    clear hYn
    generalize mup Gi4 3 x 3 (x + 1 + 2 * 3) = Gy4 at hY ⊢
    have hMy := hM.kp hY.1
    have hy4 := hY.2.2.2.1
    have hy5 := hY.2.1.1
    have hok6 : A 0 0 0 < 6 := by omega
    refine pw_cVI C hX dX10_story_75 ml_X10_109 mc_Jx4a65c_add_9ea2d (c_add hMy.l2 (by omega) (fun j q1 q2 => by rw [hMy.e2 j q1 q2]; have z := (hMy.p.y j q1 q2).1; exact okY (by omega) (hMy.ya j q1 q2).1) (v := x) (okY (by omega) hy5) (by omega)) kc_2 hMy.l2.k rfl rfl ⟨Nat.le_of_ble_eq_true rfl, Nat.le_of_ble_eq_true rfl⟩ (Nat.le_of_ble_eq_true rfl) (by show ((((((((1 + 1) + 1) + 1) + 1) + 1) + 1) + 1) + 1) + 1 ≤ 10 ∧ ((((((((4 + 2) + 10) + 2) + 10) + 2) + 10) + 2) + 10) + 100 ≤ 152; omega) (fun r_ Ga Ma hq_ => ?_)
    obtain ⟨rfl, hadd⟩ := hq_
    obtain ⟨D9, I9, hMa, hFa⟩ := hM.addY hA hB hok6 ex hY.1 (by have := hY.2.2.2.1; omega) hY.2.1 (fun f q1 q2 => (hY.2.2.1 f q1 q2).1) (fun f q1 q2 => (hY.2.2.1 f q1 q2).2) hadd
    have hc9 : aSty A 0 0 0 = A 0 0 0 + 1 := by unfold aSty; rw [aup_s, lup_s]
    refine pw_pop C dX10_story_78 rfl ?_
    refine pw_aload_n C dX10_story_79 rfl ?_
    refine pw_getR C dX10_story_80 fl_X10_16 hMa.k rfl hMa.r2 ?_
    have hLz := hMa.l2
    rw [hc9] at hLz
    refine pw_cVE C hX dX10_story_83 ml_X10_33 mc_Jx4a65c_size_8abf5 (c_size hLz) kc_2 hMa.l2.k rfl rfl ⟨Nat.le_of_ble_eq_true rfl, Nat.le_of_ble_eq_true rfl⟩ (Nat.le_of_ble_eq_true rfl) (by show (((((((((1 + 1) + 1) + 1) + 1) + 1) + 1) + 1) + 1) + 1) + 0 ≤ 10 ∧ (((((((((4 + 2) + 10) + 2) + 10) + 2) + 10) + 2) + 10) + 100) + 0 ≤ 152; omega) ?_
    refine pw_iconst C dX10_story_86 ?_
    refine pw_isub C dX10_story_87 ?_
    exact pw_iret C hR dX10_story_88 ((by have hcd : cd1 (A 0 0 0 < 6) = 0 := (by unfold cd1; first | (exfalso; omega) | rw [if_pos (by omega)] | rw [if_neg (by omega)]); exact ⟨_, rfl, by rw [hcd, ← e1]; exact hFa, fun _ => by omega, _, _, by rw [if_pos hcd]; exact hMa⟩)) (by show _ ≤ 10; omega) (by show _ ≤ 152; omega)
  · skip
    refine pw_iconst C dX10_story_13 ?_
    refine pw_goto (tgt := 18) C dX10_story_14 (by decide) ?_
    refine pw_iconst C dX10_story_18 ?_
    refine pw_cVI C hX dX10_story_19 ml_X10_103 mc_X10_start (m_start hM hA (z := 1) (w := 1) (by omega) (by omega)) kc_13 hM.k rfl rfl ⟨Nat.le_of_ble_eq_true rfl, Nat.le_of_ble_eq_true rfl⟩ (Nat.le_of_ble_eq_true rfl) (by show 0 + 0 ≤ 10 ∧ 0 + 0 ≤ 152; omega) (fun r_ G M7 hq_ => ?_)
    obtain ⟨rfl, rfl, e7⟩ := hq_
    rw [if_neg (by decide)] at e7
    have hMn : RM G M7 Q A D I := by rw [e7]; exact hM.th
    clear hM
    have hM := hMn
    clear hMn
    have hK7 : Kp G M7 G M7 := Kp.rf
    refine pw_ifL_eqn (tgt := 27) C dX10_story_22 (by decide) rfl ?_
    refine pw_iconst C dX10_story_25 ?_
    exact pw_iret C hR dX10_story_26 ((by have hcd : cd1 (A 0 0 0 < 6) = 1 := (by unfold cd1; first | (exfalso; omega) | rw [if_pos (by omega)] | rw [if_neg (by omega)]); exact ⟨_, rfl, by rw [hcd, ← e7]; exact Fq.rf, fun h => absurd (hcd.symm.trans h) (by decide), D, I, by rw [if_neg (fun h => absurd (hcd.symm.trans h) (by decide))]; exact hM⟩)) (by show _ ≤ 10; omega) (by show _ ≤ 152; omega)

set_option maxHeartbeats 4000000 in
set_option maxRecDepth 100000 in
theorem m_line {X : Xv} {G M : Mm} {Q : Int} {A : An} {D : Fn} {I : Int → Int} (hM : RM G M Q A D I) (hA : AB A) (hW : WF A) (hB : BK A) {sp lg : Int} (r_sp : -2147483648 ≤ sp ∧ sp ≤ 2147483647) (r_lg : -2147483648 ≤ lg ∧ lg ≤ 2147483647) : CT X yX10_line prog_8_method_24_code 3 (some .int) 7 176 5 290 [vR Q, vI sp, vI lg] G M (PI (fun r G1 M1 => Fq Q G (mup M 0 240 Q (cd2 ((1 ≤ sp ∧ sp ≤ 60) ∧ 0 ≤ lg ∧ lg ≤ 9) (A 0 0 2 < 4))) G1 M1 ∧ (cd2 ((1 ≤ sp ∧ sp ≤ 60) ∧ 0 ≤ lg ∧ lg ≤ 9) (A 0 0 2 < 4) = 0 → r = A 0 0 2) ∧ ∃ D1 I1, RM G1 M1 Q (if cd2 ((1 ≤ sp ∧ sp ≤ 60) ∧ 0 ≤ lg ∧ lg ≤ 9) (A 0 0 2 < 4) = 0 then aLin A sp lg else A) D1 I1)) := by
  refine CT.by (by decide +kernel) [1, 1, 1] ⟨cat_vR _, cat_vI _, cat_vI _, trivial⟩ (Nat.le_of_ble_eq_true rfl) (fun E hX C hR hIni => ?_)
  have hn := hA.n
  have hnS := hA.so.c
  refine pw_aload_n C dX10_line_0 rfl ?_
  refine pw_iload_n C dX10_line_1 rfl ?_
  refine pw_iconst C dX10_line_2 ?_
  refine pw_bipush C dX10_line_3 rfl ?_
  refine pw_cSE C hX dX10_line_5 ml_X10_37 mc_X10_isIn (m_isIn (v := sp) (lo := 1) (hi := 60) (by omega) (by omega) (by omega)) rfl rfl ⟨Nat.le_of_ble_eq_true rfl, Nat.le_of_ble_eq_true rfl⟩ (Nat.le_of_ble_eq_true rfl) (by show 0 + 0 ≤ 5 ∧ 0 + 0 ≤ 290; omega) ?_
  refine pw_ifB_eq (tgt := 21) C dX10_line_8 (by decide) (fun c_8 => ?_) (fun c_8 => ?_)
  · skip
    refine pw_iconst C dX10_line_21 ?_
    refine pw_goto (tgt := 26) C dX10_line_22 (by decide) ?_
    refine pw_iconst C dX10_line_26 ?_
    refine pw_cVI C hX dX10_line_27 ml_X10_103 mc_X10_start (m_start hM hA (z := 1) (w := 1) (by omega) (by omega)) kc_13 hM.k rfl rfl ⟨Nat.le_of_ble_eq_true rfl, Nat.le_of_ble_eq_true rfl⟩ (Nat.le_of_ble_eq_true rfl) (by show 0 + 0 ≤ 5 ∧ 0 + 0 ≤ 290; omega) (fun r_ G M1 hq_ => ?_)
    obtain ⟨rfl, rfl, e1⟩ := hq_
    rw [if_neg (by decide)] at e1
    have hMn : RM G M1 Q A D I := by rw [e1]; exact hM.th
    clear hM
    have hM := hMn
    clear hMn
    have hK1 : Kp G M1 G M1 := Kp.rf
    refine pw_ifL_ne (tgt := 57) C dX10_line_30 (by decide) rfl ?_
    refine pw_iconst C dX10_line_57 ?_
    exact pw_iret C hR dX10_line_58 ((by have hcd : cd2 ((1 ≤ sp ∧ sp ≤ 60) ∧ 0 ≤ lg ∧ lg ≤ 9) (A 0 0 2 < 4) = 1 := (by unfold cd2; first | (exfalso; omega) | rw [if_pos (by omega)] | rw [if_neg (by omega), if_pos (by omega)] | rw [if_neg (by omega), if_neg (by omega)]); exact ⟨_, rfl, by rw [hcd, ← e1]; exact Fq.rf, fun h => absurd (hcd.symm.trans h) (by decide), D, I, by rw [if_neg (fun h => absurd (hcd.symm.trans h) (by decide))]; exact hM⟩)) (by show _ ≤ 5; omega) (by show _ ≤ 290; omega)
  · skip
    refine pw_iload_n C dX10_line_11 rfl ?_
    refine pw_iconst C dX10_line_12 ?_
    refine pw_bipush C dX10_line_13 rfl ?_
    refine pw_cSE C hX dX10_line_15 ml_X10_37 mc_X10_isIn (m_isIn (v := lg) (lo := 0) (hi := 9) (by omega) (by omega) (by omega)) rfl rfl ⟨Nat.le_of_ble_eq_true rfl, Nat.le_of_ble_eq_true rfl⟩ (Nat.le_of_ble_eq_true rfl) (by show 0 + 0 ≤ 5 ∧ 0 + 0 ≤ 290; omega) ?_
    refine pw_ifB_ne (tgt := 25) C dX10_line_18 (by decide) (fun c_18 => ?_) (fun c_18 => ?_)
    · skip
      refine pw_iconst C dX10_line_25 ?_
      refine pw_iconst C dX10_line_26 ?_
      refine pw_cVI C hX dX10_line_27 ml_X10_103 mc_X10_start (m_start hM hA (z := 0) (w := 1) (by omega) (by omega)) kc_13 hM.k rfl rfl ⟨Nat.le_of_ble_eq_true rfl, Nat.le_of_ble_eq_true rfl⟩ (Nat.le_of_ble_eq_true rfl) (by show 0 + 0 ≤ 5 ∧ 0 + 0 ≤ 290; omega) (fun r_ G M2 hq_ => ?_)
      obtain ⟨rfl, rfl, e2⟩ := hq_
      rw [if_pos rfl] at e2
      have hMn : RM G M2 Q A D I := by rw [e2]; exact hM.th
      clear hM
      have hM := hMn
      clear hMn
      have hK2 : Kp G M2 G M2 := Kp.rf
      refine pw_ifL_nen (tgt := 57) C dX10_line_30 (by decide) rfl ?_
      refine pw_aload_n C dX10_line_33 rfl ?_
      refine pw_aload_n C dX10_line_34 rfl ?_
      refine pw_getR C dX10_line_35 fl_X10_22 hM.k rfl hM.r4 ?_
      refine pw_cVE C hX dX10_line_38 ml_X10_33 mc_Jx4a65c_size_8abf5 (c_size hM.l4) kc_2 hM.l4.k rfl rfl ⟨Nat.le_of_ble_eq_true rfl, Nat.le_of_ble_eq_true rfl⟩ (Nat.le_of_ble_eq_true rfl) (by show 0 + 0 ≤ 5 ∧ 0 + 0 ≤ 290; omega) ?_
      refine pw_iconst C dX10_line_41 ?_
      refine pw_icmp_ne (tgt := 49) C dX10_line_42 (by decide) (by omega) (fun c_42 => ?_) (fun c_42 => ?_)
      · skip
        refine pw_iconst C dX10_line_49 ?_
        refine pw_iconst C dX10_line_50 ?_
        refine pw_cVI C hX dX10_line_51 ml_X10_29 mc_X10_refuse (m_refuse hM hA (z := 0) (w := 2) (by omega) (by omega) (by rw [e2, mup_s])) kc_13 hM.k rfl rfl ⟨Nat.le_of_ble_eq_true rfl, Nat.le_of_ble_eq_true rfl⟩ (Nat.le_of_ble_eq_true rfl) (by show 0 + 0 ≤ 5 ∧ 0 + 0 ≤ 290; omega) (fun r_ G M3 hq_ => ?_)
        obtain ⟨rfl, rfl, e3⟩ := hq_
        rw [if_pos rfl] at e3
        have hMn : RM G M3 Q A D I := by rw [e3]; exact hM.th
        rw [e2, mup_mup] at e3
        clear hM
        have hM := hMn
        clear hMn
        have hK3 : Kp G M3 G M3 := Kp.rf
        refine pw_ifL_eq (tgt := 59) C dX10_line_54 (by decide) rfl ?_
        refine pw_aload_n C dX10_line_59 rfl ?_
        refine pw_getR C dX10_line_60 fl_X10_22 hM.k rfl hM.r4 ?_
        refine pw_new C dX10_line_63 nl_X10_114 (Nat.le_of_ble_eq_true rfl) (Nat.le_of_ble_eq_true rfl) ?_
        have hKn : Kp G M3 (nG G 10 0) (nM G M3) := Kp.rf.new
        have hn0 : nG G 10 0 0 (G 4 0 0) 0 = 10 := nG_kind
        have hn4 : nG G 10 0 4 0 0 = G 4 0 0 + 1 := nG_next
        have hnz : ∀ f, nM G M3 0 f (G 4 0 0) = 0 := fun f => nM_fld
        have hq9 := hM.q
        obtain ⟨x, ex⟩ : ∃ x, G 4 0 0 = x := ⟨_, rfl⟩
        rw [ex] at hn0 hn4 hnz hq9 ⊢
        generalize nG G 10 0 = Gn at hKn hn0 hn4 ⊢
        generalize nM G M3 = Mn at hKn hnz ⊢
        have hMn := hM.kp hKn
        refine pw_dup C dX10_line_66 (cat_vR _) ?_
        refine pw_iload_n C dX10_line_67 rfl ?_
        refine pw_iload_n C dX10_line_68 rfl ?_
        refine pw_cIU C hX dX10_line_69 ml_X10_116 mc_X7_init (m_lineInit (a := x) (sp := sp) (lg := lg) (by omega) hn0 hn4 hnz) (by omega) rfl rfl ⟨Nat.le_of_ble_eq_true rfl, Nat.le_of_ble_eq_true rfl⟩ (Nat.le_of_ble_eq_true rfl) (by show 1 + 3 ≤ 5 ∧ 7 + 183 ≤ 290; omega) (fun G2 M2 hq_ => ?_)
        obtain ⟨hL2, h24, ho2⟩ := hq_
        have hK2 : Kp G M3 G2 M2 := ⟨fun b hb => (hKn.1 b hb).tr (ho2 b (by omega)), by omega⟩
        have hM2 := hM.kp hK2
        refine pw_cVI C hX dX10_line_72 ml_X10_109 mc_Jx4a65c_add_9ea2d (c_add hM2.l4 (by omega) (fun j q1 q2 => by rw [hM2.e4 j q1 q2]; have z := (hM2.p.l j q1 q2).1; exact okL (by omega) (hM2.li j q1 q2).1) (v := x) (okL (by omega) hL2.1) (by omega)) kc_2 hM2.l4.k rfl rfl ⟨Nat.le_of_ble_eq_true rfl, Nat.le_of_ble_eq_true rfl⟩ (Nat.le_of_ble_eq_true rfl) (by show (1 + 3) + 1 ≤ 5 ∧ (7 + 183) + 100 ≤ 290; omega) (fun r_ Ga Ma hq_ => ?_)
        obtain ⟨rfl, hadd⟩ := hq_
        obtain ⟨D9, I9, hMa, hFa⟩ := hM.addL hA hB (by omega) ex hK2 h24 hL2 hadd
        have hc9 : aLin A sp lg 0 0 2 = A 0 0 2 + 1 := by unfold aLin; rw [aup_s, lup_s]
        refine pw_pop C dX10_line_75 rfl ?_
        refine pw_aload_n C dX10_line_76 rfl ?_
        refine pw_getR C dX10_line_77 fl_X10_22 hMa.k rfl hMa.r4 ?_
        have hLz := hMa.l4
        rw [hc9] at hLz
        refine pw_cVE C hX dX10_line_80 ml_X10_33 mc_Jx4a65c_size_8abf5 (c_size hLz) kc_2 hMa.l4.k rfl rfl ⟨Nat.le_of_ble_eq_true rfl, Nat.le_of_ble_eq_true rfl⟩ (Nat.le_of_ble_eq_true rfl) (by show ((1 + 3) + 1) + 0 ≤ 5 ∧ ((7 + 183) + 100) + 0 ≤ 290; omega) ?_
        refine pw_iconst C dX10_line_83 ?_
        refine pw_isub C dX10_line_84 ?_
        exact pw_iret C hR dX10_line_85 ((by have hcd : cd2 ((1 ≤ sp ∧ sp ≤ 60) ∧ 0 ≤ lg ∧ lg ≤ 9) (A 0 0 2 < 4) = 0 := (by unfold cd2; first | (exfalso; omega) | rw [if_pos (by omega)] | rw [if_neg (by omega), if_pos (by omega)] | rw [if_neg (by omega), if_neg (by omega)]); exact ⟨_, rfl, by rw [hcd, ← e3]; exact hFa, fun _ => by omega, _, _, by rw [if_pos hcd]; exact hMa⟩)) (by show _ ≤ 5; omega) (by show _ ≤ 290; omega)
      · skip
        refine pw_iconst C dX10_line_45 ?_
        refine pw_goto (tgt := 50) C dX10_line_46 (by decide) ?_
        refine pw_iconst C dX10_line_50 ?_
        refine pw_cVI C hX dX10_line_51 ml_X10_29 mc_X10_refuse (m_refuse hM hA (z := 1) (w := 2) (by omega) (by omega) (by rw [e2, mup_s])) kc_13 hM.k rfl rfl ⟨Nat.le_of_ble_eq_true rfl, Nat.le_of_ble_eq_true rfl⟩ (Nat.le_of_ble_eq_true rfl) (by show 0 + 0 ≤ 5 ∧ 0 + 0 ≤ 290; omega) (fun r_ G M5 hq_ => ?_)
        obtain ⟨rfl, rfl, e5⟩ := hq_
        rw [if_neg (by decide)] at e5
        have hMn : RM G M5 Q A D I := by rw [e5]; exact hM.th
        rw [e2, mup_mup] at e5
        clear hM
        have hM := hMn
        clear hMn
        have hK5 : Kp G M5 G M5 := Kp.rf
        refine pw_ifL_eqn (tgt := 59) C dX10_line_54 (by decide) rfl ?_
        refine pw_iconst C dX10_line_57 ?_
        exact pw_iret C hR dX10_line_58 ((by have hcd : cd2 ((1 ≤ sp ∧ sp ≤ 60) ∧ 0 ≤ lg ∧ lg ≤ 9) (A 0 0 2 < 4) = 2 := (by unfold cd2; first | (exfalso; omega) | rw [if_pos (by omega)] | rw [if_neg (by omega), if_pos (by omega)] | rw [if_neg (by omega), if_neg (by omega)]); exact ⟨_, rfl, by rw [hcd, ← e5]; exact Fq.rf, fun h => absurd (hcd.symm.trans h) (by decide), D, I, by rw [if_neg (fun h => absurd (hcd.symm.trans h) (by decide))]; exact hM⟩)) (by show _ ≤ 5; omega) (by show _ ≤ 290; omega)
    · skip
      refine pw_iconst C dX10_line_21 ?_
      refine pw_goto (tgt := 26) C dX10_line_22 (by decide) ?_
      refine pw_iconst C dX10_line_26 ?_
      refine pw_cVI C hX dX10_line_27 ml_X10_103 mc_X10_start (m_start hM hA (z := 1) (w := 1) (by omega) (by omega)) kc_13 hM.k rfl rfl ⟨Nat.le_of_ble_eq_true rfl, Nat.le_of_ble_eq_true rfl⟩ (Nat.le_of_ble_eq_true rfl) (by show 0 + 0 ≤ 5 ∧ 0 + 0 ≤ 290; omega) (fun r_ G M6 hq_ => ?_)
      obtain ⟨rfl, rfl, e6⟩ := hq_
      rw [if_neg (by decide)] at e6
      have hMn : RM G M6 Q A D I := by rw [e6]; exact hM.th
      clear hM
      have hM := hMn
      clear hMn
      have hK6 : Kp G M6 G M6 := Kp.rf
      refine pw_ifL_ne (tgt := 57) C dX10_line_30 (by decide) rfl ?_
      refine pw_iconst C dX10_line_57 ?_
      exact pw_iret C hR dX10_line_58 ((by have hcd : cd2 ((1 ≤ sp ∧ sp ≤ 60) ∧ 0 ≤ lg ∧ lg ≤ 9) (A 0 0 2 < 4) = 1 := (by unfold cd2; first | (exfalso; omega) | rw [if_pos (by omega)] | rw [if_neg (by omega), if_pos (by omega)] | rw [if_neg (by omega), if_neg (by omega)]); exact ⟨_, rfl, by rw [hcd, ← e6]; exact Fq.rf, fun h => absurd (hcd.symm.trans h) (by decide), D, I, by rw [if_neg (fun h => absurd (hcd.symm.trans h) (by decide))]; exact hM⟩)) (by show _ ≤ 5; omega) (by show _ ≤ 290; omega)

set_option maxHeartbeats 4000000 in
set_option maxRecDepth 100000 in
theorem m_report {X : Xv} {G M : Mm} {Q : Int} {A : An} {D : Fn} {I : Int → Int} (hM : RM G M Q A D I) (hA : AB A) (hW : WF A) {so s f v : Int} (r_so : -2147483648 ≤ so ∧ so ≤ 2147483647) (r_s : -2147483648 ≤ s ∧ s ≤ 2147483647) (r_f : -2147483648 ≤ f ∧ f ≤ 2147483647) (r_v : -2147483648 ≤ v ∧ v ≤ 2147483647) : CT X yX10_report prog_8_method_25_code 5 (some .int) 5 111 0 0 [vR Q, vI so, vI s, vI f, vI v] G M (PI (fun r G1 M1 => Fq Q G (mup M 0 240 Q (cd2 ((0 ≤ so ∧ so < A 10 2 0) ∧ (0 ≤ s ∧ s < A 0 0 0) ∧ 0 ≤ f ∧ f < 4) (0 ≤ v ∧ v ≤ 99))) G1 M1 ∧ (cd2 ((0 ≤ so ∧ so < A 10 2 0) ∧ (0 ≤ s ∧ s < A 0 0 0) ∧ 0 ≤ f ∧ f < 4) (0 ≤ v ∧ v ≤ 99) = 0 → r = mpr (A 10) (setl (A 10) (lup (A (100 + (s * 4 + f))) 0 so v)) v) ∧ ∃ D1 I1, RM G1 M1 Q (if cd2 ((0 ≤ so ∧ so < A 10 2 0) ∧ (0 ≤ s ∧ s < A 0 0 0) ∧ 0 ≤ f ∧ f < 4) (0 ≤ v ∧ v ≤ 99) = 0 then aSay A so (s * 4 + f) v else A) D1 I1)) := by
  refine CT.by (by decide +kernel) [1, 1, 1, 1, 1] ⟨cat_vR _, cat_vI _, cat_vI _, cat_vI _, cat_vI _, trivial⟩ (Nat.le_of_ble_eq_true rfl) (fun E hX C hR hIni => ?_)
  have hn := hA.n
  have hnS := hA.so.c
  refine pw_aload_n C dX10_report_0 rfl ?_
  refine pw_aload_n C dX10_report_1 rfl ?_
  refine pw_iload_n C dX10_report_2 rfl ?_
  refine pw_cVE C hX dX10_report_3 ml_X10_100 mc_X10_isNoSource (m_isNoSource hM hA (i := so) (by omega)) kc_13 hM.k rfl rfl ⟨Nat.le_of_ble_eq_true rfl, Nat.le_of_ble_eq_true rfl⟩ (Nat.le_of_ble_eq_true rfl) ⟨Nat.le_of_ble_eq_true rfl, Nat.le_of_ble_eq_true rfl⟩ ?_
  refine pw_ifB_ne (tgt := 18) C dX10_report_6 (by decide) (fun c_6 => ?_) (fun c_6 => ?_)
  · skip
    refine pw_iconst C dX10_report_18 ?_
    refine pw_goto (tgt := 23) C dX10_report_19 (by decide) ?_
    refine pw_iconst C dX10_report_23 ?_
    refine pw_cVI C hX dX10_report_24 ml_X10_103 mc_X10_start (m_start hM hA (z := 1) (w := 1) (by omega) (by omega)) kc_13 hM.k rfl rfl ⟨Nat.le_of_ble_eq_true rfl, Nat.le_of_ble_eq_true rfl⟩ (Nat.le_of_ble_eq_true rfl) ⟨Nat.le_of_ble_eq_true rfl, Nat.le_of_ble_eq_true rfl⟩ (fun r_ G M1 hq_ => ?_)
    obtain ⟨rfl, rfl, e1⟩ := hq_
    rw [if_neg (by decide)] at e1
    have hMn : RM G M1 Q A D I := by rw [e1]; exact hM.th
    clear hM
    have hM := hMn
    clear hMn
    have hK1 : Kp G M1 G M1 := Kp.rf
    refine pw_ifL_ne (tgt := 54) C dX10_report_27 (by decide) rfl ?_
    refine pw_iconst C dX10_report_54 ?_
    exact pw_iret C hR dX10_report_55 ((by have hcd : cd2 ((0 ≤ so ∧ so < A 10 2 0) ∧ (0 ≤ s ∧ s < A 0 0 0) ∧ 0 ≤ f ∧ f < 4) (0 ≤ v ∧ v ≤ 99) = 1 := (by unfold cd2; first | (exfalso; omega) | rw [if_pos (by omega)] | rw [if_neg (by omega), if_pos (by omega)] | rw [if_neg (by omega), if_neg (by omega)]); exact ⟨_, rfl, by rw [hcd, ← e1]; exact Fq.rf, fun h => absurd (hcd.symm.trans h) (by decide), D, I, by rw [if_neg (fun h => absurd (hcd.symm.trans h) (by decide))]; exact hM⟩)) (by omega) (by omega)
  · skip
    refine pw_aload_n C dX10_report_9 rfl ?_
    refine pw_iload_n C dX10_report_10 rfl ?_
    refine pw_iload_n C dX10_report_11 rfl ?_
    refine pw_cVE C hX dX10_report_12 ml_X10_119 mc_X10_isNoFact (m_isNoFact hM hA (s := s) (f := f) (by omega) (by omega)) kc_13 hM.k rfl rfl ⟨Nat.le_of_ble_eq_true rfl, Nat.le_of_ble_eq_true rfl⟩ (Nat.le_of_ble_eq_true rfl) ⟨Nat.le_of_ble_eq_true rfl, Nat.le_of_ble_eq_true rfl⟩ ?_
    refine pw_ifB_eq (tgt := 22) C dX10_report_15 (by decide) (fun c_15 => ?_) (fun c_15 => ?_)
    · skip
      refine pw_iconst C dX10_report_22 ?_
      refine pw_iconst C dX10_report_23 ?_
      refine pw_cVI C hX dX10_report_24 ml_X10_103 mc_X10_start (m_start hM hA (z := 0) (w := 1) (by omega) (by omega)) kc_13 hM.k rfl rfl ⟨Nat.le_of_ble_eq_true rfl, Nat.le_of_ble_eq_true rfl⟩ (Nat.le_of_ble_eq_true rfl) ⟨Nat.le_of_ble_eq_true rfl, Nat.le_of_ble_eq_true rfl⟩ (fun r_ G M2 hq_ => ?_)
      obtain ⟨rfl, rfl, e2⟩ := hq_
      rw [if_pos rfl] at e2
      have hMn : RM G M2 Q A D I := by rw [e2]; exact hM.th
      clear hM
      have hM := hMn
      clear hMn
      have hK2 : Kp G M2 G M2 := Kp.rf
      refine pw_ifL_nen (tgt := 54) C dX10_report_27 (by decide) rfl ?_
      refine pw_aload_n C dX10_report_30 rfl ?_
      refine pw_iload C dX10_report_31 rfl ?_
      refine pw_iconst C dX10_report_33 ?_
      refine pw_bipush C dX10_report_34 rfl ?_
      refine pw_cSE C hX dX10_report_36 ml_X10_37 mc_X10_isIn (m_isIn (v := v) (lo := 0) (hi := 99) (by omega) (by omega) (by omega)) rfl rfl ⟨Nat.le_of_ble_eq_true rfl, Nat.le_of_ble_eq_true rfl⟩ (Nat.le_of_ble_eq_true rfl) ⟨Nat.le_of_ble_eq_true rfl, Nat.le_of_ble_eq_true rfl⟩ ?_
      refine pw_ifB_ne (tgt := 46) C dX10_report_39 (by decide) (fun c_39 => ?_) (fun c_39 => ?_)
      · skip
        refine pw_iconst C dX10_report_46 ?_
        refine pw_iconst C dX10_report_47 ?_
        refine pw_cVI C hX dX10_report_48 ml_X10_29 mc_X10_refuse (m_refuse hM hA (z := 0) (w := 2) (by omega) (by omega) (by rw [e2, mup_s])) kc_13 hM.k rfl rfl ⟨Nat.le_of_ble_eq_true rfl, Nat.le_of_ble_eq_true rfl⟩ (Nat.le_of_ble_eq_true rfl) ⟨Nat.le_of_ble_eq_true rfl, Nat.le_of_ble_eq_true rfl⟩ (fun r_ G M3 hq_ => ?_)
        obtain ⟨rfl, rfl, e3⟩ := hq_
        rw [if_pos rfl] at e3
        have hMn : RM G M3 Q A D I := by rw [e3]; exact hM.th
        rw [e2, mup_mup] at e3
        clear hM
        have hM := hMn
        clear hMn
        have hK3 : Kp G M3 G M3 := Kp.rf
        refine pw_ifL_eq (tgt := 56) C dX10_report_51 (by decide) rfl ?_
        refine pw_aload_n C dX10_report_56 rfl ?_
        refine pw_iload_n C dX10_report_57 rfl ?_
        refine pw_iload_n C dX10_report_58 rfl ?_
        refine pw_cVR C hX dX10_report_59 ml_X10_123 mc_X10_fact (m_fact hM hA (s := s) (f := f) (by omega) (by omega)) kc_13 hM.k rfl rfl ⟨Nat.le_of_ble_eq_true rfl, Nat.le_of_ble_eq_true rfl⟩ (Nat.le_of_ble_eq_true rfl) ⟨Nat.le_of_ble_eq_true rfl, Nat.le_of_ble_eq_true rfl⟩ ?_
        refine pw_getR C dX10_report_62 fl_X10_51 (hM.fa (s * 4 + f) (by omega) (by omega)).1 rfl (hM.fa (s * 4 + f) (by omega) (by omega)).2.1 ?_
        refine pw_iload_n C dX10_report_65 rfl ?_
        refine pw_iload C dX10_report_66 rfl ?_
        have hF0 := hM.fa (s * 4 + f) (by omega) (by omega)
        refine pw_iastG C dX10_report_68 hF0.2.2.1 (by omega) (fun M9 e9 => ?_)
        have hF9 : MFa G M9 (D 3 (s * 4 + f)) (setl (A 10) (lup (A (100 + (s * 4 + f))) 0 so v)) := by rw [e9]; exact hF0.sv
        have hO9 : Ot (D 3 (s * 4 + f)) (D 3 (s * 4 + f) + 1) M3 M9 := by rw [e9]; exact Ot.rf.u1 (by omega)
        have hM9 : RM G M9 Q (aSay A so (s * 4 + f) v) D I := hM.uF (by omega) hF9 hO9
        have hFq : Fq Q G M3 G M9 := Fq.rf.wr hO9 (hM.p.f (s * 4 + f) (by omega) (by omega)).1.1
        clear e9 hF0 hO9
        refine pw_aload_n C dX10_report_69 rfl ?_
        refine pw_aload_n C dX10_report_70 rfl ?_
        refine pw_iload_n C dX10_report_71 rfl ?_
        refine pw_iload_n C dX10_report_72 rfl ?_
        have hA9 := hA.say (so := so) (i := (s * 4 + f)) (v := v) (by omega) (by omega)
        have hs0 : aSay A so (s * 4 + f) v 0 0 0 = A 0 0 0 := by unfold aSay; rw [aup_n (by omega)]
        refine pw_cVR C hX dX10_report_73 ml_X10_123 mc_X10_fact (m_fact hM9 hA9 (s := s) (f := f) (by rw [hs0]; omega) (by omega)) kc_13 hM9.k rfl rfl ⟨Nat.le_of_ble_eq_true rfl, Nat.le_of_ble_eq_true rfl⟩ (Nat.le_of_ble_eq_true rfl) ⟨Nat.le_of_ble_eq_true rfl, Nat.le_of_ble_eq_true rfl⟩ ?_
        refine pw_iload C dX10_report_76 rfl ?_
        have hS9 : aSay A so (s * 4 + f) v 10 = A 10 := by unfold aSay; rw [aup_n (by omega)]
        have hB9 : FB0 (setl (A 10) (lup (A (100 + (s * 4 + f))) 0 so v)) := by have q := (hA9.fa (s * 4 + f) (by omega)).f0; unfold aSay at q; rw [aup_s] at q; exact q
        refine pw_cVE C hX dX10_report_78 ml_X10_85 mc_X10_proof (m_proof hM9 hA9 hF9 hB9 (v := v) (by omega)) kc_13 hM9.k rfl rfl ⟨Nat.le_of_ble_eq_true rfl, Nat.le_of_ble_eq_true rfl⟩ (Nat.le_of_ble_eq_true rfl) ⟨Nat.le_of_ble_eq_true rfl, Nat.le_of_ble_eq_true rfl⟩ ?_
        rw [hS9]
        exact pw_iret C hR dX10_report_81 ((by have hcd : cd2 ((0 ≤ so ∧ so < A 10 2 0) ∧ (0 ≤ s ∧ s < A 0 0 0) ∧ 0 ≤ f ∧ f < 4) (0 ≤ v ∧ v ≤ 99) = 0 := (by unfold cd2; first | (exfalso; omega) | rw [if_pos (by omega)] | rw [if_neg (by omega), if_pos (by omega)] | rw [if_neg (by omega), if_neg (by omega)]); exact ⟨_, rfl, by rw [hcd, ← e3]; exact hFq, fun _ => rfl, _, _, by rw [if_pos hcd]; exact hM9⟩)) (by omega) (by omega)
      · skip
        refine pw_iconst C dX10_report_42 ?_
        refine pw_goto (tgt := 47) C dX10_report_43 (by decide) ?_
        refine pw_iconst C dX10_report_47 ?_
        refine pw_cVI C hX dX10_report_48 ml_X10_29 mc_X10_refuse (m_refuse hM hA (z := 1) (w := 2) (by omega) (by omega) (by rw [e2, mup_s])) kc_13 hM.k rfl rfl ⟨Nat.le_of_ble_eq_true rfl, Nat.le_of_ble_eq_true rfl⟩ (Nat.le_of_ble_eq_true rfl) ⟨Nat.le_of_ble_eq_true rfl, Nat.le_of_ble_eq_true rfl⟩ (fun r_ G M4 hq_ => ?_)
        obtain ⟨rfl, rfl, e4⟩ := hq_
        rw [if_neg (by decide)] at e4
        have hMn : RM G M4 Q A D I := by rw [e4]; exact hM.th
        rw [e2, mup_mup] at e4
        clear hM
        have hM := hMn
        clear hMn
        have hK4 : Kp G M4 G M4 := Kp.rf
        refine pw_ifL_eqn (tgt := 56) C dX10_report_51 (by decide) rfl ?_
        refine pw_iconst C dX10_report_54 ?_
        exact pw_iret C hR dX10_report_55 ((by have hcd : cd2 ((0 ≤ so ∧ so < A 10 2 0) ∧ (0 ≤ s ∧ s < A 0 0 0) ∧ 0 ≤ f ∧ f < 4) (0 ≤ v ∧ v ≤ 99) = 2 := (by unfold cd2; first | (exfalso; omega) | rw [if_pos (by omega)] | rw [if_neg (by omega), if_pos (by omega)] | rw [if_neg (by omega), if_neg (by omega)]); exact ⟨_, rfl, by rw [hcd, ← e4]; exact Fq.rf, fun h => absurd (hcd.symm.trans h) (by decide), D, I, by rw [if_neg (fun h => absurd (hcd.symm.trans h) (by decide))]; exact hM⟩)) (by omega) (by omega)
    · skip
      refine pw_iconst C dX10_report_18 ?_
      refine pw_goto (tgt := 23) C dX10_report_19 (by decide) ?_
      refine pw_iconst C dX10_report_23 ?_
      refine pw_cVI C hX dX10_report_24 ml_X10_103 mc_X10_start (m_start hM hA (z := 1) (w := 1) (by omega) (by omega)) kc_13 hM.k rfl rfl ⟨Nat.le_of_ble_eq_true rfl, Nat.le_of_ble_eq_true rfl⟩ (Nat.le_of_ble_eq_true rfl) ⟨Nat.le_of_ble_eq_true rfl, Nat.le_of_ble_eq_true rfl⟩ (fun r_ G M5 hq_ => ?_)
      obtain ⟨rfl, rfl, e5⟩ := hq_
      rw [if_neg (by decide)] at e5
      have hMn : RM G M5 Q A D I := by rw [e5]; exact hM.th
      clear hM
      have hM := hMn
      clear hMn
      have hK5 : Kp G M5 G M5 := Kp.rf
      refine pw_ifL_ne (tgt := 54) C dX10_report_27 (by decide) rfl ?_
      refine pw_iconst C dX10_report_54 ?_
      exact pw_iret C hR dX10_report_55 ((by have hcd : cd2 ((0 ≤ so ∧ so < A 10 2 0) ∧ (0 ≤ s ∧ s < A 0 0 0) ∧ 0 ≤ f ∧ f < 4) (0 ≤ v ∧ v ≤ 99) = 1 := (by unfold cd2; first | (exfalso; omega) | rw [if_pos (by omega)] | rw [if_neg (by omega), if_pos (by omega)] | rw [if_neg (by omega), if_neg (by omega)]); exact ⟨_, rfl, by rw [hcd, ← e5]; exact Fq.rf, fun h => absurd (hcd.symm.trans h) (by decide), D, I, by rw [if_neg (fun h => absurd (hcd.symm.trans h) (by decide))]; exact hM⟩)) (by omega) (by omega)

set_option maxHeartbeats 4000000 in
set_option maxRecDepth 100000 in
theorem m_retract {X : Xv} {G M : Mm} {Q : Int} {A : An} {D : Fn} {I : Int → Int} (hM : RM G M Q A D I) (hA : AB A) (hW : WF A) {so s f : Int} (r_so : -2147483648 ≤ so ∧ so ≤ 2147483647) (r_s : -2147483648 ≤ s ∧ s ≤ 2147483647) (r_f : -2147483648 ≤ f ∧ f ≤ 2147483647) : CT X yX10_retract prog_8_method_26_code 5 (some .int) 4 86 0 0 [vR Q, vI so, vI s, vI f] G M (PI (fun r G1 M1 => Fq Q G (mup M 0 240 Q (cd2 ((0 ≤ so ∧ so < A 10 2 0) ∧ (0 ≤ s ∧ s < A 0 0 0) ∧ 0 ≤ f ∧ f < 4) (¬ A (100 + (s * 4 + f)) 0 so = -1))) G1 M1 ∧ (cd2 ((0 ≤ so ∧ so < A 10 2 0) ∧ (0 ≤ s ∧ s < A 0 0 0) ∧ 0 ≤ f ∧ f < 4) (¬ A (100 + (s * 4 + f)) 0 so = -1) = 0 → r = A (100 + (s * 4 + f)) 0 so) ∧ ∃ D1 I1, RM G1 M1 Q (if cd2 ((0 ≤ so ∧ so < A 10 2 0) ∧ (0 ≤ s ∧ s < A 0 0 0) ∧ 0 ≤ f ∧ f < 4) (¬ A (100 + (s * 4 + f)) 0 so = -1) = 0 then aSay A so (s * 4 + f) (-1) else A) D1 I1)) := by
  refine CT.by (by decide +kernel) [1, 1, 1, 1] ⟨cat_vR _, cat_vI _, cat_vI _, cat_vI _, trivial⟩ (Nat.le_of_ble_eq_true rfl) (fun E hX C hR hIni => ?_)
  have hn := hA.n
  have hnS := hA.so.c
  refine pw_aload_n C dX10_retract_0 rfl ?_
  refine pw_aload_n C dX10_retract_1 rfl ?_
  refine pw_iload_n C dX10_retract_2 rfl ?_
  refine pw_cVE C hX dX10_retract_3 ml_X10_100 mc_X10_isNoSource (m_isNoSource hM hA (i := so) (by omega)) kc_13 hM.k rfl rfl ⟨Nat.le_of_ble_eq_true rfl, Nat.le_of_ble_eq_true rfl⟩ (Nat.le_of_ble_eq_true rfl) ⟨Nat.le_of_ble_eq_true rfl, Nat.le_of_ble_eq_true rfl⟩ ?_
  refine pw_ifB_ne (tgt := 18) C dX10_retract_6 (by decide) (fun c_6 => ?_) (fun c_6 => ?_)
  · skip
    refine pw_iconst C dX10_retract_18 ?_
    refine pw_goto (tgt := 23) C dX10_retract_19 (by decide) ?_
    refine pw_iconst C dX10_retract_23 ?_
    refine pw_cVI C hX dX10_retract_24 ml_X10_103 mc_X10_start (m_start hM hA (z := 1) (w := 1) (by omega) (by omega)) kc_13 hM.k rfl rfl ⟨Nat.le_of_ble_eq_true rfl, Nat.le_of_ble_eq_true rfl⟩ (Nat.le_of_ble_eq_true rfl) ⟨Nat.le_of_ble_eq_true rfl, Nat.le_of_ble_eq_true rfl⟩ (fun r_ G M1 hq_ => ?_)
    obtain ⟨rfl, rfl, e1⟩ := hq_
    rw [if_neg (by decide)] at e1
    have hMn : RM G M1 Q A D I := by rw [e1]; exact hM.th
    clear hM
    have hM := hMn
    clear hMn
    have hK1 : Kp G M1 G M1 := Kp.rf
    refine pw_ifL_ne (tgt := 58) C dX10_retract_27 (by decide) rfl ?_
    refine pw_iconst C dX10_retract_58 ?_
    exact pw_iret C hR dX10_retract_59 ((by have hcd : cd2 ((0 ≤ so ∧ so < A 10 2 0) ∧ (0 ≤ s ∧ s < A 0 0 0) ∧ 0 ≤ f ∧ f < 4) (¬ A (100 + (s * 4 + f)) 0 so = -1) = 1 := (by unfold cd2; first | (exfalso; omega) | rw [if_pos (by omega)] | rw [if_neg (by omega), if_pos (by omega)] | rw [if_neg (by omega), if_neg (by omega)]); exact ⟨_, rfl, by rw [hcd, ← e1]; exact Fq.rf, fun h => absurd (hcd.symm.trans h) (by decide), D, I, by rw [if_neg (fun h => absurd (hcd.symm.trans h) (by decide))]; exact hM⟩)) (by omega) (by omega)
  · skip
    refine pw_aload_n C dX10_retract_9 rfl ?_
    refine pw_iload_n C dX10_retract_10 rfl ?_
    refine pw_iload_n C dX10_retract_11 rfl ?_
    refine pw_cVE C hX dX10_retract_12 ml_X10_119 mc_X10_isNoFact (m_isNoFact hM hA (s := s) (f := f) (by omega) (by omega)) kc_13 hM.k rfl rfl ⟨Nat.le_of_ble_eq_true rfl, Nat.le_of_ble_eq_true rfl⟩ (Nat.le_of_ble_eq_true rfl) ⟨Nat.le_of_ble_eq_true rfl, Nat.le_of_ble_eq_true rfl⟩ ?_
    refine pw_ifB_eq (tgt := 22) C dX10_retract_15 (by decide) (fun c_15 => ?_) (fun c_15 => ?_)
    · skip
      refine pw_iconst C dX10_retract_22 ?_
      refine pw_iconst C dX10_retract_23 ?_
      refine pw_cVI C hX dX10_retract_24 ml_X10_103 mc_X10_start (m_start hM hA (z := 0) (w := 1) (by omega) (by omega)) kc_13 hM.k rfl rfl ⟨Nat.le_of_ble_eq_true rfl, Nat.le_of_ble_eq_true rfl⟩ (Nat.le_of_ble_eq_true rfl) ⟨Nat.le_of_ble_eq_true rfl, Nat.le_of_ble_eq_true rfl⟩ (fun r_ G M2 hq_ => ?_)
      obtain ⟨rfl, rfl, e2⟩ := hq_
      rw [if_pos rfl] at e2
      have hMn : RM G M2 Q A D I := by rw [e2]; exact hM.th
      clear hM
      have hM := hMn
      clear hMn
      have hK2 : Kp G M2 G M2 := Kp.rf
      refine pw_ifL_nen (tgt := 58) C dX10_retract_27 (by decide) rfl ?_
      refine pw_aload_n C dX10_retract_30 rfl ?_
      refine pw_aload_n C dX10_retract_31 rfl ?_
      refine pw_iload_n C dX10_retract_32 rfl ?_
      refine pw_iload_n C dX10_retract_33 rfl ?_
      refine pw_cVR C hX dX10_retract_34 ml_X10_123 mc_X10_fact (m_fact hM hA (s := s) (f := f) (by omega) (by omega)) kc_13 hM.k rfl rfl ⟨Nat.le_of_ble_eq_true rfl, Nat.le_of_ble_eq_true rfl⟩ (Nat.le_of_ble_eq_true rfl) ⟨Nat.le_of_ble_eq_true rfl, Nat.le_of_ble_eq_true rfl⟩ ?_
      refine pw_getR C dX10_retract_37 fl_X10_51 (hM.fa (s * 4 + f) (by omega) (by omega)).1 rfl (hM.fa (s * 4 + f) (by omega) (by omega)).2.1 ?_
      refine pw_iload_n C dX10_retract_40 rfl ?_
      refine pw_ialdE C dX10_retract_41 (hM.fa (s * 4 + f) (by omega) (by omega)).2.2.1 (by omega) ((hM.fa (s * 4 + f) (by omega) (by omega)).2.2.2.1 so (by omega) (by omega)) ?_
      have b_41 := (hA.fa (s * 4 + f) (by omega)).f0.v0 so (by omega) (by omega)
      refine pw_iconst C dX10_retract_42 ?_
      refine pw_icmp_ne (tgt := 50) C dX10_retract_43 (by decide) (by omega) (fun c_43 => ?_) (fun c_43 => ?_)
      · skip
        refine pw_iconst C dX10_retract_50 ?_
        refine pw_iconst C dX10_retract_51 ?_
        refine pw_cVI C hX dX10_retract_52 ml_X10_29 mc_X10_refuse (m_refuse hM hA (z := 0) (w := 2) (by omega) (by omega) (by rw [e2, mup_s])) kc_13 hM.k rfl rfl ⟨Nat.le_of_ble_eq_true rfl, Nat.le_of_ble_eq_true rfl⟩ (Nat.le_of_ble_eq_true rfl) ⟨Nat.le_of_ble_eq_true rfl, Nat.le_of_ble_eq_true rfl⟩ (fun r_ G M3 hq_ => ?_)
        obtain ⟨rfl, rfl, e3⟩ := hq_
        rw [if_pos rfl] at e3
        have hMn : RM G M3 Q A D I := by rw [e3]; exact hM.th
        rw [e2, mup_mup] at e3
        clear hM
        have hM := hMn
        clear hMn
        have hK3 : Kp G M3 G M3 := Kp.rf
        refine pw_ifL_eq (tgt := 60) C dX10_retract_55 (by decide) rfl ?_
        refine pw_aload_n C dX10_retract_60 rfl ?_
        refine pw_iload_n C dX10_retract_61 rfl ?_
        refine pw_iload_n C dX10_retract_62 rfl ?_
        refine pw_cVR C hX dX10_retract_63 ml_X10_123 mc_X10_fact (m_fact hM hA (s := s) (f := f) (by omega) (by omega)) kc_13 hM.k rfl rfl ⟨Nat.le_of_ble_eq_true rfl, Nat.le_of_ble_eq_true rfl⟩ (Nat.le_of_ble_eq_true rfl) ⟨Nat.le_of_ble_eq_true rfl, Nat.le_of_ble_eq_true rfl⟩ ?_
        refine pw_getR C dX10_retract_66 fl_X10_51 (hM.fa (s * 4 + f) (by omega) (by omega)).1 rfl (hM.fa (s * 4 + f) (by omega) (by omega)).2.1 ?_
        refine pw_iload_n C dX10_retract_69 rfl ?_
        refine pw_ialdE C dX10_retract_70 (hM.fa (s * 4 + f) (by omega) (by omega)).2.2.1 (by omega) ((hM.fa (s * 4 + f) (by omega) (by omega)).2.2.2.1 so (by omega) (by omega)) ?_
        have b_70 := (hA.fa (s * 4 + f) (by omega)).f0.v0 so (by omega) (by omega)
        refine pw_istore C dX10_retract_71 (Nat.le_of_ble_eq_true rfl) rfl ?_
        refine pw_aload_n C dX10_retract_73 rfl ?_
        refine pw_iload_n C dX10_retract_74 rfl ?_
        refine pw_iload_n C dX10_retract_75 rfl ?_
        refine pw_cVR C hX dX10_retract_76 ml_X10_123 mc_X10_fact (m_fact hM hA (s := s) (f := f) (by omega) (by omega)) kc_13 hM.k rfl rfl ⟨Nat.le_of_ble_eq_true rfl, Nat.le_of_ble_eq_true rfl⟩ (Nat.le_of_ble_eq_true rfl) ⟨Nat.le_of_ble_eq_true rfl, Nat.le_of_ble_eq_true rfl⟩ ?_
        refine pw_getR C dX10_retract_79 fl_X10_51 (hM.fa (s * 4 + f) (by omega) (by omega)).1 rfl (hM.fa (s * 4 + f) (by omega) (by omega)).2.1 ?_
        refine pw_iload_n C dX10_retract_82 rfl ?_
        refine pw_iconst C dX10_retract_83 ?_
        have hF0 := hM.fa (s * 4 + f) (by omega) (by omega)
        refine pw_iastG C dX10_retract_84 hF0.2.2.1 (by omega) (fun M9 e9 => ?_)
        have hF9 : MFa G M9 (D 3 (s * 4 + f)) (setl (A 10) (lup (A (100 + (s * 4 + f))) 0 so (-1))) := by rw [e9]; exact hF0.sv
        have hO9 : Ot (D 3 (s * 4 + f)) (D 3 (s * 4 + f) + 1) M3 M9 := by rw [e9]; exact Ot.rf.u1 (by omega)
        have hM9 : RM G M9 Q (aSay A so (s * 4 + f) (-1)) D I := hM.uF (by omega) hF9 hO9
        have hFq : Fq Q G M3 G M9 := Fq.rf.wr hO9 (hM.p.f (s * 4 + f) (by omega) (by omega)).1.1
        clear e9 hF0 hO9
        refine pw_iload C dX10_retract_85 rfl ?_
        exact pw_iret C hR dX10_retract_87 ((by have hcd : cd2 ((0 ≤ so ∧ so < A 10 2 0) ∧ (0 ≤ s ∧ s < A 0 0 0) ∧ 0 ≤ f ∧ f < 4) (¬ A (100 + (s * 4 + f)) 0 so = -1) = 0 := (by unfold cd2; first | (exfalso; omega) | rw [if_pos (by omega)] | rw [if_neg (by omega), if_pos (by omega)] | rw [if_neg (by omega), if_neg (by omega)]); exact ⟨_, rfl, by rw [hcd, ← e3]; exact hFq, fun _ => rfl, _, _, by rw [if_pos hcd]; exact hM9⟩)) (by omega) (by omega)
      · skip
        refine pw_iconst C dX10_retract_46 ?_
        refine pw_goto (tgt := 51) C dX10_retract_47 (by decide) ?_
        refine pw_iconst C dX10_retract_51 ?_
        refine pw_cVI C hX dX10_retract_52 ml_X10_29 mc_X10_refuse (m_refuse hM hA (z := 1) (w := 2) (by omega) (by omega) (by rw [e2, mup_s])) kc_13 hM.k rfl rfl ⟨Nat.le_of_ble_eq_true rfl, Nat.le_of_ble_eq_true rfl⟩ (Nat.le_of_ble_eq_true rfl) ⟨Nat.le_of_ble_eq_true rfl, Nat.le_of_ble_eq_true rfl⟩ (fun r_ G M4 hq_ => ?_)
        obtain ⟨rfl, rfl, e4⟩ := hq_
        rw [if_neg (by decide)] at e4
        have hMn : RM G M4 Q A D I := by rw [e4]; exact hM.th
        rw [e2, mup_mup] at e4
        clear hM
        have hM := hMn
        clear hMn
        have hK4 : Kp G M4 G M4 := Kp.rf
        refine pw_ifL_eqn (tgt := 60) C dX10_retract_55 (by decide) rfl ?_
        refine pw_iconst C dX10_retract_58 ?_
        exact pw_iret C hR dX10_retract_59 ((by have hcd : cd2 ((0 ≤ so ∧ so < A 10 2 0) ∧ (0 ≤ s ∧ s < A 0 0 0) ∧ 0 ≤ f ∧ f < 4) (¬ A (100 + (s * 4 + f)) 0 so = -1) = 2 := (by unfold cd2; first | (exfalso; omega) | rw [if_pos (by omega)] | rw [if_neg (by omega), if_pos (by omega)] | rw [if_neg (by omega), if_neg (by omega)]); exact ⟨_, rfl, by rw [hcd, ← e4]; exact Fq.rf, fun h => absurd (hcd.symm.trans h) (by decide), D, I, by rw [if_neg (fun h => absurd (hcd.symm.trans h) (by decide))]; exact hM⟩)) (by omega) (by omega)
    · skip
      refine pw_iconst C dX10_retract_18 ?_
      refine pw_goto (tgt := 23) C dX10_retract_19 (by decide) ?_
      refine pw_iconst C dX10_retract_23 ?_
      refine pw_cVI C hX dX10_retract_24 ml_X10_103 mc_X10_start (m_start hM hA (z := 1) (w := 1) (by omega) (by omega)) kc_13 hM.k rfl rfl ⟨Nat.le_of_ble_eq_true rfl, Nat.le_of_ble_eq_true rfl⟩ (Nat.le_of_ble_eq_true rfl) ⟨Nat.le_of_ble_eq_true rfl, Nat.le_of_ble_eq_true rfl⟩ (fun r_ G M5 hq_ => ?_)
      obtain ⟨rfl, rfl, e5⟩ := hq_
      rw [if_neg (by decide)] at e5
      have hMn : RM G M5 Q A D I := by rw [e5]; exact hM.th
      clear hM
      have hM := hMn
      clear hMn
      have hK5 : Kp G M5 G M5 := Kp.rf
      refine pw_ifL_ne (tgt := 58) C dX10_retract_27 (by decide) rfl ?_
      refine pw_iconst C dX10_retract_58 ?_
      exact pw_iret C hR dX10_retract_59 ((by have hcd : cd2 ((0 ≤ so ∧ so < A 10 2 0) ∧ (0 ≤ s ∧ s < A 0 0 0) ∧ 0 ≤ f ∧ f < 4) (¬ A (100 + (s * 4 + f)) 0 so = -1) = 1 := (by unfold cd2; first | (exfalso; omega) | rw [if_pos (by omega)] | rw [if_neg (by omega), if_pos (by omega)] | rw [if_neg (by omega), if_neg (by omega)]); exact ⟨_, rfl, by rw [hcd, ← e5]; exact Fq.rf, fun h => absurd (hcd.symm.trans h) (by decide), D, I, by rw [if_neg (fun h => absurd (hcd.symm.trans h) (by decide))]; exact hM⟩)) (by omega) (by omega)

set_option maxHeartbeats 4000000 in
set_option maxRecDepth 100000 in
theorem m_rival {X : Xv} {G M : Mm} {Q : Int} {A : An} {D : Fn} {I : Int → Int} (hM : RM G M Q A D I) (hA : AB A) (hW : WF A) {s f : Int} (r_s : -2147483648 ≤ s ∧ s ≤ 2147483647) (r_f : -2147483648 ≤ f ∧ f ≤ 2147483647) : CT X yX10_rival prog_8_method_27_code 4 (some .boolean) 4 86 0 0 [vR Q, vI s, vI f] G M (PI (fun r G1 M1 => Fq Q G (mup M 0 240 Q (cd1 ((0 ≤ s ∧ s < A 0 0 0) ∧ 0 ≤ f ∧ f < 4))) G1 M1 ∧ (cd1 ((0 ≤ s ∧ s < A 0 0 0) ∧ 0 ≤ f ∧ f < 4) = 0 → r = bI (A (100 + (s * 4 + f)) 1 3 = -1)) ∧ ∃ D1 I1, RM G1 M1 Q (if cd1 ((0 ≤ s ∧ s < A 0 0 0) ∧ 0 ≤ f ∧ f < 4) = 0 then (if A (100 + (s * 4 + f)) 1 3 = -1 then aRiv A (s * 4 + f) else A) else A) D1 I1)) := by
  refine CT.by (by decide +kernel) [1, 1, 1] ⟨cat_vR _, cat_vI _, cat_vI _, trivial⟩ (Nat.le_of_ble_eq_true rfl) (fun E hX C hR hIni => ?_)
  have hn := hA.n
  have hnS := hA.so.c
  refine pw_aload_n C dX10_rival_0 rfl ?_
  refine pw_aload_n C dX10_rival_1 rfl ?_
  refine pw_iload_n C dX10_rival_2 rfl ?_
  refine pw_iload_n C dX10_rival_3 rfl ?_
  refine pw_cVE C hX dX10_rival_4 ml_X10_119 mc_X10_isNoFact (m_isNoFact hM hA (s := s) (f := f) (by omega) (by omega)) kc_13 hM.k rfl rfl ⟨Nat.le_of_ble_eq_true rfl, Nat.le_of_ble_eq_true rfl⟩ (Nat.le_of_ble_eq_true rfl) ⟨Nat.le_of_ble_eq_true rfl, Nat.le_of_ble_eq_true rfl⟩ ?_
  refine pw_iconst C dX10_rival_7 ?_
  by_cases cz_8 : ¬ ((0 ≤ s ∧ s < A 0 0 0) ∧ 0 ≤ f ∧ f < 4)
  · skip
    rw [bI_t cz_8]
    refine pw_cVI C hX dX10_rival_8 ml_X10_103 mc_X10_start (m_start hM hA (z := 1) (w := 1) (by omega) (by omega)) kc_13 hM.k rfl rfl ⟨Nat.le_of_ble_eq_true rfl, Nat.le_of_ble_eq_true rfl⟩ (Nat.le_of_ble_eq_true rfl) ⟨Nat.le_of_ble_eq_true rfl, Nat.le_of_ble_eq_true rfl⟩ (fun r_ G M1 hq_ => ?_)
    obtain ⟨rfl, rfl, e1⟩ := hq_
    rw [if_neg (by decide)] at e1
    have hMn : RM G M1 Q A D I := by rw [e1]; exact hM.th
    clear hM
    have hM := hMn
    clear hMn
    have hK1 : Kp G M1 G M1 := Kp.rf
    refine pw_ifL_eqn (tgt := 16) C dX10_rival_11 (by decide) rfl ?_
    refine pw_iconst C dX10_rival_14 ?_
    exact pw_zret C hR dX10_rival_15 (by omega) ((by have hcd : cd1 ((0 ≤ s ∧ s < A 0 0 0) ∧ 0 ≤ f ∧ f < 4) = 1 := (by unfold cd1; first | (exfalso; omega) | rw [if_pos (by omega)] | rw [if_neg (by omega)]); exact ⟨_, rfl, by rw [hcd, ← e1]; exact Fq.rf, fun h => absurd (hcd.symm.trans h) (by decide), D, I, by rw [if_neg (fun h => absurd (hcd.symm.trans h) (by decide))]; exact hM⟩)) (by omega) (by omega)
  · skip
    rw [bI_f cz_8]
    refine pw_cVI C hX dX10_rival_8 ml_X10_103 mc_X10_start (m_start hM hA (z := 0) (w := 1) (by omega) (by omega)) kc_13 hM.k rfl rfl ⟨Nat.le_of_ble_eq_true rfl, Nat.le_of_ble_eq_true rfl⟩ (Nat.le_of_ble_eq_true rfl) ⟨Nat.le_of_ble_eq_true rfl, Nat.le_of_ble_eq_true rfl⟩ (fun r_ G M2 hq_ => ?_)
    obtain ⟨rfl, rfl, e2⟩ := hq_
    rw [if_pos rfl] at e2
    have hMn : RM G M2 Q A D I := by rw [e2]; exact hM.th
    clear hM
    have hM := hMn
    clear hMn
    have hK2 : Kp G M2 G M2 := Kp.rf
    refine pw_ifL_eq (tgt := 16) C dX10_rival_11 (by decide) rfl ?_
    refine pw_aload_n C dX10_rival_16 rfl ?_
    refine pw_iload_n C dX10_rival_17 rfl ?_
    refine pw_iload_n C dX10_rival_18 rfl ?_
    refine pw_cVR C hX dX10_rival_19 ml_X10_123 mc_X10_fact (m_fact hM hA (s := s) (f := f) (by omega) (by omega)) kc_13 hM.k rfl rfl ⟨Nat.le_of_ble_eq_true rfl, Nat.le_of_ble_eq_true rfl⟩ (Nat.le_of_ble_eq_true rfl) ⟨Nat.le_of_ble_eq_true rfl, Nat.le_of_ble_eq_true rfl⟩ ?_
    refine pw_getE C dX10_rival_22 fl_X10_127 rfl (hM.fa (s * 4 + f) (by omega) (by omega)).1 (hM.fa (s * 4 + f) (by omega) (by omega)).2.2.2.2 ?_
    refine pw_iconst C dX10_rival_25 ?_
    have b3 := (hA.fa (s * 4 + f) (by omega)).s3
    refine pw_icmp_ne (tgt := 33) C dX10_rival_26 (by decide) (by omega) (fun c_26 => ?_) (fun c_26 => ?_)
    · skip
      refine pw_iconst C dX10_rival_33 ?_
      refine pw_istore_n C dX10_rival_34 (Nat.le_of_ble_eq_true rfl) rfl ?_
      refine pw_iload_n C dX10_rival_35 rfl ?_
      refine pw_ifL_eq (tgt := 52) C dX10_rival_36 (by decide) rfl ?_
      refine pw_iload_n C dX10_rival_52 rfl ?_
      exact pw_zret C hR dX10_rival_53 (by omega) ((by have hcd : cd1 ((0 ≤ s ∧ s < A 0 0 0) ∧ 0 ≤ f ∧ f < 4) = 0 := (by unfold cd1; first | (exfalso; omega) | rw [if_pos (by omega)] | rw [if_neg (by omega)]); exact ⟨_, rfl, by rw [hcd, ← e2]; exact Fq.rf, fun _ => (bI_f (by omega)).symm, _, _, by rw [if_pos hcd]; exact (by rw [if_neg (by omega)]; exact hM)⟩)) (by omega) (by omega)
    · skip
      refine pw_iconst C dX10_rival_29 ?_
      refine pw_goto (tgt := 34) C dX10_rival_30 (by decide) ?_
      refine pw_istore_n C dX10_rival_34 (Nat.le_of_ble_eq_true rfl) rfl ?_
      refine pw_iload_n C dX10_rival_35 rfl ?_
      refine pw_ifL_eqn (tgt := 52) C dX10_rival_36 (by decide) rfl ?_
      refine pw_aload_n C dX10_rival_39 rfl ?_
      refine pw_iload_n C dX10_rival_40 rfl ?_
      refine pw_iload_n C dX10_rival_41 rfl ?_
      refine pw_cVR C hX dX10_rival_42 ml_X10_123 mc_X10_fact (m_fact hM hA (s := s) (f := f) (by omega) (by omega)) kc_13 hM.k rfl rfl ⟨Nat.le_of_ble_eq_true rfl, Nat.le_of_ble_eq_true rfl⟩ (Nat.le_of_ble_eq_true rfl) ⟨Nat.le_of_ble_eq_true rfl, Nat.le_of_ble_eq_true rfl⟩ ?_
      refine pw_aload_n C dX10_rival_45 rfl ?_
      refine pw_getE C dX10_rival_46 fl_X10_130 rfl hM.k hM.w ?_
      have hF0 := hM.fa (s * 4 + f) (by omega) (by omega)
      refine pw_putIG C dX10_rival_49 fl_X10_127 (fun h => by cases h) rfl hF0.1 (fun M9 e9 => ?_)
      have hF9 : MFa G M9 (D 3 (s * 4 + f)) (lup (A (100 + (s * 4 + f))) 1 3 (A 0 0 3)) := by rw [e9]; exact hF0.rv
      have hO9 : Ot (D 3 (s * 4 + f)) (D 3 (s * 4 + f) + 1) M2 M9 := by rw [e9]; exact Ot.rf.u0 (by omega)
      have hM9 : RM G M9 Q (aRiv A (s * 4 + f)) D I := hM.uF (by omega) hF9 hO9
      have hFq : Fq Q G M2 G M9 := Fq.rf.wr hO9 (hM.p.f (s * 4 + f) (by omega) (by omega)).1.1
      clear e9 hF0 hO9
      refine pw_iload_n C dX10_rival_52 rfl ?_
      exact pw_zret C hR dX10_rival_53 (by omega) ((by have hcd : cd1 ((0 ≤ s ∧ s < A 0 0 0) ∧ 0 ≤ f ∧ f < 4) = 0 := (by unfold cd1; first | (exfalso; omega) | rw [if_pos (by omega)] | rw [if_neg (by omega)]); exact ⟨_, rfl, by rw [hcd, ← e2]; exact hFq, fun _ => (bI_t (by omega)).symm, _, _, by rw [if_pos hcd]; exact (by rw [if_pos (by omega)]; exact hM9)⟩)) (by omega) (by omega)

set_option maxHeartbeats 4000000 in
set_option maxRecDepth 100000 in
theorem m_down {X : Xv} {G M : Mm} {Q : Int} {A : An} {D : Fn} {I : Int → Int} (hM : RM G M Q A D I) (hA : AB A) (hW : WF A) {l m : Int} (r_l : -2147483648 ≤ l ∧ l ≤ 2147483647) (r_m : -2147483648 ≤ m ∧ m ≤ 2147483647) : CT X yX10_down prog_8_method_28_code 4 (some .int) 3 64 0 0 [vR Q, vI l, vI m] G M (PI (fun r G1 M1 => Fq Q G (mup M 0 240 Q (cd2 (0 ≤ l ∧ l < A 0 0 2) (0 ≤ m ∧ m ≤ 99))) G1 M1 ∧ (cd2 (0 ≤ l ∧ l < A 0 0 2) (0 ≤ m ∧ m ≤ 99) = 0 → r = A (20 + l) 4 2) ∧ ∃ D1 I1, RM G1 M1 Q (if cd2 (0 ≤ l ∧ l < A 0 0 2) (0 ≤ m ∧ m ≤ 99) = 0 then aDwn A l m else A) D1 I1)) := by
  refine CT.by (by decide +kernel) [1, 1, 1] ⟨cat_vR _, cat_vI _, cat_vI _, trivial⟩ (Nat.le_of_ble_eq_true rfl) (fun E hX C hR hIni => ?_)
  have hn := hA.n
  have hnS := hA.so.c
  refine pw_aload_n C dX10_down_0 rfl ?_
  refine pw_aload_n C dX10_down_1 rfl ?_
  refine pw_iload_n C dX10_down_2 rfl ?_
  refine pw_cVE C hX dX10_down_3 ml_X10_133 mc_X10_isNoLine (m_isNoLine hM hA (i := l) (by omega)) kc_13 hM.k rfl rfl ⟨Nat.le_of_ble_eq_true rfl, Nat.le_of_ble_eq_true rfl⟩ (Nat.le_of_ble_eq_true rfl) ⟨Nat.le_of_ble_eq_true rfl, Nat.le_of_ble_eq_true rfl⟩ ?_
  refine pw_iconst C dX10_down_6 ?_
  by_cases cz_7 : ¬ (0 ≤ l ∧ l < A 0 0 2)
  · skip
    rw [bI_t cz_7]
    refine pw_cVI C hX dX10_down_7 ml_X10_103 mc_X10_start (m_start hM hA (z := 1) (w := 1) (by omega) (by omega)) kc_13 hM.k rfl rfl ⟨Nat.le_of_ble_eq_true rfl, Nat.le_of_ble_eq_true rfl⟩ (Nat.le_of_ble_eq_true rfl) ⟨Nat.le_of_ble_eq_true rfl, Nat.le_of_ble_eq_true rfl⟩ (fun r_ G M1 hq_ => ?_)
    obtain ⟨rfl, rfl, e1⟩ := hq_
    rw [if_neg (by decide)] at e1
    have hMn : RM G M1 Q A D I := by rw [e1]; exact hM.th
    clear hM
    have hM := hMn
    clear hMn
    have hK1 : Kp G M1 G M1 := Kp.rf
    refine pw_ifL_ne (tgt := 36) C dX10_down_10 (by decide) rfl ?_
    refine pw_iconst C dX10_down_36 ?_
    exact pw_iret C hR dX10_down_37 ((by have hcd : cd2 (0 ≤ l ∧ l < A 0 0 2) (0 ≤ m ∧ m ≤ 99) = 1 := (by unfold cd2; first | (exfalso; omega) | rw [if_pos (by omega)] | rw [if_neg (by omega), if_pos (by omega)] | rw [if_neg (by omega), if_neg (by omega)]); exact ⟨_, rfl, by rw [hcd, ← e1]; exact Fq.rf, fun h => absurd (hcd.symm.trans h) (by decide), D, I, by rw [if_neg (fun h => absurd (hcd.symm.trans h) (by decide))]; exact hM⟩)) (by omega) (by omega)
  · skip
    rw [bI_f cz_7]
    refine pw_cVI C hX dX10_down_7 ml_X10_103 mc_X10_start (m_start hM hA (z := 0) (w := 1) (by omega) (by omega)) kc_13 hM.k rfl rfl ⟨Nat.le_of_ble_eq_true rfl, Nat.le_of_ble_eq_true rfl⟩ (Nat.le_of_ble_eq_true rfl) ⟨Nat.le_of_ble_eq_true rfl, Nat.le_of_ble_eq_true rfl⟩ (fun r_ G M2 hq_ => ?_)
    obtain ⟨rfl, rfl, e2⟩ := hq_
    rw [if_pos rfl] at e2
    have hMn : RM G M2 Q A D I := by rw [e2]; exact hM.th
    clear hM
    have hM := hMn
    clear hMn
    have hK2 : Kp G M2 G M2 := Kp.rf
    refine pw_ifL_nen (tgt := 36) C dX10_down_10 (by decide) rfl ?_
    refine pw_aload_n C dX10_down_13 rfl ?_
    refine pw_iload_n C dX10_down_14 rfl ?_
    refine pw_iconst C dX10_down_15 ?_
    refine pw_bipush C dX10_down_16 rfl ?_
    refine pw_cSE C hX dX10_down_18 ml_X10_37 mc_X10_isIn (m_isIn (v := m) (lo := 0) (hi := 99) (by omega) (by omega) (by omega)) rfl rfl ⟨Nat.le_of_ble_eq_true rfl, Nat.le_of_ble_eq_true rfl⟩ (Nat.le_of_ble_eq_true rfl) ⟨Nat.le_of_ble_eq_true rfl, Nat.le_of_ble_eq_true rfl⟩ ?_
    refine pw_ifB_ne (tgt := 28) C dX10_down_21 (by decide) (fun c_21 => ?_) (fun c_21 => ?_)
    · skip
      refine pw_iconst C dX10_down_28 ?_
      refine pw_iconst C dX10_down_29 ?_
      refine pw_cVI C hX dX10_down_30 ml_X10_29 mc_X10_refuse (m_refuse hM hA (z := 0) (w := 2) (by omega) (by omega) (by rw [e2, mup_s])) kc_13 hM.k rfl rfl ⟨Nat.le_of_ble_eq_true rfl, Nat.le_of_ble_eq_true rfl⟩ (Nat.le_of_ble_eq_true rfl) ⟨Nat.le_of_ble_eq_true rfl, Nat.le_of_ble_eq_true rfl⟩ (fun r_ G M3 hq_ => ?_)
      obtain ⟨rfl, rfl, e3⟩ := hq_
      rw [if_pos rfl] at e3
      have hMn : RM G M3 Q A D I := by rw [e3]; exact hM.th
      rw [e2, mup_mup] at e3
      clear hM
      have hM := hMn
      clear hMn
      have hK3 : Kp G M3 G M3 := Kp.rf
      refine pw_ifL_eq (tgt := 38) C dX10_down_33 (by decide) rfl ?_
      refine pw_aload_n C dX10_down_38 rfl ?_
      refine pw_getR C dX10_down_39 fl_X10_22 hM.k rfl hM.r4 ?_
      refine pw_iload_n C dX10_down_42 rfl ?_
      refine pw_cVR C hX dX10_down_43 ml_X10_45 mc_Jx4a65c_get_915e3 (hM.g4 (i := l) (by omega)) kc_2 hM.l4.k rfl rfl ⟨Nat.le_of_ble_eq_true rfl, Nat.le_of_ble_eq_true rfl⟩ (Nat.le_of_ble_eq_true rfl) ⟨Nat.le_of_ble_eq_true rfl, Nat.le_of_ble_eq_true rfl⟩ ?_
      refine pw_cast (Cn := "SlugwireModel$Line") C dX10_down_46 (List.mem_of_getElem? (i := 1067) (by decide +kernel)) (by rw [(hM.li l (by omega) (by omega)).1]; exact kc_10) ?_
      refine pw_getE C dX10_down_49 fl_X10_136 rfl (hM.li l (by omega) (by omega)).1 (hM.li l (by omega) (by omega)).2.2.2.2.2.1.2.2.1 ?_
      have b_49 := (hA.li l (by omega)).s2
      refine pw_istore_n C dX10_down_52 (Nat.le_of_ble_eq_true rfl) rfl ?_
      refine pw_aload_n C dX10_down_53 rfl ?_
      refine pw_getR C dX10_down_54 fl_X10_22 hM.k rfl hM.r4 ?_
      refine pw_iload_n C dX10_down_57 rfl ?_
      refine pw_cVR C hX dX10_down_58 ml_X10_45 mc_Jx4a65c_get_915e3 (hM.g4 (i := l) (by omega)) kc_2 hM.l4.k rfl rfl ⟨Nat.le_of_ble_eq_true rfl, Nat.le_of_ble_eq_true rfl⟩ (Nat.le_of_ble_eq_true rfl) ⟨Nat.le_of_ble_eq_true rfl, Nat.le_of_ble_eq_true rfl⟩ ?_
      refine pw_cast (Cn := "SlugwireModel$Line") C dX10_down_61 (List.mem_of_getElem? (i := 1067) (by decide +kernel)) (by rw [(hM.li l (by omega) (by omega)).1]; exact kc_10) ?_
      refine pw_iload_n C dX10_down_64 rfl ?_
      have hL0 := hM.li l (by omega) (by omega)
      refine pw_putIG C dX10_down_65 fl_X10_136 (fun h => by cases h) rfl hL0.1 (fun M9 e9 => ?_)
      have hL9 : MLi G M9 (D 5 l) (lup (A (20 + l)) 4 2 m) := by rw [e9]; exact hL0.dn
      have hO9 : Ot (D 5 l) (D 5 l + 3) M3 M9 := by rw [e9]; exact Ot.rf.u0 (by omega)
      have hM9 : RM G M9 Q (aDwn A l m) D I := hM.uL (by omega) hL9 hO9
      have hFq : Fq Q G M3 G M9 := Fq.rf.wr hO9 (hM.p.l l (by omega) (by omega)).1.1
      clear e9 hL0 hO9
      refine pw_iload_n C dX10_down_68 rfl ?_
      exact pw_iret C hR dX10_down_69 ((by have hcd : cd2 (0 ≤ l ∧ l < A 0 0 2) (0 ≤ m ∧ m ≤ 99) = 0 := (by unfold cd2; first | (exfalso; omega) | rw [if_pos (by omega)] | rw [if_neg (by omega), if_pos (by omega)] | rw [if_neg (by omega), if_neg (by omega)]); exact ⟨_, rfl, by rw [hcd, ← e3]; exact hFq, fun _ => rfl, _, _, by rw [if_pos hcd]; exact hM9⟩)) (by omega) (by omega)
    · skip
      refine pw_iconst C dX10_down_24 ?_
      refine pw_goto (tgt := 29) C dX10_down_25 (by decide) ?_
      refine pw_iconst C dX10_down_29 ?_
      refine pw_cVI C hX dX10_down_30 ml_X10_29 mc_X10_refuse (m_refuse hM hA (z := 1) (w := 2) (by omega) (by omega) (by rw [e2, mup_s])) kc_13 hM.k rfl rfl ⟨Nat.le_of_ble_eq_true rfl, Nat.le_of_ble_eq_true rfl⟩ (Nat.le_of_ble_eq_true rfl) ⟨Nat.le_of_ble_eq_true rfl, Nat.le_of_ble_eq_true rfl⟩ (fun r_ G M4 hq_ => ?_)
      obtain ⟨rfl, rfl, e4⟩ := hq_
      rw [if_neg (by decide)] at e4
      have hMn : RM G M4 Q A D I := by rw [e4]; exact hM.th
      rw [e2, mup_mup] at e4
      clear hM
      have hM := hMn
      clear hMn
      have hK4 : Kp G M4 G M4 := Kp.rf
      refine pw_ifL_eqn (tgt := 38) C dX10_down_33 (by decide) rfl ?_
      refine pw_iconst C dX10_down_36 ?_
      exact pw_iret C hR dX10_down_37 ((by have hcd : cd2 (0 ≤ l ∧ l < A 0 0 2) (0 ≤ m ∧ m ≤ 99) = 2 := (by unfold cd2; first | (exfalso; omega) | rw [if_pos (by omega)] | rw [if_neg (by omega), if_pos (by omega)] | rw [if_neg (by omega), if_neg (by omega)]); exact ⟨_, rfl, by rw [hcd, ← e4]; exact Fq.rf, fun h => absurd (hcd.symm.trans h) (by decide), D, I, by rw [if_neg (fun h => absurd (hcd.symm.trans h) (by decide))]; exact hM⟩)) (by omega) (by omega)

