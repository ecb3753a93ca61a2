/-! ===== the law's wrappers: methods with handlers ===== -/
theorem ofWHm {l : Launch} {y : MethodName} {ws ws' : List Cond} {rm : Room} {Pc : Array Value → State → Prop} {Qc : Array Value → State → Outcome → State → Prop} {mc ms : Nat} {free : Addr → Prop} {cc : ByteArray} {maxL : Nat} {ret : Option FieldType} {hh : List (Nat × Nat × Nat × Nat)}
    (hy : plainName y.cls = true) (hw : ws = Cond.codeWith y cc maxL ret hh :: ws')
    (body : ∀ p e s m args below meth c s₁, BodyLoose p l y (headSpec ws rm) cc maxL ret e s m args below meth c s₁ → c.maxLocals = maxL → Pc args s →
      W p l e (headSpec ws rm).room s m args below meth c s.heap [] 0 0 (MQ below Qc args s mc ms free) (entryFrame m args maxL)) : Met l y ws rm Pc Qc mc ms free := by
  refine MetFree.of_bodyS (code := cc) (maxLocals := maxL) (ret := ret) hy ?_ ?_
  · intro args s m h hn
    obtain ⟨m9, meth, c, hn9, h1, h2, h3, h4, -, h5, h6, -⟩ := Cond.codeWith_spec (atoms_spec (ws := ws) h _ (by rw [hw]; exact List.mem_cons_self))
    cases hn.symm.trans hn9
    exact ⟨meth, c, h1, h2, h3, h4, h5, h6⟩
  · intro p e s m args below meth c s₁ B hml hP _
    have hh0 : s₁.heap = s.heap := by rw [B.state]; rfl
    obtain ⟨t, a1, o, b1, b2, b3⟩ := body p e s m args below meth c s₁ B hml hP s₁ hh0 (Stand.of_body B)
    exact ⟨t, o, a1, b1, b2, ⟨b3.1, b3.2⟩⟩
/-- as CT, of a method with handlers -/
def CW (X : Xv) (y : MethodName) (b : ByteArray) (nL : Nat) (ret : Option FieldType) (hh : List (Nat × Nat × Nat × Nat)) (fr lo mc ms : Nat) (av : List Value) (G M : Mm) (Post : Option Value → Mm → Mm → Prop) : Prop :=
  Met X.1 y [.codeWith y b nL ret hh] { frames := fr, cells := mc, slots := ms, locals := lo } (Pn X av G M) (Qn X Post) mc ms (frX X)
theorem CW.by {X : Xv} {y : MethodName} {b : ByteArray} {nL : Nat} {ret : Option FieldType} {hh : List (Nat × Nat × Nat × Nat)} {fr lo mc ms : Nat} {av : List Value} {G M : Mm} {Post : Option Value → Mm → Mm → Prop} (hy : plainName y.cls = true) (cs : List Nat) (hcs : catsOk cs av) (hn : cs.sum ≤ nL)
    (body : ∀ E : Ev, E.1 = X → Cx E b nL y.cls (tableOf hh) { frames := fr, cells := mc, slots := ms, locals := lo } → Rt E Post ret mc ms → PW E G M 0 0 0 (agc 0 cs av) []) : CW X y b nL ret hh fr lo mc ms av G M Post := by
  obtain ⟨l, D, cA, B0⟩ := X
  refine ofWHm (cc := b) (maxL := nL) (ret := ret) hy rfl ?_
  intro p e s m args below meth c s₁ B hml hv
  obtain ⟨rfl, hK, hH⟩ := hv
  have ht : c.exceptionTable.toList = tableOf hh := vx_table (x := y) B (atoms_spec (ws := [Cond.codeWith y b nL ret hh]) B.pre _ List.mem_cons_self)
  have h := body ((l, D, cA, B0), p, e, { frames := fr, cells := mc, slots := ms, locals := lo }, s, m, av.toArray, below, meth, c, MQ below (Qn (l, D, cA, B0) Post) av.toArray s mc ms (frX (l, D, cA, B0))) rfl
    ⟨B.exec, B.bytes, hml, findClass_of_methodNamed B.named, B.notSynchronized, ht, rfl, hK⟩ ⟨B.returns, fun _ _ _ h => h⟩
  have hl := lv_entry av (n := nL) (Nat.le_trans (lg_len cs av hcs) hn)
  rw [lg_entry_eq]
  refine h s.heap [] _ hH va_S.rf ?_
  rw [hml]
  exact ⟨hl.1, hl.2.1, fun q hq => ⟨hl.2.2 (q.1, q.2.2) (agc_args cs av 0 hcs q hq).1, (agc_args cs av 0 hcs q hq).2⟩⟩
def MSW (y : MethodName) (b : ByteArray) (nL : Nat) (ret : Option FieldType) (hh : List (Nat × Nat × Nat × Nat)) (np : Nat) : Prop := Cond.static y ∈ lw_tbl ∧ Cond.codeWith y b nL ret hh ∈ lw_tbl ∧ Cond.initialized y.cls ∈ lw_tbl ∧ MH_ y.cls ∧ (parseMethodDescriptor y.desc).map (fun d => d.parameters.length) = some np
section RowsW
variable {E : Ev} {cc : ByteArray} {nL : Nat} {own : String} {tb : List ExceptionTableEntry} {R0 : Room} {G M : Mm} {k n pc : Nat} {ll : List LE} {st : List Value}
theorem pw_callSW (C : Cx E cc nL own tb R0) {X : Xv} (hX : E.1 = X) {idx : Nat} {y : MethodName} {b : ByteArray} {nL' np fr lo mc ms : Nat} {ret : Option FieldType} {hh : List (Nat × Nat × Nat × Nat)} {As st0 : List Value} {Post : Option Value → Mm → Mm → Prop} (d : decode cc pc = .ok (.invokestatic idx, 3)) (hl : Cond.methodLink own idx y ∈ lw_tbl) (hy : MSW y b nL' ret hh np) (hM : CW X y b nL' ret hh fr lo mc ms As G M Post)
    (hst : st0 = As.reverse ++ st) (hn : As.length = np) (hroom : fr + 1 ≤ R0.frames ∧ 8 + (nL' + 11) + lo ≤ R0.locals) (hW : st.length ≤ 4) (hf : k + mc ≤ R0.cells ∧ n + ms ≤ R0.slots)
    (kk : ∀ r G' M', Post r G' M' → PW E G' M' (k + mc) (n + ms) (pc + 3) ll (r.toList ++ st)) : PW E G M k n pc ll st0 := by
  obtain ⟨⟨l, D, cA, B0⟩, p, e, R, s, m, args, below, meth, c, Q⟩ := E
  obtain ⟨hx, hb, hml, hown, hlocks, htb, hR, hK⟩ := C
  subst hX; subst hR; subst hst
  intro H locs ls h1 h2 h3
  have hpa := Pn.at (av := As) hK h1 h2
  obtain ⟨w1, w3, w4, w5, w6⟩ := hy
  have hws : ∀ w ∈ [Cond.codeWith y b nL' ret hh], ∀ (a' : Array Value) (U : State), s.WarmedH U.vm → w.before a' U = true := fun w hw a' U hW => by
    cases List.mem_singleton.mp hw
    exact okw_warm (A := args) hW rfl (kw hK w3 rfl)
  refine run_fin (av := As.toArray) ?_ h2 h3 kk
  exact vx_runSW (rest := st) ⟨hx, hb, hml, hown, fun w hw => kw hK (ho := by exact (List.mem_filter.mp hw).2) (List.mem_filter.mp hw).1⟩ (Ts := lw_tbl.filter okw) hM ⟨⟨rfl, rfl, hroom.1, hroom.2, hws, List.mem_singleton.mpr rfl⟩, kw hK w3 rfl, kw hK w4 rfl, w5, np_of w6, kw hK hl rfl, kw hK w1 rfl⟩ ⟨Pn.blind, hpa⟩ rfl hn (h3.1.trans hml) rfl (lv_room (catsum hW)) d hf
theorem pw_cSWI (C : Cx E cc nL own tb R0) {X : Xv} (hX : E.1 = X) {idx : Nat} {y : MethodName} {b : ByteArray} {nL' np fr lo mc ms : Nat} {ret : Option FieldType} {hh : List (Nat × Nat × Nat × Nat)} {As st0 : List Value} {P : Int → Mm → Mm → Prop} (d : decode cc pc = .ok (.invokestatic idx, 3)) (hl : Cond.methodLink own idx y ∈ lw_tbl) (hy : MSW y b nL' ret hh np) (hM : CW X y b nL' ret hh fr lo mc ms As G M (PI P)) (hst : st0 = As.reverse ++ st) (hn : As.length = np) (hroom : fr + 1 ≤ R0.frames ∧ 8 + (nL' + 11) + lo ≤ R0.locals) (hW : st.length ≤ 4) (hf : k + mc ≤ R0.cells ∧ n + ms ≤ R0.slots) (kk : ∀ r G1 M1, P r G1 M1 → PW E G1 M1 (k + mc) (n + ms) (pc + 3) ll (vI r :: st)) : PW E G M k n pc ll st0 := by
  refine pw_callSW C hX d hl hy hM hst hn hroom hW hf ?_
  intro r G' M' hq; obtain ⟨x, rfl, h⟩ := hq
  exact kk x G' M' h
end RowsW
/-- but the class's cells and out's, nothing is written -/
def OW (B out : Int) (M M1 : Mm) : Prop := ∀ b, (b < B ∨ B + 201 < b) → b ≠ out → (∀ f, M1 0 f b = M 0 f b) ∧ ∀ j, M1 1 b j = M 1 b j
theorem OW.rf {B out : Int} {M : Mm} : OW B out M M := fun _ _ _ => ⟨fun _ => rfl, fun _ => rfl⟩
/-- what a wrapper leaves: its code, the class's house, the answer in out -/
def WP (B out cd val : Int) (A A1 : An) (G M : Mm) : Int → Mm → Mm → Prop := fun r G1 M1 => r = cd ∧ (G1 = G ∨ ∃ z, G 4 0 0 ≤ z ∧ G1 = gZ G z) ∧ RC G1 M1 B (if cd = 0 then A1 else A) ∧ OW B out M M1 ∧ (cd = 0 → M1 1 out 0 = wr val)
theorem RC.gz {G M : Mm} {B z : Int} {A : An} (h : RC G M B A) : RC (gZ G z) M B A := by
  have g0 : ∀ x y, gZ G z 0 x y = G 0 x y := fun x y => gZ_n (by omega)
  have g1 : ∀ x y, gZ G z 1 x y = G 1 x y := fun x y => gZ_n (by omega)
  have g2 : ∀ x y, gZ G z 2 x y = G 2 x y := fun x y => gZ_n (by omega)
  have g3 : ∀ x y, gZ G z 3 x y = G 3 x y := fun x y => gZ_n (by omega)
  obtain ⟨⟨a1, a2, a3, a4, a5, a6, a7, a8⟩, b1, b2, b3, b4, b5, b6, b7⟩ := h
  have ag : ∀ b, agr G M (gZ G z) M b := fun b => agr_Z
  refine ⟨⟨by rw [g0]; exact a1, by rw [g2, g2, g2, g2, g2, g2]; exact a2, AR.o a3 (ag _), AR.o a4 (ag _), AR.o a5 (ag _), fun f q1 q2 => by rw [g3]; exact a6 f q1 q2, fun f q1 q2 => by rw [g3]; exact a7 f q1 q2, fun f q1 q2 => by rw [g3]; exact a8 f q1 q2⟩, b1, b2.o (by omega) (fun b _ _ => ag b), ?_, fun f q1 q2 => (b4 f q1 q2).o (by omega) (fun b _ _ => ag b), fun t q1 q2 => (b5 t q1 q2).o (by omega) (fun b _ _ => ag b), fun l q1 q2 => (b6 l q1 q2).o (by omega) (fun b _ _ => ag b), ?_⟩
  · obtain ⟨Y, hY⟩ := b3; exact ⟨Y, hY.o (by omega) (fun b _ _ => ag b)⟩
  · obtain ⟨Z, hZ⟩ := b7; exact ⟨Z, hZ.o (by omega) (fun b _ _ => ag b)⟩
theorem WP.ok {B out cd val x : Int} {A A1 : An} {G M M1 : Mm} (hcd : cd = 0) (ho : B + 201 < out) (hR : RC G M1 B A1) (hO : Ot B (B + 201) M M1) (hx : x = wr val) : WP B out cd val A A1 G M 0 G (mup M1 1 out 0 x) := by
  refine ⟨hcd.symm, Or.inl rfl, ?_, fun b q1 q2 => ?_, fun _ => by rw [mup_s]; exact hx⟩
  · rw [if_pos hcd]
    exact hR.o (lo := out) (hi := out) (Ot.rf.u1 (by omega)) (by omega)
  · exact ⟨fun f => (mup_n (by omega)).trans (hO.f q1 f), fun j => (mup_n (by omega)).trans (hO.j q1 j)⟩
theorem WP.bad {B out cd val i z : Int} {A A1 : An} {G M : Mm} (hcd : cd = i) (hi : ¬ i = 0) (hz : G 4 0 0 ≤ z) (hR : RC G M B A) : WP B out cd val A A1 G M i (gZ G z) M := by
  refine ⟨hcd.symm, Or.inr ⟨z, hz, rfl⟩, ?_, OW.rf, fun h => absurd (hcd.symm.trans h) hi⟩
  rw [if_neg (fun h => hi (hcd.symm.trans h))]
  exact hR.gz
theorem wr_0 : wr 0 = 0 := by decide
theorem wr_1 : wr 1 = 1 := by decide
set_option maxHeartbeats 4000000 in
set_option maxRecDepth 100000 in
theorem w_source {X : Xv} {G M : Mm} {B : Int} {A : An} (hR0 : RC G M B A) (hA : AB A) {out : Int} (ho : G 0 out 0 = 102 ∧ G 1 out 0 = 1) (ho2 : B + 201 < out) {wt of_ : Int} (r_wt : -2147483648 ≤ wt ∧ wt ≤ 2147483647) (r_of_ : -2147483648 ≤ of_ ∧ of_ ≤ 2147483647) : CW X yL_source method_3_code 5 (some .int) [(0, 10, 13, 13), (0, 10, 17, 15), (0, 10, 21, 17)] 8 125 1 6 [vR B, vI wt, vI of_, vR out] G M (PI (WP B out (cd3 (of_ = -1 ∨ (0 ≤ of_ ∧ of_ < A 10 2 0)) (1 ≤ wt ∧ wt ≤ 3) (A 10 2 0 < 10)) (A 10 2 0) A (aSrc A wt of_) G M)) := by
  refine CW.by (by decide +kernel) [1, 1, 1, 1] ⟨cat_vR _, cat_vI _, cat_vI _, cat_vR _, trivial⟩ (Nat.le_of_ble_eq_true rfl) (fun E hX C hR => ?_)
  refine pw_aload_n C dL_source_0 rfl ?_
  refine pw_iconst C dL_source_1 ?_
  refine pw_aload_n C dL_source_2 rfl ?_
  refine pw_iload_n C dL_source_3 rfl ?_
  refine pw_iload_n C dL_source_4 rfl ?_
  by_cases hok : (of_ = -1 ∨ (0 ≤ of_ ∧ of_ < A 10 2 0)) ∧ (1 ≤ wt ∧ wt ≤ 3) ∧ (A 10 2 0 < 10)
  · skip
    refine pw_cVI C hX dL_source_5 ml_L_7 mc_X5_source (c_source hR0 hA (wt := wt) (of_ := of_) r_wt r_of_ hok) kc_8 hR0.k rfl rfl ⟨Nat.le_of_ble_eq_true rfl, Nat.le_of_ble_eq_true rfl⟩ (Nat.le_of_ble_eq_true rfl) ⟨Nat.le_of_ble_eq_true rfl, Nat.le_of_ble_eq_true rfl⟩ (fun r_ G M1 hq_ => ?_)
    obtain ⟨rfl, rfl, hR1, hO1⟩ := hq_
    refine pw_i2lW C dL_source_8 ?_
    refine pw_last C dL_source_9 ho.1 (by rw [ho.2]; omega) ?_
    refine pw_goto (tgt := 25) C dL_source_10 (by decide) ?_
    refine pw_iconst C dL_source_25 ?_
    exact pw_iret C hR dL_source_26 (⟨_, rfl, WP.ok (by unfold cd3; rw [if_neg (fun q => q hok.1), if_neg (fun q => q hok.2.1), if_neg (fun q => q hok.2.2)]) ho2 hR1 hO1 rfl⟩) (Nat.le_of_ble_eq_true rfl) (Nat.le_of_ble_eq_true rfl)
  · skip
    refine pw_xV C hX dL_source_5 (List.mem_of_getElem? (i := 674) (by decide +kernel)) mc_X5_source (x_source hR0 hA (wt := wt) (of_ := of_) r_wt r_of_ hok) kc_8 hR0.k rfl rfl ⟨Nat.le_of_ble_eq_true rfl, Nat.le_of_ble_eq_true rfl⟩ (Nat.le_of_ble_eq_true rfl) ⟨Nat.le_of_ble_eq_true rfl, Nat.le_of_ble_eq_true rfl⟩ (fun Ec G1 M1 hq => ?_)
    obtain ⟨rfl, ⟨z, hz, rfl⟩, hq⟩ := hq
    rcases hq with ⟨hq, rfl⟩ | ⟨hq, rfl⟩ | ⟨hq, rfl⟩
    · skip
      refine pwx_catch C (name := "java/lang/IndexOutOfBoundsException") (tableOf []) ⟨0, 10, 13, 13⟩ (tableOf [(0, 10, 17, 15), (0, 10, 21, 17)]) rfl (fun z hz => absurd hz List.not_mem_nil) (by decide) (by decide) (List.mem_of_getElem? (i := 671) (by decide +kernel)) (List.mem_of_getElem? (i := 486) (by decide +kernel)) (fun q hq0 => ?_)
      show PW E _ _ _ _ 13 _ _
      refine pw_astore C dL_source_13 (Nat.le_of_ble_eq_true rfl) rfl ?_
      refine pw_iconst C dL_source_15 ?_
      exact pw_iret C hR dL_source_16 ⟨_, rfl, WP.bad (by unfold cd3; rw [if_pos hq]) (by decide) hz hR0⟩ (Nat.le_of_ble_eq_true rfl) (Nat.le_of_ble_eq_true rfl)
    · skip
      refine pwx_catch C (name := "java/lang/IllegalArgumentException") (tableOf [(0, 10, 13, 13)]) ⟨0, 10, 17, 15⟩ (tableOf [(0, 10, 21, 17)]) rfl (fun z hz => by rcases List.mem_cons.mp hz with rfl | hz; exact ⟨by decide, "java/lang/IndexOutOfBoundsException", List.mem_of_getElem? (i := 671) (by decide +kernel), by decide +kernel⟩; exact absurd hz List.not_mem_nil) (by decide) (by decide) (List.mem_of_getElem? (i := 672) (by decide +kernel)) (List.mem_of_getElem? (i := 402) (by decide +kernel)) (fun q hq0 => ?_)
      show PW E _ _ _ _ 17 _ _
      refine pw_astore C dL_source_17 (Nat.le_of_ble_eq_true rfl) rfl ?_
      refine pw_iconst C dL_source_19 ?_
      exact pw_iret C hR dL_source_20 ⟨_, rfl, WP.bad (by unfold cd3; rw [if_neg (fun q => q hq.1), if_pos hq.2]) (by decide) hz hR0⟩ (Nat.le_of_ble_eq_true rfl) (Nat.le_of_ble_eq_true rfl)
    · skip
      refine pwx_catch C (name := "java/lang/IllegalStateException") (tableOf [(0, 10, 13, 13), (0, 10, 17, 15)]) ⟨0, 10, 21, 17⟩ (tableOf []) rfl (fun z hz => by rcases List.mem_cons.mp hz with rfl | hz; exact ⟨by decide, "java/lang/IndexOutOfBoundsException", List.mem_of_getElem? (i := 671) (by decide +kernel), by decide +kernel⟩; rcases List.mem_cons.mp hz with rfl | hz; exact ⟨by decide, "java/lang/IllegalArgumentException", List.mem_of_getElem? (i := 672) (by decide +kernel), by decide +kernel⟩; exact absurd hz List.not_mem_nil) (by decide) (by decide) (List.mem_of_getElem? (i := 673) (by decide +kernel)) (List.mem_of_getElem? (i := 685) (by decide +kernel)) (fun q hq0 => ?_)
      show PW E _ _ _ _ 21 _ _
      refine pw_astore C dL_source_21 (Nat.le_of_ble_eq_true rfl) rfl ?_
      refine pw_iconst C dL_source_23 ?_
      exact pw_iret C hR dL_source_24 ⟨_, rfl, WP.bad (by unfold cd3; rw [if_neg (fun q => q hq.1), if_neg (fun q => q hq.2.1), if_pos hq.2.2]) (by decide) hz hR0⟩ (Nat.le_of_ble_eq_true rfl) (Nat.le_of_ble_eq_true rfl)
theorem mc_L_source : MSW yL_source method_3_code 5 (some .int) [(0, 10, 13, 13), (0, 10, 17, 15), (0, 10, 21, 17)] 4 := ⟨List.mem_of_getElem? (i := 669) (by decide +kernel), List.mem_of_getElem? (i := 670) (by decide +kernel), List.mem_of_getElem? (i := 91) (by decide +kernel), ⟨by decide +kernel, by decide +kernel⟩, by decide +kernel⟩

set_option maxHeartbeats 4000000 in
set_option maxRecDepth 100000 in
theorem w_story {X : Xv} {G M : Mm} {B : Int} {A : An} (hR0 : RC G M B A) (hA : AB A) {out : Int} (ho : G 0 out 0 = 102 ∧ G 1 out 0 = 1) (ho2 : B + 201 < out) : CW X yL_story method_4_code 3 (some .int) [(0, 8, 11, 17)] 7 102 1 6 [vR B, vR out] G M (PI (WP B out (cd1 (A 0 0 0 < 6)) (A 0 0 0) A (aSty A) G M)) := by
  refine CW.by (by decide +kernel) [1, 1] ⟨cat_vR _, cat_vR _, trivial⟩ (Nat.le_of_ble_eq_true rfl) (fun E hX C hR => ?_)
  refine pw_aload_n C dL_story_0 rfl ?_
  refine pw_iconst C dL_story_1 ?_
  refine pw_aload_n C dL_story_2 rfl ?_
  by_cases hok : (A 0 0 0 < 6)
  · skip
    refine pw_cVI C hX dL_story_3 ml_L_19 mc_X5_story (c_story hR0 hA   hok) kc_8 hR0.k rfl rfl ⟨Nat.le_of_ble_eq_true rfl, Nat.le_of_ble_eq_true rfl⟩ (Nat.le_of_ble_eq_true rfl) ⟨Nat.le_of_ble_eq_true rfl, Nat.le_of_ble_eq_true rfl⟩ (fun r_ G M1 hq_ => ?_)
    obtain ⟨rfl, rfl, hR1, hO1⟩ := hq_
    refine pw_i2lW C dL_story_6 ?_
    refine pw_last C dL_story_7 ho.1 (by rw [ho.2]; omega) ?_
    refine pw_goto (tgt := 14) C dL_story_8 (by decide) ?_
    refine pw_iconst C dL_story_14 ?_
    exact pw_iret C hR dL_story_15 (⟨_, rfl, WP.ok (by unfold cd1; rw [if_neg (fun q => q hok)]) ho2 hR1 hO1 rfl⟩) (Nat.le_of_ble_eq_true rfl) (Nat.le_of_ble_eq_true rfl)
  · skip
    refine pw_xV C hX dL_story_3 (List.mem_of_getElem? (i := 706) (by decide +kernel)) mc_X5_story (x_story hR0 hA   hok) kc_8 hR0.k rfl rfl ⟨Nat.le_of_ble_eq_true rfl, Nat.le_of_ble_eq_true rfl⟩ (Nat.le_of_ble_eq_true rfl) ⟨Nat.le_of_ble_eq_true rfl, Nat.le_of_ble_eq_true rfl⟩ (fun Ec G1 M1 hq => ?_)
    obtain ⟨rfl, ⟨z, hz, rfl⟩, hq⟩ := hq
    rcases hq with ⟨hq, rfl⟩ | ⟨hq, rfl⟩ | ⟨hq, rfl⟩
    · skip
      refine pwx_catch C (name := "java/lang/IllegalStateException") (tableOf []) ⟨0, 8, 11, 17⟩ (tableOf []) rfl (fun z hz => absurd hz List.not_mem_nil) (by decide) (by decide) (List.mem_of_getElem? (i := 673) (by decide +kernel)) (List.mem_of_getElem? (i := 685) (by decide +kernel)) (fun q hq0 => ?_)
      show PW E _ _ _ _ 11 _ _
      refine pw_astore_n C dL_story_11 (Nat.le_of_ble_eq_true rfl) rfl ?_
      refine pw_iconst C dL_story_12 ?_
      exact pw_iret C hR dL_story_13 ⟨_, rfl, WP.bad (by unfold cd1; rw [if_pos hq]) (by decide) hz hR0⟩ (Nat.le_of_ble_eq_true rfl) (Nat.le_of_ble_eq_true rfl)
    · exact hq.elim
    · exact hq.elim
theorem mc_L_story : MSW yL_story method_4_code 3 (some .int) [(0, 8, 11, 17)] 2 := ⟨List.mem_of_getElem? (i := 704) (by decide +kernel), List.mem_of_getElem? (i := 705) (by decide +kernel), List.mem_of_getElem? (i := 91) (by decide +kernel), ⟨by decide +kernel, by decide +kernel⟩, by decide +kernel⟩

set_option maxHeartbeats 4000000 in
set_option maxRecDepth 100000 in
theorem w_line {X : Xv} {G M : Mm} {B : Int} {A : An} (hR0 : RC G M B A) (hA : AB A) {out : Int} (ho : G 0 out 0 = 102 ∧ G 1 out 0 = 1) (ho2 : B + 201 < out) {sp lg : Int} (r_sp : -2147483648 ≤ sp ∧ sp ≤ 2147483647) (r_lg : -2147483648 ≤ lg ∧ lg ≤ 2147483647) : CW X yL_line method_5_code 5 (some .int) [(0, 10, 13, 15), (0, 10, 17, 17)] 7 104 1 6 [vR B, vI sp, vI lg, vR out] G M (PI (WP B out (cd2 ((1 ≤ sp ∧ sp ≤ 60) ∧ 0 ≤ lg ∧ lg ≤ 9) (A 0 0 2 < 4)) (A 0 0 2) A (aLin A sp lg) G M)) := by
  refine CW.by (by decide +kernel) [1, 1, 1, 1] ⟨cat_vR _, cat_vI _, cat_vI _, cat_vR _, trivial⟩ (Nat.le_of_ble_eq_true rfl) (fun E hX C hR => ?_)
  refine pw_aload_n C dL_line_0 rfl ?_
  refine pw_iconst C dL_line_1 ?_
  refine pw_aload_n C dL_line_2 rfl ?_
  refine pw_iload_n C dL_line_3 rfl ?_
  refine pw_iload_n C dL_line_4 rfl ?_
  by_cases hok : ((1 ≤ sp ∧ sp ≤ 60) ∧ 0 ≤ lg ∧ lg ≤ 9) ∧ (A 0 0 2 < 4)
  · skip
    refine pw_cVI C hX dL_line_5 ml_L_23 mc_X5_line (c_line hR0 hA (sp := sp) (lg := lg) r_sp r_lg hok) kc_8 hR0.k rfl rfl ⟨Nat.le_of_ble_eq_true rfl, Nat.le_of_ble_eq_true rfl⟩ (Nat.le_of_ble_eq_true rfl) ⟨Nat.le_of_ble_eq_true rfl, Nat.le_of_ble_eq_true rfl⟩ (fun r_ G M1 hq_ => ?_)
    obtain ⟨rfl, rfl, hR1, hO1⟩ := hq_
    refine pw_i2lW C dL_line_8 ?_
    refine pw_last C dL_line_9 ho.1 (by rw [ho.2]; omega) ?_
    refine pw_goto (tgt := 21) C dL_line_10 (by decide) ?_
    refine pw_iconst C dL_line_21 ?_
    exact pw_iret C hR dL_line_22 (⟨_, rfl, WP.ok (by unfold cd2; rw [if_neg (fun q => q hok.1), if_neg (fun q => q hok.2)]) ho2 hR1 hO1 rfl⟩) (Nat.le_of_ble_eq_true rfl) (Nat.le_of_ble_eq_true rfl)
  · skip
    refine pw_xV C hX dL_line_5 (List.mem_of_getElem? (i := 714) (by decide +kernel)) mc_X5_line (x_line hR0 hA (sp := sp) (lg := lg) r_sp r_lg hok) kc_8 hR0.k rfl rfl ⟨Nat.le_of_ble_eq_true rfl, Nat.le_of_ble_eq_true rfl⟩ (Nat.le_of_ble_eq_true rfl) ⟨Nat.le_of_ble_eq_true rfl, Nat.le_of_ble_eq_true rfl⟩ (fun Ec G1 M1 hq => ?_)
    obtain ⟨rfl, ⟨z, hz, rfl⟩, hq⟩ := hq
    rcases hq with ⟨hq, rfl⟩ | ⟨hq, rfl⟩ | ⟨hq, rfl⟩
    · skip
      refine pwx_catch C (name := "java/lang/IllegalArgumentException") (tableOf []) ⟨0, 10, 13, 15⟩ (tableOf [(0, 10, 17, 17)]) rfl (fun z hz => absurd hz List.not_mem_nil) (by decide) (by decide) (List.mem_of_getElem? (i := 672) (by decide +kernel)) (List.mem_of_getElem? (i := 402) (by decide +kernel)) (fun q hq0 => ?_)
      show PW E _ _ _ _ 13 _ _
      refine pw_astore C dL_line_13 (Nat.le_of_ble_eq_true rfl) rfl ?_
      refine pw_iconst C dL_line_15 ?_
      exact pw_iret C hR dL_line_16 ⟨_, rfl, WP.bad (by unfold cd2; rw [if_pos hq]) (by decide) hz hR0⟩ (Nat.le_of_ble_eq_true rfl) (Nat.le_of_ble_eq_true rfl)
    · skip
      refine pwx_catch C (name := "java/lang/IllegalStateException") (tableOf [(0, 10, 13, 15)]) ⟨0, 10, 17, 17⟩ (tableOf []) rfl (fun z hz => by rcases List.mem_cons.mp hz with rfl | hz; exact ⟨by decide, "java/lang/IllegalArgumentException", List.mem_of_getElem? (i := 672) (by decide +kernel), by decide +kernel⟩; exact absurd hz List.not_mem_nil) (by decide) (by decide) (List.mem_of_getElem? (i := 673) (by decide +kernel)) (List.mem_of_getElem? (i := 685) (by decide +kernel)) (fun q hq0 => ?_)
      show PW E _ _ _ _ 17 _ _
      refine pw_astore C dL_line_17 (Nat.le_of_ble_eq_true rfl) rfl ?_
      refine pw_iconst C dL_line_19 ?_
      exact pw_iret C hR dL_line_20 ⟨_, rfl, WP.bad (by unfold cd2; rw [if_neg (fun q => q hq.1), if_pos hq.2]) (by decide) hz hR0⟩ (Nat.le_of_ble_eq_true rfl) (Nat.le_of_ble_eq_true rfl)
    · exact hq.elim
theorem mc_L_line : MSW yL_line method_5_code 5 (some .int) [(0, 10, 13, 15), (0, 10, 17, 17)] 4 := ⟨List.mem_of_getElem? (i := 712) (by decide +kernel), List.mem_of_getElem? (i := 713) (by decide +kernel), List.mem_of_getElem? (i := 91) (by decide +kernel), ⟨by decide +kernel, by decide +kernel⟩, by decide +kernel⟩

set_option maxHeartbeats 4000000 in
set_option maxRecDepth 100000 in
theorem w_report {X : Xv} {G M : Mm} {B : Int} {A : An} (hR0 : RC G M B A) (hA : AB A) {out : Int} (ho : G 0 out 0 = 102 ∧ G 1 out 0 = 1) (ho2 : B + 201 < out) {so s f v : Int} (r_so : -2147483648 ≤ so ∧ so ≤ 2147483647) (r_s : -2147483648 ≤ s ∧ s ≤ 2147483647) (r_f : -2147483648 ≤ f ∧ f ≤ 2147483647) (r_v : -2147483648 ≤ v ∧ v ≤ 2147483647) : CW X yL_report method_6_code 7 (some .int) [(0, 14, 17, 13), (0, 14, 21, 15)] 9 150 1 6 [vR B, vI so, vI s, vI f, vI v, vR out] G M (PI (WP B out (cd2 ((0 ≤ so ∧ so < A 10 2 0) ∧ (0 ≤ s ∧ s < A 0 0 0) ∧ 0 ≤ f ∧ f < 4) (0 ≤ v ∧ v ≤ 99)) (pG (A 10) (lup (A (100 + (s * 4 + f))) 0 so v) v) A (aSay A so (s * 4 + f) v) G M)) := by
  refine CW.by (by decide +kernel) [1, 1, 1, 1, 1, 1] ⟨cat_vR _, cat_vI _, cat_vI _, cat_vI _, cat_vI _, cat_vR _, trivial⟩ (Nat.le_of_ble_eq_true rfl) (fun E hX C hR => ?_)
  refine pw_aload C dL_report_0 rfl ?_
  refine pw_iconst C dL_report_2 ?_
  refine pw_aload_n C dL_report_3 rfl ?_
  refine pw_iload_n C dL_report_4 rfl ?_
  refine pw_iload_n C dL_report_5 rfl ?_
  refine pw_iload_n C dL_report_6 rfl ?_
  refine pw_iload C dL_report_7 rfl ?_
  by_cases hok : ((0 ≤ so ∧ so < A 10 2 0) ∧ (0 ≤ s ∧ s < A 0 0 0) ∧ 0 ≤ f ∧ f < 4) ∧ (0 ≤ v ∧ v ≤ 99)
  · skip
    refine pw_cVI C hX dL_report_9 ml_L_26 mc_X5_report (c_report hR0 hA (so := so) (s := s) (f := f) (v := v) r_so r_s r_f r_v hok) kc_8 hR0.k rfl rfl ⟨Nat.le_of_ble_eq_true rfl, Nat.le_of_ble_eq_true rfl⟩ (Nat.le_of_ble_eq_true rfl) ⟨Nat.le_of_ble_eq_true rfl, Nat.le_of_ble_eq_true rfl⟩ (fun r_ G M1 hq_ => ?_)
    obtain ⟨rfl, rfl, hR1, hO1⟩ := hq_
    refine pw_i2lW C dL_report_12 ?_
    refine pw_last C dL_report_13 ho.1 (by rw [ho.2]; omega) ?_
    refine pw_goto (tgt := 25) C dL_report_14 (by decide) ?_
    refine pw_iconst C dL_report_25 ?_
    exact pw_iret C hR dL_report_26 (⟨_, rfl, WP.ok (by unfold cd2; rw [if_neg (fun q => q hok.1), if_neg (fun q => q hok.2)]) ho2 hR1 hO1 rfl⟩) (Nat.le_of_ble_eq_true rfl) (Nat.le_of_ble_eq_true rfl)
  · skip
    refine pw_xV C hX dL_report_9 (List.mem_of_getElem? (i := 723) (by decide +kernel)) mc_X5_report (x_report hR0 hA (so := so) (s := s) (f := f) (v := v) r_so r_s r_f r_v hok) kc_8 hR0.k rfl rfl ⟨Nat.le_of_ble_eq_true rfl, Nat.le_of_ble_eq_true rfl⟩ (Nat.le_of_ble_eq_true rfl) ⟨Nat.le_of_ble_eq_true rfl, Nat.le_of_ble_eq_true rfl⟩ (fun Ec G1 M1 hq => ?_)
    obtain ⟨rfl, ⟨z, hz, rfl⟩, hq⟩ := hq
    rcases hq with ⟨hq, rfl⟩ | ⟨hq, rfl⟩ | ⟨hq, rfl⟩
    · skip
      refine pwx_catch C (name := "java/lang/IndexOutOfBoundsException") (tableOf []) ⟨0, 14, 17, 13⟩ (tableOf [(0, 14, 21, 15)]) rfl (fun z hz => absurd hz List.not_mem_nil) (by decide) (by decide) (List.mem_of_getElem? (i := 671) (by decide +kernel)) (List.mem_of_getElem? (i := 486) (by decide +kernel)) (fun q hq0 => ?_)
      show PW E _ _ _ _ 17 _ _
      refine pw_astore C dL_report_17 (Nat.le_of_ble_eq_true rfl) rfl ?_
      refine pw_iconst C dL_report_19 ?_
      exact pw_iret C hR dL_report_20 ⟨_, rfl, WP.bad (by unfold cd2; rw [if_pos hq]) (by decide) hz hR0⟩ (Nat.le_of_ble_eq_true rfl) (Nat.le_of_ble_eq_true rfl)
    · skip
      refine pwx_catch C (name := "java/lang/IllegalArgumentException") (tableOf [(0, 14, 17, 13)]) ⟨0, 14, 21, 15⟩ (tableOf []) rfl (fun z hz => by rcases List.mem_cons.mp hz with rfl | hz; exact ⟨by decide, "java/lang/IndexOutOfBoundsException", List.mem_of_getElem? (i := 671) (by decide +kernel), by decide +kernel⟩; exact absurd hz List.not_mem_nil) (by decide) (by decide) (List.mem_of_getElem? (i := 672) (by decide +kernel)) (List.mem_of_getElem? (i := 402) (by decide +kernel)) (fun q hq0 => ?_)
      show PW E _ _ _ _ 21 _ _
      refine pw_astore C dL_report_21 (Nat.le_of_ble_eq_true rfl) rfl ?_
      refine pw_iconst C dL_report_23 ?_
      exact pw_iret C hR dL_report_24 ⟨_, rfl, WP.bad (by unfold cd2; rw [if_neg (fun q => q hq.1), if_pos hq.2]) (by decide) hz hR0⟩ (Nat.le_of_ble_eq_true rfl) (Nat.le_of_ble_eq_true rfl)
    · exact hq.elim
theorem mc_L_report : MSW yL_report method_6_code 7 (some .int) [(0, 14, 17, 13), (0, 14, 21, 15)] 6 := ⟨List.mem_of_getElem? (i := 721) (by decide +kernel), List.mem_of_getElem? (i := 722) (by decide +kernel), List.mem_of_getElem? (i := 91) (by decide +kernel), ⟨by decide +kernel, by decide +kernel⟩, by decide +kernel⟩

set_option maxHeartbeats 4000000 in
set_option maxRecDepth 100000 in
theorem w_retract {X : Xv} {G M : Mm} {B : Int} {A : An} (hR0 : RC G M B A) (hA : AB A) {out : Int} (ho : G 0 out 0 = 102 ∧ G 1 out 0 = 1) (ho2 : B + 201 < out) {so s f : Int} (r_so : -2147483648 ≤ so ∧ so ≤ 2147483647) (r_s : -2147483648 ≤ s ∧ s ≤ 2147483647) (r_f : -2147483648 ≤ f ∧ f ≤ 2147483647) : CW X yL_retract method_7_code 6 (some .int) [(0, 12, 15, 13), (0, 12, 19, 17)] 9 150 1 6 [vR B, vI so, vI s, vI f, vR out] G M (PI (WP B out (cd2 ((0 ≤ so ∧ so < A 10 2 0) ∧ (0 ≤ s ∧ s < A 0 0 0) ∧ 0 ≤ f ∧ f < 4) (¬ A (100 + (s * 4 + f)) 0 so = -1)) (A (100 + (s * 4 + f)) 0 so) A (aSay A so (s * 4 + f) (-1)) G M)) := by
  refine CW.by (by decide +kernel) [1, 1, 1, 1, 1] ⟨cat_vR _, cat_vI _, cat_vI _, cat_vI _, cat_vR _, trivial⟩ (Nat.le_of_ble_eq_true rfl) (fun E hX C hR => ?_)
  refine pw_aload C dL_retract_0 rfl ?_
  refine pw_iconst C dL_retract_2 ?_
  refine pw_aload_n C dL_retract_3 rfl ?_
  refine pw_iload_n C dL_retract_4 rfl ?_
  refine pw_iload_n C dL_retract_5 rfl ?_
  refine pw_iload_n C dL_retract_6 rfl ?_
  by_cases hok : ((0 ≤ so ∧ so < A 10 2 0) ∧ (0 ≤ s ∧ s < A 0 0 0) ∧ 0 ≤ f ∧ f < 4) ∧ (¬ A (100 + (s * 4 + f)) 0 so = -1)
  · skip
    refine pw_cVI C hX dL_retract_7 ml_L_30 mc_X5_retract (c_retract hR0 hA (so := so) (s := s) (f := f) r_so r_s r_f hok) kc_8 hR0.k rfl rfl ⟨Nat.le_of_ble_eq_true rfl, Nat.le_of_ble_eq_true rfl⟩ (Nat.le_of_ble_eq_true rfl) ⟨Nat.le_of_ble_eq_true rfl, Nat.le_of_ble_eq_true rfl⟩ (fun r_ G M1 hq_ => ?_)
    obtain ⟨rfl, rfl, hR1, hO1⟩ := hq_
    refine pw_i2lW C dL_retract_10 ?_
    refine pw_last C dL_retract_11 ho.1 (by rw [ho.2]; omega) ?_
    refine pw_goto (tgt := 23) C dL_retract_12 (by decide) ?_
    refine pw_iconst C dL_retract_23 ?_
    exact pw_iret C hR dL_retract_24 (⟨_, rfl, WP.ok (by unfold cd2; rw [if_neg (fun q => q hok.1), if_neg (fun q => q hok.2)]) ho2 hR1 hO1 rfl⟩) (Nat.le_of_ble_eq_true rfl) (Nat.le_of_ble_eq_true rfl)
  · skip
    refine pw_xV C hX dL_retract_7 (List.mem_of_getElem? (i := 735) (by decide +kernel)) mc_X5_retract (x_retract hR0 hA (so := so) (s := s) (f := f) r_so r_s r_f hok) kc_8 hR0.k rfl rfl ⟨Nat.le_of_ble_eq_true rfl, Nat.le_of_ble_eq_true rfl⟩ (Nat.le_of_ble_eq_true rfl) ⟨Nat.le_of_ble_eq_true rfl, Nat.le_of_ble_eq_true rfl⟩ (fun Ec G1 M1 hq => ?_)
    obtain ⟨rfl, ⟨z, hz, rfl⟩, hq⟩ := hq
    rcases hq with ⟨hq, rfl⟩ | ⟨hq, rfl⟩ | ⟨hq, rfl⟩
    · skip
      refine pwx_catch C (name := "java/lang/IndexOutOfBoundsException") (tableOf []) ⟨0, 12, 15, 13⟩ (tableOf [(0, 12, 19, 17)]) rfl (fun z hz => absurd hz List.not_mem_nil) (by decide) (by decide) (List.mem_of_getElem? (i := 671) (by decide +kernel)) (List.mem_of_getElem? (i := 486) (by decide +kernel)) (fun q hq0 => ?_)
      show PW E _ _ _ _ 15 _ _
      refine pw_astore C dL_retract_15 (Nat.le_of_ble_eq_true rfl) rfl ?_
      refine pw_iconst C dL_retract_17 ?_
      exact pw_iret C hR dL_retract_18 ⟨_, rfl, WP.bad (by unfold cd2; rw [if_pos hq]) (by decide) hz hR0⟩ (Nat.le_of_ble_eq_true rfl) (Nat.le_of_ble_eq_true rfl)
    · skip
      refine pwx_catch C (name := "java/lang/IllegalStateException") (tableOf [(0, 12, 15, 13)]) ⟨0, 12, 19, 17⟩ (tableOf []) rfl (fun z hz => by rcases List.mem_cons.mp hz with rfl | hz; exact ⟨by decide, "java/lang/IndexOutOfBoundsException", List.mem_of_getElem? (i := 671) (by decide +kernel), by decide +kernel⟩; exact absurd hz List.not_mem_nil) (by decide) (by decide) (List.mem_of_getElem? (i := 673) (by decide +kernel)) (List.mem_of_getElem? (i := 685) (by decide +kernel)) (fun q hq0 => ?_)
      show PW E _ _ _ _ 19 _ _
      refine pw_astore C dL_retract_19 (Nat.le_of_ble_eq_true rfl) rfl ?_
      refine pw_iconst C dL_retract_21 ?_
      exact pw_iret C hR dL_retract_22 ⟨_, rfl, WP.bad (by unfold cd2; rw [if_neg (fun q => q hq.1), if_pos hq.2]) (by decide) hz hR0⟩ (Nat.le_of_ble_eq_true rfl) (Nat.le_of_ble_eq_true rfl)
    · exact hq.elim
theorem mc_L_retract : MSW yL_retract method_7_code 6 (some .int) [(0, 12, 15, 13), (0, 12, 19, 17)] 5 := ⟨List.mem_of_getElem? (i := 733) (by decide +kernel), List.mem_of_getElem? (i := 734) (by decide +kernel), List.mem_of_getElem? (i := 91) (by decide +kernel), ⟨by decide +kernel, by decide +kernel⟩, by decide +kernel⟩

set_option maxHeartbeats 4000000 in
set_option maxRecDepth 100000 in
theorem w_rival {X : Xv} {G M : Mm} {B : Int} {A : An} (hR0 : RC G M B A) (hA : AB A) {out : Int} (ho : G 0 out 0 = 102 ∧ G 1 out 0 = 1) (ho2 : B + 201 < out) {s f : Int} (r_s : -2147483648 ≤ s ∧ s ≤ 2147483647) (r_f : -2147483648 ≤ f ∧ f ≤ 2147483647) : CW X yL_rival method_8_code 5 (some .int) [(0, 17, 20, 13)] 9 148 1 6 [vR B, vI s, vI f, vR out] G M (PI (WP B out (cd1 ((0 ≤ s ∧ s < A 0 0 0) ∧ 0 ≤ f ∧ f < 4)) (bI (A (100 + (s * 4 + f)) 1 3 = -1)) A (if A (100 + (s * 4 + f)) 1 3 = -1 then aRiv A (s * 4 + f) else A) G M)) := by
  refine CW.by (by decide +kernel) [1, 1, 1, 1] ⟨cat_vR _, cat_vI _, cat_vI _, cat_vR _, trivial⟩ (Nat.le_of_ble_eq_true rfl) (fun E hX C hR => ?_)
  refine pw_aload_n C dL_rival_0 rfl ?_
  refine pw_iconst C dL_rival_1 ?_
  refine pw_aload_n C dL_rival_2 rfl ?_
  refine pw_iload_n C dL_rival_3 rfl ?_
  refine pw_iload_n C dL_rival_4 rfl ?_
  by_cases hok : ((0 ≤ s ∧ s < A 0 0 0) ∧ 0 ≤ f ∧ f < 4)
  · skip
    refine pw_cVI C hX dL_rival_5 ml_L_34 mc_X5_rival (c_rival hR0 hA (s := s) (f := f) r_s r_f hok) kc_8 hR0.k rfl rfl ⟨Nat.le_of_ble_eq_true rfl, Nat.le_of_ble_eq_true rfl⟩ (Nat.le_of_ble_eq_true rfl) ⟨Nat.le_of_ble_eq_true rfl, Nat.le_of_ble_eq_true rfl⟩ (fun r_ G M1 hq_ => ?_)
    obtain ⟨rfl, rfl, hR1, hO1⟩ := hq_
    refine pw_ifB_eq (tgt := 15) C dL_rival_8 (by decide) (fun c_8 => ?_) (fun c_8 => ?_)
    · skip
      refine pw_lconst (v := 0) C dL_rival_15 rfl ?_
      refine pw_last C dL_rival_16 ho.1 (by rw [ho.2]; omega) ?_
      refine pw_goto (tgt := 24) C dL_rival_17 (by decide) ?_
      refine pw_iconst C dL_rival_24 ?_
      exact pw_iret C hR dL_rival_25 (⟨_, rfl, WP.ok (by unfold cd1; rw [if_neg (fun q => q hok)]) ho2 hR1 hO1 (by rw [bI_f c_8, wr_0])⟩) (Nat.le_of_ble_eq_true rfl) (Nat.le_of_ble_eq_true rfl)
    · skip
      refine pw_lconst (v := 1) C dL_rival_11 rfl ?_
      refine pw_goto (tgt := 16) C dL_rival_12 (by decide) ?_
      refine pw_last C dL_rival_16 ho.1 (by rw [ho.2]; omega) ?_
      refine pw_goto (tgt := 24) C dL_rival_17 (by decide) ?_
      refine pw_iconst C dL_rival_24 ?_
      exact pw_iret C hR dL_rival_25 (⟨_, rfl, WP.ok (by unfold cd1; rw [if_neg (fun q => q hok)]) ho2 hR1 hO1 (by rw [bI_t c_8, wr_1])⟩) (Nat.le_of_ble_eq_true rfl) (Nat.le_of_ble_eq_true rfl)
  · skip
    refine pw_xV C hX dL_rival_5 (List.mem_of_getElem? (i := 743) (by decide +kernel)) mc_X5_rival (x_rival hR0 hA (s := s) (f := f) r_s r_f hok) kc_8 hR0.k rfl rfl ⟨Nat.le_of_ble_eq_true rfl, Nat.le_of_ble_eq_true rfl⟩ (Nat.le_of_ble_eq_true rfl) ⟨Nat.le_of_ble_eq_true rfl, Nat.le_of_ble_eq_true rfl⟩ (fun Ec G1 M1 hq => ?_)
    obtain ⟨rfl, ⟨z, hz, rfl⟩, hq⟩ := hq
    rcases hq with ⟨hq, rfl⟩ | ⟨hq, rfl⟩ | ⟨hq, rfl⟩
    · skip
      refine pwx_catch C (name := "java/lang/IndexOutOfBoundsException") (tableOf []) ⟨0, 17, 20, 13⟩ (tableOf []) rfl (fun z hz => absurd hz List.not_mem_nil) (by decide) (by decide) (List.mem_of_getElem? (i := 671) (by decide +kernel)) (List.mem_of_getElem? (i := 486) (by decide +kernel)) (fun q hq0 => ?_)
      show PW E _ _ _ _ 20 _ _
      refine pw_astore C dL_rival_20 (Nat.le_of_ble_eq_true rfl) rfl ?_
      refine pw_iconst C dL_rival_22 ?_
      exact pw_iret C hR dL_rival_23 ⟨_, rfl, WP.bad (by unfold cd1; rw [if_pos hq]) (by decide) hz hR0⟩ (Nat.le_of_ble_eq_true rfl) (Nat.le_of_ble_eq_true rfl)
    · exact hq.elim
    · exact hq.elim
theorem mc_L_rival : MSW yL_rival method_8_code 5 (some .int) [(0, 17, 20, 13)] 4 := ⟨List.mem_of_getElem? (i := 741) (by decide +kernel), List.mem_of_getElem? (i := 742) (by decide +kernel), List.mem_of_getElem? (i := 91) (by decide +kernel), ⟨by decide +kernel, by decide +kernel⟩, by decide +kernel⟩

set_option maxHeartbeats 4000000 in
set_option maxRecDepth 100000 in
theorem w_down {X : Xv} {G M : Mm} {B : Int} {A : An} (hR0 : RC G M B A) (hA : AB A) {out : Int} (ho : G 0 out 0 = 102 ∧ G 1 out 0 = 1) (ho2 : B + 201 < out) {l m : Int} (r_l : -2147483648 ≤ l ∧ l ≤ 2147483647) (r_m : -2147483648 ≤ m ∧ m ≤ 2147483647) : CW X yL_down method_9_code 5 (some .int) [(0, 10, 13, 13), (0, 10, 17, 15)] 8 126 1 6 [vR B, vI l, vI m, vR out] G M (PI (WP B out (cd2 (0 ≤ l ∧ l < A 0 0 2) (0 ≤ m ∧ m ≤ 99)) (A (20 + l) 4 2) A (aDwn A l m) G M)) := by
  refine CW.by (by decide +kernel) [1, 1, 1, 1] ⟨cat_vR _, cat_vI _, cat_vI _, cat_vR _, trivial⟩ (Nat.le_of_ble_eq_true rfl) (fun E hX C hR => ?_)
  refine pw_aload_n C dL_down_0 rfl ?_
  refine pw_iconst C dL_down_1 ?_
  refine pw_aload_n C dL_down_2 rfl ?_
  refine pw_iload_n C dL_down_3 rfl ?_
  refine pw_iload_n C dL_down_4 rfl ?_
  by_cases hok : (0 ≤ l ∧ l < A 0 0 2) ∧ (0 ≤ m ∧ m ≤ 99)
  · skip
    refine pw_cVI C hX dL_down_5 ml_L_38 mc_X5_down (c_down hR0 hA (l := l) (m := m) r_l r_m hok) kc_8 hR0.k rfl rfl ⟨Nat.le_of_ble_eq_true rfl, Nat.le_of_ble_eq_true rfl⟩ (Nat.le_of_ble_eq_true rfl) ⟨Nat.le_of_ble_eq_true rfl, Nat.le_of_ble_eq_true rfl⟩ (fun r_ G M1 hq_ => ?_)
    obtain ⟨rfl, rfl, hR1, hO1⟩ := hq_
    refine pw_i2lW C dL_down_8 ?_
    refine pw_last C dL_down_9 ho.1 (by rw [ho.2]; omega) ?_
    refine pw_goto (tgt := 21) C dL_down_10 (by decide) ?_
    refine pw_iconst C dL_down_21 ?_
    exact pw_iret C hR dL_down_22 (⟨_, rfl, WP.ok (by unfold cd2; rw [if_neg (fun q => q hok.1), if_neg (fun q => q hok.2)]) ho2 hR1 hO1 rfl⟩) (Nat.le_of_ble_eq_true rfl) (Nat.le_of_ble_eq_true rfl)
  · skip
    refine pw_xV C hX dL_down_5 (List.mem_of_getElem? (i := 750) (by decide +kernel)) mc_X5_down (x_down hR0 hA (l := l) (m := m) r_l r_m hok) kc_8 hR0.k rfl rfl ⟨Nat.le_of_ble_eq_true rfl, Nat.le_of_ble_eq_true rfl⟩ (Nat.le_of_ble_eq_true rfl) ⟨Nat.le_of_ble_eq_true rfl, Nat.le_of_ble_eq_true rfl⟩ (fun Ec G1 M1 hq => ?_)
    obtain ⟨rfl, ⟨z, hz, rfl⟩, hq⟩ := hq
    rcases hq with ⟨hq, rfl⟩ | ⟨hq, rfl⟩ | ⟨hq, rfl⟩
    · skip
      refine pwx_catch C (name := "java/lang/IndexOutOfBoundsException") (tableOf []) ⟨0, 10, 13, 13⟩ (tableOf [(0, 10, 17, 15)]) rfl (fun z hz => absurd hz List.not_mem_nil) (by decide) (by decide) (List.mem_of_getElem? (i := 671) (by decide +kernel)) (List.mem_of_getElem? (i := 486) (by decide +kernel)) (fun q hq0 => ?_)
      show PW E _ _ _ _ 13 _ _
      refine pw_astore C dL_down_13 (Nat.le_of_ble_eq_true rfl) rfl ?_
      refine pw_iconst C dL_down_15 ?_
      exact pw_iret C hR dL_down_16 ⟨_, rfl, WP.bad (by unfold cd2; rw [if_pos hq]) (by decide) hz hR0⟩ (Nat.le_of_ble_eq_true rfl) (Nat.le_of_ble_eq_true rfl)
    · skip
      refine pwx_catch C (name := "java/lang/IllegalArgumentException") (tableOf [(0, 10, 13, 13)]) ⟨0, 10, 17, 15⟩ (tableOf []) rfl (fun z hz => by rcases List.mem_cons.mp hz with rfl | hz; exact ⟨by decide, "java/lang/IndexOutOfBoundsException", List.mem_of_getElem? (i := 671) (by decide +kernel), by decide +kernel⟩; exact absurd hz List.not_mem_nil) (by decide) (by decide) (List.mem_of_getElem? (i := 672) (by decide +kernel)) (List.mem_of_getElem? (i := 402) (by decide +kernel)) (fun q hq0 => ?_)
      show PW E _ _ _ _ 17 _ _
      refine pw_astore C dL_down_17 (Nat.le_of_ble_eq_true rfl) rfl ?_
      refine pw_iconst C dL_down_19 ?_
      exact pw_iret C hR dL_down_20 ⟨_, rfl, WP.bad (by unfold cd2; rw [if_neg (fun q => q hq.1), if_pos hq.2]) (by decide) hz hR0⟩ (Nat.le_of_ble_eq_true rfl) (Nat.le_of_ble_eq_true rfl)
    · exact hq.elim
theorem mc_L_down : MSW yL_down method_9_code 5 (some .int) [(0, 10, 13, 13), (0, 10, 17, 15)] 4 := ⟨List.mem_of_getElem? (i := 748) (by decide +kernel), List.mem_of_getElem? (i := 749) (by decide +kernel), List.mem_of_getElem? (i := 91) (by decide +kernel), ⟨by decide +kernel, by decide +kernel⟩, by decide +kernel⟩

set_option maxHeartbeats 4000000 in
set_option maxRecDepth 100000 in
theorem w_file {X : Xv} {G M : Mm} {B : Int} {A : An} (hR0 : RC G M B A) (hA : AB A) {out : Int} (ho : G 0 out 0 = 102 ∧ G 1 out 0 = 1) (ho2 : B + 201 < out) {s k set g hd : Int} (r_s : -2147483648 ≤ s ∧ s ≤ 2147483647) (r_k : -2147483648 ≤ k ∧ k ≤ 2147483647) (r_set : -2147483648 ≤ set ∧ set ≤ 2147483647) (r_hd : -2147483648 ≤ hd ∧ hd ≤ 2147483647) (z_g : g = 0 ∨ g = 1) : CW X yL_file method_10_code 8 (some .int) [(0, 16, 19, 13), (0, 16, 23, 15), (0, 16, 27, 17)] 8 130 1 6 [vR B, vI s, vI k, vI set, vI g, vI hd, vR out] G M (PI (WP B out (cd3 (0 ≤ s ∧ s < A 0 0 0) ((k = 0 ∨ k = 3 ∨ k = 4) ∧ (1 ≤ set ∧ set ≤ 15) ∧ 0 ≤ hd ∧ hd ≤ 9999) (A 0 0 1 < 60)) (if ¬ hv A s set g = 4 then -2 else if k = 0 ∧ ¬ bc set = 1 then -3 else A 0 0 1) A (if ¬ hv A s set g = 4 then A else if k = 0 ∧ ¬ bc set = 1 then A else aFil A s k set g hd (-1)) G M)) := by
  refine CW.by (by decide +kernel) [1, 1, 1, 1, 1, 1, 1] ⟨cat_vR _, cat_vI _, cat_vI _, cat_vI _, cat_vI _, cat_vI _, cat_vR _, trivial⟩ (Nat.le_of_ble_eq_true rfl) (fun E hX C hR => ?_)
  refine pw_aload C dL_file_0 rfl ?_
  refine pw_iconst C dL_file_2 ?_
  refine pw_aload_n C dL_file_3 rfl ?_
  refine pw_iload_n C dL_file_4 rfl ?_
  refine pw_iload_n C dL_file_5 rfl ?_
  refine pw_iload_n C dL_file_6 rfl ?_
  refine pw_iload C dL_file_7 rfl ?_
  refine pw_iload C dL_file_9 rfl ?_
  by_cases hok : (0 ≤ s ∧ s < A 0 0 0) ∧ ((k = 0 ∨ k = 3 ∨ k = 4) ∧ (1 ≤ set ∧ set ≤ 15) ∧ 0 ≤ hd ∧ hd ≤ 9999) ∧ (A 0 0 1 < 60)
  · skip
    refine pw_cVI C hX dL_file_11 ml_L_41 mc_X5_file (c_file hR0 hA (s := s) (k := k) (set := set) (g := g) (hd := hd) r_s r_k r_set r_hd z_g hok) kc_8 hR0.k rfl rfl ⟨Nat.le_of_ble_eq_true rfl, Nat.le_of_ble_eq_true rfl⟩ (Nat.le_of_ble_eq_true rfl) ⟨Nat.le_of_ble_eq_true rfl, Nat.le_of_ble_eq_true rfl⟩ (fun r_ G M1 hq_ => ?_)
    obtain ⟨rfl, rfl, hR1, hO1⟩ := hq_
    refine pw_i2lW C dL_file_14 ?_
    refine pw_last C dL_file_15 ho.1 (by rw [ho.2]; omega) ?_
    refine pw_goto (tgt := 31) C dL_file_16 (by decide) ?_
    refine pw_iconst C dL_file_31 ?_
    exact pw_iret C hR dL_file_32 (⟨_, rfl, WP.ok (by unfold cd3; rw [if_neg (fun q => q hok.1), if_neg (fun q => q hok.2.1), if_neg (fun q => q hok.2.2)]) ho2 hR1 hO1 rfl⟩) (Nat.le_of_ble_eq_true rfl) (Nat.le_of_ble_eq_true rfl)
  · skip
    refine pw_xV C hX dL_file_11 (List.mem_of_getElem? (i := 758) (by decide +kernel)) mc_X5_file (x_file hR0 hA (s := s) (k := k) (set := set) (g := g) (hd := hd) r_s r_k r_set r_hd z_g hok) kc_8 hR0.k rfl rfl ⟨Nat.le_of_ble_eq_true rfl, Nat.le_of_ble_eq_true rfl⟩ (Nat.le_of_ble_eq_true rfl) ⟨Nat.le_of_ble_eq_true rfl, Nat.le_of_ble_eq_true rfl⟩ (fun Ec G1 M1 hq => ?_)
    obtain ⟨rfl, ⟨z, hz, rfl⟩, hq⟩ := hq
    rcases hq with ⟨hq, rfl⟩ | ⟨hq, rfl⟩ | ⟨hq, rfl⟩
    · skip
      refine pwx_catch C (name := "java/lang/IndexOutOfBoundsException") (tableOf []) ⟨0, 16, 19, 13⟩ (tableOf [(0, 16, 23, 15), (0, 16, 27, 17)]) rfl (fun z hz => absurd hz List.not_mem_nil) (by decide) (by decide) (List.mem_of_getElem? (i := 671) (by decide +kernel)) (List.mem_of_getElem? (i := 486) (by decide +kernel)) (fun q hq0 => ?_)
      show PW E _ _ _ _ 19 _ _
      refine pw_astore C dL_file_19 (Nat.le_of_ble_eq_true rfl) rfl ?_
      refine pw_iconst C dL_file_21 ?_
      exact pw_iret C hR dL_file_22 ⟨_, rfl, WP.bad (by unfold cd3; rw [if_pos hq]) (by decide) hz hR0⟩ (Nat.le_of_ble_eq_true rfl) (Nat.le_of_ble_eq_true rfl)
    · skip
      refine pwx_catch C (name := "java/lang/IllegalArgumentException") (tableOf [(0, 16, 19, 13)]) ⟨0, 16, 23, 15⟩ (tableOf [(0, 16, 27, 17)]) rfl (fun z hz => by rcases List.mem_cons.mp hz with rfl | hz; exact ⟨by decide, "java/lang/IndexOutOfBoundsException", List.mem_of_getElem? (i := 671) (by decide +kernel), by decide +kernel⟩; exact absurd hz List.not_mem_nil) (by decide) (by decide) (List.mem_of_getElem? (i := 672) (by decide +kernel)) (List.mem_of_getElem? (i := 402) (by decide +kernel)) (fun q hq0 => ?_)
      show PW E _ _ _ _ 23 _ _
      refine pw_astore C dL_file_23 (Nat.le_of_ble_eq_true rfl) rfl ?_
      refine pw_iconst C dL_file_25 ?_
      exact pw_iret C hR dL_file_26 ⟨_, rfl, WP.bad (by unfold cd3; rw [if_neg (fun q => q hq.1), if_pos hq.2]) (by decide) hz hR0⟩ (Nat.le_of_ble_eq_true rfl) (Nat.le_of_ble_eq_true rfl)
    · skip
      refine pwx_catch C (name := "java/lang/IllegalStateException") (tableOf [(0, 16, 19, 13), (0, 16, 23, 15)]) ⟨0, 16, 27, 17⟩ (tableOf []) rfl (fun z hz => by rcases List.mem_cons.mp hz with rfl | hz; exact ⟨by decide, "java/lang/IndexOutOfBoundsException", List.mem_of_getElem? (i := 671) (by decide +kernel), by decide +kernel⟩; rcases List.mem_cons.mp hz with rfl | hz; exact ⟨by decide, "java/lang/IllegalArgumentException", List.mem_of_getElem? (i := 672) (by decide +kernel), by decide +kernel⟩; exact absurd hz List.not_mem_nil) (by decide) (by decide) (List.mem_of_getElem? (i := 673) (by decide +kernel)) (List.mem_of_getElem? (i := 685) (by decide +kernel)) (fun q hq0 => ?_)
      show PW E _ _ _ _ 27 _ _
      refine pw_astore C dL_file_27 (Nat.le_of_ble_eq_true rfl) rfl ?_
      refine pw_iconst C dL_file_29 ?_
      exact pw_iret C hR dL_file_30 ⟨_, rfl, WP.bad (by unfold cd3; rw [if_neg (fun q => q hq.1), if_neg (fun q => q hq.2.1), if_pos hq.2.2]) (by decide) hz hR0⟩ (Nat.le_of_ble_eq_true rfl) (Nat.le_of_ble_eq_true rfl)
theorem mc_L_file : MSW yL_file method_10_code 8 (some .int) [(0, 16, 19, 13), (0, 16, 23, 15), (0, 16, 27, 17)] 7 := ⟨List.mem_of_getElem? (i := 756) (by decide +kernel), List.mem_of_getElem? (i := 757) (by decide +kernel), List.mem_of_getElem? (i := 91) (by decide +kernel), ⟨by decide +kernel, by decide +kernel⟩, by decide +kernel⟩

set_option maxHeartbeats 4000000 in
set_option maxRecDepth 100000 in
theorem w_correct {X : Xv} {G M : Mm} {B : Int} {A : An} (hR0 : RC G M B A) (hA : AB A) {out : Int} (ho : G 0 out 0 = 102 ∧ G 1 out 0 = 1) (ho2 : B + 201 < out) {t f : Int} (r_t : -2147483648 ≤ t ∧ t ≤ 2147483647) (r_f : -2147483648 ≤ f ∧ f ≤ 2147483647) : CW X yL_correct method_11_code 5 (some .int) [(0, 10, 13, 13), (0, 10, 17, 15), (0, 10, 21, 17)] 8 128 1 6 [vR B, vI t, vI f, vR out] G M (PI (WP B out (cd3 (0 ≤ t ∧ t < A 0 0 1) ((0 ≤ f ∧ f < 4) ∧ ¬ A (200 + t) 0 f = -1) (A (200 + t) 1 7 = -1 ∧ A 0 0 1 < 60)) (if A (100 + (A (200 + t) 1 0 * 4 + f)) 1 0 = -1 ∨ A (100 + (A (200 + t) 1 0 * 4 + f)) 1 0 = A (200 + t) 0 f then -2 else A 0 0 1) A (if A (100 + (A (200 + t) 1 0 * 4 + f)) 1 0 = -1 ∨ A (100 + (A (200 + t) 1 0 * 4 + f)) 1 0 = A (200 + t) 0 f then A else aFil A (A (200 + t) 1 0) 2 (p2 f) 0 0 t) G M)) := by
  refine CW.by (by decide +kernel) [1, 1, 1, 1] ⟨cat_vR _, cat_vI _, cat_vI _, cat_vR _, trivial⟩ (Nat.le_of_ble_eq_true rfl) (fun E hX C hR => ?_)
  refine pw_aload_n C dL_correct_0 rfl ?_
  refine pw_iconst C dL_correct_1 ?_
  refine pw_aload_n C dL_correct_2 rfl ?_
  refine pw_iload_n C dL_correct_3 rfl ?_
  refine pw_iload_n C dL_correct_4 rfl ?_
  by_cases hok : (0 ≤ t ∧ t < A 0 0 1) ∧ ((0 ≤ f ∧ f < 4) ∧ ¬ A (200 + t) 0 f = -1) ∧ (A (200 + t) 1 7 = -1 ∧ A 0 0 1 < 60)
  · skip
    refine pw_cVI C hX dL_correct_5 ml_L_45 mc_X5_correct (c_correct hR0 hA (t := t) (f := f) r_t r_f hok) kc_8 hR0.k rfl rfl ⟨Nat.le_of_ble_eq_true rfl, Nat.le_of_ble_eq_true rfl⟩ (Nat.le_of_ble_eq_true rfl) ⟨Nat.le_of_ble_eq_true rfl, Nat.le_of_ble_eq_true rfl⟩ (fun r_ G M1 hq_ => ?_)
    obtain ⟨rfl, rfl, hR1, hO1⟩ := hq_
    refine pw_i2lW C dL_correct_8 ?_
    refine pw_last C dL_correct_9 ho.1 (by rw [ho.2]; omega) ?_
    refine pw_goto (tgt := 25) C dL_correct_10 (by decide) ?_
    refine pw_iconst C dL_correct_25 ?_
    exact pw_iret C hR dL_correct_26 (⟨_, rfl, WP.ok (by unfold cd3; rw [if_neg (fun q => q hok.1), if_neg (fun q => q hok.2.1), if_neg (fun q => q hok.2.2)]) ho2 hR1 hO1 rfl⟩) (Nat.le_of_ble_eq_true rfl) (Nat.le_of_ble_eq_true rfl)
  · skip
    refine pw_xV C hX dL_correct_5 (List.mem_of_getElem? (i := 784) (by decide +kernel)) mc_X5_correct (x_correct hR0 hA (t := t) (f := f) r_t r_f hok) kc_8 hR0.k rfl rfl ⟨Nat.le_of_ble_eq_true rfl, Nat.le_of_ble_eq_true rfl⟩ (Nat.le_of_ble_eq_true rfl) ⟨Nat.le_of_ble_eq_true rfl, Nat.le_of_ble_eq_true rfl⟩ (fun Ec G1 M1 hq => ?_)
    obtain ⟨rfl, ⟨z, hz, rfl⟩, hq⟩ := hq
    rcases hq with ⟨hq, rfl⟩ | ⟨hq, rfl⟩ | ⟨hq, rfl⟩
    · skip
      refine pwx_catch C (name := "java/lang/IndexOutOfBoundsException") (tableOf []) ⟨0, 10, 13, 13⟩ (tableOf [(0, 10, 17, 15), (0, 10, 21, 17)]) rfl (fun z hz => absurd hz List.not_mem_nil) (by decide) (by decide) (List.mem_of_getElem? (i := 671) (by decide +kernel)) (List.mem_of_getElem? (i := 486) (by decide +kernel)) (fun q hq0 => ?_)
      show PW E _ _ _ _ 13 _ _
      refine pw_astore C dL_correct_13 (Nat.le_of_ble_eq_true rfl) rfl ?_
      refine pw_iconst C dL_correct_15 ?_
      exact pw_iret C hR dL_correct_16 ⟨_, rfl, WP.bad (by unfold cd3; rw [if_pos hq]) (by decide) hz hR0⟩ (Nat.le_of_ble_eq_true rfl) (Nat.le_of_ble_eq_true rfl)
    · skip
      refine pwx_catch C (name := "java/lang/IllegalArgumentException") (tableOf [(0, 10, 13, 13)]) ⟨0, 10, 17, 15⟩ (tableOf [(0, 10, 21, 17)]) rfl (fun z hz => by rcases List.mem_cons.mp hz with rfl | hz; exact ⟨by decide, "java/lang/IndexOutOfBoundsException", List.mem_of_getElem? (i := 671) (by decide +kernel), by decide +kernel⟩; exact absurd hz List.not_mem_nil) (by decide) (by decide) (List.mem_of_getElem? (i := 672) (by decide +kernel)) (List.mem_of_getElem? (i := 402) (by decide +kernel)) (fun q hq0 => ?_)
      show PW E _ _ _ _ 17 _ _
      refine pw_astore C dL_correct_17 (Nat.le_of_ble_eq_true rfl) rfl ?_
      refine pw_iconst C dL_correct_19 ?_
      exact pw_iret C hR dL_correct_20 ⟨_, rfl, WP.bad (by unfold cd3; rw [if_neg (fun q => q hq.1), if_pos hq.2]) (by decide) hz hR0⟩ (Nat.le_of_ble_eq_true rfl) (Nat.le_of_ble_eq_true rfl)
    · skip
      refine pwx_catch C (name := "java/lang/IllegalStateException") (tableOf [(0, 10, 13, 13), (0, 10, 17, 15)]) ⟨0, 10, 21, 17⟩ (tableOf []) rfl (fun z hz => by rcases List.mem_cons.mp hz with rfl | hz; exact ⟨by decide, "java/lang/IndexOutOfBoundsException", List.mem_of_getElem? (i := 671) (by decide +kernel), by decide +kernel⟩; rcases List.mem_cons.mp hz with rfl | hz; exact ⟨by decide, "java/lang/IllegalArgumentException", List.mem_of_getElem? (i := 672) (by decide +kernel), by decide +kernel⟩; exact absurd hz List.not_mem_nil) (by decide) (by decide) (List.mem_of_getElem? (i := 673) (by decide +kernel)) (List.mem_of_getElem? (i := 685) (by decide +kernel)) (fun q hq0 => ?_)
      show PW E _ _ _ _ 21 _ _
      refine pw_astore C dL_correct_21 (Nat.le_of_ble_eq_true rfl) rfl ?_
      refine pw_iconst C dL_correct_23 ?_
      exact pw_iret C hR dL_correct_24 ⟨_, rfl, WP.bad (by unfold cd3; rw [if_neg (fun q => q hq.1), if_neg (fun q => q hq.2.1), if_pos hq.2.2]) (by decide) hz hR0⟩ (Nat.le_of_ble_eq_true rfl) (Nat.le_of_ble_eq_true rfl)
theorem mc_L_correct : MSW yL_correct method_11_code 5 (some .int) [(0, 10, 13, 13), (0, 10, 17, 15), (0, 10, 21, 17)] 4 := ⟨List.mem_of_getElem? (i := 782) (by decide +kernel), List.mem_of_getElem? (i := 783) (by decide +kernel), List.mem_of_getElem? (i := 91) (by decide +kernel), ⟨by decide +kernel, by decide +kernel⟩, by decide +kernel⟩

set_option maxHeartbeats 4000000 in
set_option maxRecDepth 100000 in
theorem w_kill {X : Xv} {G M : Mm} {B : Int} {A : An} (hR0 : RC G M B A) (hA : AB A) {out : Int} (ho : G 0 out 0 = 102 ∧ G 1 out 0 = 1) (ho2 : B + 201 < out) {t : Int} (r_t : -2147483648 ≤ t ∧ t ≤ 2147483647) : CW X yL_kill method_12_code 4 (some .int) [(0, 9, 12, 13), (0, 9, 15, 17)] 8 127 1 6 [vR B, vI t, vR out] G M (PI (WP B out (cd2 (0 ≤ t ∧ t < A 0 0 1) ((¬ A (200 + t) 1 1 = 1 ∧ A (200 + t) 1 7 = -1) ∧ A 0 0 1 < 60)) (nKil A t) A (aKil A t) G M)) := by
  refine CW.by (by decide +kernel) [1, 1, 1] ⟨cat_vR _, cat_vI _, cat_vR _, trivial⟩ (Nat.le_of_ble_eq_true rfl) (fun E hX C hR => ?_)
  refine pw_aload_n C dL_kill_0 rfl ?_
  refine pw_iconst C dL_kill_1 ?_
  refine pw_aload_n C dL_kill_2 rfl ?_
  refine pw_iload_n C dL_kill_3 rfl ?_
  by_cases hok : (0 ≤ t ∧ t < A 0 0 1) ∧ ((¬ A (200 + t) 1 1 = 1 ∧ A (200 + t) 1 7 = -1) ∧ A 0 0 1 < 60)
  · skip
    refine pw_cVI C hX dL_kill_4 ml_L_48 mc_X5_kill (c_kill hR0 hA (t := t) r_t hok) kc_8 hR0.k rfl rfl ⟨Nat.le_of_ble_eq_true rfl, Nat.le_of_ble_eq_true rfl⟩ (Nat.le_of_ble_eq_true rfl) ⟨Nat.le_of_ble_eq_true rfl, Nat.le_of_ble_eq_true rfl⟩ (fun r_ G M1 hq_ => ?_)
    obtain ⟨rfl, rfl, hR1, hO1⟩ := hq_
    refine pw_i2lW C dL_kill_7 ?_
    refine pw_last C dL_kill_8 ho.1 (by rw [ho.2]; omega) ?_
    refine pw_goto (tgt := 18) C dL_kill_9 (by decide) ?_
    refine pw_iconst C dL_kill_18 ?_
    exact pw_iret C hR dL_kill_19 (⟨_, rfl, WP.ok (by unfold cd2; rw [if_neg (fun q => q hok.1), if_neg (fun q => q hok.2)]) ho2 hR1 hO1 rfl⟩) (Nat.le_of_ble_eq_true rfl) (Nat.le_of_ble_eq_true rfl)
  · skip
    refine pw_xV C hX dL_kill_4 (List.mem_of_getElem? (i := 793) (by decide +kernel)) mc_X5_kill (x_kill hR0 hA (t := t) r_t hok) kc_8 hR0.k rfl rfl ⟨Nat.le_of_ble_eq_true rfl, Nat.le_of_ble_eq_true rfl⟩ (Nat.le_of_ble_eq_true rfl) ⟨Nat.le_of_ble_eq_true rfl, Nat.le_of_ble_eq_true rfl⟩ (fun Ec G1 M1 hq => ?_)
    obtain ⟨rfl, ⟨z, hz, rfl⟩, hq⟩ := hq
    rcases hq with ⟨hq, rfl⟩ | ⟨hq, rfl⟩ | ⟨hq, rfl⟩
    · skip
      refine pwx_catch C (name := "java/lang/IndexOutOfBoundsException") (tableOf []) ⟨0, 9, 12, 13⟩ (tableOf [(0, 9, 15, 17)]) rfl (fun z hz => absurd hz List.not_mem_nil) (by decide) (by decide) (List.mem_of_getElem? (i := 671) (by decide +kernel)) (List.mem_of_getElem? (i := 486) (by decide +kernel)) (fun q hq0 => ?_)
      show PW E _ _ _ _ 12 _ _
      refine pw_astore_n C dL_kill_12 (Nat.le_of_ble_eq_true rfl) rfl ?_
      refine pw_iconst C dL_kill_13 ?_
      exact pw_iret C hR dL_kill_14 ⟨_, rfl, WP.bad (by unfold cd2; rw [if_pos hq]) (by decide) hz hR0⟩ (Nat.le_of_ble_eq_true rfl) (Nat.le_of_ble_eq_true rfl)
    · skip
      refine pwx_catch C (name := "java/lang/IllegalStateException") (tableOf [(0, 9, 12, 13)]) ⟨0, 9, 15, 17⟩ (tableOf []) rfl (fun z hz => by rcases List.mem_cons.mp hz with rfl | hz; exact ⟨by decide, "java/lang/IndexOutOfBoundsException", List.mem_of_getElem? (i := 671) (by decide +kernel), by decide +kernel⟩; exact absurd hz List.not_mem_nil) (by decide) (by decide) (List.mem_of_getElem? (i := 673) (by decide +kernel)) (List.mem_of_getElem? (i := 685) (by decide +kernel)) (fun q hq0 => ?_)
      show PW E _ _ _ _ 15 _ _
      refine pw_astore_n C dL_kill_15 (Nat.le_of_ble_eq_true rfl) rfl ?_
      refine pw_iconst C dL_kill_16 ?_
      exact pw_iret C hR dL_kill_17 ⟨_, rfl, WP.bad (by unfold cd2; rw [if_neg (fun q => q hq.1), if_pos hq.2]) (by decide) hz hR0⟩ (Nat.le_of_ble_eq_true rfl) (Nat.le_of_ble_eq_true rfl)
    · exact hq.elim
theorem mc_L_kill : MSW yL_kill method_12_code 4 (some .int) [(0, 9, 12, 13), (0, 9, 15, 17)] 3 := ⟨List.mem_of_getElem? (i := 791) (by decide +kernel), List.mem_of_getElem? (i := 792) (by decide +kernel), List.mem_of_getElem? (i := 91) (by decide +kernel), ⟨by decide +kernel, by decide +kernel⟩, by decide +kernel⟩

set_option maxHeartbeats 4000000 in
set_option maxRecDepth 100000 in
theorem w_pass {X : Xv} {G M : Mm} {B : Int} {A : An} (hR0 : RC G M B A) (hA : AB A) {out : Int} (ho : G 0 out 0 = 102 ∧ G 1 out 0 = 1) (ho2 : B + 201 < out) {m : Int} (r_m : -2147483648 ≤ m ∧ m ≤ 2147483647) : CW X yL_pass method_13_code 4 (some .int) [(0, 9, 12, 15), (0, 9, 15, 17)] 7 106 1 6 [vR B, vI m, vR out] G M (PI (WP B out (cd2 (1 ≤ m ∧ m ≤ 99) (A 0 0 3 + m ≤ 9999)) ((aPas A m).2) A ((aPas A m).1) G M)) := by
  refine CW.by (by decide +kernel) [1, 1, 1] ⟨cat_vR _, cat_vI _, cat_vR _, trivial⟩ (Nat.le_of_ble_eq_true rfl) (fun E hX C hR => ?_)
  refine pw_aload_n C dL_pass_0 rfl ?_
  refine pw_iconst C dL_pass_1 ?_
  refine pw_aload_n C dL_pass_2 rfl ?_
  refine pw_iload_n C dL_pass_3 rfl ?_
  by_cases hok : (1 ≤ m ∧ m ≤ 99) ∧ (A 0 0 3 + m ≤ 9999)
  · skip
    refine pw_cVI C hX dL_pass_4 ml_L_52 mc_X5_pass (c_pass hR0 hA (m := m) r_m hok) kc_8 hR0.k rfl rfl ⟨Nat.le_of_ble_eq_true rfl, Nat.le_of_ble_eq_true rfl⟩ (Nat.le_of_ble_eq_true rfl) ⟨Nat.le_of_ble_eq_true rfl, Nat.le_of_ble_eq_true rfl⟩ (fun r_ G M1 hq_ => ?_)
    obtain ⟨rfl, rfl, hR1, hO1⟩ := hq_
    refine pw_i2lW C dL_pass_7 ?_
    refine pw_last C dL_pass_8 ho.1 (by rw [ho.2]; omega) ?_
    refine pw_goto (tgt := 18) C dL_pass_9 (by decide) ?_
    refine pw_iconst C dL_pass_18 ?_
    exact pw_iret C hR dL_pass_19 (⟨_, rfl, WP.ok (by unfold cd2; rw [if_neg (fun q => q hok.1), if_neg (fun q => q hok.2)]) ho2 hR1 hO1 rfl⟩) (Nat.le_of_ble_eq_true rfl) (Nat.le_of_ble_eq_true rfl)
  · skip
    refine pw_xV C hX dL_pass_4 (List.mem_of_getElem? (i := 805) (by decide +kernel)) mc_X5_pass (x_pass hR0 hA (m := m) r_m hok) kc_8 hR0.k rfl rfl ⟨Nat.le_of_ble_eq_true rfl, Nat.le_of_ble_eq_true rfl⟩ (Nat.le_of_ble_eq_true rfl) ⟨Nat.le_of_ble_eq_true rfl, Nat.le_of_ble_eq_true rfl⟩ (fun Ec G1 M1 hq => ?_)
    obtain ⟨rfl, ⟨z, hz, rfl⟩, hq⟩ := hq
    rcases hq with ⟨hq, rfl⟩ | ⟨hq, rfl⟩ | ⟨hq, rfl⟩
    · skip
      refine pwx_catch C (name := "java/lang/IllegalArgumentException") (tableOf []) ⟨0, 9, 12, 15⟩ (tableOf [(0, 9, 15, 17)]) rfl (fun z hz => absurd hz List.not_mem_nil) (by decide) (by decide) (List.mem_of_getElem? (i := 672) (by decide +kernel)) (List.mem_of_getElem? (i := 402) (by decide +kernel)) (fun q hq0 => ?_)
      show PW E _ _ _ _ 12 _ _
      refine pw_astore_n C dL_pass_12 (Nat.le_of_ble_eq_true rfl) rfl ?_
      refine pw_iconst C dL_pass_13 ?_
      exact pw_iret C hR dL_pass_14 ⟨_, rfl, WP.bad (by unfold cd2; rw [if_pos hq]) (by decide) hz hR0⟩ (Nat.le_of_ble_eq_true rfl) (Nat.le_of_ble_eq_true rfl)
    · skip
      refine pwx_catch C (name := "java/lang/IllegalStateException") (tableOf [(0, 9, 12, 15)]) ⟨0, 9, 15, 17⟩ (tableOf []) rfl (fun z hz => by rcases List.mem_cons.mp hz with rfl | hz; exact ⟨by decide, "java/lang/IllegalArgumentException", List.mem_of_getElem? (i := 672) (by decide +kernel), by decide +kernel⟩; exact absurd hz List.not_mem_nil) (by decide) (by decide) (List.mem_of_getElem? (i := 673) (by decide +kernel)) (List.mem_of_getElem? (i := 685) (by decide +kernel)) (fun q hq0 => ?_)
      show PW E _ _ _ _ 15 _ _
      refine pw_astore_n C dL_pass_15 (Nat.le_of_ble_eq_true rfl) rfl ?_
      refine pw_iconst C dL_pass_16 ?_
      exact pw_iret C hR dL_pass_17 ⟨_, rfl, WP.bad (by unfold cd2; rw [if_neg (fun q => q hq.1), if_pos hq.2]) (by decide) hz hR0⟩ (Nat.le_of_ble_eq_true rfl) (Nat.le_of_ble_eq_true rfl)
    · exact hq.elim
theorem mc_L_pass : MSW yL_pass method_13_code 4 (some .int) [(0, 9, 12, 15), (0, 9, 15, 17)] 3 := ⟨List.mem_of_getElem? (i := 803) (by decide +kernel), List.mem_of_getElem? (i := 804) (by decide +kernel), List.mem_of_getElem? (i := 91) (by decide +kernel), ⟨by decide +kernel, by decide +kernel⟩, by decide +kernel⟩

set_option maxHeartbeats 4000000 in
set_option maxRecDepth 100000 in
theorem w_areIndependent {X : Xv} {G M : Mm} {B : Int} {A : An} (hR0 : RC G M B A) (hA : AB A) {out : Int} (ho : G 0 out 0 = 102 ∧ G 1 out 0 = 1) (ho2 : B + 201 < out) {s u : Int} (r_s : -2147483648 ≤ s ∧ s ≤ 2147483647) (r_u : -2147483648 ≤ u ∧ u ≤ 2147483647) : CW X yL_areIndependent method_14_code 5 (some .int) [(0, 17, 20, 13)] 8 125 1 6 [vR B, vI s, vI u, vR out] G M (PI (WP B out (cd1 ((0 ≤ s ∧ s < A 10 2 0) ∧ 0 ≤ u ∧ u < A 10 2 0)) (bI (¬ A 10 1 s = A 10 1 u)) A (A) G M)) := by
  refine CW.by (by decide +kernel) [1, 1, 1, 1] ⟨cat_vR _, cat_vI _, cat_vI _, cat_vR _, trivial⟩ (Nat.le_of_ble_eq_true rfl) (fun E hX C hR => ?_)
  refine pw_aload_n C dL_areIndependent_0 rfl ?_
  refine pw_iconst C dL_areIndependent_1 ?_
  refine pw_aload_n C dL_areIndependent_2 rfl ?_
  refine pw_iload_n C dL_areIndependent_3 rfl ?_
  refine pw_iload_n C dL_areIndependent_4 rfl ?_
  by_cases hok : ((0 ≤ s ∧ s < A 10 2 0) ∧ 0 ≤ u ∧ u < A 10 2 0)
  · skip
    refine pw_cVE C hX dL_areIndependent_5 ml_L_55 mc_X5_areIndependent (c_areIndependent hR0 hA (s := s) (u := u) r_s r_u hok) kc_8 hR0.k rfl rfl ⟨Nat.le_of_ble_eq_true rfl, Nat.le_of_ble_eq_true rfl⟩ (Nat.le_of_ble_eq_true rfl) ⟨Nat.le_of_ble_eq_true rfl, Nat.le_of_ble_eq_true rfl⟩ ?_
    have hR1 := hR0
    have hO1 : Ot B (B + 201) M M := Ot.rf
    refine pw_ifB_eq (tgt := 15) C dL_areIndependent_8 (by decide) (fun c_8 => ?_) (fun c_8 => ?_)
    · skip
      refine pw_lconst (v := 0) C dL_areIndependent_15 rfl ?_
      refine pw_last C dL_areIndependent_16 ho.1 (by rw [ho.2]; omega) ?_
      refine pw_goto (tgt := 24) C dL_areIndependent_17 (by decide) ?_
      refine pw_iconst C dL_areIndependent_24 ?_
      exact pw_iret C hR dL_areIndependent_25 (⟨_, rfl, WP.ok (by unfold cd1; rw [if_neg (fun q => q hok)]) ho2 hR1 hO1 (by rw [bI_f c_8, wr_0])⟩) (Nat.le_of_ble_eq_true rfl) (Nat.le_of_ble_eq_true rfl)
    · skip
      refine pw_lconst (v := 1) C dL_areIndependent_11 rfl ?_
      refine pw_goto (tgt := 16) C dL_areIndependent_12 (by decide) ?_
      refine pw_last C dL_areIndependent_16 ho.1 (by rw [ho.2]; omega) ?_
      refine pw_goto (tgt := 24) C dL_areIndependent_17 (by decide) ?_
      refine pw_iconst C dL_areIndependent_24 ?_
      exact pw_iret C hR dL_areIndependent_25 (⟨_, rfl, WP.ok (by unfold cd1; rw [if_neg (fun q => q hok)]) ho2 hR1 hO1 (by rw [bI_t c_8, wr_1])⟩) (Nat.le_of_ble_eq_true rfl) (Nat.le_of_ble_eq_true rfl)
  · skip
    refine pw_xV C hX dL_areIndependent_5 (List.mem_of_getElem? (i := 815) (by decide +kernel)) mc_X5_areIndependent (x_areIndependent hR0 hA (s := s) (u := u) r_s r_u hok) kc_8 hR0.k rfl rfl ⟨Nat.le_of_ble_eq_true rfl, Nat.le_of_ble_eq_true rfl⟩ (Nat.le_of_ble_eq_true rfl) ⟨Nat.le_of_ble_eq_true rfl, Nat.le_of_ble_eq_true rfl⟩ (fun Ec G1 M1 hq => ?_)
    obtain ⟨rfl, ⟨z, hz, rfl⟩, hq⟩ := hq
    rcases hq with ⟨hq, rfl⟩ | ⟨hq, rfl⟩ | ⟨hq, rfl⟩
    · skip
      refine pwx_catch C (name := "java/lang/IndexOutOfBoundsException") (tableOf []) ⟨0, 17, 20, 13⟩ (tableOf []) rfl (fun z hz => absurd hz List.not_mem_nil) (by decide) (by decide) (List.mem_of_getElem? (i := 671) (by decide +kernel)) (List.mem_of_getElem? (i := 486) (by decide +kernel)) (fun q hq0 => ?_)
      show PW E _ _ _ _ 20 _ _
      refine pw_astore C dL_areIndependent_20 (Nat.le_of_ble_eq_true rfl) rfl ?_
      refine pw_iconst C dL_areIndependent_22 ?_
      exact pw_iret C hR dL_areIndependent_23 ⟨_, rfl, WP.bad (by unfold cd1; rw [if_pos hq]) (by decide) hz hR0⟩ (Nat.le_of_ble_eq_true rfl) (Nat.le_of_ble_eq_true rfl)
    · exact hq.elim
    · exact hq.elim
theorem mc_L_areIndependent : MSW yL_areIndependent method_14_code 5 (some .int) [(0, 17, 20, 13)] 4 := ⟨List.mem_of_getElem? (i := 813) (by decide +kernel), List.mem_of_getElem? (i := 814) (by decide +kernel), List.mem_of_getElem? (i := 91) (by decide +kernel), ⟨by decide +kernel, by decide +kernel⟩, by decide +kernel⟩

set_option maxHeartbeats 4000000 in
set_option maxRecDepth 100000 in
theorem w_ofFact {X : Xv} {G M : Mm} {B : Int} {A : An} (hR0 : RC G M B A) (hA : AB A) {out : Int} (ho : G 0 out 0 = 102 ∧ G 1 out 0 = 1) (ho2 : B + 201 < out) {s f w : Int} (r_s : -2147483648 ≤ s ∧ s ≤ 2147483647) (r_f : -2147483648 ≤ f ∧ f ≤ 2147483647) (r_w : -2147483648 ≤ w ∧ w ≤ 2147483647) : CW X yL_ofFact method_15_code 6 (some .int) [(0, 12, 15, 13), (0, 12, 19, 15)] 9 149 1 6 [vR B, vI s, vI f, vI w, vR out] G M (PI (WP B out (cd2 ((0 ≤ s ∧ s < A 0 0 0) ∧ 0 ≤ f ∧ f < 4) (0 ≤ w ∧ w ≤ 6)) (oFa A s f w) A (A) G M)) := by
  refine CW.by (by decide +kernel) [1, 1, 1, 1, 1] ⟨cat_vR _, cat_vI _, cat_vI _, cat_vI _, cat_vR _, trivial⟩ (Nat.le_of_ble_eq_true rfl) (fun E hX C hR => ?_)
  refine pw_aload C dL_ofFact_0 rfl ?_
  refine pw_iconst C dL_ofFact_2 ?_
  refine pw_aload_n C dL_ofFact_3 rfl ?_
  refine pw_iload_n C dL_ofFact_4 rfl ?_
  refine pw_iload_n C dL_ofFact_5 rfl ?_
  refine pw_iload_n C dL_ofFact_6 rfl ?_
  by_cases hok : ((0 ≤ s ∧ s < A 0 0 0) ∧ 0 ≤ f ∧ f < 4) ∧ (0 ≤ w ∧ w ≤ 6)
  · skip
    refine pw_cVE C hX dL_ofFact_7 ml_L_58 mc_X5_ofFact (c_ofFact hR0 hA (s := s) (f := f) (w := w) r_s r_f r_w hok) kc_8 hR0.k rfl rfl ⟨Nat.le_of_ble_eq_true rfl, Nat.le_of_ble_eq_true rfl⟩ (Nat.le_of_ble_eq_true rfl) ⟨Nat.le_of_ble_eq_true rfl, Nat.le_of_ble_eq_true rfl⟩ ?_
    have hR1 := hR0
    have hO1 : Ot B (B + 201) M M := Ot.rf
    refine pw_i2lW C dL_ofFact_10 ?_
    refine pw_last C dL_ofFact_11 ho.1 (by rw [ho.2]; omega) ?_
    refine pw_goto (tgt := 23) C dL_ofFact_12 (by decide) ?_
    refine pw_iconst C dL_ofFact_23 ?_
    exact pw_iret C hR dL_ofFact_24 (⟨_, rfl, WP.ok (by unfold cd2; rw [if_neg (fun q => q hok.1), if_neg (fun q => q hok.2)]) ho2 hR1 hO1 rfl⟩) (Nat.le_of_ble_eq_true rfl) (Nat.le_of_ble_eq_true rfl)
  · skip
    refine pw_xV C hX dL_ofFact_7 (List.mem_of_getElem? (i := 822) (by decide +kernel)) mc_X5_ofFact (x_ofFact hR0 hA (s := s) (f := f) (w := w) r_s r_f r_w hok) kc_8 hR0.k rfl rfl ⟨Nat.le_of_ble_eq_true rfl, Nat.le_of_ble_eq_true rfl⟩ (Nat.le_of_ble_eq_true rfl) ⟨Nat.le_of_ble_eq_true rfl, Nat.le_of_ble_eq_true rfl⟩ (fun Ec G1 M1 hq => ?_)
    obtain ⟨rfl, ⟨z, hz, rfl⟩, hq⟩ := hq
    rcases hq with ⟨hq, rfl⟩ | ⟨hq, rfl⟩ | ⟨hq, rfl⟩
    · skip
      refine pwx_catch C (name := "java/lang/IndexOutOfBoundsException") (tableOf []) ⟨0, 12, 15, 13⟩ (tableOf [(0, 12, 19, 15)]) rfl (fun z hz => absurd hz List.not_mem_nil) (by decide) (by decide) (List.mem_of_getElem? (i := 671) (by decide +kernel)) (List.mem_of_getElem? (i := 486) (by decide +kernel)) (fun q hq0 => ?_)
      show PW E _ _ _ _ 15 _ _
      refine pw_astore C dL_ofFact_15 (Nat.le_of_ble_eq_true rfl) rfl ?_
      refine pw_iconst C dL_ofFact_17 ?_
      exact pw_iret C hR dL_ofFact_18 ⟨_, rfl, WP.bad (by unfold cd2; rw [if_pos hq]) (by decide) hz hR0⟩ (Nat.le_of_ble_eq_true rfl) (Nat.le_of_ble_eq_true rfl)
    · skip
      refine pwx_catch C (name := "java/lang/IllegalArgumentException") (tableOf [(0, 12, 15, 13)]) ⟨0, 12, 19, 15⟩ (tableOf []) rfl (fun z hz => by rcases List.mem_cons.mp hz with rfl | hz; exact ⟨by decide, "java/lang/IndexOutOfBoundsException", List.mem_of_getElem? (i := 671) (by decide +kernel), by decide +kernel⟩; exact absurd hz List.not_mem_nil) (by decide) (by decide) (List.mem_of_getElem? (i := 672) (by decide +kernel)) (List.mem_of_getElem? (i := 402) (by decide +kernel)) (fun q hq0 => ?_)
      show PW E _ _ _ _ 19 _ _
      refine pw_astore C dL_ofFact_19 (Nat.le_of_ble_eq_true rfl) rfl ?_
      refine pw_iconst C dL_ofFact_21 ?_
      exact pw_iret C hR dL_ofFact_22 ⟨_, rfl, WP.bad (by unfold cd2; rw [if_neg (fun q => q hq.1), if_pos hq.2]) (by decide) hz hR0⟩ (Nat.le_of_ble_eq_true rfl) (Nat.le_of_ble_eq_true rfl)
    · exact hq.elim
theorem mc_L_ofFact : MSW yL_ofFact method_15_code 6 (some .int) [(0, 12, 15, 13), (0, 12, 19, 15)] 5 := ⟨List.mem_of_getElem? (i := 820) (by decide +kernel), List.mem_of_getElem? (i := 821) (by decide +kernel), List.mem_of_getElem? (i := 91) (by decide +kernel), ⟨by decide +kernel, by decide +kernel⟩, by decide +kernel⟩

set_option maxHeartbeats 4000000 in
set_option maxRecDepth 100000 in
theorem w_proof {X : Xv} {G M : Mm} {B : Int} {A : An} (hR0 : RC G M B A) (hA : AB A) {out : Int} (ho : G 0 out 0 = 102 ∧ G 1 out 0 = 1) (ho2 : B + 201 < out) {s f v z : Int} (r_s : -2147483648 ≤ s ∧ s ≤ 2147483647) (r_f : -2147483648 ≤ f ∧ f ≤ 2147483647) (r_v : -2147483648 ≤ v ∧ v ≤ 2147483647) (r_z : -2147483648 ≤ z ∧ z ≤ 2147483647) : CW X yL_proof method_16_code 7 (some .int) [(0, 14, 17, 13), (0, 14, 21, 15)] 9 149 1 6 [vR B, vI s, vI f, vI v, vI z, vR out] G M (PI (WP B out (cd2 ((0 ≤ s ∧ s < A 0 0 0) ∧ 0 ≤ f ∧ f < 4) (0 ≤ v ∧ v ≤ 99)) (if z = 0 then pG (A 10) (A (100 + (s * 4 + f))) v else tF (A 10) (A (100 + (s * 4 + f))) v) A (A) G M)) := by
  refine CW.by (by decide +kernel) [1, 1, 1, 1, 1, 1] ⟨cat_vR _, cat_vI _, cat_vI _, cat_vI _, cat_vI _, cat_vR _, trivial⟩ (Nat.le_of_ble_eq_true rfl) (fun E hX C hR => ?_)
  refine pw_aload C dL_proof_0 rfl ?_
  refine pw_iconst C dL_proof_2 ?_
  refine pw_aload_n C dL_proof_3 rfl ?_
  refine pw_iload_n C dL_proof_4 rfl ?_
  refine pw_iload_n C dL_proof_5 rfl ?_
  refine pw_iload_n C dL_proof_6 rfl ?_
  refine pw_iload C dL_proof_7 rfl ?_
  by_cases hok : ((0 ≤ s ∧ s < A 0 0 0) ∧ 0 ≤ f ∧ f < 4) ∧ (0 ≤ v ∧ v ≤ 99)
  · skip
    refine pw_cVI C hX dL_proof_9 ml_L_61 mc_X5_proof (c_proof hR0 hA (s := s) (f := f) (v := v) (z := z) r_s r_f r_v r_z hok) kc_8 hR0.k rfl rfl ⟨Nat.le_of_ble_eq_true rfl, Nat.le_of_ble_eq_true rfl⟩ (Nat.le_of_ble_eq_true rfl) ⟨Nat.le_of_ble_eq_true rfl, Nat.le_of_ble_eq_true rfl⟩ (fun r_ G M1 hq_ => ?_)
    obtain ⟨rfl, rfl, hR1, hO1⟩ := hq_
    refine pw_i2lW C dL_proof_12 ?_
    refine pw_last C dL_proof_13 ho.1 (by rw [ho.2]; omega) ?_
    refine pw_goto (tgt := 25) C dL_proof_14 (by decide) ?_
    refine pw_iconst C dL_proof_25 ?_
    exact pw_iret C hR dL_proof_26 (⟨_, rfl, WP.ok (by unfold cd2; rw [if_neg (fun q => q hok.1), if_neg (fun q => q hok.2)]) ho2 hR1 hO1 rfl⟩) (Nat.le_of_ble_eq_true rfl) (Nat.le_of_ble_eq_true rfl)
  · skip
    refine pw_xV C hX dL_proof_9 (List.mem_of_getElem? (i := 826) (by decide +kernel)) mc_X5_proof (x_proof hR0 hA (s := s) (f := f) (v := v) (z := z) r_s r_f r_v r_z hok) kc_8 hR0.k rfl rfl ⟨Nat.le_of_ble_eq_true rfl, Nat.le_of_ble_eq_true rfl⟩ (Nat.le_of_ble_eq_true rfl) ⟨Nat.le_of_ble_eq_true rfl, Nat.le_of_ble_eq_true rfl⟩ (fun Ec G1 M1 hq => ?_)
    obtain ⟨rfl, ⟨z, hz, rfl⟩, hq⟩ := hq
    rcases hq with ⟨hq, rfl⟩ | ⟨hq, rfl⟩ | ⟨hq, rfl⟩
    · skip
      refine pwx_catch C (name := "java/lang/IndexOutOfBoundsException") (tableOf []) ⟨0, 14, 17, 13⟩ (tableOf [(0, 14, 21, 15)]) rfl (fun z hz => absurd hz List.not_mem_nil) (by decide) (by decide) (List.mem_of_getElem? (i := 671) (by decide +kernel)) (List.mem_of_getElem? (i := 486) (by decide +kernel)) (fun q hq0 => ?_)
      show PW E _ _ _ _ 17 _ _
      refine pw_astore C dL_proof_17 (Nat.le_of_ble_eq_true rfl) rfl ?_
      refine pw_iconst C dL_proof_19 ?_
      exact pw_iret C hR dL_proof_20 ⟨_, rfl, WP.bad (by unfold cd2; rw [if_pos hq]) (by decide) hz hR0⟩ (Nat.le_of_ble_eq_true rfl) (Nat.le_of_ble_eq_true rfl)
    · skip
      refine pwx_catch C (name := "java/lang/IllegalArgumentException") (tableOf [(0, 14, 17, 13)]) ⟨0, 14, 21, 15⟩ (tableOf []) rfl (fun z hz => by rcases List.mem_cons.mp hz with rfl | hz; exact ⟨by decide, "java/lang/IndexOutOfBoundsException", List.mem_of_getElem? (i := 671) (by decide +kernel), by decide +kernel⟩; exact absurd hz List.not_mem_nil) (by decide) (by decide) (List.mem_of_getElem? (i := 672) (by decide +kernel)) (List.mem_of_getElem? (i := 402) (by decide +kernel)) (fun q hq0 => ?_)
      show PW E _ _ _ _ 21 _ _
      refine pw_astore C dL_proof_21 (Nat.le_of_ble_eq_true rfl) rfl ?_
      refine pw_iconst C dL_proof_23 ?_
      exact pw_iret C hR dL_proof_24 ⟨_, rfl, WP.bad (by unfold cd2; rw [if_neg (fun q => q hq.1), if_pos hq.2]) (by decide) hz hR0⟩ (Nat.le_of_ble_eq_true rfl) (Nat.le_of_ble_eq_true rfl)
    · exact hq.elim
theorem mc_L_proof : MSW yL_proof method_16_code 7 (some .int) [(0, 14, 17, 13), (0, 14, 21, 15)] 6 := ⟨List.mem_of_getElem? (i := 824) (by decide +kernel), List.mem_of_getElem? (i := 825) (by decide +kernel), List.mem_of_getElem? (i := 91) (by decide +kernel), ⟨by decide +kernel, by decide +kernel⟩, by decide +kernel⟩

set_option maxHeartbeats 4000000 in
set_option maxRecDepth 100000 in
theorem w_ofTake {X : Xv} {G M : Mm} {B : Int} {A : An} (hR0 : RC G M B A) (hA : AB A) {out : Int} (ho : G 0 out 0 = 102 ∧ G 1 out 0 = 1) (ho2 : B + 201 < out) {t w : Int} (r_t : -2147483648 ≤ t ∧ t ≤ 2147483647) (r_w : -2147483648 ≤ w ∧ w ≤ 2147483647) : CW X yL_ofTake method_17_code 5 (some .int) [(0, 10, 13, 13), (0, 10, 17, 15)] 8 126 1 6 [vR B, vI t, vI w, vR out] G M (PI (WP B out (cd2 (0 ≤ t ∧ t < A 0 0 1) (0 ≤ w ∧ w ≤ 8)) (oTa A t w) A (A) G M)) := by
  refine CW.by (by decide +kernel) [1, 1, 1, 1] ⟨cat_vR _, cat_vI _, cat_vI _, cat_vR _, trivial⟩ (Nat.le_of_ble_eq_true rfl) (fun E hX C hR => ?_)
  refine pw_aload_n C dL_ofTake_0 rfl ?_
  refine pw_iconst C dL_ofTake_1 ?_
  refine pw_aload_n C dL_ofTake_2 rfl ?_
  refine pw_iload_n C dL_ofTake_3 rfl ?_
  refine pw_iload_n C dL_ofTake_4 rfl ?_
  by_cases hok : (0 ≤ t ∧ t < A 0 0 1) ∧ (0 ≤ w ∧ w ≤ 8)
  · skip
    refine pw_cVE C hX dL_ofTake_5 ml_L_65 mc_X5_ofTake (c_ofTake hR0 hA (t := t) (w := w) r_t r_w hok) kc_8 hR0.k rfl rfl ⟨Nat.le_of_ble_eq_true rfl, Nat.le_of_ble_eq_true rfl⟩ (Nat.le_of_ble_eq_true rfl) ⟨Nat.le_of_ble_eq_true rfl, Nat.le_of_ble_eq_true rfl⟩ ?_
    have hR1 := hR0
    have hO1 : Ot B (B + 201) M M := Ot.rf
    refine pw_i2lW C dL_ofTake_8 ?_
    refine pw_last C dL_ofTake_9 ho.1 (by rw [ho.2]; omega) ?_
    refine pw_goto (tgt := 21) C dL_ofTake_10 (by decide) ?_
    refine pw_iconst C dL_ofTake_21 ?_
    exact pw_iret C hR dL_ofTake_22 (⟨_, rfl, WP.ok (by unfold cd2; rw [if_neg (fun q => q hok.1), if_neg (fun q => q hok.2)]) ho2 hR1 hO1 rfl⟩) (Nat.le_of_ble_eq_true rfl) (Nat.le_of_ble_eq_true rfl)
  · skip
    refine pw_xV C hX dL_ofTake_5 (List.mem_of_getElem? (i := 833) (by decide +kernel)) mc_X5_ofTake (x_ofTake hR0 hA (t := t) (w := w) r_t r_w hok) kc_8 hR0.k rfl rfl ⟨Nat.le_of_ble_eq_true rfl, Nat.le_of_ble_eq_true rfl⟩ (Nat.le_of_ble_eq_true rfl) ⟨Nat.le_of_ble_eq_true rfl, Nat.le_of_ble_eq_true rfl⟩ (fun Ec G1 M1 hq => ?_)
    obtain ⟨rfl, ⟨z, hz, rfl⟩, hq⟩ := hq
    rcases hq with ⟨hq, rfl⟩ | ⟨hq, rfl⟩ | ⟨hq, rfl⟩
    · skip
      refine pwx_catch C (name := "java/lang/IndexOutOfBoundsException") (tableOf []) ⟨0, 10, 13, 13⟩ (tableOf [(0, 10, 17, 15)]) rfl (fun z hz => absurd hz List.not_mem_nil) (by decide) (by decide) (List.mem_of_getElem? (i := 671) (by decide +kernel)) (List.mem_of_getElem? (i := 486) (by decide +kernel)) (fun q hq0 => ?_)
      show PW E _ _ _ _ 13 _ _
      refine pw_astore C dL_ofTake_13 (Nat.le_of_ble_eq_true rfl) rfl ?_
      refine pw_iconst C dL_ofTake_15 ?_
      exact pw_iret C hR dL_ofTake_16 ⟨_, rfl, WP.bad (by unfold cd2; rw [if_pos hq]) (by decide) hz hR0⟩ (Nat.le_of_ble_eq_true rfl) (Nat.le_of_ble_eq_true rfl)
    · skip
      refine pwx_catch C (name := "java/lang/IllegalArgumentException") (tableOf [(0, 10, 13, 13)]) ⟨0, 10, 17, 15⟩ (tableOf []) rfl (fun z hz => by rcases List.mem_cons.mp hz with rfl | hz; exact ⟨by decide, "java/lang/IndexOutOfBoundsException", List.mem_of_getElem? (i := 671) (by decide +kernel), by decide +kernel⟩; exact absurd hz List.not_mem_nil) (by decide) (by decide) (List.mem_of_getElem? (i := 672) (by decide +kernel)) (List.mem_of_getElem? (i := 402) (by decide +kernel)) (fun q hq0 => ?_)
      show PW E _ _ _ _ 17 _ _
      refine pw_astore C dL_ofTake_17 (Nat.le_of_ble_eq_true rfl) rfl ?_
      refine pw_iconst C dL_ofTake_19 ?_
      exact pw_iret C hR dL_ofTake_20 ⟨_, rfl, WP.bad (by unfold cd2; rw [if_neg (fun q => q hq.1), if_pos hq.2]) (by decide) hz hR0⟩ (Nat.le_of_ble_eq_true rfl) (Nat.le_of_ble_eq_true rfl)
    · exact hq.elim
theorem mc_L_ofTake : MSW yL_ofTake method_17_code 5 (some .int) [(0, 10, 13, 13), (0, 10, 17, 15)] 4 := ⟨List.mem_of_getElem? (i := 831) (by decide +kernel), List.mem_of_getElem? (i := 832) (by decide +kernel), List.mem_of_getElem? (i := 91) (by decide +kernel), ⟨by decide +kernel, by decide +kernel⟩, by decide +kernel⟩

set_option maxHeartbeats 4000000 in
set_option maxRecDepth 100000 in
theorem w_says {X : Xv} {G M : Mm} {B : Int} {A : An} (hR0 : RC G M B A) (hA : AB A) {out : Int} (ho : G 0 out 0 = 102 ∧ G 1 out 0 = 1) (ho2 : B + 201 < out) {t f : Int} (r_t : -2147483648 ≤ t ∧ t ≤ 2147483647) (r_f : -2147483648 ≤ f ∧ f ≤ 2147483647) : CW X yL_says method_18_code 5 (some .int) [(0, 10, 13, 13)] 8 125 1 6 [vR B, vI t, vI f, vR out] G M (PI (WP B out (cd1 ((0 ≤ t ∧ t < A 0 0 1) ∧ 0 ≤ f ∧ f < 4)) (A (200 + t) 0 f) A (A) G M)) := by
  refine CW.by (by decide +kernel) [1, 1, 1, 1] ⟨cat_vR _, cat_vI _, cat_vI _, cat_vR _, trivial⟩ (Nat.le_of_ble_eq_true rfl) (fun E hX C hR => ?_)
  refine pw_aload_n C dL_says_0 rfl ?_
  refine pw_iconst C dL_says_1 ?_
  refine pw_aload_n C dL_says_2 rfl ?_
  refine pw_iload_n C dL_says_3 rfl ?_
  refine pw_iload_n C dL_says_4 rfl ?_
  by_cases hok : ((0 ≤ t ∧ t < A 0 0 1) ∧ 0 ≤ f ∧ f < 4)
  · skip
    refine pw_cVE C hX dL_says_5 ml_L_68 mc_X5_says (c_says hR0 hA (t := t) (f := f) r_t r_f hok) kc_8 hR0.k rfl rfl ⟨Nat.le_of_ble_eq_true rfl, Nat.le_of_ble_eq_true rfl⟩ (Nat.le_of_ble_eq_true rfl) ⟨Nat.le_of_ble_eq_true rfl, Nat.le_of_ble_eq_true rfl⟩ ?_
    have hR1 := hR0
    have hO1 : Ot B (B + 201) M M := Ot.rf
    refine pw_i2lW C dL_says_8 ?_
    refine pw_last C dL_says_9 ho.1 (by rw [ho.2]; omega) ?_
    refine pw_goto (tgt := 17) C dL_says_10 (by decide) ?_
    refine pw_iconst C dL_says_17 ?_
    exact pw_iret C hR dL_says_18 (⟨_, rfl, WP.ok (by unfold cd1; rw [if_neg (fun q => q hok)]) ho2 hR1 hO1 rfl⟩) (Nat.le_of_ble_eq_true rfl) (Nat.le_of_ble_eq_true rfl)
  · skip
    refine pw_xV C hX dL_says_5 (List.mem_of_getElem? (i := 837) (by decide +kernel)) mc_X5_says (x_says hR0 hA (t := t) (f := f) r_t r_f hok) kc_8 hR0.k rfl rfl ⟨Nat.le_of_ble_eq_true rfl, Nat.le_of_ble_eq_true rfl⟩ (Nat.le_of_ble_eq_true rfl) ⟨Nat.le_of_ble_eq_true rfl, Nat.le_of_ble_eq_true rfl⟩ (fun Ec G1 M1 hq => ?_)
    obtain ⟨rfl, ⟨z, hz, rfl⟩, hq⟩ := hq
    rcases hq with ⟨hq, rfl⟩ | ⟨hq, rfl⟩ | ⟨hq, rfl⟩
    · skip
      refine pwx_catch C (name := "java/lang/IndexOutOfBoundsException") (tableOf []) ⟨0, 10, 13, 13⟩ (tableOf []) rfl (fun z hz => absurd hz List.not_mem_nil) (by decide) (by decide) (List.mem_of_getElem? (i := 671) (by decide +kernel)) (List.mem_of_getElem? (i := 486) (by decide +kernel)) (fun q hq0 => ?_)
      show PW E _ _ _ _ 13 _ _
      refine pw_astore C dL_says_13 (Nat.le_of_ble_eq_true rfl) rfl ?_
      refine pw_iconst C dL_says_15 ?_
      exact pw_iret C hR dL_says_16 ⟨_, rfl, WP.bad (by unfold cd1; rw [if_pos hq]) (by decide) hz hR0⟩ (Nat.le_of_ble_eq_true rfl) (Nat.le_of_ble_eq_true rfl)
    · exact hq.elim
    · exact hq.elim
theorem mc_L_says : MSW yL_says method_18_code 5 (some .int) [(0, 10, 13, 13)] 4 := ⟨List.mem_of_getElem? (i := 835) (by decide +kernel), List.mem_of_getElem? (i := 836) (by decide +kernel), List.mem_of_getElem? (i := 91) (by decide +kernel), ⟨by decide +kernel, by decide +kernel⟩, by decide +kernel⟩

set_option maxHeartbeats 4000000 in
set_option maxRecDepth 100000 in
theorem w_state {X : Xv} {G M : Mm} {B : Int} {A : An} (hR0 : RC G M B A) (hA : AB A) {out : Int} (ho : G 0 out 0 = 102 ∧ G 1 out 0 = 1) (ho2 : B + 201 < out) {l t : Int} (r_l : -2147483648 ≤ l ∧ l ≤ 2147483647) (r_t : -2147483648 ≤ t ∧ t ≤ 2147483647) : CW X yL_state method_19_code 5 (some .int) [(0, 10, 13, 13)] 8 126 1 6 [vR B, vI l, vI t, vR out] G M (PI (WP B out (cd1 ((0 ≤ l ∧ l < A 0 0 2) ∧ 0 ≤ t ∧ t < A 0 0 1)) (stt A l t) A (A) G M)) := by
  refine CW.by (by decide +kernel) [1, 1, 1, 1] ⟨cat_vR _, cat_vI _, cat_vI _, cat_vR _, trivial⟩ (Nat.le_of_ble_eq_true rfl) (fun E hX C hR => ?_)
  refine pw_aload_n C dL_state_0 rfl ?_
  refine pw_iconst C dL_state_1 ?_
  refine pw_aload_n C dL_state_2 rfl ?_
  refine pw_iload_n C dL_state_3 rfl ?_
  refine pw_iload_n C dL_state_4 rfl ?_
  by_cases hok : ((0 ≤ l ∧ l < A 0 0 2) ∧ 0 ≤ t ∧ t < A 0 0 1)
  · skip
    refine pw_cVE C hX dL_state_5 ml_L_71 mc_X5_state (c_state hR0 hA (l := l) (t := t) r_l r_t hok) kc_8 hR0.k rfl rfl ⟨Nat.le_of_ble_eq_true rfl, Nat.le_of_ble_eq_true rfl⟩ (Nat.le_of_ble_eq_true rfl) ⟨Nat.le_of_ble_eq_true rfl, Nat.le_of_ble_eq_true rfl⟩ ?_
    have hR1 := hR0
    have hO1 : Ot B (B + 201) M M := Ot.rf
    refine pw_i2lW C dL_state_8 ?_
    refine pw_last C dL_state_9 ho.1 (by rw [ho.2]; omega) ?_
    refine pw_goto (tgt := 17) C dL_state_10 (by decide) ?_
    refine pw_iconst C dL_state_17 ?_
    exact pw_iret C hR dL_state_18 (⟨_, rfl, WP.ok (by unfold cd1; rw [if_neg (fun q => q hok)]) ho2 hR1 hO1 rfl⟩) (Nat.le_of_ble_eq_true rfl) (Nat.le_of_ble_eq_true rfl)
  · skip
    refine pw_xV C hX dL_state_5 (List.mem_of_getElem? (i := 841) (by decide +kernel)) mc_X5_state (x_state hR0 hA (l := l) (t := t) r_l r_t hok) kc_8 hR0.k rfl rfl ⟨Nat.le_of_ble_eq_true rfl, Nat.le_of_ble_eq_true rfl⟩ (Nat.le_of_ble_eq_true rfl) ⟨Nat.le_of_ble_eq_true rfl, Nat.le_of_ble_eq_true rfl⟩ (fun Ec G1 M1 hq => ?_)
    obtain ⟨rfl, ⟨z, hz, rfl⟩, hq⟩ := hq
    rcases hq with ⟨hq, rfl⟩ | ⟨hq, rfl⟩ | ⟨hq, rfl⟩
    · skip
      refine pwx_catch C (name := "java/lang/IndexOutOfBoundsException") (tableOf []) ⟨0, 10, 13, 13⟩ (tableOf []) rfl (fun z hz => absurd hz List.not_mem_nil) (by decide) (by decide) (List.mem_of_getElem? (i := 671) (by decide +kernel)) (List.mem_of_getElem? (i := 486) (by decide +kernel)) (fun q hq0 => ?_)
      show PW E _ _ _ _ 13 _ _
      refine pw_astore C dL_state_13 (Nat.le_of_ble_eq_true rfl) rfl ?_
      refine pw_iconst C dL_state_15 ?_
      exact pw_iret C hR dL_state_16 ⟨_, rfl, WP.bad (by unfold cd1; rw [if_pos hq]) (by decide) hz hR0⟩ (Nat.le_of_ble_eq_true rfl) (Nat.le_of_ble_eq_true rfl)
    · exact hq.elim
    · exact hq.elim
theorem mc_L_state : MSW yL_state method_19_code 5 (some .int) [(0, 10, 13, 13)] 4 := ⟨List.mem_of_getElem? (i := 839) (by decide +kernel), List.mem_of_getElem? (i := 840) (by decide +kernel), List.mem_of_getElem? (i := 91) (by decide +kernel), ⟨by decide +kernel, by decide +kernel⟩, by decide +kernel⟩

set_option maxHeartbeats 4000000 in
set_option maxRecDepth 100000 in
theorem w_tells {X : Xv} {G M : Mm} {B : Int} {A : An} (hR0 : RC G M B A) (hA : AB A) {out : Int} (ho : G 0 out 0 = 102 ∧ G 1 out 0 = 1) (ho2 : B + 201 < out) {l s f : Int} (r_l : -2147483648 ≤ l ∧ l ≤ 2147483647) (r_s : -2147483648 ≤ s ∧ s ≤ 2147483647) (r_f : -2147483648 ≤ f ∧ f ≤ 2147483647) : CW X yL_tells method_20_code 6 (some .int) [(0, 12, 15, 13)] 9 148 1 6 [vR B, vI l, vI s, vI f, vR out] G M (PI (WP B out (cd1 ((0 ≤ l ∧ l < A 0 0 2) ∧ (0 ≤ s ∧ s < A 0 0 0) ∧ 0 ≤ f ∧ f < 4)) (tld A l s f) A (A) G M)) := by
  refine CW.by (by decide +kernel) [1, 1, 1, 1, 1] ⟨cat_vR _, cat_vI _, cat_vI _, cat_vI _, cat_vR _, trivial⟩ (Nat.le_of_ble_eq_true rfl) (fun E hX C hR => ?_)
  refine pw_aload C dL_tells_0 rfl ?_
  refine pw_iconst C dL_tells_2 ?_
  refine pw_aload_n C dL_tells_3 rfl ?_
  refine pw_iload_n C dL_tells_4 rfl ?_
  refine pw_iload_n C dL_tells_5 rfl ?_
  refine pw_iload_n C dL_tells_6 rfl ?_
  by_cases hok : ((0 ≤ l ∧ l < A 0 0 2) ∧ (0 ≤ s ∧ s < A 0 0 0) ∧ 0 ≤ f ∧ f < 4)
  · skip
    refine pw_cVE C hX dL_tells_7 ml_L_74 mc_X5_tells (c_tells hR0 hA (l := l) (s := s) (f := f) r_l r_s r_f hok) kc_8 hR0.k rfl rfl ⟨Nat.le_of_ble_eq_true rfl, Nat.le_of_ble_eq_true rfl⟩ (Nat.le_of_ble_eq_true rfl) ⟨Nat.le_of_ble_eq_true rfl, Nat.le_of_ble_eq_true rfl⟩ ?_
    have hR1 := hR0
    have hO1 : Ot B (B + 201) M M := Ot.rf
    refine pw_i2lW C dL_tells_10 ?_
    refine pw_last C dL_tells_11 ho.1 (by rw [ho.2]; omega) ?_
    refine pw_goto (tgt := 19) C dL_tells_12 (by decide) ?_
    refine pw_iconst C dL_tells_19 ?_
    exact pw_iret C hR dL_tells_20 (⟨_, rfl, WP.ok (by unfold cd1; rw [if_neg (fun q => q hok)]) ho2 hR1 hO1 rfl⟩) (Nat.le_of_ble_eq_true rfl) (Nat.le_of_ble_eq_true rfl)
  · skip
    refine pw_xV C hX dL_tells_7 (List.mem_of_getElem? (i := 845) (by decide +kernel)) mc_X5_tells (x_tells hR0 hA (l := l) (s := s) (f := f) r_l r_s r_f hok) kc_8 hR0.k rfl rfl ⟨Nat.le_of_ble_eq_true rfl, Nat.le_of_ble_eq_true rfl⟩ (Nat.le_of_ble_eq_true rfl) ⟨Nat.le_of_ble_eq_true rfl, Nat.le_of_ble_eq_true rfl⟩ (fun Ec G1 M1 hq => ?_)
    obtain ⟨rfl, ⟨z, hz, rfl⟩, hq⟩ := hq
    rcases hq with ⟨hq, rfl⟩ | ⟨hq, rfl⟩ | ⟨hq, rfl⟩
    · skip
      refine pwx_catch C (name := "java/lang/IndexOutOfBoundsException") (tableOf []) ⟨0, 12, 15, 13⟩ (tableOf []) rfl (fun z hz => absurd hz List.not_mem_nil) (by decide) (by decide) (List.mem_of_getElem? (i := 671) (by decide +kernel)) (List.mem_of_getElem? (i := 486) (by decide +kernel)) (fun q hq0 => ?_)
      show PW E _ _ _ _ 15 _ _
      refine pw_astore C dL_tells_15 (Nat.le_of_ble_eq_true rfl) rfl ?_
      refine pw_iconst C dL_tells_17 ?_
      exact pw_iret C hR dL_tells_18 ⟨_, rfl, WP.bad (by unfold cd1; rw [if_pos hq]) (by decide) hz hR0⟩ (Nat.le_of_ble_eq_true rfl) (Nat.le_of_ble_eq_true rfl)
    · exact hq.elim
    · exact hq.elim
theorem mc_L_tells : MSW yL_tells method_20_code 6 (some .int) [(0, 12, 15, 13)] 5 := ⟨List.mem_of_getElem? (i := 843) (by decide +kernel), List.mem_of_getElem? (i := 844) (by decide +kernel), List.mem_of_getElem? (i := 91) (by decide +kernel), ⟨by decide +kernel, by decide +kernel⟩, by decide +kernel⟩

set_option maxHeartbeats 4000000 in
set_option maxRecDepth 100000 in
theorem w_ofLine {X : Xv} {G M : Mm} {B : Int} {A : An} (hR0 : RC G M B A) (hA : AB A) {out : Int} (ho : G 0 out 0 = 102 ∧ G 1 out 0 = 1) (ho2 : B + 201 < out) {l w : Int} (r_l : -2147483648 ≤ l ∧ l ≤ 2147483647) (r_w : -2147483648 ≤ w ∧ w ≤ 2147483647) : CW X yL_ofLine method_21_code 5 (some .int) [(0, 10, 13, 13), (0, 10, 17, 15)] 8 126 1 6 [vR B, vI l, vI w, vR out] G M (PI (WP B out (cd2 (0 ≤ l ∧ l < A 0 0 2) (0 ≤ w ∧ w ≤ 7)) (oLi A l w) A (A) G M)) := by
  refine CW.by (by decide +kernel) [1, 1, 1, 1] ⟨cat_vR _, cat_vI _, cat_vI _, cat_vR _, trivial⟩ (Nat.le_of_ble_eq_true rfl) (fun E hX C hR => ?_)
  refine pw_aload_n C dL_ofLine_0 rfl ?_
  refine pw_iconst C dL_ofLine_1 ?_
  refine pw_aload_n C dL_ofLine_2 rfl ?_
  refine pw_iload_n C dL_ofLine_3 rfl ?_
  refine pw_iload_n C dL_ofLine_4 rfl ?_
  by_cases hok : (0 ≤ l ∧ l < A 0 0 2) ∧ (0 ≤ w ∧ w ≤ 7)
  · skip
    refine pw_cVE C hX dL_ofLine_5 ml_L_77 mc_X5_ofLine (c_ofLine hR0 hA (l := l) (w := w) r_l r_w hok) kc_8 hR0.k rfl rfl ⟨Nat.le_of_ble_eq_true rfl, Nat.le_of_ble_eq_true rfl⟩ (Nat.le_of_ble_eq_true rfl) ⟨Nat.le_of_ble_eq_true rfl, Nat.le_of_ble_eq_true rfl⟩ ?_
    have hR1 := hR0
    have hO1 : Ot B (B + 201) M M := Ot.rf
    refine pw_i2lW C dL_ofLine_8 ?_
    refine pw_last C dL_ofLine_9 ho.1 (by rw [ho.2]; omega) ?_
    refine pw_goto (tgt := 21) C dL_ofLine_10 (by decide) ?_
    refine pw_iconst C dL_ofLine_21 ?_
    exact pw_iret C hR dL_ofLine_22 (⟨_, rfl, WP.ok (by unfold cd2; rw [if_neg (fun q => q hok.1), if_neg (fun q => q hok.2)]) ho2 hR1 hO1 rfl⟩) (Nat.le_of_ble_eq_true rfl) (Nat.le_of_ble_eq_true rfl)
  · skip
    refine pw_xV C hX dL_ofLine_5 (List.mem_of_getElem? (i := 849) (by decide +kernel)) mc_X5_ofLine (x_ofLine hR0 hA (l := l) (w := w) r_l r_w hok) kc_8 hR0.k rfl rfl ⟨Nat.le_of_ble_eq_true rfl, Nat.le_of_ble_eq_true rfl⟩ (Nat.le_of_ble_eq_true rfl) ⟨Nat.le_of_ble_eq_true rfl, Nat.le_of_ble_eq_true rfl⟩ (fun Ec G1 M1 hq => ?_)
    obtain ⟨rfl, ⟨z, hz, rfl⟩, hq⟩ := hq
    rcases hq with ⟨hq, rfl⟩ | ⟨hq, rfl⟩ | ⟨hq, rfl⟩
    · skip
      refine pwx_catch C (name := "java/lang/IndexOutOfBoundsException") (tableOf []) ⟨0, 10, 13, 13⟩ (tableOf [(0, 10, 17, 15)]) rfl (fun z hz => absurd hz List.not_mem_nil) (by decide) (by decide) (List.mem_of_getElem? (i := 671) (by decide +kernel)) (List.mem_of_getElem? (i := 486) (by decide +kernel)) (fun q hq0 => ?_)
      show PW E _ _ _ _ 13 _ _
      refine pw_astore C dL_ofLine_13 (Nat.le_of_ble_eq_true rfl) rfl ?_
      refine pw_iconst C dL_ofLine_15 ?_
      exact pw_iret C hR dL_ofLine_16 ⟨_, rfl, WP.bad (by unfold cd2; rw [if_pos hq]) (by decide) hz hR0⟩ (Nat.le_of_ble_eq_true rfl) (Nat.le_of_ble_eq_true rfl)
    · skip
      refine pwx_catch C (name := "java/lang/IllegalArgumentException") (tableOf [(0, 10, 13, 13)]) ⟨0, 10, 17, 15⟩ (tableOf []) rfl (fun z hz => by rcases List.mem_cons.mp hz with rfl | hz; exact ⟨by decide, "java/lang/IndexOutOfBoundsException", List.mem_of_getElem? (i := 671) (by decide +kernel), by decide +kernel⟩; exact absurd hz List.not_mem_nil) (by decide) (by decide) (List.mem_of_getElem? (i := 672) (by decide +kernel)) (List.mem_of_getElem? (i := 402) (by decide +kernel)) (fun q hq0 => ?_)
      show PW E _ _ _ _ 17 _ _
      refine pw_astore C dL_ofLine_17 (Nat.le_of_ble_eq_true rfl) rfl ?_
      refine pw_iconst C dL_ofLine_19 ?_
      exact pw_iret C hR dL_ofLine_20 ⟨_, rfl, WP.bad (by unfold cd2; rw [if_neg (fun q => q hq.1), if_pos hq.2]) (by decide) hz hR0⟩ (Nat.le_of_ble_eq_true rfl) (Nat.le_of_ble_eq_true rfl)
    · exact hq.elim
theorem mc_L_ofLine : MSW yL_ofLine method_21_code 5 (some .int) [(0, 10, 13, 13), (0, 10, 17, 15)] 4 := ⟨List.mem_of_getElem? (i := 847) (by decide +kernel), List.mem_of_getElem? (i := 848) (by decide +kernel), List.mem_of_getElem? (i := 91) (by decide +kernel), ⟨by decide +kernel, by decide +kernel⟩, by decide +kernel⟩

set_option maxHeartbeats 4000000 in
set_option maxRecDepth 100000 in
theorem w_many {X : Xv} {G M : Mm} {B : Int} {A : An} (hR0 : RC G M B A) (hA : AB A) {out : Int} (ho : G 0 out 0 = 102 ∧ G 1 out 0 = 1) (ho2 : B + 201 < out) {w : Int} (r_w : -2147483648 ≤ w ∧ w ≤ 2147483647) : CW X yL_many method_22_code 4 (some .int) [(0, 9, 12, 15)] 7 139 1 6 [vR B, vI w, vR out] G M (PI (WP B out (cd1 (0 ≤ w ∧ w ≤ 10)) (mny A w) A (A) G M)) := by
  refine CW.by (by decide +kernel) [1, 1, 1] ⟨cat_vR _, cat_vI _, cat_vR _, trivial⟩ (Nat.le_of_ble_eq_true rfl) (fun E hX C hR => ?_)
  refine pw_aload_n C dL_many_0 rfl ?_
  refine pw_iconst C dL_many_1 ?_
  refine pw_aload_n C dL_many_2 rfl ?_
  refine pw_iload_n C dL_many_3 rfl ?_
  by_cases hok : (0 ≤ w ∧ w ≤ 10)
  · skip
    refine pw_cVE C hX dL_many_4 ml_L_80 mc_X5_many (c_many hR0 hA (w := w) r_w hok) kc_8 hR0.k rfl rfl ⟨Nat.le_of_ble_eq_true rfl, Nat.le_of_ble_eq_true rfl⟩ (Nat.le_of_ble_eq_true rfl) ⟨Nat.le_of_ble_eq_true rfl, Nat.le_of_ble_eq_true rfl⟩ ?_
    have hR1 := hR0
    have hO1 : Ot B (B + 201) M M := Ot.rf
    refine pw_i2lW C dL_many_7 ?_
    refine pw_last C dL_many_8 ho.1 (by rw [ho.2]; omega) ?_
    refine pw_goto (tgt := 15) C dL_many_9 (by decide) ?_
    refine pw_iconst C dL_many_15 ?_
    exact pw_iret C hR dL_many_16 (⟨_, rfl, WP.ok (by unfold cd1; rw [if_neg (fun q => q hok)]) ho2 hR1 hO1 rfl⟩) (Nat.le_of_ble_eq_true rfl) (Nat.le_of_ble_eq_true rfl)
  · skip
    refine pw_xV C hX dL_many_4 (List.mem_of_getElem? (i := 853) (by decide +kernel)) mc_X5_many (x_many hR0 hA (w := w) r_w hok) kc_8 hR0.k rfl rfl ⟨Nat.le_of_ble_eq_true rfl, Nat.le_of_ble_eq_true rfl⟩ (Nat.le_of_ble_eq_true rfl) ⟨Nat.le_of_ble_eq_true rfl, Nat.le_of_ble_eq_true rfl⟩ (fun Ec G1 M1 hq => ?_)
    obtain ⟨rfl, ⟨z, hz, rfl⟩, hq⟩ := hq
    rcases hq with ⟨hq, rfl⟩ | ⟨hq, rfl⟩ | ⟨hq, rfl⟩
    · skip
      refine pwx_catch C (name := "java/lang/IllegalArgumentException") (tableOf []) ⟨0, 9, 12, 15⟩ (tableOf []) rfl (fun z hz => absurd hz List.not_mem_nil) (by decide) (by decide) (List.mem_of_getElem? (i := 672) (by decide +kernel)) (List.mem_of_getElem? (i := 402) (by decide +kernel)) (fun q hq0 => ?_)
      show PW E _ _ _ _ 12 _ _
      refine pw_astore_n C dL_many_12 (Nat.le_of_ble_eq_true rfl) rfl ?_
      refine pw_iconst C dL_many_13 ?_
      exact pw_iret C hR dL_many_14 ⟨_, rfl, WP.bad (by unfold cd1; rw [if_pos hq]) (by decide) hz hR0⟩ (Nat.le_of_ble_eq_true rfl) (Nat.le_of_ble_eq_true rfl)
    · exact hq.elim
    · exact hq.elim
theorem mc_L_many : MSW yL_many method_22_code 4 (some .int) [(0, 9, 12, 15)] 3 := ⟨List.mem_of_getElem? (i := 851) (by decide +kernel), List.mem_of_getElem? (i := 852) (by decide +kernel), List.mem_of_getElem? (i := 91) (by decide +kernel), ⟨by decide +kernel, by decide +kernel⟩, by decide +kernel⟩

set_option maxHeartbeats 4000000 in
set_option maxRecDepth 100000 in
theorem w_arrives {X : Xv} {G M : Mm} {B : Int} {A : An} (hR0 : RC G M B A) (hA : AB A) {out : Int} (ho : G 0 out 0 = 102 ∧ G 1 out 0 = 1) (ho2 : B + 201 < out) {l t : Int} (r_l : -2147483648 ≤ l ∧ l ≤ 2147483647) (r_t : -2147483648 ≤ t ∧ t ≤ 2147483647) : CW X yL_arrives method_23_code 5 (some .int) [(0, 10, 13, 13)] 8 126 1 6 [vR B, vI l, vI t, vR out] G M (PI (WP B out (cd1 ((0 ≤ l ∧ l < A 0 0 2) ∧ 0 ≤ t ∧ t < A 0 0 1)) (arr A l t) A (A) G M)) := by
  refine CW.by (by decide +kernel) [1, 1, 1, 1] ⟨cat_vR _, cat_vI _, cat_vI _, cat_vR _, trivial⟩ (Nat.le_of_ble_eq_true rfl) (fun E hX C hR => ?_)
  refine pw_aload_n C dL_arrives_0 rfl ?_
  refine pw_iconst C dL_arrives_1 ?_
  refine pw_aload_n C dL_arrives_2 rfl ?_
  refine pw_iload_n C dL_arrives_3 rfl ?_
  refine pw_iload_n C dL_arrives_4 rfl ?_
  by_cases hok : ((0 ≤ l ∧ l < A 0 0 2) ∧ 0 ≤ t ∧ t < A 0 0 1)
  · skip
    refine pw_cVI C hX dL_arrives_5 ml_L_83 mc_X5_arrives (c_arrives hR0 hA (l := l) (t := t) r_l r_t hok) kc_8 hR0.k rfl rfl ⟨Nat.le_of_ble_eq_true rfl, Nat.le_of_ble_eq_true rfl⟩ (Nat.le_of_ble_eq_true rfl) ⟨Nat.le_of_ble_eq_true rfl, Nat.le_of_ble_eq_true rfl⟩ (fun r_ G M1 hq_ => ?_)
    obtain ⟨rfl, rfl, hR1, hO1⟩ := hq_
    refine pw_i2lW C dL_arrives_8 ?_
    refine pw_last C dL_arrives_9 ho.1 (by rw [ho.2]; omega) ?_
    refine pw_goto (tgt := 17) C dL_arrives_10 (by decide) ?_
    refine pw_iconst C dL_arrives_17 ?_
    exact pw_iret C hR dL_arrives_18 (⟨_, rfl, WP.ok (by unfold cd1; rw [if_neg (fun q => q hok)]) ho2 hR1 hO1 rfl⟩) (Nat.le_of_ble_eq_true rfl) (Nat.le_of_ble_eq_true rfl)
  · skip
    refine pw_xV C hX dL_arrives_5 (List.mem_of_getElem? (i := 857) (by decide +kernel)) mc_X5_arrives (x_arrives hR0 hA (l := l) (t := t) r_l r_t hok) kc_8 hR0.k rfl rfl ⟨Nat.le_of_ble_eq_true rfl, Nat.le_of_ble_eq_true rfl⟩ (Nat.le_of_ble_eq_true rfl) ⟨Nat.le_of_ble_eq_true rfl, Nat.le_of_ble_eq_true rfl⟩ (fun Ec G1 M1 hq => ?_)
    obtain ⟨rfl, ⟨z, hz, rfl⟩, hq⟩ := hq
    rcases hq with ⟨hq, rfl⟩ | ⟨hq, rfl⟩ | ⟨hq, rfl⟩
    · skip
      refine pwx_catch C (name := "java/lang/IndexOutOfBoundsException") (tableOf []) ⟨0, 10, 13, 13⟩ (tableOf []) rfl (fun z hz => absurd hz List.not_mem_nil) (by decide) (by decide) (List.mem_of_getElem? (i := 671) (by decide +kernel)) (List.mem_of_getElem? (i := 486) (by decide +kernel)) (fun q hq0 => ?_)
      show PW E _ _ _ _ 13 _ _
      refine pw_astore C dL_arrives_13 (Nat.le_of_ble_eq_true rfl) rfl ?_
      refine pw_iconst C dL_arrives_15 ?_
      exact pw_iret C hR dL_arrives_16 ⟨_, rfl, WP.bad (by unfold cd1; rw [if_pos hq]) (by decide) hz hR0⟩ (Nat.le_of_ble_eq_true rfl) (Nat.le_of_ble_eq_true rfl)
    · exact hq.elim
    · exact hq.elim
theorem mc_L_arrives : MSW yL_arrives method_23_code 5 (some .int) [(0, 10, 13, 13)] 4 := ⟨List.mem_of_getElem? (i := 855) (by decide +kernel), List.mem_of_getElem? (i := 856) (by decide +kernel), List.mem_of_getElem? (i := 91) (by decide +kernel), ⟨by decide +kernel, by decide +kernel⟩, by decide +kernel⟩

set_option maxHeartbeats 4000000 in
set_option maxRecDepth 100000 in
theorem w_wouldArrive {X : Xv} {G M : Mm} {B : Int} {A : An} (hR0 : RC G M B A) (hA : AB A) {out : Int} (ho : G 0 out 0 = 102 ∧ G 1 out 0 = 1) (ho2 : B + 201 < out) {l k w : Int} (r_l : -2147483648 ≤ l ∧ l ≤ 2147483647) (r_k : -2147483648 ≤ k ∧ k ≤ 2147483647) (r_w : -2147483648 ≤ w ∧ w ≤ 2147483647) : CW X yL_wouldArrive method_24_code 6 (some .int) [(0, 12, 15, 13), (0, 12, 19, 15)] 8 126 1 6 [vR B, vI l, vI k, vI w, vR out] G M (PI (WP B out (cd2 (0 ≤ l ∧ l < A 0 0 2) ((0 ≤ k ∧ k ≤ 4) ∧ 1 ≤ w ∧ w ≤ 200)) (wou A l k w) A (A) G M)) := by
  refine CW.by (by decide +kernel) [1, 1, 1, 1, 1] ⟨cat_vR _, cat_vI _, cat_vI _, cat_vI _, cat_vR _, trivial⟩ (Nat.le_of_ble_eq_true rfl) (fun E hX C hR => ?_)
  refine pw_aload C dL_wouldArrive_0 rfl ?_
  refine pw_iconst C dL_wouldArrive_2 ?_
  refine pw_aload_n C dL_wouldArrive_3 rfl ?_
  refine pw_iload_n C dL_wouldArrive_4 rfl ?_
  refine pw_iload_n C dL_wouldArrive_5 rfl ?_
  refine pw_iload_n C dL_wouldArrive_6 rfl ?_
  by_cases hok : (0 ≤ l ∧ l < A 0 0 2) ∧ ((0 ≤ k ∧ k ≤ 4) ∧ 1 ≤ w ∧ w ≤ 200)
  · skip
    refine pw_cVI C hX dL_wouldArrive_7 ml_L_86 mc_X5_wouldArrive (c_wouldArrive hR0 hA (l := l) (k := k) (w := w) r_l r_k r_w hok) kc_8 hR0.k rfl rfl ⟨Nat.le_of_ble_eq_true rfl, Nat.le_of_ble_eq_true rfl⟩ (Nat.le_of_ble_eq_true rfl) ⟨Nat.le_of_ble_eq_true rfl, Nat.le_of_ble_eq_true rfl⟩ (fun r_ G M1 hq_ => ?_)
    obtain ⟨rfl, rfl, hR1, hO1⟩ := hq_
    refine pw_i2lW C dL_wouldArrive_10 ?_
    refine pw_last C dL_wouldArrive_11 ho.1 (by rw [ho.2]; omega) ?_
    refine pw_goto (tgt := 23) C dL_wouldArrive_12 (by decide) ?_
    refine pw_iconst C dL_wouldArrive_23 ?_
    exact pw_iret C hR dL_wouldArrive_24 (⟨_, rfl, WP.ok (by unfold cd2; rw [if_neg (fun q => q hok.1), if_neg (fun q => q hok.2)]) ho2 hR1 hO1 rfl⟩) (Nat.le_of_ble_eq_true rfl) (Nat.le_of_ble_eq_true rfl)
  · skip
    refine pw_xV C hX dL_wouldArrive_7 (List.mem_of_getElem? (i := 864) (by decide +kernel)) mc_X5_wouldArrive (x_wouldArrive hR0 hA (l := l) (k := k) (w := w) r_l r_k r_w hok) kc_8 hR0.k rfl rfl ⟨Nat.le_of_ble_eq_true rfl, Nat.le_of_ble_eq_true rfl⟩ (Nat.le_of_ble_eq_true rfl) ⟨Nat.le_of_ble_eq_true rfl, Nat.le_of_ble_eq_true rfl⟩ (fun Ec G1 M1 hq => ?_)
    obtain ⟨rfl, ⟨z, hz, rfl⟩, hq⟩ := hq
    rcases hq with ⟨hq, rfl⟩ | ⟨hq, rfl⟩ | ⟨hq, rfl⟩
    · skip
      refine pwx_catch C (name := "java/lang/IndexOutOfBoundsException") (tableOf []) ⟨0, 12, 15, 13⟩ (tableOf [(0, 12, 19, 15)]) rfl (fun z hz => absurd hz List.not_mem_nil) (by decide) (by decide) (List.mem_of_getElem? (i := 671) (by decide +kernel)) (List.mem_of_getElem? (i := 486) (by decide +kernel)) (fun q hq0 => ?_)
      show PW E _ _ _ _ 15 _ _
      refine pw_astore C dL_wouldArrive_15 (Nat.le_of_ble_eq_true rfl) rfl ?_
      refine pw_iconst C dL_wouldArrive_17 ?_
      exact pw_iret C hR dL_wouldArrive_18 ⟨_, rfl, WP.bad (by unfold cd2; rw [if_pos hq]) (by decide) hz hR0⟩ (Nat.le_of_ble_eq_true rfl) (Nat.le_of_ble_eq_true rfl)
    · skip
      refine pwx_catch C (name := "java/lang/IllegalArgumentException") (tableOf [(0, 12, 15, 13)]) ⟨0, 12, 19, 15⟩ (tableOf []) rfl (fun z hz => by rcases List.mem_cons.mp hz with rfl | hz; exact ⟨by decide, "java/lang/IndexOutOfBoundsException", List.mem_of_getElem? (i := 671) (by decide +kernel), by decide +kernel⟩; exact absurd hz List.not_mem_nil) (by decide) (by decide) (List.mem_of_getElem? (i := 672) (by decide +kernel)) (List.mem_of_getElem? (i := 402) (by decide +kernel)) (fun q hq0 => ?_)
      show PW E _ _ _ _ 19 _ _
      refine pw_astore C dL_wouldArrive_19 (Nat.le_of_ble_eq_true rfl) rfl ?_
      refine pw_iconst C dL_wouldArrive_21 ?_
      exact pw_iret C hR dL_wouldArrive_22 ⟨_, rfl, WP.bad (by unfold cd2; rw [if_neg (fun q => q hq.1), if_pos hq.2]) (by decide) hz hR0⟩ (Nat.le_of_ble_eq_true rfl) (Nat.le_of_ble_eq_true rfl)
    · exact hq.elim
theorem mc_L_wouldArrive : MSW yL_wouldArrive method_24_code 6 (some .int) [(0, 12, 15, 13), (0, 12, 19, 15)] 5 := ⟨List.mem_of_getElem? (i := 862) (by decide +kernel), List.mem_of_getElem? (i := 863) (by decide +kernel), List.mem_of_getElem? (i := 91) (by decide +kernel), ⟨by decide +kernel, by decide +kernel⟩, by decide +kernel⟩

set_option maxHeartbeats 4000000 in
set_option maxRecDepth 100000 in
theorem w_needs {X : Xv} {G M : Mm} {B : Int} {A : An} (hR0 : RC G M B A) (hA : AB A) {out : Int} (ho : G 0 out 0 = 102 ∧ G 1 out 0 = 1) (ho2 : B + 201 < out) {s f v w : Int} (r_s : -2147483648 ≤ s ∧ s ≤ 2147483647) (r_f : -2147483648 ≤ f ∧ f ≤ 2147483647) (r_v : -2147483648 ≤ v ∧ v ≤ 2147483647) (r_w : -2147483648 ≤ w ∧ w ≤ 2147483647) : CW X yL_needs method_25_code 7 (some .int) [(0, 14, 17, 13), (0, 14, 21, 15)] 9 154 1 6 [vR B, vI s, vI f, vI v, vI w, vR out] G M (PI (WP B out (cd2 ((0 ≤ s ∧ s < A 0 0 0) ∧ 0 ≤ f ∧ f < 4) ((0 ≤ v ∧ v ≤ 99) ∧ 1 ≤ w ∧ w ≤ 3)) (nee (A 10) (A (100 + (s * 4 + f))) v w) A (A) G M)) := by
  refine CW.by (by decide +kernel) [1, 1, 1, 1, 1, 1] ⟨cat_vR _, cat_vI _, cat_vI _, cat_vI _, cat_vI _, cat_vR _, trivial⟩ (Nat.le_of_ble_eq_true rfl) (fun E hX C hR => ?_)
  refine pw_aload C dL_needs_0 rfl ?_
  refine pw_iconst C dL_needs_2 ?_
  refine pw_aload_n C dL_needs_3 rfl ?_
  refine pw_iload_n C dL_needs_4 rfl ?_
  refine pw_iload_n C dL_needs_5 rfl ?_
  refine pw_iload_n C dL_needs_6 rfl ?_
  refine pw_iload C dL_needs_7 rfl ?_
  by_cases hok : ((0 ≤ s ∧ s < A 0 0 0) ∧ 0 ≤ f ∧ f < 4) ∧ ((0 ≤ v ∧ v ≤ 99) ∧ 1 ≤ w ∧ w ≤ 3)
  · skip
    refine pw_cVI C hX dL_needs_9 ml_L_89 mc_X5_needs (c_needs hR0 hA (s := s) (f := f) (v := v) (w := w) r_s r_f r_v r_w hok) kc_8 hR0.k rfl rfl ⟨Nat.le_of_ble_eq_true rfl, Nat.le_of_ble_eq_true rfl⟩ (Nat.le_of_ble_eq_true rfl) ⟨Nat.le_of_ble_eq_true rfl, Nat.le_of_ble_eq_true rfl⟩ (fun r_ G M1 hq_ => ?_)
    obtain ⟨rfl, rfl, hR1, hO1⟩ := hq_
    refine pw_i2lW C dL_needs_12 ?_
    refine pw_last C dL_needs_13 ho.1 (by rw [ho.2]; omega) ?_
    refine pw_goto (tgt := 25) C dL_needs_14 (by decide) ?_
    refine pw_iconst C dL_needs_25 ?_
    exact pw_iret C hR dL_needs_26 (⟨_, rfl, WP.ok (by unfold cd2; rw [if_neg (fun q => q hok.1), if_neg (fun q => q hok.2)]) ho2 hR1 hO1 rfl⟩) (Nat.le_of_ble_eq_true rfl) (Nat.le_of_ble_eq_true rfl)
  · skip
    refine pw_xV C hX dL_needs_9 (List.mem_of_getElem? (i := 868) (by decide +kernel)) mc_X5_needs (x_needs hR0 hA (s := s) (f := f) (v := v) (w := w) r_s r_f r_v r_w hok) kc_8 hR0.k rfl rfl ⟨Nat.le_of_ble_eq_true rfl, Nat.le_of_ble_eq_true rfl⟩ (Nat.le_of_ble_eq_true rfl) ⟨Nat.le_of_ble_eq_true rfl, Nat.le_of_ble_eq_true rfl⟩ (fun Ec G1 M1 hq => ?_)
    obtain ⟨rfl, ⟨z, hz, rfl⟩, hq⟩ := hq
    rcases hq with ⟨hq, rfl⟩ | ⟨hq, rfl⟩ | ⟨hq, rfl⟩
    · skip
      refine pwx_catch C (name := "java/lang/IndexOutOfBoundsException") (tableOf []) ⟨0, 14, 17, 13⟩ (tableOf [(0, 14, 21, 15)]) rfl (fun z hz => absurd hz List.not_mem_nil) (by decide) (by decide) (List.mem_of_getElem? (i := 671) (by decide +kernel)) (List.mem_of_getElem? (i := 486) (by decide +kernel)) (fun q hq0 => ?_)
      show PW E _ _ _ _ 17 _ _
      refine pw_astore C dL_needs_17 (Nat.le_of_ble_eq_true rfl) rfl ?_
      refine pw_iconst C dL_needs_19 ?_
      exact pw_iret C hR dL_needs_20 ⟨_, rfl, WP.bad (by unfold cd2; rw [if_pos hq]) (by decide) hz hR0⟩ (Nat.le_of_ble_eq_true rfl) (Nat.le_of_ble_eq_true rfl)
    · skip
      refine pwx_catch C (name := "java/lang/IllegalArgumentException") (tableOf [(0, 14, 17, 13)]) ⟨0, 14, 21, 15⟩ (tableOf []) rfl (fun z hz => by rcases List.mem_cons.mp hz with rfl | hz; exact ⟨by decide, "java/lang/IndexOutOfBoundsException", List.mem_of_getElem? (i := 671) (by decide +kernel), by decide +kernel⟩; exact absurd hz List.not_mem_nil) (by decide) (by decide) (List.mem_of_getElem? (i := 672) (by decide +kernel)) (List.mem_of_getElem? (i := 402) (by decide +kernel)) (fun q hq0 => ?_)
      show PW E _ _ _ _ 21 _ _
      refine pw_astore C dL_needs_21 (Nat.le_of_ble_eq_true rfl) rfl ?_
      refine pw_iconst C dL_needs_23 ?_
      exact pw_iret C hR dL_needs_24 ⟨_, rfl, WP.bad (by unfold cd2; rw [if_neg (fun q => q hq.1), if_pos hq.2]) (by decide) hz hR0⟩ (Nat.le_of_ble_eq_true rfl) (Nat.le_of_ble_eq_true rfl)
    · exact hq.elim
theorem mc_L_needs : MSW yL_needs method_25_code 7 (some .int) [(0, 14, 17, 13), (0, 14, 21, 15)] 6 := ⟨List.mem_of_getElem? (i := 866) (by decide +kernel), List.mem_of_getElem? (i := 867) (by decide +kernel), List.mem_of_getElem? (i := 91) (by decide +kernel), ⟨by decide +kernel, by decide +kernel⟩, by decide +kernel⟩

set_option maxHeartbeats 4000000 in
set_option maxRecDepth 100000 in
theorem w_lead {X : Xv} {G M : Mm} {B : Int} {A : An} (hR0 : RC G M B A) (hA : AB A) {out : Int} (ho : G 0 out 0 = 102 ∧ G 1 out 0 = 1) (ho2 : B + 201 < out) {s wd : Int} (r_s : -2147483648 ≤ s ∧ s ≤ 2147483647) (r_wd : -2147483648 ≤ wd ∧ wd ≤ 2147483647) : CW X yL_lead method_26_code 5 (some .int) [(0, 10, 13, 13), (0, 10, 17, 15)] 8 129 1 6 [vR B, vI s, vI wd, vR out] G M (PI (WP B out (cd2 (0 ≤ s ∧ s < A 0 0 0) (0 ≤ wd ∧ wd ≤ 99)) (lea A s wd) A (A) G M)) := by
  refine CW.by (by decide +kernel) [1, 1, 1, 1] ⟨cat_vR _, cat_vI _, cat_vI _, cat_vR _, trivial⟩ (Nat.le_of_ble_eq_true rfl) (fun E hX C hR => ?_)
  refine pw_aload_n C dL_lead_0 rfl ?_
  refine pw_iconst C dL_lead_1 ?_
  refine pw_aload_n C dL_lead_2 rfl ?_
  refine pw_iload_n C dL_lead_3 rfl ?_
  refine pw_iload_n C dL_lead_4 rfl ?_
  by_cases hok : (0 ≤ s ∧ s < A 0 0 0) ∧ (0 ≤ wd ∧ wd ≤ 99)
  · skip
    refine pw_cVE C hX dL_lead_5 ml_L_92 mc_X5_lead (c_lead hR0 hA (s := s) (wd := wd) r_s r_wd hok) kc_8 hR0.k rfl rfl ⟨Nat.le_of_ble_eq_true rfl, Nat.le_of_ble_eq_true rfl⟩ (Nat.le_of_ble_eq_true rfl) ⟨Nat.le_of_ble_eq_true rfl, Nat.le_of_ble_eq_true rfl⟩ ?_
    have hR1 := hR0
    have hO1 : Ot B (B + 201) M M := Ot.rf
    refine pw_i2lW C dL_lead_8 ?_
    refine pw_last C dL_lead_9 ho.1 (by rw [ho.2]; omega) ?_
    refine pw_goto (tgt := 21) C dL_lead_10 (by decide) ?_
    refine pw_iconst C dL_lead_21 ?_
    exact pw_iret C hR dL_lead_22 (⟨_, rfl, WP.ok (by unfold cd2; rw [if_neg (fun q => q hok.1), if_neg (fun q => q hok.2)]) ho2 hR1 hO1 rfl⟩) (Nat.le_of_ble_eq_true rfl) (Nat.le_of_ble_eq_true rfl)
  · skip
    refine pw_xV C hX dL_lead_5 (List.mem_of_getElem? (i := 872) (by decide +kernel)) mc_X5_lead (x_lead hR0 hA (s := s) (wd := wd) r_s r_wd hok) kc_8 hR0.k rfl rfl ⟨Nat.le_of_ble_eq_true rfl, Nat.le_of_ble_eq_true rfl⟩ (Nat.le_of_ble_eq_true rfl) ⟨Nat.le_of_ble_eq_true rfl, Nat.le_of_ble_eq_true rfl⟩ (fun Ec G1 M1 hq => ?_)
    obtain ⟨rfl, ⟨z, hz, rfl⟩, hq⟩ := hq
    rcases hq with ⟨hq, rfl⟩ | ⟨hq, rfl⟩ | ⟨hq, rfl⟩
    · skip
      refine pwx_catch C (name := "java/lang/IndexOutOfBoundsException") (tableOf []) ⟨0, 10, 13, 13⟩ (tableOf [(0, 10, 17, 15)]) rfl (fun z hz => absurd hz List.not_mem_nil) (by decide) (by decide) (List.mem_of_getElem? (i := 671) (by decide +kernel)) (List.mem_of_getElem? (i := 486) (by decide +kernel)) (fun q hq0 => ?_)
      show PW E _ _ _ _ 13 _ _
      refine pw_astore C dL_lead_13 (Nat.le_of_ble_eq_true rfl) rfl ?_
      refine pw_iconst C dL_lead_15 ?_
      exact pw_iret C hR dL_lead_16 ⟨_, rfl, WP.bad (by unfold cd2; rw [if_pos hq]) (by decide) hz hR0⟩ (Nat.le_of_ble_eq_true rfl) (Nat.le_of_ble_eq_true rfl)
    · skip
      refine pwx_catch C (name := "java/lang/IllegalArgumentException") (tableOf [(0, 10, 13, 13)]) ⟨0, 10, 17, 15⟩ (tableOf []) rfl (fun z hz => by rcases List.mem_cons.mp hz with rfl | hz; exact ⟨by decide, "java/lang/IndexOutOfBoundsException", List.mem_of_getElem? (i := 671) (by decide +kernel), by decide +kernel⟩; exact absurd hz List.not_mem_nil) (by decide) (by decide) (List.mem_of_getElem? (i := 672) (by decide +kernel)) (List.mem_of_getElem? (i := 402) (by decide +kernel)) (fun q hq0 => ?_)
      show PW E _ _ _ _ 17 _ _
      refine pw_astore C dL_lead_17 (Nat.le_of_ble_eq_true rfl) rfl ?_
      refine pw_iconst C dL_lead_19 ?_
      exact pw_iret C hR dL_lead_20 ⟨_, rfl, WP.bad (by unfold cd2; rw [if_neg (fun q => q hq.1), if_pos hq.2]) (by decide) hz hR0⟩ (Nat.le_of_ble_eq_true rfl) (Nat.le_of_ble_eq_true rfl)
    · exact hq.elim
theorem mc_L_lead : MSW yL_lead method_26_code 5 (some .int) [(0, 10, 13, 13), (0, 10, 17, 15)] 4 := ⟨List.mem_of_getElem? (i := 870) (by decide +kernel), List.mem_of_getElem? (i := 871) (by decide +kernel), List.mem_of_getElem? (i := 91) (by decide +kernel), ⟨by decide +kernel, by decide +kernel⟩, by decide +kernel⟩

