/-! ===== rows that only the library's own code needs ===== -/
/-- the cells that stand before: 0, 1 the empty arrays, 2, 3 the class objects -/
def emX (X : Xv) (j : Nat) : Int := ((X.2.1.2 99 j : Nat) : Int)
theorem emX_nn {X : Xv} {j : Nat} : 0 ≤ emX X j := by unfold emX; omega
theorem emX_ref {X : Xv} {j : Nat} : vR (emX X j) = .ref (X.2.1.2 99 j) := by
  rw [vR_pos emX_nn]; unfold emX; rw [Int.toNat_natCast]
section JRows
variable {E : Ev} {cc : ByteArray} {nL : Nat} {own : String} {tb : List ExceptionTableEntry} {R0 : Room} {G M : Mm} {k n pc : Nat} {ll : List LE} {st : List Value}
theorem pw_gets (C : Cx E cc nL own tb R0) {X : Xv} (hX : E.1 = X) {xj : Int} {idx j : Nat} {nm : String} (d : decode cc pc = .ok (.getstatic idx, 3)) (hl : Cond.fieldLink own idx "java/util/ArrayList" nm "[Ljava/lang/Object;" ∈ lw_tbl) (hj : nm = "DEFAULTCAPACITY_EMPTY_ELEMENTDATA" ∧ j = 0 ∨ nm = "EMPTY_ELEMENTDATA" ∧ j = 1) (hxj : emX X j = xj) (kk : PW E G M k n (pc + 3) ll (vR xj :: st)) : PW E G M k n pc ll st := by
  obtain ⟨⟨l, D, cA, B0⟩, p, e, R, s, m, args, below, meth, c, Q⟩ := E
  obtain ⟨hx, hb, hml, hown, hlocks, htb, hR, hK⟩ := C
  subst hxj; subst hX
  intro H locs ls h1 h2 h3
  have hKd : Kd D B0 s := hK.2.2.2.2.2.2.2
  have q := kk H locs ls h1 h2 h3
  rw [emX_ref] at q
  rcases hj with ⟨rfl, rfl⟩ | ⟨rfl, rfl⟩
  · exact va_gets hx hb hKd.2.1 h2 hown (kw hK hl rfl) (fun _ h => h) d q
  · exact va_gets hx hb hKd.2.2.1 h2 hown (kw hK hl rfl) (fun _ h => h) d q
theorem pw_ldcM (C : Cx E cc nL own tb R0) {X : Xv} (hX : E.1 = X) {xj : Int} {idx j : Nat} {nm : String} (d : decode cc pc = .ok (.ldc idx, 2)) (hl : Cond.classLink own idx nm ∈ lw_tbl) (hj : nm = "[Ljava/lang/Object;" ∧ j = 2 ∨ nm = "java/util/ArrayList" ∧ j = 3) (hxj : emX X j = xj) (kk : PW E G M k n (pc + 2) ll (vR xj :: st)) : PW E G M k n pc ll st := by
  obtain ⟨⟨l, D, cA, B0⟩, p, e, R, s, m, args, below, meth, c, Q⟩ := E
  obtain ⟨hx, hb, hml, hown, hlocks, htb, hR, hK⟩ := C
  subst hxj; subst hX
  intro H locs ls h1 h2 h3
  have hKd : Kd D B0 s := hK.2.2.2.2.2.2.2
  have q := kk H locs ls h1 h2 h3
  rw [emX_ref] at q
  rcases hj with ⟨rfl, rfl⟩ | ⟨rfl, rfl⟩
  · exact va_ldcM hx hb hown (kw hK hl rfl) hKd.2.2.2.1 d q
  · exact va_ldcM hx hb hown (kw hK hl rfl) hKd.2.2.2.2.1 d q
/-- the kinds of Object[] -/
theorem HR.ocell {D : va_G} {cA : Nat → ClassId} {B0 : Nat} {H : Heap} (h : HR D cA B0 G M H) {a : Int} (hk : G 0 a 0 = 107 ∨ G 0 a 0 = 98 ∨ G 0 a 0 = 99) : ∃ cl : Cell, H[a.toNat]? = some cl ∧ cl.vm.isStatics = false ∧ cl.cls = cA 7 := by
  rcases hk with hk | hk
  · exact ⟨_, (h.ar (t := 7) (by omega) hk).2.2, rfl, rfl⟩
  · obtain ⟨-, -, -, -, h9⟩ := h.1 a (by omega)
    obtain ⟨cl, g1, g2, -, g4, -⟩ := h9 hk
    exact ⟨cl, g1, g4, g2⟩
theorem pw_getC (C : Cx E cc nL own tb R0) {X : Xv} (hX : E.1 = X) {xj : Int} {idx : Nat} {a : Int} (d : decode cc pc = .ok (.invokevirtual idx, 3)) (hl : Cond.methodLink own idx nCls ∈ lw_tbl) (hk : G 0 a 0 = 107 ∨ G 0 a 0 = 98 ∨ G 0 a 0 = 99) (hroom : 1 ≤ R0.frames ∧ 2 * st.length + 14 ≤ R0.locals) (hxj : emX X 2 = xj) (kk : PW E G M k n (pc + 3) ll (vR xj :: st)) : PW E G M k n pc ll (vR a :: st) := by
  obtain ⟨⟨l, D, cA, B0⟩, p, e, R, s, m, args, below, meth, c, Q⟩ := E
  obtain ⟨hx, hb, hml, hown, hlocks, htb, hR, hK⟩ := C
  subst hxj; subst hX; subst hR
  intro H locs ls h1 h2 h3
  have hKd : Kd D B0 s := hK.2.2.2.2.2.2.2
  have q := kk H locs ls h1 h2 h3
  have hnn : 0 ≤ a := h1.nn (by omega)
  rw [emX_ref] at q
  rw [vR_pos hnn]
  obtain ⟨cl, hc, hc2, hc3⟩ := h1.ocell hk
  obtain ⟨-, kA', comp', r1, r2, r3, r4⟩ := hK.2.1.2 7 _ rfl
  have hsum := sum_le st
  exact va_getC hx hb h3.1.symm hown (kw hK hl rfl) (va_Dc.use hKd.2.2.2.2.2.1) (kw hK (List.mem_of_getElem? (i := 1521) (by decide +kernel)) rfl) (kw hK (List.mem_of_getElem? (i := 1014) (by decide +kernel)) rfl) (kw hK (List.mem_of_getElem? (i := 1032) (by decide +kernel)) rfl) hKd.2.2.2.1 ⟨cl, hc, hc2, by rw [hc3]; exact r4⟩ hroom.1 (by have := hroom.2; omega) d q
end JRows
theorem sel_face {a : Array Value} {s : State} {C n d : String} (hf : (Cond.interfaceMethod "java/util/Collection" "java/lang/Object" n d).before a s = true) (hs : (Cond.selects C ⟨"java/lang/Object", n, d⟩ ⟨"java/lang/Object", n, d⟩).before a s = true) (hm : (Cond.sameMethod "java/lang/Object" "java/lang/Object" n d).before a s = true) : (Cond.selects C ⟨"java/util/Collection", n, d⟩ ⟨"java/lang/Object", n, d⟩).before a s = true := by
  obtain ⟨c, k, m, h1, h2, h3, h4, h5⟩ := Cond.interfaceMethod_spec hf
  obtain ⟨c2, r, m2, q1, q2, q3, q4, mk, q5, q6⟩ := Cond.selects_spec hs
  cases h5.symm.trans q3
  have hr : r = m := by
    have := (Cond.sameMethod_spec (findClass_of_methodNamed q3) q2 hm).1
    exact Option.some.inj (this.symm.trans q3)
  subst hr
  simp only [Cond.before, Cond.holds, Cond.value, q1, h4, q3, q4]
  simp [q5, q6]
section JRows2
variable {E : Ev} {cc : ByteArray} {nL : Nat} {own : String} {tb : List ExceptionTableEntry} {R0 : Room} {G M : Mm} {k n pc : Nat} {ll : List LE} {st : List Value}
theorem pw_getCI (C : Cx E cc nL own tb R0) {X : Xv} (hX : E.1 = X) {xj : Int} {idx cnt : Nat} {a : Int} (d : decode cc pc = .ok (.invokeinterface idx cnt, 5)) (hl : Cond.methodLink own idx ⟨"java/util/Collection", "getClass", "()Ljava/lang/Class;"⟩ ∈ lw_tbl) (hk : G 0 a 0 = 2) (hroom : 1 ≤ R0.frames ∧ 2 * st.length + 14 ≤ R0.locals) (hxj : emX X 3 = xj) (kk : PW E G M k n (pc + 5) ll (vR xj :: st)) : PW E G M k n pc ll (vR a :: st) := by
  obtain ⟨⟨l, D, cA, B0⟩, p, e, R, s, m, args, below, meth, c, Q⟩ := E
  obtain ⟨hx, hb, hml, hown, hlocks, htb, hR, hK⟩ := C
  subst hxj; subst hX; subst hR
  intro H locs ls h1 h2 h3
  obtain ⟨-, -, -, k4, k5, k6, k7, k8, k9, k10⟩ := hK.2.2.2.2.2.2.2
  have q := kk H locs ls h1 h2 h3
  have hnn : 0 ≤ a := h1.nn (by omega)
  rw [emX_ref] at q
  rw [vR_pos hnn]
  obtain ⟨cell, g1, g2, g3⟩ := h1.recv hK kc_2 hk
  obtain ⟨c0, k0, m1, m2, m3⟩ := k5
  have hsum := sum_le st
  have hface := va_any (A' := args) rfl k8
  intro T hT Y
  obtain ⟨vm', Y', step⟩ := Y.getClassOfI hx (C := "java/util/ArrayList") (xi := ⟨"java/util/Collection", "getClass", "()Ljava/lang/Class;"⟩) hown (kw hK hl rfl) (va_Dc.use k6) hface
    (sel_face hface (kw hK (List.mem_of_getElem? (i := 1030) (by decide +kernel)) rfl) (kw hK (List.mem_of_getElem? (i := 1015) (by decide +kernel)) rfl)) (kw hK (List.mem_of_getElem? (i := 1014) (by decide +kernel)) rfl)
    (va_any rfl k9) (va_any rfl k10) (kw hK (List.mem_of_getElem? (i := 1454) (by decide +kernel)) rfl) (kw hK (List.mem_of_getElem? (i := 1032) (by decide +kernel)) rfl) ⟨by decide, by decide⟩ (by decide) rfl rfl m1 m2
    ⟨cell, by rw [hT]; exact g1, Option.some.inj (g3.symm.trans m1), g2⟩ m3 (g := F0 m pc ls (.ref a.toNat :: st)) rfl (by rw [h3.1]) rfl (by rw [hb]; exact d) hroom.1 (by show 2 * 0 + _ + _ ≤ _; have hw : nativeFrameWords "java/lang/Object" "getClass" 1 = 3 := (by decide); have := hroom.2; omega)
  obtain ⟨t, a1, b1⟩ := q (T.setVm vm') hT Y'
  exact ⟨t, step t a1, b1⟩
theorem run_fin5 {X : Xv} {p : Program} {e : Env} {R : Room} {s : State} {m : MethodId} {args : Array Value} {below : List Frame} {meth : Method} {c : Code} {Q : State → Prop} {Post : Option Value → Mm → Mm → Prop} {mc ms : Nat} {st0 rest : List Value} {av : Array Value} {H : Heap} {locs : List Loc} {ls : Array Slot}
    (hr : va_Run5 p X.1 e R s m args below meth c H locs k n mc ms (F0 m pc ls st0) rest (Qn X Post av) (frX X)) (h2 : va_S (fun q => X.2.2.2 ≤ q) s.heap H locs) (h3 : LV ls c.maxLocals ll)
    (kk : ∀ r G' M', Post r G' M' → PW (X, p, e, R, s, m, args, below, meth, c, Q) G' M' (k + mc) (n + ms) (pc + 5) ll (r.toList ++ rest)) : W p X.1 e R s m args below meth c H locs k n Q (F0 m pc ls st0) := by
  obtain ⟨l, D, cA, B0⟩ := X
  intro T hT Y
  obtain ⟨v, st₀, t, T', L, h0, X2, hL, e1, e2, ⟨⟨r, G', M', hv, hp, hh⟩, hz, hkp⟩, st⟩ := hr T hT Y
  cases hv
  rw [h0] at hz hkp
  obtain ⟨t2, a1, b1⟩ := kk v G' M' hp T'.heap (locs ++ L) ls (by rw [e1]; exact hh) ⟨Nat.le_trans h2.1 (by rw [e1]; exact hz), fun q q1 q2 => by rw [e1, hkp q (Nat.lt_of_lt_of_le q1 h2.1) q2]; exact h2.2.1 q q1 q2, fun q hq => by
      rcases List.mem_append.mp hq with h | h
      · exact h2.2.2 q h
      · exact hL q h⟩ h3 T' rfl X2
  exact ⟨t2, st t2 a1, b1⟩
def MF (Cn : String) (x y : MethodName) (b : ByteArray) (nL : Nat) (ret : Option FieldType) (np : Nat) : Prop := (Cn, x, y) ∈ fwL ∧ Cond.selects Cn x y ∈ lw_tbl ∧ Cond.instanceMethod y ∈ lw_tbl ∧ Cond.code y b nL ret ∈ lw_tbl ∧ Cond.initialized y.cls ∈ lw_tbl ∧ MH_ x.cls ∧ (parseMethodDescriptor x.desc).map (fun d => d.parameters.length) = some np
theorem pw_callF (C : Cx E cc nL own tb R0) {X : Xv} (hX : E.1 = X) {idx cnt : Nat} {x y : MethodName} {Cn : String} {b : ByteArray} {nL' np fr lo mc ms : Nat} {ret : Option FieldType} {a K : Int} {As st0 : List Value} {Post : Option Value → Mm → Mm → Prop} (d : decode cc pc = .ok (.invokeinterface idx cnt, 5)) (hl : Cond.methodLink own idx x ∈ lw_tbl) (hy : MF Cn x y b nL' ret np) (hM : CT X y b nL' ret fr lo mc ms (vR a :: As) G M Post) (hcl : KC K Cn) (hk : G 0 a 0 = K)
    (hst : st0 = As.reverse ++ vR a :: st) (hn : As.length = np) (hroom : fr + 1 ≤ R0.frames ∧ 8 + (nL' + 11) + lo ≤ R0.locals) (hW : st.length ≤ 4) (hf : k + mc ≤ R0.cells ∧ n + ms ≤ R0.slots)
    (kk : ∀ r G' M', Post r G' M' → PW E G' M' (k + mc) (n + ms) (pc + 5) ll (r.toList ++ st)) : PW E G M k n pc ll st0 := by
  obtain ⟨⟨l, D, cA, B0⟩, p, e, R, s, m, args, below, meth, c, Q⟩ := E
  obtain ⟨hx, hb, hml, hown, hlocks, htb, hR, hK⟩ := C
  subst hX; subst hR; subst hst
  intro H locs ls h1 h2 h3
  have hnn : 0 ≤ a := h1.nn (by obtain ⟨ci, T, N, e, -⟩ := hcl; omega)
  have hrc := h1.recv hK hcl hk
  have hpa := Pn.at (av := vR a :: As) hK h1 h2
  rw [vR_pos hnn] at hM hpa ⊢
  obtain ⟨w0, w1, w2, w3, w4, w5, w6⟩ := hy
  obtain ⟨f1, f2, f3, f4, f5⟩ := hK.2.2.2.2.2.2.2.2.2.2.2.2.2.1 _ w0
  have hat : ∃ cC, ClassAt s Cn cC := by
    obtain ⟨ci, T, N, -, hv⟩ := hcl
    exact ⟨_, (hK.2.1.1 ci _ hv).2⟩
  obtain ⟨cC, hat⟩ := hat
  have hws : ∀ w ∈ [Cond.code y b nL' ret], ∀ (a' : Array Value) (U : State), s.WarmedH U.vm → w.before a' U = true := fun w hw a' U hW => by
    cases List.mem_singleton.mp hw
    exact okw_warm (A := args) hW rfl (kw hK w3 rfl)
  refine run_fin5 (av := (Value.ref a.toNat :: As).toArray) ?_ h2 h3 kk
  exact va_runF (rest := st) hat ⟨hx, hb, hml, hown, fun w hw => kw hK (ho := by exact (List.mem_filter.mp hw).2) (List.mem_filter.mp hw).1⟩ (Ts := lw_tbl.filter okw) hM ⟨⟨rfl, rfl, hroom.1, hroom.2, hws, List.mem_singleton.mpr rfl⟩, kw hK hl rfl, va_any rfl f1, va_any rfl f2, kw hK w1 rfl, kw hK w2 rfl, va_any rfl f3, va_any rfl f4, va_any rfl f5, kw hK w4 rfl, kw hK w3 rfl, w5, np_of w6⟩ ⟨Pn.blind, hrc, hpa⟩ rfl hn (h3.1.trans hml) rfl (lv_room (catsum hW)) d hf
end JRows2
/-- what may lie in an Object[] -/
def OkO (G : Mm) (v : Int) : Prop := v < G 4 0 0 ∧ ((∃ Cv, KC (G 0 v 0) Cv ∧ Cond.castable Cv "java/lang/Object" ∈ lw_tbl) ∨ G 0 v 0 = 106)
def cpG (G : Mm) (a0 a n : Int) : Mm := fun b x y => if b = 3 ∧ x = a ∧ 0 ≤ y ∧ y < n then G 3 a0 y else G b x y
theorem cpG_in {G : Mm} {a0 a n y : Int} (h : 0 ≤ y ∧ y < n) : cpG G a0 a n 3 a y = G 3 a0 y := by simp [cpG, h]
theorem cpG_out {G : Mm} {a0 a n b x y : Int} (h : ¬ (b = 3 ∧ x = a ∧ 0 ≤ y ∧ y < n)) : cpG G a0 a n b x y = G b x y := by
  unfold cpG
  rw [if_neg h]
theorem agr_cpG {G M : Mm} {a0 a n : Int} : ∀ a', a' ≠ a → agr G M (cpG G a0 a n) M a' := fun a' h =>
  ⟨cpG_out (by omega), cpG_out (by omega), fun _ => cpG_out (by omega), fun _ => cpG_out (by omega), fun _ => rfl, fun _ => rfl⟩
