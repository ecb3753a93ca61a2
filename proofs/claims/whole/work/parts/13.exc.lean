/-! ===== throws: the heap has grown by cells that nobody names ===== -/
def gZ (G : Mm) (z : Int) : Mm := fun b x y => if b = 4 ∧ x = 0 ∧ y = 0 then z else G b x y
theorem gZ_4 {G : Mm} {z : Int} : gZ G z 4 0 0 = z := by simp [gZ]
theorem gZ_n {G : Mm} {z b x y : Int} (h : b ≠ 4) : gZ G z b x y = G b x y := by simp [gZ, h]
theorem agr_Z {G M : Mm} {z a : Int} : agr G M (gZ G z) M a :=
  ⟨gZ_n (by omega), gZ_n (by omega), fun _ => gZ_n (by omega), fun _ => gZ_n (by omega), fun _ => rfl, fun _ => rfl⟩
theorem Kp.z {G M : Mm} {z : Int} (h : G 4 0 0 ≤ z) : Kp G M (gZ G z) M := ⟨fun _ _ => agr_Z, by rw [gZ_4]; exact h⟩
theorem HR.grow {D : va_G} {cA : Nat → ClassId} {B0 : Nat} {G M : Mm} {H H1 : Heap} (h : HR D cA B0 G M H) (hz : H.size ≤ H1.size) (ho : ∀ q : Nat, q < H.size → H1[q]? = H[q]?) : HR D cA B0 (gZ G H1.size) M H1 := by
  have hs := h.2.1
  refine ⟨fun b hb => ?_, gZ_4, by rw [gZ_4]; have := h.2.2; omega⟩
  rw [gZ_n (by omega)] at hb ⊢
  obtain ⟨q1, q2, q3⟩ := h.1 b hb
  have hbn := h.nn hb
  exact ⟨q1, by omega, q3.kept (ho _ (by omega)) agr_Z⟩
abbrev exN : List String := ["java/lang/RuntimeException", "java/lang/Exception"]
/-- what a throw site needs of the tables -/
def TH (own : String) (ik ic : Nat) (cls : String) : Prop := Bundle.fit cls = true ∧ (∀ n ∈ exN, Bundle.fit n = true) ∧ Cond.classLink own ik cls ∈ lw_tbl ∧ Cond.initialized cls ∈ lw_tbl ∧ (∀ w ∈ vx_atS own ic cls exN, w ∈ lw_tbl) ∧ (∀ w ∈ vx_atS own ic cls exN, okw w = true) ∧ (∀ w ∈ Cond.classLink own ik cls :: Cond.initialized cls :: vx_atS own ic cls exN, vx_ot w = true)
set_option maxRecDepth 100000 in
theorem th_X5_X_250 : TH RX5 246 250 "java/lang/IndexOutOfBoundsException" := ⟨by decide +kernel, by decide +kernel, List.mem_of_getElem? (i := 484) (by decide +kernel), List.mem_of_getElem? (i := 106) (by decide +kernel), by decide +kernel, by decide +kernel, by decide +kernel⟩
set_option maxRecDepth 100000 in
theorem th_X5_A_79 : TH RX5 75 79 "java/lang/IllegalArgumentException" := ⟨by decide +kernel, by decide +kernel, List.mem_of_getElem? (i := 400) (by decide +kernel), List.mem_of_getElem? (i := 107) (by decide +kernel), by decide +kernel, by decide +kernel, by decide +kernel⟩
set_option maxRecDepth 100000 in
theorem th_X5_S_63 : TH RX5 59 63 "java/lang/IllegalStateException" := ⟨by decide +kernel, by decide +kernel, List.mem_of_getElem? (i := 683) (by decide +kernel), List.mem_of_getElem? (i := 108) (by decide +kernel), by decide +kernel, by decide +kernel, by decide +kernel⟩
theorem ts_X5_305 : Cond.stringRef RX5 305 "what must be 0 to 10" ∈ lw_tbl := List.mem_of_getElem? (i := 441) (by decide +kernel)
theorem ts_X5_393 : Cond.stringRef RX5 393 "no such story" ∈ lw_tbl := List.mem_of_getElem? (i := 493) (by decide +kernel)
theorem ts_X5_248 : Cond.stringRef RX5 248 "no such fact" ∈ lw_tbl := List.mem_of_getElem? (i := 500) (by decide +kernel)
theorem ts_X5_220 : Cond.stringRef RX5 220 "what must be 0 to 6" ∈ lw_tbl := List.mem_of_getElem? (i := 513) (by decide +kernel)
theorem ts_X5_399 : Cond.stringRef RX5 399 "a value must be 0 to 99" ∈ lw_tbl := List.mem_of_getElem? (i := 521) (by decide +kernel)
theorem ts_X5_401 : Cond.stringRef RX5 401 "a weight must be 1 to 3" ∈ lw_tbl := List.mem_of_getElem? (i := 525) (by decide +kernel)
theorem ts_X5_335 : Cond.stringRef RX5 335 "words must be 0 to 99" ∈ lw_tbl := List.mem_of_getElem? (i := 551) (by decide +kernel)
theorem ts_X5_395 : Cond.stringRef RX5 395 "no such take" ∈ lw_tbl := List.mem_of_getElem? (i := 588) (by decide +kernel)
theorem ts_X5_244 : Cond.stringRef RX5 244 "what must be 0 to 8" ∈ lw_tbl := List.mem_of_getElem? (i := 589) (by decide +kernel)
theorem ts_X5_397 : Cond.stringRef RX5 397 "no such line" ∈ lw_tbl := List.mem_of_getElem? (i := 606) (by decide +kernel)
theorem ts_X5_282 : Cond.stringRef RX5 282 "what must be 0 to 7" ∈ lw_tbl := List.mem_of_getElem? (i := 619) (by decide +kernel)
theorem ts_X5_322 : Cond.stringRef RX5 322 "no such kind or words" ∈ lw_tbl := List.mem_of_getElem? (i := 624) (by decide +kernel)
theorem ts_X5_391 : Cond.stringRef RX5 391 "no such source" ∈ lw_tbl := List.mem_of_getElem? (i := 682) (by decide +kernel)
theorem ts_X5_61 : Cond.stringRef RX5 61 "no room for a source" ∈ lw_tbl := List.mem_of_getElem? (i := 692) (by decide +kernel)
theorem ts_X5_73 : Cond.stringRef RX5 73 "no room for a story" ∈ lw_tbl := List.mem_of_getElem? (i := 710) (by decide +kernel)
theorem ts_X5_77 : Cond.stringRef RX5 77 "no such speed or lag" ∈ lw_tbl := List.mem_of_getElem? (i := 718) (by decide +kernel)
theorem ts_X5_83 : Cond.stringRef RX5 83 "no room for a line" ∈ lw_tbl := List.mem_of_getElem? (i := 719) (by decide +kernel)
theorem ts_X5_118 : Cond.stringRef RX5 118 "the source says nothing of that" ∈ lw_tbl := List.mem_of_getElem? (i := 739) (by decide +kernel)
theorem ts_X5_129 : Cond.stringRef RX5 129 "minutes must be 0 to 99" ∈ lw_tbl := List.mem_of_getElem? (i := 754) (by decide +kernel)
theorem ts_X5_137 : Cond.stringRef RX5 137 "no such kind, facts or hold" ∈ lw_tbl := List.mem_of_getElem? (i := 762) (by decide +kernel)
theorem ts_X5_403 : Cond.stringRef RX5 403 "no room for a take" ∈ lw_tbl := List.mem_of_getElem? (i := 767) (by decide +kernel)
theorem ts_X5_165 : Cond.stringRef RX5 165 "the take has not that fact" ∈ lw_tbl := List.mem_of_getElem? (i := 788) (by decide +kernel)
theorem ts_X5_170 : Cond.stringRef RX5 170 "the take is killed" ∈ lw_tbl := List.mem_of_getElem? (i := 789) (by decide +kernel)
theorem ts_X5_181 : Cond.stringRef RX5 181 "the take is a kill, or killed" ∈ lw_tbl := List.mem_of_getElem? (i := 797) (by decide +kernel)
theorem ts_X5_194 : Cond.stringRef RX5 194 "minutes must be 1 to 99" ∈ lw_tbl := List.mem_of_getElem? (i := 809) (by decide +kernel)
theorem ts_X5_196 : Cond.stringRef RX5 196 "time would run out" ∈ lw_tbl := List.mem_of_getElem? (i := 810) (by decide +kernel)
/-- over the frame at pc an exception of class Ec is thrown -/
def PWX (E : Ev) (G M : Mm) (k n : Nat) (pc : Nat) (ll : List LE) (st : List Value) (Ec : String) : Prop := match E with
  | ((l, D, cA, B0), p, e, R, s, m, args, below, meth, c, Q) => ∀ (H : Heap) (locs : List Loc) (ls : Array Slot) (q : Addr) (ce : Cell), HR D cA B0 G M H → va_S (fun q => B0 ≤ q) s.heap H locs → LV ls c.maxLocals ll → H[q]? = some ce → ce.vm = .none → s.vm.findClass Ec = some ce.cls →
    vx_W p l e R s m args below meth c H locs k n Q (F0 m pc ls st) q
section Rows6
variable {E : Ev} {cc : ByteArray} {nL : Nat} {own : String} {tb : List ExceptionTableEntry} {R0 : Room} {G M : Mm} {k n pc : Nat} {ll : List LE} {st : List Value}
theorem sum_le (l : List Value) : (l.map fun v => v.category).sum ≤ 2 * l.length := by
  induction l with
  | nil => simp
  | cons a l ih =>
    have := lv_cat a
    simp only [List.map_cons, List.sum_cons, List.length_cons]
    omega
theorem pw_thr (C : Cx E cc nL own [] R0) {PX : String → Mm → Mm → Prop} {mc ms : Nat} (hRx : Rx E PX mc ms) {cls text : String} {ik is ic : Nat} (hat : TH own ik ic cls) (hts : Cond.stringRef own is text ∈ lw_tbl)
    (d0 : decode cc pc = .ok (.new ik, 3)) (d3 : decode cc (pc + 3) = .ok (.dup, 1)) (d4 : decode cc (pc + 4) = .ok (.ldc is, 2)) (d6 : decode cc (pc + 6) = .ok (.invokespecial ic, 3)) (d9 : decode cc (pc + 9) = .ok (.athrow, 1))
    (hr1 : 5 < R0.frames ∧ 2 * st.length + 82 ≤ R0.locals) (hr2 : k + 1 ≤ R0.cells ∧ n + 6 ≤ R0.slots) (hr3 : k + 1 ≤ mc ∧ n + 6 ≤ ms) (hx : ∀ z, G 4 0 0 ≤ z → PX cls (gZ G z) M) : PW E G M k n pc ll st := by
  obtain ⟨⟨l, D, cA, B0⟩, p, e, R, s, m, args, below, meth, c, Q⟩ := E
  obtain ⟨hx0, hb, hml, hown, hlocks, htb, hR, hK⟩ := C
  subst hR
  obtain ⟨Qc, rfl⟩ := hRx
  intro H locs ls h1 h2 h3
  obtain ⟨t1, t2, t3, t4, t5, t6, t7⟩ := hat
  obtain ⟨g1, g2, g3, g4, g5, g6, g7, g8⟩ := id hK
  obtain ⟨sa, hsa⟩ := g6 _ _ _ hts
  have hsum := sum_le st
  exact vx_throwS (names := exN) hx0 hb g1 hown t1 t2 (kw hK t3 rfl) (kw hK t4 rfl) hsa (fun w hw => kw hK (t5 w hw) (t6 w hw)) t7 g4 g5 h2 (by rw [h3.1]) d0 d3 d4 d6 d9 (by rw [htb]; exact fun _ h => absurd h List.not_mem_nil)
    (show 2 + 3 < _ from hr1.1) (show _ + (13 * (2 + 1) + 43) ≤ _ by have := hr1.2; omega) hr2.1 hr2.2 hlocks
    (fun t _ z1 z2 => ⟨⟨gZ G t.heap.size, M, hx _ (by rw [h1.2.1]; omega), h1.grow z1 z2⟩, Nat.le_trans h2.1 z1, fun q q1 q2 => (z2 q (Nat.lt_of_lt_of_le q1 h2.1)).trans (h2.2.1 q q1 q2)⟩) h2.2.2 hr3.1 hr3.2
theorem pw_thrW (C : Cx E cc nL own [] R0) {PX : String → Mm → Mm → Prop} {mc ms : Nat} (hRx : Rx E PX mc ms) {cls text : String} {ik is ic : Nat} (hat : TH own ik ic cls) (hts : Cond.stringRef own is text ∈ lw_tbl)
    (d0 : decode cc pc = .ok (.new ik, 3)) (d3 : decode cc (pc + 3) = .ok (.dup, 1)) (d4 : decode cc (pc + 4) = .ok (.ldc_w is, 3)) (d7 : decode cc (pc + 7) = .ok (.invokespecial ic, 3)) (d10 : decode cc (pc + 10) = .ok (.athrow, 1))
    (hr1 : 5 < R0.frames ∧ 2 * st.length + 82 ≤ R0.locals) (hr2 : k + 1 ≤ R0.cells ∧ n + 6 ≤ R0.slots) (hr3 : k + 1 ≤ mc ∧ n + 6 ≤ ms) (hx : ∀ z, G 4 0 0 ≤ z → PX cls (gZ G z) M) : PW E G M k n pc ll st := by
  obtain ⟨⟨l, D, cA, B0⟩, p, e, R, s, m, args, below, meth, c, Q⟩ := E
  obtain ⟨hx0, hb, hml, hown, hlocks, htb, hR, hK⟩ := C
  subst hR
  obtain ⟨Qc, rfl⟩ := hRx
  intro H locs ls h1 h2 h3
  obtain ⟨t1, t2, t3, t4, t5, t6, t7⟩ := hat
  obtain ⟨g1, g2, g3, g4, g5, g6, g7, g8⟩ := id hK
  obtain ⟨sa, hsa⟩ := g6 _ _ _ hts
  have hsum := sum_le st
  exact vx_throwSW (names := exN) hx0 hb g1 hown t1 t2 (kw hK t3 rfl) (kw hK t4 rfl) hsa (fun w hw => kw hK (t5 w hw) (t6 w hw)) t7 g4 g5 h2 (by rw [h3.1]) d0 d3 d4 d7 d10 (by rw [htb]; exact fun _ h => absurd h List.not_mem_nil)
    (show 2 + 3 < _ from hr1.1) (show _ + (13 * (2 + 1) + 43) ≤ _ by have := hr1.2; omega) hr2.1 hr2.2 hlocks
    (fun t _ z1 z2 => ⟨⟨gZ G t.heap.size, M, hx _ (by rw [h1.2.1]; omega), h1.grow z1 z2⟩, Nat.le_trans h2.1 z1, fun q q1 q2 => (z2 q (Nat.lt_of_lt_of_le q1 h2.1)).trans (h2.2.1 q q1 q2)⟩) h2.2.2 hr3.1 hr3.2
theorem pwx_out (C : Cx E cc nL own [] R0) {PX : String → Mm → Mm → Prop} {mc ms : Nat} {Ec : String} (hRx : Rx E PX mc ms) (hx : PX Ec G M) (hk : k ≤ mc) (hn : n ≤ ms) : PWX E G M k n pc ll st Ec := by
  obtain ⟨⟨l, D, cA, B0⟩, p, e, R, s, m, args, below, meth, c, Q⟩ := E
  obtain ⟨hx0, hb, hml, hown, hlocks, htb, hR, hK⟩ := C
  obtain ⟨Qc, rfl⟩ := hRx
  intro H locs ls q ce h1 h2 h3 h4 h5 h6
  exact vx_out (by rw [htb]; exact fun _ h => absurd h List.not_mem_nil) hlocks h4 h5 h6 (fun t ht hal => ⟨⟨G, M, hx, by rw [ht]; exact h1⟩, by rw [ht]; exact h2.1, fun q q1 q2 => by rw [ht]; exact h2.2.1 q q1 q2⟩) h2.2.2 hk hn
theorem xrun_fin {X : Xv} {p : Program} {e : Env} {R : Room} {s : State} {m : MethodId} {args : Array Value} {below : List Frame} {meth : Method} {c : Code} {Q : State → Prop} {Post : Option Value → Mm → Mm → Prop} {PX : String → Mm → Mm → Prop} {mc ms : Nat} {st0 rest : List Value} {av : Array Value} {H : Heap} {locs : List Loc} {ls : Array Slot}
    (hr : vx_Run p X.1 e R s m args below meth c H locs k n mc ms (F0 m pc ls st0) rest (Qn X Post av) (Xn X PX) (frX X)) (h2 : va_S (fun q => X.2.2.2 ≤ q) s.heap H locs) (h3 : LV ls c.maxLocals ll)
    (kx : ∀ Ec G' M', PX Ec G' M' → PWX (X, p, e, R, s, m, args, below, meth, c, Q) G' M' (k + mc) (n + ms) pc ll rest Ec)
    (kk : ∀ r G' M', Post r G' M' → PW (X, p, e, R, s, m, args, below, meth, c, Q) G' M' (k + mc) (n + ms) (pc + 3) ll (r.toList ++ rest)) : W p X.1 e R s m args below meth c H locs k n Q (F0 m pc ls st0) := by
  obtain ⟨l, D, cA, B0⟩ := X
  intro T hT Y
  have keep : ∀ {st₀ t T' : State} {L : List Loc}, st₀.heap = H → T'.heap = t.heap → (∀ q ∈ L, frX (l, D, cA, B0) q.base) → va_F (fun q => B0 ≤ q) st₀ t → va_S (fun q => B0 ≤ q) s.heap T'.heap (locs ++ L) := by
    intro st₀ t T' L h0 e1 hL hF
    obtain ⟨hz, hkp⟩ := hF
    rw [h0] at hz hkp
    exact ⟨Nat.le_trans h2.1 (by rw [e1]; exact hz), fun q q1 q2 => by rw [e1, hkp q (Nat.lt_of_lt_of_le q1 h2.1) q2]; exact h2.2.1 q q1 q2, fun q hq => by
      rcases List.mem_append.mp hq with h | h
      · exact h2.2.2 q h
      · exact hL q h⟩
  rcases hr T hT Y with ⟨v, st₀, t, T', L, h0, X2, hL, e1, e2, ⟨⟨r, G', M', hv, hp, hh⟩, hF⟩, st⟩ | ⟨q, st₀, t, T', L, Ec, ce, h0, X2, hL, e1, e2, ⟨⟨G', M', hp, hh⟩, hF⟩, hce, hcv, hcl, st⟩
  · cases hv
    obtain ⟨t2, a1, b1⟩ := kk v G' M' hp T'.heap (locs ++ L) ls (by rw [e1]; exact hh) (keep h0 e1 hL hF) h3 T' rfl X2
    exact ⟨t2, st t2 a1, b1⟩
  · obtain ⟨t2, a1, b1⟩ := kx Ec G' M' hp T'.heap (locs ++ L) ls q ce (by rw [e1]; exact hh) (keep h0 e1 hL hF) h3 (by rw [e1]; exact hce) hcv hcl T' rfl X2
    exact ⟨t2, st.trans a1, b1⟩
theorem pw_callVX (C : Cx E cc nL own tb R0) {X : Xv} (hX : E.1 = X) {idx : Nat} {y : MethodName} {b : ByteArray} {nL' np fr lo mc ms : Nat} {ret : Option FieldType} {a K : Int} {As st0 : List Value} {Post : Option Value → Mm → Mm → Prop} {PX : String → Mm → Mm → Prop} (d : decode cc pc = .ok (.invokevirtual idx, 3)) (hl : Cond.methodLink own idx y ∈ lw_tbl) (hy : MV y b nL' ret np) (hM : CX X y b nL' ret fr lo mc ms (vR a :: As) G M Post PX) (hcl : KC K y.cls) (hk : G 0 a 0 = K)
    (hst : st0 = As.reverse ++ vR a :: st) (hn : As.length = np) (hroom : fr + 1 ≤ R0.frames ∧ 8 + (nL' + 11) + lo ≤ R0.locals) (hW : st.length ≤ 4) (hf : k + mc ≤ R0.cells ∧ n + ms ≤ R0.slots)
    (kx : ∀ Ec G' M', PX Ec G' M' → PWX E G' M' (k + mc) (n + ms) pc ll st Ec) (kk : ∀ r G' M', Post r G' M' → PW E G' M' (k + mc) (n + ms) (pc + 3) ll (r.toList ++ st)) : PW E G M k n pc ll st0 := by
  obtain ⟨⟨l, D, cA, B0⟩, p, e, R, s, m, args, below, meth, c, Q⟩ := E
  obtain ⟨hx, hb, hml, hown, hlocks, htb, hR, hK⟩ := C
  subst hX; subst hR; subst hst
  intro H locs ls h1 h2 h3
  have hnn : 0 ≤ a := h1.nn (by obtain ⟨ci, T, N, e, -⟩ := hcl; omega)
  have hrc := h1.recv hK hcl hk
  have hpa := Pn.at (av := vR a :: As) hK h1 h2
  rw [vR_pos hnn] at hM hpa ⊢
  obtain ⟨w1, w2, w3, w4, w5, w6⟩ := hy
  have hws : ∀ w ∈ [Cond.code y b nL' ret], ∀ (a' : Array Value) (U : State), s.WarmedH U.vm → w.before a' U = true := fun w hw a' U hW => by
    cases List.mem_singleton.mp hw
    exact okw_warm (A := args) hW rfl (kw hK w3 rfl)
  refine xrun_fin (av := (Value.ref a.toNat :: As).toArray) ?_ h2 h3 kx kk
  exact vx_runV (rest := st) ⟨hx, hb, hml, hown, fun w hw => kw hK (ho := by exact (List.mem_filter.mp hw).2) (List.mem_filter.mp hw).1⟩ (Ts := lw_tbl.filter okw) hM ⟨⟨rfl, rfl, hroom.1, hroom.2, hws, List.mem_singleton.mpr rfl, kw hK w3 rfl, kw hK w4 rfl, w5, np_of w6, kw hK hl rfl⟩, kw hK w1 rfl, kw hK w2 rfl⟩ ⟨Pn.blind, hrc, hpa⟩ rfl hn (h3.1.trans hml) rfl (lv_room (catsum hW)) d hf
theorem pw_callSX (C : Cx E cc nL own tb R0) {X : Xv} (hX : E.1 = X) {idx : Nat} {y : MethodName} {b : ByteArray} {nL' np fr lo mc ms : Nat} {ret : Option FieldType} {As st0 : List Value} {Post : Option Value → Mm → Mm → Prop} {PX : String → Mm → Mm → Prop} (d : decode cc pc = .ok (.invokestatic idx, 3)) (hl : Cond.methodLink own idx y ∈ lw_tbl) (hy : MS y b nL' ret np) (hM : CX X y b nL' ret fr lo mc ms As G M Post PX)
    (hst : st0 = As.reverse ++ st) (hn : As.length = np) (hroom : fr + 1 ≤ R0.frames ∧ 8 + (nL' + 11) + lo ≤ R0.locals) (hW : st.length ≤ 4) (hf : k + mc ≤ R0.cells ∧ n + ms ≤ R0.slots)
    (kx : ∀ Ec G' M', PX Ec G' M' → PWX E G' M' (k + mc) (n + ms) pc ll st Ec) (kk : ∀ r G' M', Post r G' M' → PW E G' M' (k + mc) (n + ms) (pc + 3) ll (r.toList ++ st)) : PW E G M k n pc ll st0 := by
  obtain ⟨⟨l, D, cA, B0⟩, p, e, R, s, m, args, below, meth, c, Q⟩ := E
  obtain ⟨hx, hb, hml, hown, hlocks, htb, hR, hK⟩ := C
  subst hX; subst hR; subst hst
  intro H locs ls h1 h2 h3
  have hpa := Pn.at (av := As) hK h1 h2
  obtain ⟨w1, w3, w4, w5, w6⟩ := hy
  have hws : ∀ w ∈ [Cond.code y b nL' ret], ∀ (a' : Array Value) (U : State), s.WarmedH U.vm → w.before a' U = true := fun w hw a' U hW => by
    cases List.mem_singleton.mp hw
    exact okw_warm (A := args) hW rfl (kw hK w3 rfl)
  refine xrun_fin (av := As.toArray) ?_ h2 h3 kx kk
  exact vx_runS (rest := st) ⟨hx, hb, hml, hown, fun w hw => kw hK (ho := by exact (List.mem_filter.mp hw).2) (List.mem_filter.mp hw).1⟩ (Ts := lw_tbl.filter okw) hM ⟨⟨rfl, rfl, hroom.1, hroom.2, hws, List.mem_singleton.mpr rfl, kw hK w3 rfl, kw hK w4 rfl, w5, np_of w6, kw hK hl rfl⟩, kw hK w1 rfl⟩ ⟨Pn.blind, hpa⟩ rfl hn (h3.1.trans hml) rfl (lv_room (catsum hW)) d hf
/-- caught: the rows ahead of x don't take it -/
theorem pwx_catch (C : Cx E cc nL own tb R0) {Ec name : String} (pre : List ExceptionTableEntry) (x : ExceptionTableEntry) (suf : List ExceptionTableEntry) (hsplit : tb = pre ++ x :: suf)
    (hpass : ∀ z ∈ pre, z.catchType ≠ 0 ∧ ∃ nm : String, Cond.classLink own z.catchType nm ∈ lw_tbl ∧ (Ec, nm) ∈ ncP) (hx : covers x pc = true) (h0 : x.catchType ≠ 0) (hlink : Cond.classLink own x.catchType name ∈ lw_tbl) (hcast : Cond.castable Ec name ∈ lw_tbl)
    (kk : ∀ q : Int, 0 ≤ q → PW E G M k n x.handlerPc ll [vR q]) : PWX E G M k n pc ll st Ec := by
  obtain ⟨⟨l, D, cA, B0⟩, p, e, R, s, m, args, below, meth, c, Q⟩ := E
  obtain ⟨hx0, hb, hml, hown, hlocks, htb, hR, hK⟩ := C
  intro H locs ls q ce h1 h2 h3 h4 h5 h6
  have hq := kk (q : Int) (by omega) H locs ls h1 h2 h3
  rw [vR_pos (by omega)] at hq
  refine vx_catch hown pre x suf (by rw [htb]; exact hsplit) (fun z hz => Or.inr ?_) hx h0 (kw hK hlink rfl) (kw hK hcast rfl) h4 h5 h6 hq
  obtain ⟨z0, nm, z1, z2⟩ := hpass z hz
  exact ⟨z0, nm, kw hK z1 rfl, hK.2.2.2.2.2.2.2.1 _ z2⟩
end Rows6
