/-! ===== what every state of the walk knows ===== -/
/-- own class, pool index, text: the String constants of the class -/
abbrev strL : List (String × Nat × String) := []
abbrev aoL : List String := ["Slugwire$Fact", "Slugwire$Take", "Slugwire$Line"]
/-- int[][] can be made; the script: its cell at D.2 99 0, its length at D.2 99 1 -/
def Kd (D : va_G) (B0 : Nat) (U : State) : Prop := (Cond.arrayOver (.array .int)).before #[] U = true ∧ (∃ xs : Nat → Int32, va_X (D.2 99 0) (D.2 99 1) xs U U.heap) ∧ D.2 99 0 < B0 ∧ D.2 99 1 ≤ 260
theorem Kd.moved {D : va_G} {B0 : Nat} {s U : State} {H : Heap} (h : Kd D B0 s) (hH : U.heap = H) (hS : ∀ q : Nat, q < s.heap.size → ¬ B0 ≤ q → H[q]? = s.heap[q]?) (hW : s.WarmedH U.vm) : Kd D B0 U := by
  obtain ⟨h1, ⟨xs, h2⟩, h3, h4⟩ := h
  refine ⟨Jvm.Stand.arrayOver_alikeB hW.alike h1, ⟨xs, ?_⟩, h3, h4⟩
  have hlt : D.2 99 0 < s.heap.size := by
    obtain ⟨scr, q1, -⟩ := h2
    exact (Array.getElem?_eq_some_iff.mp q1).1
  rw [hH]
  exact (h2.kept (hS _ hlt (Nat.not_le.mpr h3))).moved hW.alike
/-- the launch, the classes' numbers and slots, the array classes, the first cell of ours -/
abbrev Xv : Type := Launch × va_G × (Nat → ClassId) × Nat
def Ks (X : Xv) (U : State) : Prop := match X with
  | (l, D, cA, B0) => l.stackTraces = false ∧ va_K D vwCl (tysL cA) U ∧ (∀ w ∈ lw_tbl, okw w = true → w.before #[] U = true) ∧
    vx_Zq Bundle.tN "UNASSIGNED_STACK" Bundle.steD (fun q => B0 ≤ q) U U.heap ∧ vx_Zq Bundle.tN "SUPPRESSED_SENTINEL" Bundle.listD (fun q => B0 ≤ q) U U.heap ∧
    (∀ own k tx, Cond.stringRef own k tx ∈ lw_tbl → ∃ sa, vk_R own k tx sa U) ∧ (∀ C ∈ aoL, va_AO C U) ∧ Kd D B0 U
theorem Ks.moved {X : Xv} {s U : State} {H : Heap} (h : Ks X s) (hH : U.heap = H) (hS : ∀ q : Nat, q < s.heap.size → ¬ X.2.2.2 ≤ q → H[q]? = s.heap[q]?) (hW : s.WarmedH U.vm) : Ks X U := by
  obtain ⟨l, D, cA, B0⟩ := X
  obtain ⟨h1, h2, h3, h4, h5, h6, h7, h8⟩ := h
  refine ⟨h1, h2.moved hW.alike, fun w hw ho => okw_warm hW ho (h3 w hw ho), ?_, ?_, fun own k tx hm => ?_, fun C hC => (h7 C hC).moved hW.alike, h8.moved hH hS hW⟩
  · rw [hH]; exact (h4.kept hS).moved hW.alike
  · rw [hH]; exact (h5.kept hS).moved hW.alike
  · obtain ⟨sa, hs⟩ := h6 own k tx hm
    exact ⟨sa, hs.warm hW⟩
theorem Ks.blind {X : Xv} {U : State} (h : Ks X U) (g : JFrame) (mk : MethodId) (a : Array Value) : Ks X (U.calling g mk a) :=
  h.moved (H := U.heap) rfl (fun _ _ _ => rfl) (State.WarmedH.refl U)
/-! ===== contracts ===== -/
def Qn (X : Xv) (Post : Option Value → Mm → Mm → Prop) : Array Value → State → Outcome → State → Prop := fun _ st o t =>
  (∃ (r : Option Value) (G' M' : Mm), o = .returned r ∧ Post r G' M' ∧ HR X.2.1 X.2.2.1 X.2.2.2 G' M' t.heap) ∧ va_F (fun q => X.2.2.2 ≤ q) st t
def Xn (X : Xv) (PX : String → Mm → Mm → Prop) : String → State → State → Prop := fun E st t =>
  (∃ G' M' : Mm, PX E G' M' ∧ HR X.2.1 X.2.2.1 X.2.2.2 G' M' t.heap) ∧ va_F (fun q => X.2.2.2 ≤ q) st t
def Pn (X : Xv) (av : List Value) (G M : Mm) : Array Value → State → Prop := fun v U => v = av.toArray ∧ Ks X U ∧ HR X.2.1 X.2.2.1 X.2.2.2 G M U.heap
def frX (X : Xv) : Addr → Prop := fun q => X.2.2.2 ≤ q
/-- method y (its code, locals, type) returns: frames, locals, cells, slots that it takes at most; its arguments; the memory before; what holds behind -/
def CT (X : Xv) (y : MethodName) (b : ByteArray) (nL : Nat) (ret : Option FieldType) (fr lo mc ms : Nat) (av : List Value) (G M : Mm) (Post : Option Value → Mm → Mm → Prop) : Prop :=
  Met X.1 y [.code y b nL ret] { frames := fr, cells := mc, slots := ms, locals := lo } (Pn X av G M) (Qn X Post) mc ms (frX X)
/-- as CT; it may also throw: PX says what class then, and the memory -/
def CX (X : Xv) (y : MethodName) (b : ByteArray) (nL : Nat) (ret : Option FieldType) (fr lo mc ms : Nat) (av : List Value) (G M : Mm) (Post : Option Value → Mm → Mm → Prop) (PX : String → Mm → Mm → Prop) : Prop :=
  vx_Met X.1 y [.code y b nL ret] { frames := fr, cells := mc, slots := ms, locals := lo } (Pn X av G M) (Qn X Post) (Xn X PX) mc ms (frX X)
theorem Pn.blind {X : Xv} {av : List Value} {G M : Mm} : FrameBlind (Pn X av G M) := fun a U g mk h => ⟨h.1, h.2.1.blind g mk a, h.2.2⟩
/-! ===== the walk ===== -/
abbrev Ev : Type := Xv × Program × Env × Room × State × MethodId × Array Value × List Frame × Method × Code × (State → Prop)
abbrev LE : Type := Nat × Nat × Value
def LV (ls : Array Slot) (nL : Nat) (ll : List LE) : Prop := ls.size = nL ∧ lv_wf ls ∧ ∀ q ∈ ll, ls[q.1]? = some (.val q.2.2) ∧ q.2.2.category = q.2.1
def lk (i : Nat) : List LE → Option Value
  | [] => none
  | q :: r => match Nat.beq q.1 i with
    | true => some q.2.2
    | false => lk i r
theorem lk_in {i : Nat} {v : Value} : ∀ {ll : List LE}, lk i ll = some v → ∃ c, (i, c, v) ∈ ll
  | [], h => by cases h
  | q :: r, h => by
    unfold lk at h
    cases hb : Nat.beq q.1 i with
    | true =>
      rw [hb] at h
      obtain ⟨a, b, c⟩ := q
      have e1 : a = i := Nat.eq_of_beq_eq_true hb
      have e2 : c = v := Option.some.inj h
      subst e1 e2
      exact ⟨b, List.mem_cons_self⟩
    | false =>
      rw [hb] at h
      obtain ⟨c, hc⟩ := lk_in h
      exact ⟨c, List.mem_cons_of_mem _ hc⟩
theorem LV.at {ls : Array Slot} {nL : Nat} {ll : List LE} (h : LV ls nL ll) {i : Nat} {v : Value} (hk : lk i ll = some v) : ls[i]? = some (.val v) := by
  obtain ⟨c, hc⟩ := lk_in hk
  exact (h.2.2 _ hc).1
/-- storing a value of one slot, or of two -/
def st1 (i : Nat) (v : Value) (ll : List LE) : List LE := (i, 1, v) :: ll.filter (fun q => !(q.1 == i) && !(q.1 + 1 == i && q.2.1 == 2))
def st2 (i : Nat) (v : Value) (ll : List LE) : List LE := (i, 2, v) :: ll.filter (fun q => !(q.1 == i) && (!(q.1 == i + 1) && !(q.1 + 1 == i && q.2.1 == 2)))
theorem LV.has {ls : Array Slot} {nL : Nat} {ll : List LE} (h : LV ls nL ll) : lv_has ls nL (ll.map fun q => (q.1, q.2.2)) := by
  refine ⟨h.1, h.2.1, fun q hq => ?_⟩
  obtain ⟨x, hx, rfl⟩ := List.mem_map.mp hq
  exact (h.2.2 x hx).1
theorem LV.st1 {ls : Array Slot} {nL : Nat} {ll : List LE} (h : LV ls nL ll) {i : Nat} {v : Value} (hi : i < nL) (hc : v.category = 1) : ∃ ls', storeLocals ls i v = some ls' ∧ LV ls' nL (st1 i v ll) := by
  obtain ⟨ls', e, h'⟩ := lv_store1 h.has hi hc
  refine ⟨ls', e, h'.1, h'.2.1, fun q hq => ?_⟩
  rcases List.mem_cons.mp hq with rfl | hq
  · exact ⟨h'.2.2 (i, v) List.mem_cons_self, hc⟩
  · obtain ⟨h1, h2⟩ := List.mem_filter.mp hq
    refine ⟨h'.2.2 (q.1, q.2.2) (List.mem_cons_of_mem _ (List.mem_filter.mpr ⟨List.mem_map.mpr ⟨q, h1, rfl⟩, ?_⟩)), (h.2.2 q h1).2⟩
    rw [(h.2.2 q h1).2]
    exact h2
theorem LV.st2 {ls : Array Slot} {nL : Nat} {ll : List LE} (h : LV ls nL ll) {i : Nat} {v : Value} (hi : i + 1 < nL) (hc : v.category = 2) : ∃ ls', storeLocals ls i v = some ls' ∧ LV ls' nL (st2 i v ll) := by
  obtain ⟨ls', e, h'⟩ := lv_store2 h.has hi hc
  refine ⟨ls', e, h'.1, h'.2.1, fun q hq => ?_⟩
  rcases List.mem_cons.mp hq with rfl | hq
  · exact ⟨h'.2.2 (i, v) List.mem_cons_self, hc⟩
  · obtain ⟨h1, h2⟩ := List.mem_filter.mp hq
    refine ⟨h'.2.2 (q.1, q.2.2) (List.mem_cons_of_mem _ (List.mem_filter.mpr ⟨List.mem_map.mpr ⟨q, h1, rfl⟩, ?_⟩)), (h.2.2 q h1).2⟩
    rw [(h.2.2 q h1).2]
    exact h2
/-- the locals of ll' are among those of ll -/
def subL : List LE → List LE → Prop
  | [], _ => True
  | q :: r, ll => lk q.1 ll = some q.2.2 ∧ q.2.2.category = q.2.1 ∧ subL r ll
theorem LV.sub {ls : Array Slot} {nL : Nat} {ll : List LE} (h : LV ls nL ll) : ∀ {ll' : List LE}, subL ll' ll → LV ls nL ll'
  | [], _ => ⟨h.1, h.2.1, fun q hq => by cases hq⟩
  | q :: r, hs => by
    obtain ⟨h1, h2, h3⟩ := hs
    refine ⟨h.1, h.2.1, fun x hx => ?_⟩
    rcases List.mem_cons.mp hx with rfl | hx
    · exact ⟨h.at h1, h2⟩
    · exact (h.sub h3).2.2 x hx
/-- the entry's locals, by the arguments' sizes -/
def agc : Nat → List Nat → List Value → List LE
  | _, _, [] => []
  | _, [], _ :: _ => []
  | i, c :: cs, v :: vs => (i, c, v) :: agc (i + c) cs vs
def catsOk : List Nat → List Value → Prop
  | _, [] => True
  | [], _ :: _ => False
  | c :: cs, v :: vs => v.category = c ∧ catsOk cs vs
theorem agc_args : ∀ (cs : List Nat) (vs : List Value) (i : Nat), catsOk cs vs → ∀ q ∈ agc i cs vs, (q.1, q.2.2) ∈ lv_args i vs ∧ q.2.2.category = q.2.1
  | _, [], _, _ => fun q hq => by simp [agc] at hq
  | [], v :: vs, i, h => by cases h
  | c :: cs, v :: vs, i, h => by
    obtain ⟨h1, h2⟩ := h
    intro q hq
    simp only [agc] at hq
    have hc := lv_cat v
    rcases List.mem_cons.mp hq with rfl | hq
    · refine ⟨?_, h1⟩
      simp only [lv_args]
      by_cases h : v.category = 2
      · simp [h]
      · simp [h]
    · obtain ⟨q1, q2⟩ := agc_args cs vs (i + c) h2 q hq
      refine ⟨?_, q2⟩
      subst h1
      simp only [lv_args]
      rcases hc with hc | hc
      · rw [hc] at q1
        simp only [hc]
        exact List.mem_cons_of_mem _ q1
      · rw [hc] at q1
        simp only [hc]
        exact List.mem_cons_of_mem _ q1
/-- at pc, with the memory G, M, cells k and slots n used, locals ll, stack st: the method comes to its end as E's last part says -/
def PW (E : Ev) (G M : Mm) (k n : Nat) (pc : Nat) (ll : List LE) (st : List Value) : Prop := match E with
  | ((l, D, cA, B0), p, e, R, s, m, args, below, meth, c, Q) => ∀ (H : Heap) (locs : List Loc) (ls : Array Slot), HR D cA B0 G M H → va_S (fun q => B0 ≤ q) s.heap H locs → LV ls c.maxLocals ll →
    W p l e R s m args below meth c H locs k n Q (F0 m pc ls st)
/-- what stands fast in a method: its bytes cc, its class, its table of handlers, its room -/
def Cx (E : Ev) (cc : ByteArray) (nL : Nat) (own : String) (tb : List ExceptionTableEntry) (R0 : Room) : Prop := match E with
  | (X, p, _, R, s, m, _, _, meth, c, _) => p.tables.exec = Jvm.exec ∧ c.code = cc ∧ c.maxLocals = nL ∧ s.vm.findClass own = some m.cls ∧ meth.locks = false ∧ c.exceptionTable.toList = tb ∧ R = R0 ∧ Ks X s
/-- what its end asks -/
def Rt (E : Ev) (Post : Option Value → Mm → Mm → Prop) (ret : Option FieldType) (mc ms : Nat) : Prop := match E with
  | ((l, D, cA, B0), p, e, R, s, m, args, below, meth, c, Q) => meth.sig.returnType = ret ∧ ∀ (H : Heap) (locs : List Loc) (g : JFrame), W p l e R s m args below meth c H locs mc ms (MQ below (Qn (l, D, cA, B0) Post) args s mc ms (frX (l, D, cA, B0))) g → W p l e R s m args below meth c H locs mc ms Q g
/-- what it asks where it throws -/
def Rx (E : Ev) (PX : String → Mm → Mm → Prop) (mc ms : Nat) : Prop := match E with
  | ((l, D, cA, B0), _, _, _, s, _, args, below, _, _, Q) => ∃ Qc, Q = vx_MQ below Qc (Xn (l, D, cA, B0) PX) args s mc ms (frX (l, D, cA, B0))
/-- a constructor's own name -/
def Ini (E : Ev) : Prop := E.2.2.2.2.2.2.2.2.1.name = "<init>"
theorem CT.mk {X : Xv} {y : MethodName} {b : ByteArray} {nL : Nat} {ret : Option FieldType} {fr lo mc ms : Nat} {av : List Value} {G M : Mm} {Post : Option Value → Mm → Mm → Prop} (hy : plainName y.cls = true) (cs : List Nat) (hcs : catsOk cs av) (hn : (lg_sl av).length ≤ nL)
    (body : ∀ E : Ev, E.1 = X → Cx E b nL y.cls [] { frames := fr, cells := mc, slots := ms, locals := lo } → Rt E Post ret mc ms → (y.name = "<init>" → Ini E) → PW E G M 0 0 0 (agc 0 cs av) []) : CT X y b nL ret fr lo mc ms av G M Post := by
  obtain ⟨l, D, cA, B0⟩ := X
  refine Met.ofW (cc := b) (maxL := nL) (ret := ret) hy rfl ?_
  intro p e s m args below meth c s₁ B hml hv
  obtain ⟨rfl, hK, hH⟩ := hv
  have ht : c.exceptionTable.toList = [] := by
    obtain ⟨meth9, c9, h1, h2, -, -, -, -, h7, -⟩ := Cond.code_spec B.named (atoms_spec (ws := [Cond.code y b nL ret]) B.pre _ List.mem_cons_self)
    cases Option.some.inj (h1.symm.trans B.method)
    cases Option.some.inj (h2.symm.trans (Stand.of_body B).code)
    rw [Array.isEmpty_iff.mp h7]
  have h := body ((l, D, cA, B0), p, e, { frames := fr, cells := mc, slots := ms, locals := lo }, s, m, av.toArray, below, meth, c, MQ below (Qn (l, D, cA, B0) Post) av.toArray s mc ms (frX (l, D, cA, B0))) rfl
    ⟨B.exec, B.bytes, hml, findClass_of_methodNamed B.named, B.notSynchronized, ht, rfl, hK⟩ ⟨B.returns, fun _ _ _ h => h⟩ (fun hn => (name_of_methodNamed B.named B.method).1.trans hn)
  have hl := lv_entry av (n := nL) hn
  rw [lg_entry_eq]
  refine h s.heap [] _ hH va_S.rf ?_
  rw [hml]
  exact ⟨hl.1, hl.2.1, fun q hq => ⟨hl.2.2 (q.1, q.2.2) (agc_args cs av 0 hcs q hq).1, (agc_args cs av 0 hcs q hq).2⟩⟩
theorem CX.mk {X : Xv} {y : MethodName} {b : ByteArray} {nL : Nat} {ret : Option FieldType} {fr lo mc ms : Nat} {av : List Value} {G M : Mm} {Post : Option Value → Mm → Mm → Prop} {PX : String → Mm → Mm → Prop} (hy : plainName y.cls = true) (cs : List Nat) (hcs : catsOk cs av) (hn : (lg_sl av).length ≤ nL)
    (body : ∀ E : Ev, E.1 = X → Cx E b nL y.cls [] { frames := fr, cells := mc, slots := ms, locals := lo } → Rt E Post ret mc ms → Rx E PX mc ms → PW E G M 0 0 0 (agc 0 cs av) []) : CX X y b nL ret fr lo mc ms av G M Post PX := by
  obtain ⟨l, D, cA, B0⟩ := X
  refine vx_ofW (cc := b) (maxL := nL) (ret := ret) hy rfl ?_
  intro p e s m args below meth c s₁ B hml ht hv
  obtain ⟨rfl, hK, hH⟩ := hv
  have ht : c.exceptionTable.toList = [] := List.eq_nil_iff_forall_not_mem.mpr ht
  have h := body ((l, D, cA, B0), p, e, { frames := fr, cells := mc, slots := ms, locals := lo }, s, m, av.toArray, below, meth, c, vx_MQ below (Qn (l, D, cA, B0) Post) (Xn (l, D, cA, B0) PX) av.toArray s mc ms (frX (l, D, cA, B0))) rfl
    ⟨B.exec, B.bytes, hml, findClass_of_methodNamed B.named, B.notSynchronized, ht, rfl, hK⟩ ⟨B.returns, fun _ _ _ h => vx_ret h⟩ ⟨_, rfl⟩
  have hl := lv_entry av (n := nL) hn
  rw [lg_entry_eq]
  refine h s.heap [] _ hH va_S.rf ?_
  rw [hml]
  exact ⟨hl.1, hl.2.1, fun q hq => ⟨hl.2.2 (q.1, q.2.2) (agc_args cs av 0 hcs q hq).1, (agc_args cs av 0 hcs q hq).2⟩⟩
theorem Cx.word {E : Ev} {cc : ByteArray} {nL : Nat} {own : String} {tb : List ExceptionTableEntry} {R0 : Room} (C : Cx E cc nL own tb R0) {w : Cond} (hw : w ∈ lw_tbl) (ho : okw w = true) : w.before E.2.2.2.2.2.2.1 E.2.2.2.2.1 = true := by
  obtain ⟨⟨l, D, cA, B0⟩, p, e, R, s, m, args, below, meth, c, Q⟩ := E
  exact okw_same rfl ho (C.2.2.2.2.2.2.2.2.2.1 w hw ho)
