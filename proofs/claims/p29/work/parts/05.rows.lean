theorem lx_of1 {ls ls' : Array Slot} {nL : Nat} {ll : List LE} (h : LV ls nL ll) {i : Nat} {v : Value} (h' : lv_has ls' nL ((i, v) :: (ll.map fun q => (q.1, q.2.2)).filter (fun q => !(q.1 == i) && !(q.1 + 1 == i && q.2.category == 2)))) (hc : v.category = 1) : LV ls' nL (st1 i v ll) := by
  refine ⟨h'.1, h'.2.1, fun q hq => ?_⟩
  rcases List.mem_cons.mp hq with rfl | hq
  · exact ⟨h'.2.2 (i, v) List.mem_cons_self, hc⟩
  · obtain ⟨h1, h2⟩ := List.mem_filter.mp hq
    refine ⟨h'.2.2 (q.1, q.2.2) (List.mem_cons_of_mem _ (List.mem_filter.mpr ⟨List.mem_map.mpr ⟨q, h1, rfl⟩, ?_⟩)), (h.2.2 q h1).2⟩
    rw [(h.2.2 q h1).2]
    exact h2
theorem lx_of2 {ls ls' : Array Slot} {nL : Nat} {ll : List LE} (h : LV ls nL ll) {i : Nat} {v : Value} (h' : lv_has ls' nL ((i, v) :: (ll.map fun q => (q.1, q.2.2)).filter (fun q => !(q.1 == i) && (!(q.1 == i + 1) && !(q.1 + 1 == i && q.2.category == 2))))) (hc : v.category = 2) : LV ls' nL (st2 i v ll) := by
  refine ⟨h'.1, h'.2.1, fun q hq => ?_⟩
  rcases List.mem_cons.mp hq with rfl | hq
  · exact ⟨h'.2.2 (i, v) List.mem_cons_self, hc⟩
  · obtain ⟨h1, h2⟩ := List.mem_filter.mp hq
    refine ⟨h'.2.2 (q.1, q.2.2) (List.mem_cons_of_mem _ (List.mem_filter.mpr ⟨List.mem_map.mpr ⟨q, h1, rfl⟩, ?_⟩)), (h.2.2 q h1).2⟩
    rw [(h.2.2 q h1).2]
    exact h2
theorem LV.find {ls : Array Slot} {nL : Nat} {ll : List LE} (_ : LV ls nL ll) {i : Nat} {v : Value} (hk : lk i ll = some v) : ∃ j : Nat, (ll.map fun q => (q.1, q.2.2))[j]? = some (i, v) := by
  obtain ⟨c, hc⟩ := lk_in hk
  exact List.getElem?_of_mem (List.mem_map.mpr ⟨_, hc, rfl⟩)
section Rows1
variable {E : Ev} {cc : ByteArray} {nL : Nat} {own : String} {tb : List ExceptionTableEntry} {R0 : Room} {G M : Mm} {k n pc : Nat} {ll : List LE} {st : List Value}
theorem pw_iconst (C : Cx E cc nL own tb R0) {v : Int} (d : decode cc pc = .ok (.iconst v, 1)) (kk : PW E G M k n (pc + 1) ll (vI v :: st)) : PW E G M k n pc ll (st) := by
  obtain ⟨⟨l, D, cA, B0⟩, p, e, R, s, m, args, below, meth, c, Q⟩ := E
  obtain ⟨hx, hb, hml, hown, hlocks, htb, hR, hK⟩ := C
  intro H locs ls h1 h2 h3
  exact lv_iconst hx hb d rfl (kk H locs ls h1 h2 h3)
theorem pw_bipush (C : Cx E cc nL own tb R0) {v : Int} (d : decode cc pc = .ok (.bipush v, 2)) (hv : (Int8.ofInt v).toInt32 = Int32.ofInt v) (kk : PW E G M k n (pc + 2) ll (vI v :: st)) : PW E G M k n pc ll (st) := by
  obtain ⟨⟨l, D, cA, B0⟩, p, e, R, s, m, args, below, meth, c, Q⟩ := E
  obtain ⟨hx, hb, hml, hown, hlocks, htb, hR, hK⟩ := C
  intro H locs ls h1 h2 h3
  exact lv_bipush hx hb d hv (kk H locs ls h1 h2 h3)
theorem pw_sipush (C : Cx E cc nL own tb R0) {v : Int} (d : decode cc pc = .ok (.sipush v, 3)) (hv : (Int16.ofInt v).toInt32 = Int32.ofInt v) (kk : PW E G M k n (pc + 3) ll (vI v :: st)) : PW E G M k n pc ll (st) := by
  obtain ⟨⟨l, D, cA, B0⟩, p, e, R, s, m, args, below, meth, c, Q⟩ := E
  obtain ⟨hx, hb, hml, hown, hlocks, htb, hR, hK⟩ := C
  intro H locs ls h1 h2 h3
  exact lv_sipush hx hb d hv (kk H locs ls h1 h2 h3)
theorem pw_lconst (C : Cx E cc nL own tb R0) {j : Fin 2} {v : Int} (d : decode cc pc = .ok (.lconst j, 1)) (hv : Int64.ofNat (j : Nat) = Int64.ofInt v) (kk : PW E G M k n (pc + 1) ll (vL v :: st)) : PW E G M k n pc ll (st) := by
  obtain ⟨⟨l, D, cA, B0⟩, p, e, R, s, m, args, below, meth, c, Q⟩ := E
  obtain ⟨hx, hb, hml, hown, hlocks, htb, hR, hK⟩ := C
  intro H locs ls h1 h2 h3
  exact lv_lconst hx hb d hv (kk H locs ls h1 h2 h3)
theorem pw_null (C : Cx E cc nL own tb R0) (d : decode cc pc = .ok (.aconst_null, 1)) (kk : PW E G M k n (pc + 1) ll (vR (-1) :: st)) : PW E G M k n pc ll (st) := by
  obtain ⟨⟨l, D, cA, B0⟩, p, e, R, s, m, args, below, meth, c, Q⟩ := E
  obtain ⟨hx, hb, hml, hown, hlocks, htb, hR, hK⟩ := C
  intro H locs ls h1 h2 h3
  exact lv_null hx hb d (kk H locs ls h1 h2 h3)
theorem pw_iload_n (C : Cx E cc nL own tb R0) {j : Fin 4} {x : Int32} (d : decode cc pc = .ok (.iload_n j, 1)) (h : lk (j : Nat) ll = some (.int x)) (kk : PW E G M k n (pc + 1) ll (.int x :: st)) : PW E G M k n pc ll (st) := by
  obtain ⟨⟨l, D, cA, B0⟩, p, e, R, s, m, args, below, meth, c, Q⟩ := E
  obtain ⟨hx, hb, hml, hown, hlocks, htb, hR, hK⟩ := C
  intro H locs ls h1 h2 h3
  exact lv_iload_n hx hb d rfl (h3.at h) (kk H locs ls h1 h2 h3)
theorem pw_iload (C : Cx E cc nL own tb R0) {i : Nat} {x : Int32} (d : decode cc pc = .ok (.iload i, 2)) (h : lk i ll = some (.int x)) (kk : PW E G M k n (pc + 2) ll (.int x :: st)) : PW E G M k n pc ll (st) := by
  obtain ⟨⟨l, D, cA, B0⟩, p, e, R, s, m, args, below, meth, c, Q⟩ := E
  obtain ⟨hx, hb, hml, hown, hlocks, htb, hR, hK⟩ := C
  intro H locs ls h1 h2 h3
  exact lv_iload hx hb d (h3.at h) (kk H locs ls h1 h2 h3)
theorem pw_lload_n (C : Cx E cc nL own tb R0) {j : Fin 4} {x : Int64} (d : decode cc pc = .ok (.lload_n j, 1)) (h : lk (j : Nat) ll = some (.long x)) (kk : PW E G M k n (pc + 1) ll (.long x :: st)) : PW E G M k n pc ll (st) := by
  obtain ⟨⟨l, D, cA, B0⟩, p, e, R, s, m, args, below, meth, c, Q⟩ := E
  obtain ⟨hx, hb, hml, hown, hlocks, htb, hR, hK⟩ := C
  intro H locs ls h1 h2 h3
  exact lv_lload_n hx hb d rfl (h3.at h) (kk H locs ls h1 h2 h3)
theorem pw_lload (C : Cx E cc nL own tb R0) {i : Nat} {x : Int64} (d : decode cc pc = .ok (.lload i, 2)) (h : lk i ll = some (.long x)) (kk : PW E G M k n (pc + 2) ll (.long x :: st)) : PW E G M k n pc ll (st) := by
  obtain ⟨⟨l, D, cA, B0⟩, p, e, R, s, m, args, below, meth, c, Q⟩ := E
  obtain ⟨hx, hb, hml, hown, hlocks, htb, hR, hK⟩ := C
  intro H locs ls h1 h2 h3
  exact lv_lload hx hb d (h3.at h) (kk H locs ls h1 h2 h3)
theorem pw_dload_n (C : Cx E cc nL own tb R0) {j : Fin 4} {x : UInt64} (d : decode cc pc = .ok (.dload_n j, 1)) (h : lk (j : Nat) ll = some (.double x)) (kk : PW E G M k n (pc + 1) ll (.double x :: st)) : PW E G M k n pc ll (st) := by
  obtain ⟨⟨l, D, cA, B0⟩, p, e, R, s, m, args, below, meth, c, Q⟩ := E
  obtain ⟨hx, hb, hml, hown, hlocks, htb, hR, hK⟩ := C
  intro H locs ls h1 h2 h3
  exact lv_dload_n hx hb d rfl (h3.at h) (kk H locs ls h1 h2 h3)
theorem pw_dload (C : Cx E cc nL own tb R0) {i : Nat} {x : UInt64} (d : decode cc pc = .ok (.dload i, 2)) (h : lk i ll = some (.double x)) (kk : PW E G M k n (pc + 2) ll (.double x :: st)) : PW E G M k n pc ll (st) := by
  obtain ⟨⟨l, D, cA, B0⟩, p, e, R, s, m, args, below, meth, c, Q⟩ := E
  obtain ⟨hx, hb, hml, hown, hlocks, htb, hR, hK⟩ := C
  intro H locs ls h1 h2 h3
  exact lv_dload hx hb d (h3.at h) (kk H locs ls h1 h2 h3)
theorem pw_aload_n (C : Cx E cc nL own tb R0) {j : Fin 4} {x : Int} (d : decode cc pc = .ok (.aload_n j, 1)) (h : lk (j : Nat) ll = some (vR x)) (kk : PW E G M k n (pc + 1) ll (vR x :: st)) : PW E G M k n pc ll (st) := by
  obtain ⟨⟨l, D, cA, B0⟩, p, e, R, s, m, args, below, meth, c, Q⟩ := E
  obtain ⟨hx, hb, hml, hown, hlocks, htb, hR, hK⟩ := C
  intro H locs ls h1 h2 h3
  have q := (kk H locs ls h1 h2 h3)
  have h' := h3.at h
  by_cases hn : x < 0
  · rw [vR_neg hn] at q h'
    exact lv_aload_nN hx hb d rfl h' q
  · rw [vR_pos (by omega)] at q h'
    exact lv_aload_n hx hb d rfl h' q
theorem pw_aload (C : Cx E cc nL own tb R0) {i : Nat} {x : Int} (d : decode cc pc = .ok (.aload i, 2)) (h : lk i ll = some (vR x)) (kk : PW E G M k n (pc + 2) ll (vR x :: st)) : PW E G M k n pc ll (st) := by
  obtain ⟨⟨l, D, cA, B0⟩, p, e, R, s, m, args, below, meth, c, Q⟩ := E
  obtain ⟨hx, hb, hml, hown, hlocks, htb, hR, hK⟩ := C
  intro H locs ls h1 h2 h3
  have q := (kk H locs ls h1 h2 h3)
  have h' := h3.at h
  by_cases hn : x < 0
  · rw [vR_neg hn] at q h'
    exact lv_aloadN hx hb d h' q
  · rw [vR_pos (by omega)] at q h'
    exact lv_aload hx hb d h' q
theorem pw_istore (C : Cx E cc nL own tb R0) {i : Nat} {x : Int32} {ll' : List LE} (d : decode cc pc = .ok (.istore i, 2)) (hi : i < nL) (hl : st1 i (.int x) ll = ll') (kk : PW E G M k n (pc + 2) ll' st) : PW E G M k n pc ll (.int x :: st) := by
  obtain ⟨⟨l, D, cA, B0⟩, p, e, R, s, m, args, below, meth, c, Q⟩ := E
  obtain ⟨hx, hb, hml, hown, hlocks, htb, hR, hK⟩ := C
  intro H locs ls h1 h2 h3
  subst hl
  exact lv_istore hx hb d h3.has (by rw [hml]; exact hi) rfl (fun ls' h' => kk H locs ls' h1 h2 (lx_of1 h3 h' rfl))
theorem pw_istore_n (C : Cx E cc nL own tb R0) {j : Fin 4} {x : Int32} {ll' : List LE} (d : decode cc pc = .ok (.istore_n j, 1)) (hi : (j : Nat) < nL) (hl : st1 (j : Nat) (.int x) ll = ll') (kk : PW E G M k n (pc + 1) ll' st) : PW E G M k n pc ll (.int x :: st) := by
  obtain ⟨⟨l, D, cA, B0⟩, p, e, R, s, m, args, below, meth, c, Q⟩ := E
  obtain ⟨hx, hb, hml, hown, hlocks, htb, hR, hK⟩ := C
  intro H locs ls h1 h2 h3
  subst hl
  exact lv_istore_n hx hb d rfl h3.has (by rw [hml]; exact hi) rfl (fun ls' h' => kk H locs ls' h1 h2 (lx_of1 h3 h' rfl))
theorem pw_lstore (C : Cx E cc nL own tb R0) {i : Nat} {x : Int64} {ll' : List LE} (d : decode cc pc = .ok (.lstore i, 2)) (hi : i + 1 < nL) (hl : st2 i (.long x) ll = ll') (kk : PW E G M k n (pc + 2) ll' st) : PW E G M k n pc ll (.long x :: st) := by
  obtain ⟨⟨l, D, cA, B0⟩, p, e, R, s, m, args, below, meth, c, Q⟩ := E
  obtain ⟨hx, hb, hml, hown, hlocks, htb, hR, hK⟩ := C
  intro H locs ls h1 h2 h3
  subst hl
  exact lv_lstore hx hb d h3.has (by rw [hml]; exact hi) rfl (fun ls' h' => kk H locs ls' h1 h2 (lx_of2 h3 h' rfl))
theorem pw_lstore_n (C : Cx E cc nL own tb R0) {j : Fin 4} {x : Int64} {ll' : List LE} (d : decode cc pc = .ok (.lstore_n j, 1)) (hi : (j : Nat) + 1 < nL) (hl : st2 (j : Nat) (.long x) ll = ll') (kk : PW E G M k n (pc + 1) ll' st) : PW E G M k n pc ll (.long x :: st) := by
  obtain ⟨⟨l, D, cA, B0⟩, p, e, R, s, m, args, below, meth, c, Q⟩ := E
  obtain ⟨hx, hb, hml, hown, hlocks, htb, hR, hK⟩ := C
  intro H locs ls h1 h2 h3
  subst hl
  exact lv_lstore_n hx hb d rfl h3.has (by rw [hml]; exact hi) rfl (fun ls' h' => kk H locs ls' h1 h2 (lx_of2 h3 h' rfl))
theorem pw_dstore (C : Cx E cc nL own tb R0) {i : Nat} {x : UInt64} {ll' : List LE} (d : decode cc pc = .ok (.dstore i, 2)) (hi : i + 1 < nL) (hl : st2 i (.double x) ll = ll') (kk : PW E G M k n (pc + 2) ll' st) : PW E G M k n pc ll (.double x :: st) := by
  obtain ⟨⟨l, D, cA, B0⟩, p, e, R, s, m, args, below, meth, c, Q⟩ := E
  obtain ⟨hx, hb, hml, hown, hlocks, htb, hR, hK⟩ := C
  intro H locs ls h1 h2 h3
  subst hl
  exact lv_dstore hx hb d h3.has (by rw [hml]; exact hi) rfl (fun ls' h' => kk H locs ls' h1 h2 (lx_of2 h3 h' rfl))
theorem pw_dstore_n (C : Cx E cc nL own tb R0) {j : Fin 4} {x : UInt64} {ll' : List LE} (d : decode cc pc = .ok (.dstore_n j, 1)) (hi : (j : Nat) + 1 < nL) (hl : st2 (j : Nat) (.double x) ll = ll') (kk : PW E G M k n (pc + 1) ll' st) : PW E G M k n pc ll (.double x :: st) := by
  obtain ⟨⟨l, D, cA, B0⟩, p, e, R, s, m, args, below, meth, c, Q⟩ := E
  obtain ⟨hx, hb, hml, hown, hlocks, htb, hR, hK⟩ := C
  intro H locs ls h1 h2 h3
  subst hl
  exact lv_dstore_n hx hb d rfl h3.has (by rw [hml]; exact hi) rfl (fun ls' h' => kk H locs ls' h1 h2 (lx_of2 h3 h' rfl))
theorem pw_astore (C : Cx E cc nL own tb R0) {i : Nat} {x : Int} {ll' : List LE} (d : decode cc pc = .ok (.astore i, 2)) (hi : i < nL) (hl : st1 i (vR x) ll = ll') (kk : PW E G M k n (pc + 2) ll' st) : PW E G M k n pc ll (vR x :: st) := by
  obtain ⟨⟨l, D, cA, B0⟩, p, e, R, s, m, args, below, meth, c, Q⟩ := E
  obtain ⟨hx, hb, hml, hown, hlocks, htb, hR, hK⟩ := C
  intro H locs ls h1 h2 h3
  subst hl
  have q : ∀ ls' : Array Slot, LV ls' c.maxLocals (st1 i (vR x) ll) → W p l e R s m args below meth c H locs k n Q (F0 m (pc + 2) ls' st) := fun ls' h' => kk H locs ls' h1 h2 h'
  by_cases hn : x < 0
  · rw [vR_neg hn] at q ⊢
    exact lv_astoreN hx hb d h3.has (by rw [hml]; exact hi) rfl (fun ls' h' => q ls' (lx_of1 h3 h' rfl))
  · rw [vR_pos (by omega)] at q ⊢
    exact lv_astore hx hb d h3.has (by rw [hml]; exact hi) rfl (fun ls' h' => q ls' (lx_of1 h3 h' rfl))
theorem pw_astore_n (C : Cx E cc nL own tb R0) {j : Fin 4} {x : Int} {ll' : List LE} (d : decode cc pc = .ok (.astore_n j, 1)) (hi : (j : Nat) < nL) (hl : st1 (j : Nat) (vR x) ll = ll') (kk : PW E G M k n (pc + 1) ll' st) : PW E G M k n pc ll (vR x :: st) := by
  obtain ⟨⟨l, D, cA, B0⟩, p, e, R, s, m, args, below, meth, c, Q⟩ := E
  obtain ⟨hx, hb, hml, hown, hlocks, htb, hR, hK⟩ := C
  intro H locs ls h1 h2 h3
  subst hl
  have q : ∀ ls' : Array Slot, LV ls' c.maxLocals (st1 (j : Nat) (vR x) ll) → W p l e R s m args below meth c H locs k n Q (F0 m (pc + 1) ls' st) := fun ls' h' => kk H locs ls' h1 h2 h'
  by_cases hn : x < 0
  · rw [vR_neg hn] at q ⊢
    exact lv_astore_nN hx hb d rfl h3.has (by rw [hml]; exact hi) rfl (fun ls' h' => q ls' (lx_of1 h3 h' rfl))
  · rw [vR_pos (by omega)] at q ⊢
    exact lv_astore_n hx hb d rfl h3.has (by rw [hml]; exact hi) rfl (fun ls' h' => q ls' (lx_of1 h3 h' rfl))
theorem pw_iinc (C : Cx E cc nL own tb R0) {i : Nat} {x v : Int} {ll' : List LE} (d : decode cc pc = .ok (.iinc i v, 3)) (h : lk i ll = some (vI x)) (hi : i < nL) (hl : st1 i (vI (x + v)) ll = ll') (kk : PW E G M k n (pc + 3) ll' st) : PW E G M k n pc ll st := by
  obtain ⟨⟨l, D, cA, B0⟩, p, e, R, s, m, args, below, meth, c, Q⟩ := E
  obtain ⟨hx, hb, hml, hown, hlocks, htb, hR, hK⟩ := C
  intro H locs ls h1 h2 h3
  subst hl
  obtain ⟨j, hj⟩ := h3.find h
  exact lv_iinc (v := Int32.ofInt (x + v)) hx hb d h3.has hj (by rw [Int32.ofInt_add]) (by rw [hml]; exact hi) rfl (fun ls' h' => kk H locs ls' h1 h2 (lx_of1 h3 h' rfl))
theorem pw_iadd (C : Cx E cc nL own tb R0) {x y : Int} (d : decode cc pc = .ok (.iadd, 1)) (kk : PW E G M k n (pc + 1) ll (vI (x + y) :: st)) : PW E G M k n pc ll (vI y :: vI x :: st) := by
  obtain ⟨⟨l, D, cA, B0⟩, p, e, R, s, m, args, below, meth, c, Q⟩ := E
  obtain ⟨hx, hb, hml, hown, hlocks, htb, hR, hK⟩ := C
  intro H locs ls h1 h2 h3
  have q := (kk H locs ls h1 h2 h3)
  simp only [vI, Int32.ofInt_add] at q
  exact lv_iadd hx hb d q
theorem pw_isub (C : Cx E cc nL own tb R0) {x y : Int} (d : decode cc pc = .ok (.isub, 1)) (kk : PW E G M k n (pc + 1) ll (vI (x - y) :: st)) : PW E G M k n pc ll (vI y :: vI x :: st) := by
  obtain ⟨⟨l, D, cA, B0⟩, p, e, R, s, m, args, below, meth, c, Q⟩ := E
  obtain ⟨hx, hb, hml, hown, hlocks, htb, hR, hK⟩ := C
  intro H locs ls h1 h2 h3
  have q := (kk H locs ls h1 h2 h3)
  simp only [vI, Int32.ofInt_sub] at q
  exact lv_isub hx hb d q
theorem pw_imul (C : Cx E cc nL own tb R0) {x y : Int} (d : decode cc pc = .ok (.imul, 1)) (kk : PW E G M k n (pc + 1) ll (vI (x * y) :: st)) : PW E G M k n pc ll (vI y :: vI x :: st) := by
  obtain ⟨⟨l, D, cA, B0⟩, p, e, R, s, m, args, below, meth, c, Q⟩ := E
  obtain ⟨hx, hb, hml, hown, hlocks, htb, hR, hK⟩ := C
  intro H locs ls h1 h2 h3
  have q := (kk H locs ls h1 h2 h3)
  simp only [vI, Int32.ofInt_mul] at q
  exact lv_imul hx hb d q
theorem pw_ladd (C : Cx E cc nL own tb R0) {x y : Int} (d : decode cc pc = .ok (.ladd, 1)) (kk : PW E G M k n (pc + 1) ll (vL (x + y) :: st)) : PW E G M k n pc ll (vL y :: vL x :: st) := by
  obtain ⟨⟨l, D, cA, B0⟩, p, e, R, s, m, args, below, meth, c, Q⟩ := E
  obtain ⟨hx, hb, hml, hown, hlocks, htb, hR, hK⟩ := C
  intro H locs ls h1 h2 h3
  have q := (kk H locs ls h1 h2 h3)
  simp only [vL, Int64.ofInt_add] at q
  exact lv_ladd hx hb d q
theorem pw_lmul (C : Cx E cc nL own tb R0) {x y : Int} (d : decode cc pc = .ok (.lmul, 1)) (kk : PW E G M k n (pc + 1) ll (vL (x * y) :: st)) : PW E G M k n pc ll (vL y :: vL x :: st) := by
  obtain ⟨⟨l, D, cA, B0⟩, p, e, R, s, m, args, below, meth, c, Q⟩ := E
  obtain ⟨hx, hb, hml, hown, hlocks, htb, hR, hK⟩ := C
  intro H locs ls h1 h2 h3
  have q := (kk H locs ls h1 h2 h3)
  simp only [vL, Int64.ofInt_mul] at q
  exact lv_lmul hx hb d q
theorem pw_iand (C : Cx E cc nL own tb R0) {x y : Int32} (d : decode cc pc = .ok (.iand, 1)) (kk : PW E G M k n (pc + 1) ll (.int (x &&& y) :: st)) : PW E G M k n pc ll (.int y :: .int x :: st) := by
  obtain ⟨⟨l, D, cA, B0⟩, p, e, R, s, m, args, below, meth, c, Q⟩ := E
  obtain ⟨hx, hb, hml, hown, hlocks, htb, hR, hK⟩ := C
  intro H locs ls h1 h2 h3
  exact lv_iand hx hb d (kk H locs ls h1 h2 h3)
theorem pw_ior (C : Cx E cc nL own tb R0) {x y : Int32} (d : decode cc pc = .ok (.ior, 1)) (kk : PW E G M k n (pc + 1) ll (.int (x ||| y) :: st)) : PW E G M k n pc ll (.int y :: .int x :: st) := by
  obtain ⟨⟨l, D, cA, B0⟩, p, e, R, s, m, args, below, meth, c, Q⟩ := E
  obtain ⟨hx, hb, hml, hown, hlocks, htb, hR, hK⟩ := C
  intro H locs ls h1 h2 h3
  exact lv_ior hx hb d (kk H locs ls h1 h2 h3)
theorem pw_ishl (C : Cx E cc nL own tb R0) {x y : Int32} (d : decode cc pc = .ok (.ishl, 1)) (kk : PW E G M k n (pc + 1) ll (.int (x <<< (y &&& 31)) :: st)) : PW E G M k n pc ll (.int y :: .int x :: st) := by
  obtain ⟨⟨l, D, cA, B0⟩, p, e, R, s, m, args, below, meth, c, Q⟩ := E
  obtain ⟨hx, hb, hml, hown, hlocks, htb, hR, hK⟩ := C
  intro H locs ls h1 h2 h3
  exact lv_ishl hx hb d (kk H locs ls h1 h2 h3)
theorem pw_ishr (C : Cx E cc nL own tb R0) {x y : Int32} (d : decode cc pc = .ok (.ishr, 1)) (kk : PW E G M k n (pc + 1) ll (.int (x >>> (y &&& 31)) :: st)) : PW E G M k n pc ll (.int y :: .int x :: st) := by
  obtain ⟨⟨l, D, cA, B0⟩, p, e, R, s, m, args, below, meth, c, Q⟩ := E
  obtain ⟨hx, hb, hml, hown, hlocks, htb, hR, hK⟩ := C
  intro H locs ls h1 h2 h3
  exact lv_ishr hx hb d (kk H locs ls h1 h2 h3)
theorem pw_iushr (C : Cx E cc nL own tb R0) {x y : Int32} (d : decode cc pc = .ok (.iushr, 1)) (kk : PW E G M k n (pc + 1) ll (.int (x.toUInt32 >>> (y.toUInt32 &&& Int32.toUInt32 31)).toInt32 :: st)) : PW E G M k n pc ll (.int y :: .int x :: st) := by
  obtain ⟨⟨l, D, cA, B0⟩, p, e, R, s, m, args, below, meth, c, Q⟩ := E
  obtain ⟨hx, hb, hml, hown, hlocks, htb, hR, hK⟩ := C
  intro H locs ls h1 h2 h3
  exact lv_iushr hx hb d rfl (kk H locs ls h1 h2 h3)
theorem pw_iaddw (C : Cx E cc nL own tb R0) {x y : Int32} (d : decode cc pc = .ok (.iadd, 1)) (kk : PW E G M k n (pc + 1) ll (.int (x + y) :: st)) : PW E G M k n pc ll (.int y :: .int x :: st) := by
  obtain ⟨⟨l, D, cA, B0⟩, p, e, R, s, m, args, below, meth, c, Q⟩ := E
  obtain ⟨hx, hb, hml, hown, hlocks, htb, hR, hK⟩ := C
  intro H locs ls h1 h2 h3
  exact lv_iadd hx hb d (kk H locs ls h1 h2 h3)
theorem pw_isubw (C : Cx E cc nL own tb R0) {x y : Int32} (d : decode cc pc = .ok (.isub, 1)) (kk : PW E G M k n (pc + 1) ll (.int (x - y) :: st)) : PW E G M k n pc ll (.int y :: .int x :: st) := by
  obtain ⟨⟨l, D, cA, B0⟩, p, e, R, s, m, args, below, meth, c, Q⟩ := E
  obtain ⟨hx, hb, hml, hown, hlocks, htb, hR, hK⟩ := C
  intro H locs ls h1 h2 h3
  exact lv_isub hx hb d (kk H locs ls h1 h2 h3)
theorem pw_i2l (C : Cx E cc nL own tb R0) {x : Int} (d : decode cc pc = .ok (.i2l, 1)) (hx0 : -2147483648 ≤ x ∧ x ≤ 2147483647) (kk : PW E G M k n (pc + 1) ll (vL x :: st)) : PW E G M k n pc ll (vI x :: st) := by
  obtain ⟨⟨l, D, cA, B0⟩, p, e, R, s, m, args, below, meth, c, Q⟩ := E
  obtain ⟨hx, hb, hml, hown, hlocks, htb, hR, hK⟩ := C
  intro H locs ls h1 h2 h3
  exact lv_i2l hx hb d (Int32.toInt64_ofInt (by exact hx0.1) (by exact hx0.2)) (kk H locs ls h1 h2 h3)
theorem pw_i2d (C : Cx E cc nL own tb R0) {x : Int32} (d : decode cc pc = .ok (.i2d, 1)) (kk : PW E G M k n (pc + 1) ll (.double (FP.i2d x) :: st)) : PW E G M k n pc ll (.int x :: st) := by
  obtain ⟨⟨l, D, cA, B0⟩, p, e, R, s, m, args, below, meth, c, Q⟩ := E
  obtain ⟨hx, hb, hml, hown, hlocks, htb, hR, hK⟩ := C
  intro H locs ls h1 h2 h3
  exact lv_i2d hx hb d (kk H locs ls h1 h2 h3)
theorem pw_dconst0 (C : Cx E cc nL own tb R0) (d : decode cc pc = .ok (.dconst 0, 1)) (kk : PW E G M k n (pc + 1) ll (.double FP.dconst0 :: st)) : PW E G M k n pc ll (st) := by
  obtain ⟨⟨l, D, cA, B0⟩, p, e, R, s, m, args, below, meth, c, Q⟩ := E
  obtain ⟨hx, hb, hml, hown, hlocks, htb, hR, hK⟩ := C
  intro H locs ls h1 h2 h3
  exact lv_dconst0 hx hb d (kk H locs ls h1 h2 h3)
theorem pw_ddiv (C : Cx E cc nL own tb R0) {x y : UInt64} (d : decode cc pc = .ok (.ddiv, 1)) (hne : vf_n64 (FP.ddiv x y)) (kk : PW E G M k n (pc + 1) ll (.double (FP.ddiv x y) :: st)) : PW E G M k n pc ll (.double y :: .double x :: st) := by
  obtain ⟨⟨l, D, cA, B0⟩, p, e, R, s, m, args, below, meth, c, Q⟩ := E
  obtain ⟨hx, hb, hml, hown, hlocks, htb, hR, hK⟩ := C
  intro H locs ls h1 h2 h3
  exact lv_ddiv hx hb d hne (kk H locs ls h1 h2 h3)
theorem pw_dcmp (C : Cx E cc nL own tb R0) {x y : UInt64} {op : CmpOp} (d : decode cc pc = .ok (.dcmp op, 1)) (kk : PW E G M k n (pc + 1) ll (.int (Op.cmpValue (FP.dcmp x y) op) :: st)) : PW E G M k n pc ll (.double y :: .double x :: st) := by
  obtain ⟨⟨l, D, cA, B0⟩, p, e, R, s, m, args, below, meth, c, Q⟩ := E
  obtain ⟨hx, hb, hml, hown, hlocks, htb, hR, hK⟩ := C
  intro H locs ls h1 h2 h3
  exact lv_dcmp hx hb d (kk H locs ls h1 h2 h3)
theorem pw_lcmp (C : Cx E cc nL own tb R0) {x y : Int64} (d : decode cc pc = .ok (.lcmp, 1)) (kk : PW E G M k n (pc + 1) ll (.int (lg_cmp x y) :: st)) : PW E G M k n pc ll (.long y :: .long x :: st) := by
  obtain ⟨⟨l, D, cA, B0⟩, p, e, R, s, m, args, below, meth, c, Q⟩ := E
  obtain ⟨hx, hb, hml, hown, hlocks, htb, hR, hK⟩ := C
  intro H locs ls h1 h2 h3
  exact W.lcmp hx hb d (kk H locs ls h1 h2 h3)
theorem pw_dup (C : Cx E cc nL own tb R0) {v : Value} (d : decode cc pc = .ok (.dup, 1)) (hc : v.category = 1) (kk : PW E G M k n (pc + 1) ll (v :: v :: st)) : PW E G M k n pc ll (v :: st) := by
  obtain ⟨⟨l, D, cA, B0⟩, p, e, R, s, m, args, below, meth, c, Q⟩ := E
  obtain ⟨hx, hb, hml, hown, hlocks, htb, hR, hK⟩ := C
  intro H locs ls h1 h2 h3
  exact lv_dup hx hb d hc (kk H locs ls h1 h2 h3)
theorem pw_pop (C : Cx E cc nL own tb R0) {v : Value} (d : decode cc pc = .ok (.pop, 1)) (hc : v.category = 1) (kk : PW E G M k n (pc + 1) ll (st)) : PW E G M k n pc ll (v :: st) := by
  obtain ⟨⟨l, D, cA, B0⟩, p, e, R, s, m, args, below, meth, c, Q⟩ := E
  obtain ⟨hx, hb, hml, hown, hlocks, htb, hR, hK⟩ := C
  intro H locs ls h1 h2 h3
  exact lv_pop hx hb d hc (kk H locs ls h1 h2 h3)
theorem pw_dup_x1 (C : Cx E cc nL own tb R0) {v w : Value} (d : decode cc pc = .ok (.dup_x1, 1)) (hc : v.category = 1) (hw : w.category = 1) (kk : PW E G M k n (pc + 1) ll (v :: w :: v :: st)) : PW E G M k n pc ll (v :: w :: st) := by
  obtain ⟨⟨l, D, cA, B0⟩, p, e, R, s, m, args, below, meth, c, Q⟩ := E
  obtain ⟨hx, hb, hml, hown, hlocks, htb, hR, hK⟩ := C
  intro H locs ls h1 h2 h3
  exact lv_dup_x1 hx hb d hc hw (kk H locs ls h1 h2 h3)
theorem pw_dup2 (C : Cx E cc nL own tb R0) {v w : Value} (d : decode cc pc = .ok (.dup2, 1)) (hc : v.category = 1) (hw : w.category = 1) (kk : PW E G M k n (pc + 1) ll (v :: w :: v :: w :: st)) : PW E G M k n pc ll (v :: w :: st) := by
  obtain ⟨⟨l, D, cA, B0⟩, p, e, R, s, m, args, below, meth, c, Q⟩ := E
  obtain ⟨hx, hb, hml, hown, hlocks, htb, hR, hK⟩ := C
  intro H locs ls h1 h2 h3
  exact lv_dup2_11 hx hb d hc hw (kk H locs ls h1 h2 h3)
theorem pw_goto (C : Cx E cc nL own tb R0) {off : Int} {tgt : Nat} (d : decode cc pc = .ok (.goto off, 3)) (ht : (pc : Int) + off = (tgt : Int)) (kk : PW E G M k n tgt ll st) : PW E G M k n pc ll st := by
  obtain ⟨⟨l, D, cA, B0⟩, p, e, R, s, m, args, below, meth, c, Q⟩ := E
  obtain ⟨hx, hb, hml, hown, hlocks, htb, hR, hK⟩ := C
  intro H locs ls h1 h2 h3
  exact lv_goto hx hb d ht (kk H locs ls h1 h2 h3)
theorem pw_icmp_eq (C : Cx E cc nL own tb R0) {x y off : Int} {tgt : Nat} (d : decode cc pc = .ok (.if_icmp .eq off, 3)) (ht : (pc : Int) + off = (tgt : Int)) (hr : (-2147483648 ≤ x ∧ x ≤ 2147483647) ∧ (-2147483648 ≤ y ∧ y ≤ 2147483647)) (kt : x = y → PW E G M k n tgt ll st) (kf : ¬ x = y → PW E G M k n (pc + 3) ll st) : PW E G M k n pc ll (vI y :: vI x :: st) := by
  obtain ⟨⟨l, D, cA, B0⟩, p, e, R, s, m, args, below, meth, c, Q⟩ := E
  obtain ⟨hx, hb, hml, hown, hlocks, htb, hR, hK⟩ := C
  intro H locs ls h1 h2 h3
  have hq := i32_eq (x := x) (y := y) hr
  exact lv_icmp_eq hx hb d ht (fun q => kt (hq.mp q) H locs ls h1 h2 h3) (fun q => kf (fun z => q (hq.mpr z)) H locs ls h1 h2 h3)
theorem pw_if_eq (C : Cx E cc nL own tb R0) {x off : Int} {tgt : Nat} (d : decode cc pc = .ok (.ifCond .eq off, 3)) (ht : (pc : Int) + off = (tgt : Int)) (hr : -2147483648 ≤ x ∧ x ≤ 2147483647) (kt : x = 0 → PW E G M k n tgt ll st) (kf : ¬ x = 0 → PW E G M k n (pc + 3) ll st) : PW E G M k n pc ll (vI x :: st) := by
  obtain ⟨⟨l, D, cA, B0⟩, p, e, R, s, m, args, below, meth, c, Q⟩ := E
  obtain ⟨hx, hb, hml, hown, hlocks, htb, hR, hK⟩ := C
  intro H locs ls h1 h2 h3
  have hq := i32_eq (x := x) (y := 0) (by omega)
  exact lv_if_eq hx hb d ht (fun q => kt (hq.mp q) H locs ls h1 h2 h3) (fun q => kf (fun z => q (hq.mpr z)) H locs ls h1 h2 h3)
theorem pw_icmp_ne (C : Cx E cc nL own tb R0) {x y off : Int} {tgt : Nat} (d : decode cc pc = .ok (.if_icmp .ne off, 3)) (ht : (pc : Int) + off = (tgt : Int)) (hr : (-2147483648 ≤ x ∧ x ≤ 2147483647) ∧ (-2147483648 ≤ y ∧ y ≤ 2147483647)) (kt : ¬ x = y → PW E G M k n tgt ll st) (kf : x = y → PW E G M k n (pc + 3) ll st) : PW E G M k n pc ll (vI y :: vI x :: st) := by
  obtain ⟨⟨l, D, cA, B0⟩, p, e, R, s, m, args, below, meth, c, Q⟩ := E
  obtain ⟨hx, hb, hml, hown, hlocks, htb, hR, hK⟩ := C
  intro H locs ls h1 h2 h3
  have hq := i32_eq (x := x) (y := y) hr
  exact lv_icmp_ne hx hb d ht (fun q => kt (fun z => q (hq.mpr z)) H locs ls h1 h2 h3) (fun q => kf (hq.mp q) H locs ls h1 h2 h3)
theorem pw_if_ne (C : Cx E cc nL own tb R0) {x off : Int} {tgt : Nat} (d : decode cc pc = .ok (.ifCond .ne off, 3)) (ht : (pc : Int) + off = (tgt : Int)) (hr : -2147483648 ≤ x ∧ x ≤ 2147483647) (kt : ¬ x = 0 → PW E G M k n tgt ll st) (kf : x = 0 → PW E G M k n (pc + 3) ll st) : PW E G M k n pc ll (vI x :: st) := by
  obtain ⟨⟨l, D, cA, B0⟩, p, e, R, s, m, args, below, meth, c, Q⟩ := E
  obtain ⟨hx, hb, hml, hown, hlocks, htb, hR, hK⟩ := C
  intro H locs ls h1 h2 h3
  have hq := i32_eq (x := x) (y := 0) (by omega)
  exact lv_if_ne hx hb d ht (fun q => kt (fun z => q (hq.mpr z)) H locs ls h1 h2 h3) (fun q => kf (hq.mp q) H locs ls h1 h2 h3)
theorem pw_icmp_lt (C : Cx E cc nL own tb R0) {x y off : Int} {tgt : Nat} (d : decode cc pc = .ok (.if_icmp .lt off, 3)) (ht : (pc : Int) + off = (tgt : Int)) (hr : (-2147483648 ≤ x ∧ x ≤ 2147483647) ∧ (-2147483648 ≤ y ∧ y ≤ 2147483647)) (kt : x < y → PW E G M k n tgt ll st) (kf : ¬ x < y → PW E G M k n (pc + 3) ll st) : PW E G M k n pc ll (vI y :: vI x :: st) := by
  obtain ⟨⟨l, D, cA, B0⟩, p, e, R, s, m, args, below, meth, c, Q⟩ := E
  obtain ⟨hx, hb, hml, hown, hlocks, htb, hR, hK⟩ := C
  intro H locs ls h1 h2 h3
  have hq := i32_lt (x := x) (y := y) hr
  exact lv_icmp_lt hx hb d ht (fun q => kt (hq.mp q) H locs ls h1 h2 h3) (fun q => kf (fun z => q (hq.mpr z)) H locs ls h1 h2 h3)
theorem pw_if_lt (C : Cx E cc nL own tb R0) {x off : Int} {tgt : Nat} (d : decode cc pc = .ok (.ifCond .lt off, 3)) (ht : (pc : Int) + off = (tgt : Int)) (hr : -2147483648 ≤ x ∧ x ≤ 2147483647) (kt : x < 0 → PW E G M k n tgt ll st) (kf : ¬ x < 0 → PW E G M k n (pc + 3) ll st) : PW E G M k n pc ll (vI x :: st) := by
  obtain ⟨⟨l, D, cA, B0⟩, p, e, R, s, m, args, below, meth, c, Q⟩ := E
  obtain ⟨hx, hb, hml, hown, hlocks, htb, hR, hK⟩ := C
  intro H locs ls h1 h2 h3
  have hq := i32_lt (x := x) (y := 0) (by omega)
  exact lv_if_lt hx hb d ht (fun q => kt (hq.mp q) H locs ls h1 h2 h3) (fun q => kf (fun z => q (hq.mpr z)) H locs ls h1 h2 h3)
theorem pw_icmp_ge (C : Cx E cc nL own tb R0) {x y off : Int} {tgt : Nat} (d : decode cc pc = .ok (.if_icmp .ge off, 3)) (ht : (pc : Int) + off = (tgt : Int)) (hr : (-2147483648 ≤ x ∧ x ≤ 2147483647) ∧ (-2147483648 ≤ y ∧ y ≤ 2147483647)) (kt : y ≤ x → PW E G M k n tgt ll st) (kf : ¬ y ≤ x → PW E G M k n (pc + 3) ll st) : PW E G M k n pc ll (vI y :: vI x :: st) := by
  obtain ⟨⟨l, D, cA, B0⟩, p, e, R, s, m, args, below, meth, c, Q⟩ := E
  obtain ⟨hx, hb, hml, hown, hlocks, htb, hR, hK⟩ := C
  intro H locs ls h1 h2 h3
  have hq := i32_le (x := y) (y := x) ⟨hr.2, hr.1⟩
  exact lv_icmp_ge hx hb d ht (fun q => kt (hq.mp q) H locs ls h1 h2 h3) (fun q => kf (fun z => q (hq.mpr z)) H locs ls h1 h2 h3)
theorem pw_if_ge (C : Cx E cc nL own tb R0) {x off : Int} {tgt : Nat} (d : decode cc pc = .ok (.ifCond .ge off, 3)) (ht : (pc : Int) + off = (tgt : Int)) (hr : -2147483648 ≤ x ∧ x ≤ 2147483647) (kt : 0 ≤ x → PW E G M k n tgt ll st) (kf : ¬ 0 ≤ x → PW E G M k n (pc + 3) ll st) : PW E G M k n pc ll (vI x :: st) := by
  obtain ⟨⟨l, D, cA, B0⟩, p, e, R, s, m, args, below, meth, c, Q⟩ := E
  obtain ⟨hx, hb, hml, hown, hlocks, htb, hR, hK⟩ := C
  intro H locs ls h1 h2 h3
  have hq := i32_le (x := 0) (y := x) (by omega)
  exact lv_if_ge hx hb d ht (fun q => kt (hq.mp q) H locs ls h1 h2 h3) (fun q => kf (fun z => q (hq.mpr z)) H locs ls h1 h2 h3)
theorem pw_icmp_gt (C : Cx E cc nL own tb R0) {x y off : Int} {tgt : Nat} (d : decode cc pc = .ok (.if_icmp .gt off, 3)) (ht : (pc : Int) + off = (tgt : Int)) (hr : (-2147483648 ≤ x ∧ x ≤ 2147483647) ∧ (-2147483648 ≤ y ∧ y ≤ 2147483647)) (kt : y < x → PW E G M k n tgt ll st) (kf : ¬ y < x → PW E G M k n (pc + 3) ll st) : PW E G M k n pc ll (vI y :: vI x :: st) := by
  obtain ⟨⟨l, D, cA, B0⟩, p, e, R, s, m, args, below, meth, c, Q⟩ := E
  obtain ⟨hx, hb, hml, hown, hlocks, htb, hR, hK⟩ := C
  intro H locs ls h1 h2 h3
  have hq := i32_lt (x := y) (y := x) ⟨hr.2, hr.1⟩
  exact lv_icmp_gt hx hb d ht (fun q => kt (hq.mp q) H locs ls h1 h2 h3) (fun q => kf (fun z => q (hq.mpr z)) H locs ls h1 h2 h3)
theorem pw_if_gt (C : Cx E cc nL own tb R0) {x off : Int} {tgt : Nat} (d : decode cc pc = .ok (.ifCond .gt off, 3)) (ht : (pc : Int) + off = (tgt : Int)) (hr : -2147483648 ≤ x ∧ x ≤ 2147483647) (kt : 0 < x → PW E G M k n tgt ll st) (kf : ¬ 0 < x → PW E G M k n (pc + 3) ll st) : PW E G M k n pc ll (vI x :: st) := by
  obtain ⟨⟨l, D, cA, B0⟩, p, e, R, s, m, args, below, meth, c, Q⟩ := E
  obtain ⟨hx, hb, hml, hown, hlocks, htb, hR, hK⟩ := C
  intro H locs ls h1 h2 h3
  have hq := i32_lt (x := 0) (y := x) (by omega)
  exact lv_if_gt hx hb d ht (fun q => kt (hq.mp q) H locs ls h1 h2 h3) (fun q => kf (fun z => q (hq.mpr z)) H locs ls h1 h2 h3)
theorem pw_icmp_le (C : Cx E cc nL own tb R0) {x y off : Int} {tgt : Nat} (d : decode cc pc = .ok (.if_icmp .le off, 3)) (ht : (pc : Int) + off = (tgt : Int)) (hr : (-2147483648 ≤ x ∧ x ≤ 2147483647) ∧ (-2147483648 ≤ y ∧ y ≤ 2147483647)) (kt : x ≤ y → PW E G M k n tgt ll st) (kf : ¬ x ≤ y → PW E G M k n (pc + 3) ll st) : PW E G M k n pc ll (vI y :: vI x :: st) := by
  obtain ⟨⟨l, D, cA, B0⟩, p, e, R, s, m, args, below, meth, c, Q⟩ := E
  obtain ⟨hx, hb, hml, hown, hlocks, htb, hR, hK⟩ := C
  intro H locs ls h1 h2 h3
  have hq := i32_le (x := x) (y := y) hr
  exact lv_icmp_le hx hb d ht (fun q => kt (hq.mp q) H locs ls h1 h2 h3) (fun q => kf (fun z => q (hq.mpr z)) H locs ls h1 h2 h3)
theorem pw_if_le (C : Cx E cc nL own tb R0) {x off : Int} {tgt : Nat} (d : decode cc pc = .ok (.ifCond .le off, 3)) (ht : (pc : Int) + off = (tgt : Int)) (hr : -2147483648 ≤ x ∧ x ≤ 2147483647) (kt : x ≤ 0 → PW E G M k n tgt ll st) (kf : ¬ x ≤ 0 → PW E G M k n (pc + 3) ll st) : PW E G M k n pc ll (vI x :: st) := by
  obtain ⟨⟨l, D, cA, B0⟩, p, e, R, s, m, args, below, meth, c, Q⟩ := E
  obtain ⟨hx, hb, hml, hown, hlocks, htb, hR, hK⟩ := C
  intro H locs ls h1 h2 h3
  have hq := i32_le (x := x) (y := 0) (by omega)
  exact lv_if_le hx hb d ht (fun q => kt (hq.mp q) H locs ls h1 h2 h3) (fun q => kf (fun z => q (hq.mpr z)) H locs ls h1 h2 h3)
theorem pw_acmp_eq (C : Cx E cc nL own tb R0) {x y off : Int} {tgt : Nat} (d : decode cc pc = .ok (.if_acmp .eq off, 3)) (ht : (pc : Int) + off = (tgt : Int)) (hr : 0 ≤ x ∧ 0 ≤ y) (kt : x = y → PW E G M k n tgt ll st) (kf : ¬ x = y → PW E G M k n (pc + 3) ll st) : PW E G M k n pc ll (vR y :: vR x :: st) := by
  obtain ⟨⟨l, D, cA, B0⟩, p, e, R, s, m, args, below, meth, c, Q⟩ := E
  obtain ⟨hx, hb, hml, hown, hlocks, htb, hR, hK⟩ := C
  intro H locs ls h1 h2 h3
  have hq : oI x = oI y ↔ x = y := by
    have a1 : ¬ x < 0 := by omega
    have a2 : ¬ y < 0 := by omega
    simp only [oI, a1, a2, if_false, Option.some.injEq]
    omega
  exact lv_acmp_eq hx hb d ht (fun q => kt (hq.mp q) H locs ls h1 h2 h3) (fun q => kf (fun z => q (hq.mpr z)) H locs ls h1 h2 h3)
theorem pw_acmp_ne (C : Cx E cc nL own tb R0) {x y off : Int} {tgt : Nat} (d : decode cc pc = .ok (.if_acmp .ne off, 3)) (ht : (pc : Int) + off = (tgt : Int)) (hr : 0 ≤ x ∧ 0 ≤ y) (kt : ¬ x = y → PW E G M k n tgt ll st) (kf : x = y → PW E G M k n (pc + 3) ll st) : PW E G M k n pc ll (vR y :: vR x :: st) := by
  obtain ⟨⟨l, D, cA, B0⟩, p, e, R, s, m, args, below, meth, c, Q⟩ := E
  obtain ⟨hx, hb, hml, hown, hlocks, htb, hR, hK⟩ := C
  intro H locs ls h1 h2 h3
  have hq : oI x = oI y ↔ x = y := by
    have a1 : ¬ x < 0 := by omega
    have a2 : ¬ y < 0 := by omega
    simp only [oI, a1, a2, if_false, Option.some.injEq]
    omega
  exact lv_acmp_ne hx hb d ht (fun q => kt (fun z => q (hq.mpr z)) H locs ls h1 h2 h3) (fun q => kf (hq.mp q) H locs ls h1 h2 h3)
theorem pw_swin (C : Cx E cc nL own tb R0) {dflt lo hi x off : Int} {offs : Array Int} {len tgt : Nat} (d : decode cc pc = .ok (.tableswitch dflt lo hi offs, len)) (hr : -2147483648 ≤ x ∧ x ≤ 2147483647) (h1' : lo ≤ x) (h2' : x ≤ hi) (ho : offs[(x - lo).toNat]? = some off) (ht : (pc : Int) + off = (tgt : Int)) (kk : PW E G M k n tgt ll st) : PW E G M k n pc ll (vI x :: st) := by
  obtain ⟨⟨l, D, cA, B0⟩, p, e, R, s, m, args, below, meth, c, Q⟩ := E
  obtain ⟨hx, hb, hml, hown, hlocks, htb, hR, hK⟩ := C
  intro H locs ls h1 h2 h3
  exact lv_tableIn (x := Int32.ofInt x) hx hb d (by rw [i32_toInt hr.1 hr.2]; omega) (by rw [i32_toInt hr.1 hr.2]; omega) (by rw [i32_toInt hr.1 hr.2]; exact ho) ht (kk H locs ls h1 h2 h3)
theorem pw_swout (C : Cx E cc nL own tb R0) {dflt lo hi x : Int} {offs : Array Int} {len tgt : Nat} (d : decode cc pc = .ok (.tableswitch dflt lo hi offs, len)) (hr : -2147483648 ≤ x ∧ x ≤ 2147483647) (h : x < lo ∨ hi < x) (ht : (pc : Int) + dflt = (tgt : Int)) (kk : PW E G M k n tgt ll st) : PW E G M k n pc ll (vI x :: st) := by
  obtain ⟨⟨l, D, cA, B0⟩, p, e, R, s, m, args, below, meth, c, Q⟩ := E
  obtain ⟨hx, hb, hml, hown, hlocks, htb, hR, hK⟩ := C
  intro H locs ls h1 h2 h3
  exact lv_tableOut (x := Int32.ofInt x) hx hb d (by rw [i32_toInt hr.1 hr.2]; exact h) ht (kk H locs ls h1 h2 h3)
theorem pw_top {v v' : Value} (h : v = v') (kk : PW E G M k n pc ll (v' :: st)) : PW E G M k n pc ll (v :: st) := by rw [h]; exact kk
theorem pw_locs {ll' : List LE} (h : subL ll' ll) (kk : PW E G M k n pc ll' st) : PW E G M k n pc ll st := by
  obtain ⟨⟨l, D, cA, B0⟩, p, e, R, s, m, args, below, meth, c, Q⟩ := E
  intro H locs ls h1 h2 h3
  exact kk H locs ls h1 h2 (h3.sub h)
theorem pw_widen {k' n' : Nat} (h : k ≤ k') (h' : n ≤ n') (kk : PW E G M k' n' pc ll st) : PW E G M k n pc ll st := by
  obtain ⟨⟨l, D, cA, B0⟩, p, e, R, s, m, args, below, meth, c, Q⟩ := E
  intro H locs ls h1 h2 h3
  exact W.widen h h' (kk H locs ls h1 h2 h3)
theorem pw_mem {G' M' : Mm} (h : G = G') (h' : M = M') (kk : PW E G' M' k n pc ll st) : PW E G M k n pc ll st := by rw [h, h']; exact kk
theorem pw_iret (C : Cx E cc nL own tb R0) {Post : Option Value → Mm → Mm → Prop} {mc ms : Nat} {x : Int} (hr : Rt E Post (some .int) mc ms) (d : decode cc pc = .ok (.ireturn, 1)) (hp : Post (some (vI x)) G M) (hk : k ≤ mc) (hn : n ≤ ms) : PW E G M k n pc ll [vI x] := by
  obtain ⟨⟨l, D, cA, B0⟩, p, e, R, s, m, args, below, meth, c, Q⟩ := E
  obtain ⟨hx, hb, hml, hown, hlocks, htb, hR, hK⟩ := C
  intro H locs ls h1 h2 h3
  obtain ⟨hr1, hr2⟩ := hr
  refine W.widen hk hn (hr2 _ _ _ ?_)
  exact W.iret (v := Int32.ofInt x) hx hb hr1 (fun t ht hW => ⟨⟨_, G, M, rfl, hp, by rw [ht]; exact h1⟩, h2.F ht⟩) h2.2.2 d hlocks
theorem pw_zret (C : Cx E cc nL own tb R0) {Post : Option Value → Mm → Mm → Prop} {mc ms : Nat} {x : Int} (hr : Rt E Post (some .boolean) mc ms) (d : decode cc pc = .ok (.ireturn, 1)) (hx01 : x = 0 ∨ x = 1) (hp : Post (some (vI x)) G M) (hk : k ≤ mc) (hn : n ≤ ms) : PW E G M k n pc ll [vI x] := by
  obtain ⟨⟨l, D, cA, B0⟩, p, e, R, s, m, args, below, meth, c, Q⟩ := E
  obtain ⟨hx, hb, hml, hown, hlocks, htb, hR, hK⟩ := C
  intro H locs ls h1 h2 h3
  obtain ⟨hr1, hr2⟩ := hr
  refine W.widen hk hn (hr2 _ _ _ ?_)
  exact W.zret (v := Int32.ofInt x) hx hb hr1 (by rcases hx01 with rfl | rfl <;> rfl) (fun t ht hW => ⟨⟨_, G, M, rfl, hp, by rw [ht]; exact h1⟩, h2.F ht⟩) h2.2.2 d hlocks
theorem pw_vret (C : Cx E cc nL own tb R0) {Post : Option Value → Mm → Mm → Prop} {mc ms : Nat} (hr : Rt E Post (none) mc ms) (d : decode cc pc = .ok (.return_, 1)) (hp : Post (none) G M) (hk : k ≤ mc) (hn : n ≤ ms) : PW E G M k n pc ll [] := by
  obtain ⟨⟨l, D, cA, B0⟩, p, e, R, s, m, args, below, meth, c, Q⟩ := E
  obtain ⟨hx, hb, hml, hown, hlocks, htb, hR, hK⟩ := C
  intro H locs ls h1 h2 h3
  obtain ⟨hr1, hr2⟩ := hr
  refine W.widen hk hn (hr2 _ _ _ ?_)
  exact W.vret hx hb hr1 (fun t ht hW => ⟨⟨_, G, M, rfl, hp, by rw [ht]; exact h1⟩, h2.F ht⟩) h2.2.2 d hlocks
theorem pw_lret (C : Cx E cc nL own tb R0) {Post : Option Value → Mm → Mm → Prop} {mc ms : Nat} {x : Int} (hr : Rt E Post (some .long) mc ms) (d : decode cc pc = .ok (.lreturn, 1)) (hp : Post (some (vL x)) G M) (hk : k ≤ mc) (hn : n ≤ ms) : PW E G M k n pc ll [vL x] := by
  obtain ⟨⟨l, D, cA, B0⟩, p, e, R, s, m, args, below, meth, c, Q⟩ := E
  obtain ⟨hx, hb, hml, hown, hlocks, htb, hR, hK⟩ := C
  intro H locs ls h1 h2 h3
  obtain ⟨hr1, hr2⟩ := hr
  refine W.widen hk hn (hr2 _ _ _ ?_)
  exact W.lret (v := Int64.ofInt x) hx hb hr1 (fun t ht hW => ⟨⟨_, G, M, rfl, hp, by rw [ht]; exact h1⟩, h2.F ht⟩) h2.2.2 d hlocks
theorem pw_dret (C : Cx E cc nL own tb R0) {Post : Option Value → Mm → Mm → Prop} {mc ms : Nat} {x : UInt64} (hr : Rt E Post (some .double) mc ms) (d : decode cc pc = .ok (.dreturn, 1)) (hp : Post (some (.double x)) G M) (hk : k ≤ mc) (hn : n ≤ ms) : PW E G M k n pc ll [.double x] := by
  obtain ⟨⟨l, D, cA, B0⟩, p, e, R, s, m, args, below, meth, c, Q⟩ := E
  obtain ⟨hx, hb, hml, hown, hlocks, htb, hR, hK⟩ := C
  intro H locs ls h1 h2 h3
  obtain ⟨hr1, hr2⟩ := hr
  refine W.widen hk hn (hr2 _ _ _ ?_)
  exact W.dret (v := x) hx hb hr1 (fun t ht hW => ⟨⟨_, G, M, rfl, hp, by rw [ht]; exact h1⟩, h2.F ht⟩) h2.2.2 d hlocks
theorem pw_aret (C : Cx E cc nL own tb R0) {Post : Option Value → Mm → Mm → Prop} {mc ms : Nat} {x : Int} {rt : FieldType} (hr : Rt E Post (some rt) mc ms) (d : decode cc pc = .ok (.areturn, 1)) (hrt : (∃ n, rt = .object n) ∨ ∃ t, rt = .array t) (hp : Post (some (vR x)) G M) (hk : k ≤ mc) (hn : n ≤ ms) : PW E G M k n pc ll [vR x] := by
  obtain ⟨⟨l, D, cA, B0⟩, p, e, R, s, m, args, below, meth, c, Q⟩ := E
  obtain ⟨hx, hb, hml, hown, hlocks, htb, hR, hK⟩ := C
  intro H locs ls h1 h2 h3
  obtain ⟨hr1, hr2⟩ := hr
  refine W.widen hk hn (hr2 _ _ _ ?_)
  exact W.aret (v := vR x) hx hb hr1 hrt (by by_cases hn : x < 0; exact Or.inl (vR_neg hn); exact Or.inr ⟨_, vR_pos (by omega)⟩) (fun t ht hW => ⟨⟨_, G, M, rfl, hp, by rw [ht]; exact h1⟩, h2.F ht⟩) h2.2.2 d hlocks
end Rows1
