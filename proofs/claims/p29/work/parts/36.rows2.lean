/-! ===== rows for the property's law: remainders, the script, rows of rows ===== -/
theorem vr_outer (c : ClassId) (N h0 : Nat) : ∀ i : Nat, Jvm.Free.Multi.outerC c N h0 i = arrV c N (fun j => va_rf (if j < i then some (h0 + 1 + j) else none))
  | 0 => by
    show ({ cls := c, slots := Array.replicate N .null, vm := .none } : Cell) = _
    rw [arrV_new]
    refine congrArg (arrV c N) (funext fun j => ?_)
    simp [va_rf]
  | i + 1 => by
    show (Jvm.Free.Multi.outerC c N h0 i).setSlot i (.ref (h0 + 1 + i)) = _
    rw [vr_outer c N h0 i, arrV_store]
    refine congrArg (arrV c N) (funext fun j => ?_)
    by_cases e : j = i
    · subst e
      simp [updV, va_rf]
    · by_cases h : j < i
      · simp [updV, e, h, Nat.lt_succ_of_lt h]
      · simp [updV, e, h, show ¬ j < i + 1 by omega]
def scB (X : Xv) : Int := ((X.2.1.2 99 0 : Nat) : Int)
def scL (X : Xv) : Int := ((X.2.1.2 99 1 : Nat) : Int)
theorem scB_ref {X : Xv} : vR (scB X) = .ref (X.2.1.2 99 0) := by
  unfold scB
  rw [vR_pos (by omega), Int.toNat_natCast]
/-- new int[n][len]: the outer at the heap's end, its rows behind it -/
def mG (G : Mm) (n len : Int) : Mm := fun b x y => if b = 0 ∧ x = G 4 0 0 then 106 else if b = 1 ∧ x = G 4 0 0 then n else if b = 0 ∧ G 4 0 0 < x ∧ x ≤ G 4 0 0 + n then 100 else if b = 1 ∧ G 4 0 0 < x ∧ x ≤ G 4 0 0 + n then len else if b = 3 ∧ x = G 4 0 0 then (if 0 ≤ y ∧ y < n then G 4 0 0 + 1 + y else -1) else if b = 4 ∧ x = 0 ∧ y = 0 then G 4 0 0 + 1 + n else G b x y
def mM (G M : Mm) (n : Int) : Mm := fun b x y => if b = 1 ∧ G 4 0 0 < x ∧ x ≤ G 4 0 0 + n then 0 else M b x y
theorem mG_0 {G : Mm} {n len y : Int} : mG G n len 0 (G 4 0 0) y = 106 := by simp [mG]
theorem mG_1 {G : Mm} {n len y : Int} : mG G n len 1 (G 4 0 0) y = n := by simp [mG]
theorem mG_0r {G : Mm} {n len x y : Int} (h : G 4 0 0 < x ∧ x ≤ G 4 0 0 + n) : mG G n len 0 x y = 100 := by
  have e : ¬ x = G 4 0 0 := by omega
  simp [mG, e, h]
theorem mG_1r {G : Mm} {n len x y : Int} (h : G 4 0 0 < x ∧ x ≤ G 4 0 0 + n) : mG G n len 1 x y = len := by
  have e : ¬ x = G 4 0 0 := by omega
  simp [mG, e, h]
theorem mG_3 {G : Mm} {n len y : Int} : mG G n len 3 (G 4 0 0) y = if 0 ≤ y ∧ y < n then G 4 0 0 + 1 + y else -1 := by simp [mG]
theorem mG_4 {G : Mm} {n len : Int} : mG G n len 4 0 0 = G 4 0 0 + 1 + n := by simp [mG]
theorem mM_r {G M : Mm} {n x y : Int} (h : G 4 0 0 < x ∧ x ≤ G 4 0 0 + n) : mM G M n 1 x y = 0 := by simp [mM, h]
theorem agr_m {G M : Mm} {n len a : Int} (h : a < G 4 0 0 ∨ G 4 0 0 + n < a) (hn : 0 ≤ n) : agr G M (mG G n len) (mM G M n) a := by
  have e0 : ¬ a = G 4 0 0 := by omega
  have e1 : ¬ (G 4 0 0 < a ∧ a ≤ G 4 0 0 + n) := by omega
  refine ⟨?_, ?_, fun f => ?_, fun j => ?_, fun f => ?_, fun j => ?_⟩
  · unfold mG
    rw [if_neg (by omega), if_neg (by omega), if_neg (by omega), if_neg (by omega), if_neg (by omega), if_neg (by omega)]
  · unfold mG
    rw [if_neg (by omega), if_neg (by omega), if_neg (by omega), if_neg (by omega), if_neg (by omega), if_neg (by omega)]
  · unfold mG
    rw [if_neg (by omega), if_neg (by omega), if_neg (by omega), if_neg (by omega), if_neg (by omega), if_neg (by omega)]
  · unfold mG
    rw [if_neg (by omega), if_neg (by omega), if_neg (by omega), if_neg (by omega), if_neg (by omega), if_neg (by omega)]
  · unfold mM
    rw [if_neg (by omega)]
  · unfold mM
    rw [if_neg (by omega)]
theorem HR.mna {D : va_G} {cA : Nat → ClassId} {B0 : Nat} {G M : Mm} {H H1 : Heap} (h : HR D cA B0 G M H) {n len : Int} (hn : 0 ≤ n) (hl : 0 ≤ len ∧ len ≤ 100000) (hn9 : n ≤ 100000) (hz : (H1.size : Int) = H.size + 1 + n) (ho : ∀ q : Nat, q < H.size → H1[q]? = H[q]?)
    (hout : H1[H.size]? = some (arrV (cA 6) n.toNat (fun j => va_rf (if j < n.toNat then some (H.size + 1 + j) else none)))) (hin : ∀ j : Nat, (j : Int) < n → H1[H.size + 1 + j]? = some (arrV (cA 0) len.toNat (fun _ => .int 0))) : HR D cA B0 (mG G n len) (mM G M n) H1 := by
  have hs := h.2.1
  refine ⟨fun b hb => ?_, by rw [mG_4, hz, hs], by rw [mG_4]; have := h.2.2; omega⟩
  by_cases e : b = G 4 0 0
  · subst e
    refine ⟨Or.inl h.2.2, by omega, fun ci hc hk => ?_, fun t ht hk => ?_, fun hk => ?_⟩
    · rw [mG_0] at hk; omega
    · rw [mG_0] at hk
      have : t = 6 := by omega
      subst this
      rw [mG_1]
      refine ⟨hn, by omega, ?_⟩
      rw [hs, Int.toNat_natCast, hout]
      refine congrArg some (congrArg (arrV (cA 6) n.toNat) (funext fun j => ?_))
      have e1 : ¬ (6 : Nat) < 2 := by omega
      have e2 : ¬ (6 : Nat) = 2 := by omega
      simp only [avx, e1, e2, if_false]
      rw [← hs, mG_3]
      by_cases hj : (j : Int) < n
      · rw [if_pos (by omega), if_pos ⟨by omega, hj⟩, vR_pos (by omega)]
        show Value.ref _ = Value.ref _
        exact congrArg Value.ref (show (H.size + 1 + j : Nat) = (G 4 0 0 + 1 + (j : Int)).toNat by omega)
      · rw [if_neg (by omega), if_neg (by omega), vR_neg (by omega)]
        rfl
    · rw [mG_0] at hk; omega
  · by_cases e1 : G 4 0 0 < b ∧ b ≤ G 4 0 0 + n
    · have h2 := h.2.2
      refine ⟨Or.inl (by omega), by omega, fun ci hc hk => ?_, fun t ht hk => ?_, fun hk => ?_⟩
      · rw [mG_0r e1] at hk; omega
      · rw [mG_0r e1] at hk
        have : t = 0 := by omega
        subst this
        rw [mG_1r e1]
        refine ⟨hl.1, by omega, ?_⟩
        have q := hin (b - G 4 0 0 - 1).toNat (by omega)
        rw [show H.size + 1 + (b - G 4 0 0 - 1).toNat = b.toNat by omega] at q
        rw [q]
        refine congrArg some (congrArg (arrV (cA 0) len.toNat) (funext fun j => ?_))
        simp only [avx, show (0 : Nat) < 2 by omega, if_true, mM_r e1]
        rfl
      · rw [mG_0r e1] at hk; omega
    · have g := agr_m (G := G) (M := M) (n := n) (len := len) (a := b) (by omega) hn
      have hb' : G 0 b 0 ≠ 0 := by rw [← g.1]; exact hb
      obtain ⟨q1, q2, q3⟩ := h.1 b hb'
      have hbn := h.nn hb'
      rw [g.1]
      exact ⟨q1, by omega, q3.kept (ho _ (by omega)) g⟩
section RowsL
variable {E : Ev} {cc : ByteArray} {nL : Nat} {own : String} {tb : List ExceptionTableEntry} {R0 : Room} {G M : Mm} {k n pc : Nat} {ll : List LE} {st : List Value}
theorem pw_irem (C : Cx E cc nL own tb R0) {x y : Int32} (d : decode cc pc = .ok (.irem, 1)) (hne : ¬ y = 0) (kk : PW E G M k n (pc + 1) ll (.int (x - x / y * y) :: st)) : PW E G M k n pc ll (.int y :: .int x :: st) := by
  obtain ⟨⟨l, D, cA, B0⟩, p, e, R, s, m, args, below, meth, c, Q⟩ := E
  obtain ⟨hx, hb, hml, hown, hlocks, htb, hR, hK⟩ := C
  intro H locs ls h1 h2 h3
  exact lv_irem hx hb d hne (kk H locs ls h1 h2 h3)
theorem pw_idiv (C : Cx E cc nL own tb R0) {x y : Int32} (d : decode cc pc = .ok (.idiv, 1)) (hne : ¬ y = 0) (kk : PW E G M k n (pc + 1) ll (.int (x / y) :: st)) : PW E G M k n pc ll (.int y :: .int x :: st) := by
  obtain ⟨⟨l, D, cA, B0⟩, p, e, R, s, m, args, below, meth, c, Q⟩ := E
  obtain ⟨hx, hb, hml, hown, hlocks, htb, hR, hK⟩ := C
  intro H locs ls h1 h2 h3
  exact lv_idiv hx hb d hne (kk H locs ls h1 h2 h3)
theorem pw_scl (C : Cx E cc nL own tb R0) {X : Xv} (hX : E.1 = X) {sb : Int} (hsb : scB X = sb) (d : decode cc pc = .ok (.arraylength, 1)) (kk : 0 ≤ scL X ∧ scL X ≤ 260 → PW E G M k n (pc + 1) ll (vI (scL X) :: st)) : PW E G M k n pc ll (vR sb :: st) := by
  subst hsb
  obtain ⟨⟨l, D, cA, B0⟩, p, e, R, s, m, args, below, meth, c, Q⟩ := E
  obtain ⟨hx, hb, hml, hown, hlocks, htb, hR, hK⟩ := C
  subst hX
  intro H locs ls h1 h2 h3
  have hKd : Kd D B0 s := hK.2.2.2.2.2.2.2
  obtain ⟨-, ⟨xs, hXs⟩, hlt, h260⟩ := hKd
  have hbl : D.2 99 0 < s.heap.size := by
    obtain ⟨scr, q1, -⟩ := hXs
    exact (Array.getElem?_eq_some_iff.mp q1).1
  have q := kk ⟨by unfold scL; omega, by unfold scL; show ((D.2 99 1 : Nat) : Int) ≤ 260; omega⟩ H locs ls h1 h2 h3
  rw [scB_ref]
  refine va_slen hx hb hXs hbl (Nat.not_le.mpr hlt) h2 d ?_
  have e2 : vI (scL (l, D, cA, B0)) = .int (Int32.ofNat (D.2 99 1)) := by
    show Value.int (Int32.ofInt ((D.2 99 1 : Nat) : Int)) = _
    rw [Int32.ofInt_eq_ofNat]
  rw [e2] at q
  exact q
theorem pw_scr (C : Cx E cc nL own tb R0) {X : Xv} (hX : E.1 = X) {sb i : Int} (hsb : scB X = sb) (d : decode cc pc = .ok (.iaload, 1)) (hi : 0 ≤ i ∧ i < scL X) (hi9 : i ≤ 100000) (kk : ∀ r, -2147483648 ≤ r ∧ r ≤ 2147483647 → PW E G M k n (pc + 1) ll (vI r :: st)) : PW E G M k n pc ll (vI i :: vR sb :: st) := by
  subst hsb
  obtain ⟨⟨l, D, cA, B0⟩, p, e, R, s, m, args, below, meth, c, Q⟩ := E
  obtain ⟨hx, hb, hml, hown, hlocks, htb, hR, hK⟩ := C
  subst hX
  intro H locs ls h1 h2 h3
  have hKd : Kd D B0 s := hK.2.2.2.2.2.2.2
  obtain ⟨-, ⟨xs, hXs⟩, hlt, h260⟩ := hKd
  have hbl : D.2 99 0 < s.heap.size := by
    obtain ⟨scr, q1, -⟩ := hXs
    exact (Array.getElem?_eq_some_iff.mp q1).1
  have hL : i < ((D.2 99 1 : Nat) : Int) := hi.2
  have q := kk (xs (Int32.ofInt i).toNatClampNeg).toInt ⟨Int32.le_toInt _, Int32.toInt_le _⟩ H locs ls h1 h2 h3
  rw [scB_ref]
  refine va_sld hx hb hXs hbl (Nat.not_le.mpr hlt) h2 (i32_vin hi.1 hL (by omega)) d ?_
  have e2 : vI (xs (Int32.ofInt i).toNatClampNeg).toInt = .int (xs (Int32.ofInt i).toNatClampNeg) := by
    show Value.int _ = _
    rw [i32_of]
  rw [e2] at q
  exact q
theorem pw_mna (C : Cx E cc nL own tb R0) {idx : Nat} {nn len : Int} (d : decode cc pc = .ok (.multianewarray idx 2, 4)) (hw : Cond.classLink own idx "[[I" ∈ lw_tbl) (hwi : Cond.arrayClass .int ∈ lw_tbl) (hn : 0 ≤ nn ∧ nn ≤ 1000) (hl : 0 ≤ len ∧ len ≤ 1000) {N K : Nat} (hN : nn = (N : Int)) (hK9 : len = (K : Int)) (hcells : k + (1 + N) ≤ R0.cells) (hslots : n + (N + N * K) ≤ R0.slots) (kk : PW E (mG G nn len) (mM G M nn) (k + 1 + N) (n + N + N * K) (pc + 4) ll (vR (G 4 0 0) :: st)) : PW E G M k n pc ll (vI len :: vI nn :: st) := by
  obtain ⟨⟨l, D, cA, B0⟩, p, e, R, s, m, args, below, meth, c, Q⟩ := E
  obtain ⟨hx, hb, hml, hown, hlocks, htb, hR, hK⟩ := C
  subst hR
  intro H locs ls h1 h2 h3
  have hKd : Kd D B0 s := hK.2.2.2.2.2.2.2
  have hs := h1.2.1
  have hc1 := i32_clamp hn.1 (show nn ≤ 2147483647 by omega)
  have hc2 := i32_clamp hl.1 (show len ≤ 2147483647 by omega)
  have eN : nn.toNat = N := by omega
  have eK : len.toNat = K := by omega
  rw [eN] at hc1
  rw [eK] at hc2
  have hneg : ∀ z : Int, 0 ≤ z → z ≤ 1000 → ¬ Int32.ofInt z < 0 := fun z z1 z2 q => by
    have q2 : Int32.ofInt z < Int32.ofInt 0 := q
    rw [i32_lt (by omega)] at q2
    omega
  have hover : (Cond.arrayOver (.array .int)).before args s = true := Jvm.Stand.arrayOver_alikeB (State.WarmedH.refl s).alike hKd.1
  intro T hT Xs
  obtain ⟨vm₁, cA', comp, -, fA, fC, -, -, X', step⟩ := Xs.multianewarray2F hx hown (kw (args := args) hK hw rfl) hover (kw (args := args) hK hwi rfl) (g := F0 m pc ls (vI len :: vI nn :: st)) rfl (by rw [hb]; exact d) (n := Int32.ofInt nn) (k := Int32.ofInt len) rfl (hneg _ hn.1 hn.2) (hneg _ hl.1 hl.2)
    (by rw [hc1]; omega) (by rw [hc2]; exact Nat.le_trans (Nat.mul_le_mul (show K ≤ 1000 by omega) (Nat.le_refl _)) (by decide)) (by rw [hc2]; omega) rfl rfl (by rw [hc1]; exact hcells) (by rw [hc1, hc2]; exact hslots)
  have r6 : s.vm.findClass ("[" ++ (FieldType.array .int).toString) = some (cA 6) := (hK.2.1.2 6 _ rfl).2
  have r0 : s.vm.findClass ("[" ++ FieldType.int.toString) = some (cA 0) := (hK.2.1.2 0 _ rfl).2
  have hA : cA' = cA 6 := Option.some.inj (fA.symm.trans r6)
  have hC : comp = cA 0 := Option.some.inj (fC.symm.trans r0)
  subst hA hC
  rw [hc1, hc2] at X' step
  generalize hF : Jvm.Free.Multi.fill (T.setVm vm₁) (cA 6) (cA 0) N K (defaultValue .int) N = F at X' step
  have hTh : (T.setVm vm₁).heap = H := hT
  obtain ⟨f1, f2, -, -⟩ := Jvm.Free.Multi.fill_facts (T.setVm vm₁) (cA 6) (cA 0) N K (defaultValue .int) N
  rw [hF, hTh] at f1 f2
  have hold : ∀ x : Nat, x < H.size → F.heap[x]? = H[x]? := fun x hx9 => by
    have := Jvm.Free.Multi.fill_old (T.setVm vm₁) (cA 6) (cA 0) N K (defaultValue .int) (a := x) (by rw [hTh]; exact hx9) N
    rw [hF, hTh] at this
    exact this
  have hrow : ∀ j : Nat, j < N → F.heap[H.size + 1 + j]? = some (arrV (cA 0) K (fun _ => .int 0)) := fun j hj => by
    have := Jvm.Free.Multi.fill_inner (T.setVm vm₁) (cA 6) (cA 0) N K (defaultValue .int) N j hj
    rw [hF, hTh] at this
    rw [this]
    show some ({ cls := cA 0, slots := Array.replicate K (.int 0), vm := .none } : Cell) = _
    rw [arrV_new]
  rw [vr_outer] at f2
  have hH := h1.mna (n := nn) (len := len) (H1 := F.heap) hn.1 ⟨hl.1, by omega⟩ (by omega) (by rw [f1]; omega) hold (by rw [eN]; exact f2) (fun j hj => by rw [eK]; exact hrow j (by omega))
  obtain ⟨t, a1, b1⟩ := kk F.heap locs ls hH ⟨by rw [f1]; have := h2.1; omega, fun x q1 q2 => (hold x (Nat.lt_of_lt_of_le q1 h2.1)).trans (h2.2.1 x q1 q2), h2.2.2⟩ h3 F rfl X'
  refine ⟨t, step t ?_, b1⟩
  rw [vR_pos (by omega), hs, Int.toNat_natCast] at a1
  have e9 : T.heap.size = H.size := by rw [hT]
  rw [e9]
  exact a1
theorem pw_dcmpE (C : Cx E cc nL own tb R0) {x y : UInt64} {op : CmpOp} {r : Int} (d : decode cc pc = .ok (.dcmp op, 1)) (hr : Op.cmpValue (FP.dcmp x y) op = Int32.ofInt r) (kk : PW E G M k n (pc + 1) ll (vI r :: st)) : PW E G M k n pc ll (.double y :: .double x :: st) := by
  refine pw_dcmp C d ?_
  rw [hr]
  exact kk
theorem pw_lcmp0 (C : Cx E cc nL own tb R0) {x y : Int} (d : decode cc pc = .ok (.lcmp, 1)) (h : x = y) (kk : PW E G M k n (pc + 1) ll (vI 0 :: st)) : PW E G M k n pc ll (vL y :: vL x :: st) := by
  refine pw_lcmp C d ?_
  subst h
  have e : lg_cmp (Int64.ofInt x) (Int64.ofInt x) = Int32.ofInt 0 := by
    unfold lg_cmp
    rw [if_neg (by show ¬ (Int64.ofInt x < Int64.ofInt x); exact Int64.lt_irrefl), if_pos rfl]
    rfl
  rw [e]
  exact kk
theorem pw_newZ (C : Cx E cc nL own tb R0) {len : Int} (hw : Cond.arrayClass .boolean ∈ lw_tbl) (d : decode cc pc = .ok (.newarray .boolean, 2)) (hl : 0 ≤ len ∧ len ≤ 100000) {ks : Nat} (hks' : len = (ks : Int)) (hkc : k + 1 ≤ R0.cells) (hks : n + ks ≤ R0.slots) (kk : PW E (nG G 101 len) (nM G M) (k + 1) (n + ks) (pc + 2) ll (vR (G 4 0 0) :: st)) : PW E G M k n pc ll (vI len :: st) :=
  pw_newa (t := 1) C d hw (by decide) (fun _ => rfl) (fun _ _ => rfl) rfl hl (by decide) hks' hkc hks kk
theorem pw_zastG (C : Cx E cc nL own tb R0) {a i x len : Int} (d : decode cc pc = .ok (.bastore, 1)) (hk : AZ G a len) (hi : 0 ≤ i ∧ i < len) (hx01 : x = 0 ∨ x = 1) (kk : ∀ M1, M1 = mup M 1 a i x → PW E G M1 k n (pc + 1) ll st) : PW E G M k n pc ll (vI x :: vI i :: vR a :: st) :=
  pw_zastE C d hk hi hx01 (kk _ rfl)
end RowsL
/-! the law's own numbers -/
def shr (x k : Int) : Int := (Int32.ofInt x >>> (Int32.ofInt k &&& 31)).toInt
theorem shr_v {x k : Int} : Value.int (Int32.ofInt x >>> (Int32.ofInt k &&& 31)) = vI (shr x k) := by
  show _ = Value.int (Int32.ofInt (Int32.toInt _))
  rw [i32_of]
def bw (x n : Int) : Int := ((Int32.ofInt x &&& Int32.ofInt 2147483647) - (Int32.ofInt x &&& Int32.ofInt 2147483647) / Int32.ofInt n * Int32.ofInt n).toInt
theorem bw_v {x n : Int} : Value.int ((Int32.ofInt x &&& Int32.ofInt 2147483647) - (Int32.ofInt x &&& Int32.ofInt 2147483647) / Int32.ofInt n * Int32.ofInt n) = vI (bw x n) := by
  show _ = Value.int (Int32.ofInt (Int32.toInt _))
  rw [i32_of]
theorem and_nn (x : Int32) : 0 ≤ (x &&& Int32.ofInt 2147483647).toInt := by
  rw [← Int32.toInt_toBitVec, Int32.toBitVec_and]
  refine BitVec.toInt_nonneg_of_msb_false ?_
  rw [BitVec.msb_and]
  have : (Int32.toBitVec (Int32.ofInt 2147483647)).msb = false := by decide
  rw [this, Bool.and_false]
theorem bw_bd {x n : Int} (hn : 1 ≤ n ∧ n ≤ 100000) : 0 ≤ bw x n ∧ bw x n < n := by
  unfold bw
  have h0 := and_nn (Int32.ofInt x)
  generalize Int32.ofInt x &&& Int32.ofInt 2147483647 = a at h0
  have h1 : a.toInt < 2147483648 := Int32.toInt_lt a
  have en : (Int32.ofInt n).toInt = n := i32_toInt (by omega) (by omega)
  have hne : Int32.ofInt n ≠ -1 := by
    intro e
    have := congrArg Int32.toInt e
    rw [en] at this
    have z : (-1 : Int32).toInt = -1 := by decide
    omega
  have hd : (a / Int32.ofInt n).toInt = a.toInt / n := by
    rw [Int32.toInt_div_of_ne_right _ _ hne, en, Int.tdiv_eq_ediv_of_nonneg h0]
  have q0 : 0 ≤ a.toInt / n := Int.ediv_nonneg h0 (by omega)
  have q1 : a.toInt / n * n ≤ a.toInt := Int.ediv_mul_le _ (by omega)
  have q2 : a.toInt < (a.toInt / n + 1) * n := Int.lt_ediv_add_one_mul_self _ (by omega)
  have q3 : 0 ≤ a.toInt / n * n := Int.mul_nonneg q0 (by omega)
  have hm : (a / Int32.ofInt n * Int32.ofInt n).toInt = a.toInt / n * n := by
    rw [Int32.toInt_mul, hd, en]
    exact Int.bmod_eq_of_le (by omega) (by omega)
  have hsb : (a - a / Int32.ofInt n * Int32.ofInt n).toInt = a.toInt - a.toInt / n * n := by
    rw [Int32.toInt_sub, hm]
    exact Int.bmod_eq_of_le (by omega) (by omega)
  rw [hsb]
  have q4 : (a.toInt / n + 1) * n = a.toInt / n * n + n := by rw [Int.add_mul, Int.one_mul]
  omega
theorem half_6 {x : Int} (h : 0 ≤ x ∧ x < 6) : Value.int (Int32.ofInt x / Int32.ofInt 2) = vI (x / 2) := by
  rcases (show x = 0 ∨ x = 1 ∨ x = 2 ∨ x = 3 ∨ x = 4 ∨ x = 5 by omega) with rfl | rfl | rfl | rfl | rfl | rfl <;> rfl
theorem rem_16 {x : Int} (h : 0 ≤ x ∧ x ≤ 1000) : Value.int (Int32.ofInt x - Int32.ofInt x / Int32.ofInt 16 * Int32.ofInt 16) = vI (Int32.ofInt x - Int32.ofInt x / Int32.ofInt 16 * Int32.ofInt 16).toInt := by
  show _ = Value.int (Int32.ofInt (Int32.toInt _))
  rw [i32_of]
theorem rem_bd {x : Int} (h : 0 ≤ x ∧ x ≤ 1000) : 0 ≤ (Int32.ofInt x - Int32.ofInt x / Int32.ofInt 16 * Int32.ofInt 16).toInt ∧ (Int32.ofInt x - Int32.ofInt x / Int32.ofInt 16 * Int32.ofInt 16).toInt < 16 := by
  have ex : (Int32.ofInt x).toInt = x := i32_toInt (by omega) (by omega)
  have en : (Int32.ofInt 16).toInt = 16 := by decide
  have hd : (Int32.ofInt x / Int32.ofInt 16).toInt = x / 16 := by
    rw [Int32.toInt_div_of_ne_right _ _ (by decide), ex, en, Int.tdiv_eq_ediv_of_nonneg h.1]
  have hm : (Int32.ofInt x / Int32.ofInt 16 * Int32.ofInt 16).toInt = x / 16 * 16 := by
    rw [Int32.toInt_mul, hd, en]
    exact Int.bmod_eq_of_le (by omega) (by omega)
  rw [Int32.toInt_sub, hm, ex, Int.bmod_eq_of_le (by omega) (by omega)]
  omega
theorem and_b {p q : Prop} [Decidable p] [Decidable q] : Value.int (Int32.ofInt (bI p) &&& Int32.ofInt (bI q)) = vI (bI (p ∧ q)) := by
  by_cases hp : p <;> by_cases hq : q
  · rw [bI_t hp, bI_t hq, bI_t ⟨hp, hq⟩]; rfl
  · rw [bI_t hp, bI_f hq, bI_f (fun z => hq z.2)]; rfl
  · rw [bI_f hp, bI_t hq, bI_f (fun z => hp z.1)]; rfl
  · rw [bI_f hp, bI_f hq, bI_f (fun z => hp z.1)]; rfl
theorem and_01 {x y : Int} (hx : x = 0 ∨ x = 1) (hy : y = 0 ∨ y = 1) : Value.int (Int32.ofInt x &&& Int32.ofInt y) = vI (x * y) := by
  rcases hx with rfl | rfl <;> rcases hy with rfl | rfl <;> rfl
theorem wc_L_32 : Cond.classLink RL 32 "[[I" ∈ lw_tbl := List.mem_of_getElem? (i := 760) (by decide +kernel)
theorem wa_int : Cond.arrayClass .int ∈ lw_tbl := List.mem_of_getElem? (i := 97) (by decide +kernel)
theorem wa_bool : Cond.arrayClass .boolean ∈ lw_tbl := List.mem_of_getElem? (i := 694) (by decide +kernel)
