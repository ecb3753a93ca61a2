section Rows3
variable {E : Ev} {cc : ByteArray} {nL : Nat} {own : String} {tb : List ExceptionTableEntry} {R0 : Room} {G M : Mm} {k n pc : Nat} {ll : List LE} {st : List Value}
/-- kind K's class -/
def KC (K : Int) (Cn : String) : Prop := ∃ (ci : Nat) (T : u_T) (N : Nat), K = (ci : Int) + 1 ∧ vwCl[ci]? = some (Cn, T, N)
theorem HR.recv {D : va_G} {cA : Nat → ClassId} {B0 : Nat} {G M : Mm} {H : Heap} {l : Launch} {s : State} (hK : Ks (l, D, cA, B0) s) (h : HR D cA B0 G M H) {a K : Int} {Cn : String} (hc : KC K Cn) (hk : G 0 a 0 = K) : ∃ cell : Cell, H[a.toNat]? = some cell ∧ cell.vm.isStatics = false ∧ s.vm.findClass Cn = some cell.cls := by
  obtain ⟨ci, T, N, rfl, hr⟩ := hc
  obtain ⟨cell, q1, q2, q3, -⟩ := h.ob hr hk
  exact ⟨cell, q1, by rw [q3]; rfl, by rw [q2]; exact (hK.2.1.1 ci _ hr).2.1⟩
/-- a store of an object v into an array of references: of v's own class, or of Object with v's class castable -/
theorem pw_aast (C : Cx E cc nL own tb R0) {a i v : Int} {t : Nat} {Cn Cv : String} (d : decode cc pc = .ok (.aastore, 1)) (ht : 2 < t ∧ t < 8) (hk : G 0 a 0 = (t : Int) + 100) (hi : 0 ≤ i ∧ i < G 1 a 0) (hcn : ∀ cA, (tysL cA)[t]? = some (cA t, .object Cn)) (hkv : KC (G 0 v 0) Cv) (hcv : Cv = Cn ∨ Cond.castable Cv Cn ∈ lw_tbl) (kk : PW E (mup G 3 a i v) M k n (pc + 1) ll st) : PW E G M k n pc ll (vR v :: vI i :: vR a :: st) := by
  obtain ⟨⟨l, D, cA, B0⟩, p, e, R, s, m, args, below, meth, c, Q⟩ := E
  obtain ⟨hx, hb, hml, hown, hlocks, htb, hR, hK⟩ := C
  intro H locs ls h1 h2 h3
  have hnn : 0 ≤ a := h1.nn (by omega)
  have hlo : (B0 : Int) ≤ a := h1.lo (by omega) (by omega)
  obtain ⟨z1, z2, z3⟩ := h1.ar (a := a) (t := t) ht.2 hk
  obtain ⟨cv, g1, g2, g3⟩ := h1.recv hK hkv rfl
  have hnv : 0 ≤ v := h1.nn (by obtain ⟨ci, T, N, e, -⟩ := hkv; omega)
  obtain ⟨-, kA, comp, k1, k2, k3, -⟩ := hK.2.1.2 t _ (hcn cA)
  obtain ⟨kcomp, hkc, -⟩ := Vm.findClass_spec k3
  obtain ⟨kv, hkv', -⟩ := Vm.findClass_spec g3
  have hasg : s.vm.assignable cv.cls comp = true := by
    rcases hcv with rfl | hcv
    · have : cv.cls = comp := Option.some.inj (g3.symm.trans k3)
      rw [this]; exact va_asg _ _
    · obtain ⟨c1, c2, f1, f2, f3⟩ := Cond.castable_spec (kw (args := args) hK hcv rfl)
      cases g3.symm.trans f1
      cases k3.symm.trans f2
      exact f3
  have hin := i32_vin hi.1 (n := (G 1 a 0).toNat) (by omega) (by omega)
  rw [vR_pos hnn, vR_pos hnv]
  refine W.aast hx hb z3 (fun q h => by cases h) (fun h => by cases h) k1 k2 rfl hkc ⟨fun q => hin (Or.inl q), by rw [arrV_size, i32_clamp hi.1 (by omega)]; omega⟩ g1 (fun q h => by rw [h] at g2; cases g2) hkv' hasg rfl rfl d fun H1 e1 e2 e3 => ?_
  rw [i32_clamp hi.1 (by omega)] at e1
  have a1 : ¬ t < 2 := by omega
  have a2 : ¬ t = 2 := by omega
  exact kk H1 _ ls (ast_ok h1 (t := t) ht.2 hk hi e1 e2 e3 (by simp only [avx, a1, a2, if_false]; rw [mup_s, vR_pos hnv]) (fun j hj => by simp only [avx, a1, a2, if_false]; rw [mup_n (by omega)]) agr_G3 (mup_n (by omega)) (mup_n (by omega)) (mup_n (by omega))) (h2.put e2 e3 (show B0 ≤ a.toNat by omega)) h3
/-! new cells -/
def nG (G : Mm) (K len : Int) : Mm := fun b x y => if b = 0 ∧ x = G 4 0 0 then K else if b = 1 ∧ x = G 4 0 0 then len else if b = 2 ∧ y = G 4 0 0 then -1 else if b = 3 ∧ x = G 4 0 0 then -1 else if b = 4 ∧ x = 0 ∧ y = 0 then G 4 0 0 + 1 else G b x y
def nM (G M : Mm) : Mm := fun b x y => if b = 0 ∧ y = G 4 0 0 then 0 else if b = 1 ∧ x = G 4 0 0 then 0 else M b x y
theorem nG_kind {G : Mm} {K len y : Int} : nG G K len 0 (G 4 0 0) y = K := by simp [nG]
theorem nG_len {G : Mm} {K len y : Int} : nG G K len 1 (G 4 0 0) y = len := by simp [nG]
theorem nG_ref {G : Mm} {K len f : Int} : nG G K len 2 f (G 4 0 0) = -1 := by simp [nG]
theorem nG_elt {G : Mm} {K len j : Int} : nG G K len 3 (G 4 0 0) j = -1 := by simp [nG]
theorem nG_next {G : Mm} {K len : Int} : nG G K len 4 0 0 = G 4 0 0 + 1 := by simp [nG]
theorem nM_fld {G M : Mm} {f : Int} : nM G M 0 f (G 4 0 0) = 0 := by simp [nM]
theorem nM_elt {G M : Mm} {j : Int} : nM G M 1 (G 4 0 0) j = 0 := by simp [nM]
theorem nG_o0 {G : Mm} {K len a y : Int} (h : a ≠ G 4 0 0) : nG G K len 0 a y = G 0 a y := by simp [nG, h]
theorem nG_o1 {G : Mm} {K len a y : Int} (h : a ≠ G 4 0 0) : nG G K len 1 a y = G 1 a y := by simp [nG, h]
theorem nG_o2 {G : Mm} {K len f a : Int} (h : a ≠ G 4 0 0) : nG G K len 2 f a = G 2 f a := by simp [nG, h]
theorem nG_o3 {G : Mm} {K len a j : Int} (h : a ≠ G 4 0 0) : nG G K len 3 a j = G 3 a j := by simp [nG, h]
theorem nG_o5 {G : Mm} {K len b x y : Int} (h : 5 ≤ b) : nG G K len b x y = G b x y := by
  have h0 : ¬ b = 0 := by omega
  have h1 : ¬ b = 1 := by omega
  have h2 : ¬ b = 2 := by omega
  have h3 : ¬ b = 3 := by omega
  have h4 : ¬ b = 4 := by omega
  simp [nG, h0, h1, h2, h3, h4]
theorem nM_o0 {G M : Mm} {f a : Int} (h : a ≠ G 4 0 0) : nM G M 0 f a = M 0 f a := by simp [nM, h]
theorem nM_o1 {G M : Mm} {a j : Int} (h : a ≠ G 4 0 0) : nM G M 1 a j = M 1 a j := by simp [nM, h]
theorem agr_n {G M : Mm} {K len : Int} : ∀ a', a' ≠ G 4 0 0 → agr G M (nG G K len) (nM G M) a' := fun _ h =>
  ⟨nG_o0 h, nG_o1 h, fun _ => nG_o2 h, fun _ => nG_o3 h, fun _ => nM_o0 h, fun _ => nM_o1 h⟩
theorem dflt_ok : ∀ (ci : Nat) (r : vw_C), vwCl[ci]? = some r → ∀ j, j < r.2.2 → (parseFieldDescriptor (r.2.1 j).2.2.1).map defaultValue = some (if isRf (20 * (ci : Int) + (j : Int)) = true then Value.null else Value.int 0) := by
  intro ci r h
  match ci, h with
  | 0, h => cases h; decide +kernel
  | 1, h => cases h; decide +kernel
  | 2, h => cases h; decide +kernel
  | 3, h => cases h; decide +kernel
  | 4, h => cases h; decide +kernel
  | 5, h => cases h; decide +kernel
  | 6, h => cases h; decide +kernel
  | 7, h => cases h; decide +kernel
  | k + 8, h => simp [vwCl] at h
/-- class link at idx: objects of kind K, of N slots -/
def NL (own : String) (idx : Nat) (K : Int) (N : Nat) : Prop := ∃ (ci : Nat) (Cn : String) (T : u_T), K = (ci : Int) + 1 ∧ vwCl[ci]? = some (Cn, T, N) ∧ Cond.classLink own idx Cn ∈ lw_tbl ∧ Cond.instantiable Cn N ∈ lw_tbl ∧ Cond.initialized Cn ∈ lw_tbl
theorem pw_new (C : Cx E cc nL own tb R0) {idx N : Nat} {K : Int} (d : decode cc pc = .ok (.new idx, 3)) (hN : NL own idx K N) (hkc : k + 1 ≤ R0.cells) (hks : n + N ≤ R0.slots) (kk : PW E (nG G K 0) (nM G M) (k + 1) (n + N) (pc + 3) ll (vR (G 4 0 0) :: st)) : PW E G M k n pc ll st := by
  obtain ⟨⟨l, D, cA, B0⟩, p, e, R, s, m, args, below, meth, c, Q⟩ := E
  obtain ⟨hx, hb, hml, hown, hlocks, htb, hR, hK⟩ := C
  subst hR
  intro H locs ls h1 h2 h3
  obtain ⟨ci, Cn, T, rfl, hr, w1, w2, w3⟩ := hN
  have hKn := hK.2.1.1 ci _ hr
  have hs := h1.2.1
  have hbs := h1.2.2
  refine W.newcK hx hb hown (kw hK w1 rfl) (kw hK w2 rfl) (kw hK w3 rfl) rfl d hkc hks hKn.2.1 rfl fun H1 kC hkC e1 z1 o1 => ?_
  obtain ⟨ty0, hty, -⟩ := lay_ty ci _ hr
  have hob := u_born ty0 (klay (args := args) hK hr) (fun _ h => h) hKn hkC e1 hty
  have q := kk H1 locs ls (h1.new z1 o1 ⟨fun ci' hc' hk' => ?_, fun t ht hk' => ?_, fun hk' => ?_⟩ agr_n nG_next) ⟨by rw [z1]; exact Nat.le_trans h2.1 (Nat.le_succ _), fun q hq hq2 => (o1 q (Nat.lt_of_lt_of_le hq h2.1)).trans (h2.2.1 q hq hq2), h2.2.2⟩ h3
  · rw [vR_pos (by omega), hs] at q
    exact q
  · rw [nG_kind] at hk'
    have : ci' = ci := by omega
    subst this
    refine ⟨_, hr, ?_⟩
    rw [hs]
    refine hob.to fun j hj => ?_
    have h9 := dflt_ok ci' _ hr j hj
    rw [hty j hj] at h9
    have h10 : defaultValue (ty0 j) = _ := Option.some.inj h9
    rw [h10, ← hs]
    by_cases hf : isRf (20 * (ci' : Int) + (j : Int)) = true
    · simp only [fv, hf, if_true, nG_ref]; rfl
    · simp only [fv, hf, nM_fld]; rfl
  · rw [nG_kind] at hk'
    have := cls_lt hr
    omega
  · rw [nG_kind] at hk'
    have := cls_lt hr
    omega
theorem newa_ok {D : va_G} {cA : Nat → ClassId} {B0 : Nat} {G M : Mm} {H H1 : Heap} (h1 : HR D cA B0 G M H) {t : Nat} {len : Int} {v : Value} (ht : t < 8) (hl : 0 ≤ len ∧ len ≤ 2147483647) (z1 : H1.size = H.size + 1) (o1 : ∀ q : Nat, q < H.size → H1[q]? = H[q]?) (e1 : H1[H.size]? = some (arrV (cA t) len.toNat (fun _ => v))) (hv : ∀ j, avx (nG G ((t : Int) + 100) len) (nM G M) t (G 4 0 0) j = v) : HR D cA B0 (nG G ((t : Int) + 100) len) (nM G M) H1 := by
  have hs := h1.2.1
  refine h1.new z1 o1 ⟨fun ci hc hk => ?_, fun t' ht' hk => ?_, fun hk => ?_⟩ agr_n nG_next
  · rw [nG_kind] at hk; omega
  · rw [nG_kind] at hk
    have : t' = t := by omega
    subst this
    rw [nG_len]
    refine ⟨hl.1, hl.2, ?_⟩
    simp only [hv]
    rw [hs]
    exact e1
  · rw [nG_kind] at hk; omega
theorem pw_newa (C : Cx E cc nL own tb R0) {at_ : ArrayType} {t : Nat} {len : Int} (d : decode cc pc = .ok (.newarray at_, 2)) (hw : Cond.arrayClass (newarray.typeOf at_) ∈ lw_tbl) (ht : t < 3) (hty : ∀ cA, (tysL cA)[t]? = some (cA t, newarray.typeOf at_)) (hsr : ∀ U cA, va_RA U cA (newarray.typeOf at_) = (U.vm.findClass ("[" ++ (newarray.typeOf at_).toString) = some cA)) (hdv : defaultValue (newarray.typeOf at_) = (if t = 2 then vL 0 else vI 0)) (hl : 0 ≤ len ∧ len ≤ 100000) (hby : componentBytes (newarray.typeOf at_) ≤ 8) {ks : Nat} (hks' : len = (ks : Int)) (hkc : k + 1 ≤ R0.cells) (hks : n + ks ≤ R0.slots) (kk : PW E (nG G ((t : Int) + 100) len) (nM G M) (k + 1) (n + ks) (pc + 2) ll (vR (G 4 0 0) :: st)) : PW E G M k n pc ll (vI len :: st) := by
  obtain ⟨⟨l, D, cA, B0⟩, p, e, R, s, m, args, below, meth, c, Q⟩ := E
  obtain ⟨hx, hb, hml, hown, hlocks, htb, hR, hK⟩ := C
  subst hR
  intro H locs ls h1 h2 h3
  have hs := h1.2.1
  have hcl := i32_clamp hl.1 (show len ≤ 2147483647 by omega)
  have hkn : len.toNat = ks := by omega
  refine W.newa (n := Int32.ofInt len) hx hb (kw hK hw rfl) rfl d rfl ?_ ?_ hkc (by rw [hcl, hkn]; exact hks) fun cA' kA comp f1 f2 f3 => ?_
  · intro q
    have q2 : Int32.ofInt len < Int32.ofInt 0 := q
    rw [i32_lt (by omega)] at q2
    omega
  · rw [hcl, hkn]
    have : ks ≤ 100000 := by omega
    exact Nat.le_trans (Nat.mul_le_mul this hby) (Nat.le_of_ble_eq_true rfl)
  have hra := (hK.2.1.2 t _ (hty cA)).2
  rw [hsr] at hra
  have hcc : cA' = cA t := Option.some.inj (f1.symm.trans hra)
  subst hcc
  rw [hcl, hkn]
  generalize hH1 : H.push ({ cls := cA t, slots := Array.replicate ks (defaultValue (newarray.typeOf at_)), vm := .none } : Cell) = H1
  have z1 : H1.size = H.size + 1 := by rw [← hH1, Array.size_push]
  have e1 : H1[H.size]? = some (arrV (cA t) ks (fun _ => defaultValue (newarray.typeOf at_))) := by rw [← hH1, Array.getElem?_push_size, ← arrV_new]
  have o1 : ∀ q : Nat, q < H.size → H1[q]? = H[q]? := fun q hq => by rw [← hH1, Array.getElem?_push, if_neg (Nat.ne_of_lt hq)]
  have q := kk H1 locs ls (newa_ok h1 (v := defaultValue (newarray.typeOf at_)) (by omega) ⟨hl.1, by omega⟩ z1 o1 (by rw [hkn]; exact e1) (fun j => ?_)) ⟨by rw [z1]; exact Nat.le_trans h2.1 (Nat.le_succ _), fun q hq hq2 => (o1 q (Nat.lt_of_lt_of_le hq h2.1)).trans (h2.2.1 q hq hq2), h2.2.2⟩ h3
  · rw [vR_pos (by omega), hs] at q
    exact q
  · rw [hdv]
    match t, ht with
    | 0, _ => simp [avx, nM_elt]
    | 1, _ => simp [avx, nM_elt]
    | 2, _ => simp [avx, nM_elt]
    | t + 3, h => omega
theorem pw_newq (C : Cx E cc nL own tb R0) {idx t : Nat} {len : Int} {Cn : String} (d : decode cc pc = .ok (.anewarray idx, 3)) (hw : Cond.classLink own idx Cn ∈ lw_tbl) (hao : Cn ∈ aoL) (ht : 2 < t ∧ t < 8) (hty : ∀ cA, (tysL cA)[t]? = some (cA t, .object Cn)) (hl : 0 ≤ len ∧ len ≤ 100000) {ks : Nat} (hks' : len = (ks : Int)) (hkc : k + 1 ≤ R0.cells) (hks : n + ks ≤ R0.slots) (kk : PW E (nG G ((t : Int) + 100) len) (nM G M) (k + 1) (n + ks) (pc + 3) ll (vR (G 4 0 0) :: st)) : PW E G M k n pc ll (vI len :: st) := by
  obtain ⟨⟨l, D, cA, B0⟩, p, e, R, s, m, args, below, meth, c, Q⟩ := E
  obtain ⟨hx, hb, hml, hown, hlocks, htb, hR, hK⟩ := C
  subst hR
  intro H locs ls h1 h2 h3
  have hs := h1.2.1
  have hcl := i32_clamp hl.1 (show len ≤ 2147483647 by omega)
  have hkn : len.toNat = ks := by omega
  refine W.anew (n := Int32.ofInt len) hx hb hown (kw hK hw rfl) (va_AO.use (hK.2.2.2.2.2.2.1 Cn hao)) rfl d rfl ?_ ?_ hkc (by rw [hcl, hkn]; exact hks) fun cA' kA comp f1 f2 f3 f4 => ?_
  · intro q
    have q2 : Int32.ofInt len < Int32.ofInt 0 := q
    rw [i32_lt (by omega)] at q2
    omega
  · rw [hcl, hkn]
    omega
  obtain ⟨-, kA', comp', r1, r2, r3, r4⟩ := hK.2.1.2 t _ (hty cA)
  have hcc : cA' = cA t := Option.some.inj (f1.symm.trans r4)
  subst hcc
  rw [hcl, hkn]
  generalize hH1 : H.push ({ cls := cA t, slots := Array.replicate ks .null, vm := .none } : Cell) = H1
  have z1 : H1.size = H.size + 1 := by rw [← hH1, Array.size_push]
  have e1 : H1[H.size]? = some (arrV (cA t) ks (fun _ => .null)) := by rw [← hH1, Array.getElem?_push_size, ← arrV_new]
  have o1 : ∀ q : Nat, q < H.size → H1[q]? = H[q]? := fun q hq => by rw [← hH1, Array.getElem?_push, if_neg (Nat.ne_of_lt hq)]
  have a1 : ¬ t < 2 := by omega
  have a2 : ¬ t = 2 := by omega
  have q := kk H1 locs ls (newa_ok h1 (v := .null) (by omega) ⟨hl.1, by omega⟩ z1 o1 (by rw [hkn]; exact e1) (fun j => by simp only [avx, a1, a2, if_false, nG_elt]; rfl)) ⟨by rw [z1]; exact Nat.le_trans h2.1 (Nat.le_succ _), fun q hq hq2 => (o1 q (Nat.lt_of_lt_of_le hq h2.1)).trans (h2.2.1 q hq hq2), h2.2.2⟩ h3
  rw [vR_pos (by omega), hs] at q
  exact q
theorem pw_cast (C : Cx E cc nL own tb R0) {idx : Nat} {a : Int} {Cn : String} (d : decode cc pc = .ok (.checkcast idx, 3)) (hw : Cond.classLink own idx Cn ∈ lw_tbl) (hc : KC (G 0 a 0) Cn) (kk : PW E G M k n (pc + 3) ll (vR a :: st)) : PW E G M k n pc ll (vR a :: st) := by
  obtain ⟨⟨l, D, cA, B0⟩, p, e, R, s, m, args, below, meth, c, Q⟩ := E
  obtain ⟨hx, hb, hml, hown, hlocks, htb, hR, hK⟩ := C
  intro H locs ls h1 h2 h3
  have hr := h1.recv hK hc rfl
  have hnn : 0 ≤ a := h1.nn (by obtain ⟨ci, T, N, e, -⟩ := hc; omega)
  obtain ⟨ci, T, N, e9, hv⟩ := hc
  have q := kk H locs ls h1 h2 h3
  rw [vR_pos hnn] at q ⊢
  exact va_castS hx hb hown (kw hK hw rfl) (hK.2.1.1 ci _ hv).2 hr d q
/-- a cast to an array class of references -/
theorem pw_castA (C : Cx E cc nL own tb R0) {idx t : Nat} {a : Int} {Cn nm : String} (d : decode cc pc = .ok (.checkcast idx, 3)) (hw : Cond.classLink own idx nm ∈ lw_tbl) (ht : 2 < t ∧ t < 8) (hty : ∀ cA, (tysL cA)[t]? = some (cA t, .object Cn)) (hnm : nm = "[" ++ (FieldType.object Cn).toString) (hk : G 0 a 0 = (t : Int) + 100) (kk : PW E G M k n (pc + 3) ll (vR a :: st)) : PW E G M k n pc ll (vR a :: st) := by
  obtain ⟨⟨l, D, cA, B0⟩, p, e, R, s, m, args, below, meth, c, Q⟩ := E
  obtain ⟨hx, hb, hml, hown, hlocks, htb, hR, hK⟩ := C
  intro H locs ls h1 h2 h3
  have hnn : 0 ≤ a := h1.nn (by omega)
  have q := kk H locs ls h1 h2 h3
  obtain ⟨-, kA', comp', r1, r2, r3, r4⟩ := hK.2.1.2 t _ (hty cA)
  rw [vR_pos hnn] at q ⊢
  exact va_castA hx hb hown (kw hK hw rfl) (h1.pR ht.1 ht.2 hk) 0 rfl (by rw [hnm]; exact r4) d q
theorem pw_ldc (C : Cx E cc nL own tb R0) {idx : Nat} {v : Int32} (d : decode cc pc = .ok (.ldc idx, 2)) (hw : Cond.constant own idx v ∈ lw_tbl) (kk : PW E G M k n (pc + 2) ll (.int v :: st)) : PW E G M k n pc ll st := by
  obtain ⟨⟨l, D, cA, B0⟩, p, e, R, s, m, args, below, meth, c, Q⟩ := E
  obtain ⟨hx, hb, hml, hown, hlocks, htb, hR, hK⟩ := C
  intro H locs ls h1 h2 h3
  exact lv_ldc hx hb hown (kw hK hw rfl) d (kk H locs ls h1 h2 h3)
theorem pw_ldcw (C : Cx E cc nL own tb R0) {idx : Nat} {v : Int32} (d : decode cc pc = .ok (.ldc_w idx, 3)) (hw : Cond.constant own idx v ∈ lw_tbl) (kk : PW E G M k n (pc + 3) ll (.int v :: st)) : PW E G M k n pc ll st := by
  obtain ⟨⟨l, D, cA, B0⟩, p, e, R, s, m, args, below, meth, c, Q⟩ := E
  obtain ⟨hx, hb, hml, hown, hlocks, htb, hR, hK⟩ := C
  intro H locs ls h1 h2 h3
  exact lv_ldcw hx hb hown (kw hK hw rfl) d (kk H locs ls h1 h2 h3)
theorem pw_ldc2 (C : Cx E cc nL own tb R0) {idx : Nat} {v : Int64} {x : Int} (d : decode cc pc = .ok (.ldc2_w idx, 3)) (hw : Cond.constantLong own idx v ∈ lw_tbl) (hv : v = Int64.ofInt x) (kk : PW E G M k n (pc + 3) ll (vL x :: st)) : PW E G M k n pc ll st := by
  subst hv
  obtain ⟨⟨l, D, cA, B0⟩, p, e, R, s, m, args, below, meth, c, Q⟩ := E
  obtain ⟨hx, hb, hml, hown, hlocks, htb, hR, hK⟩ := C
  intro H locs ls h1 h2 h3
  exact lv_ldc2 hx hb hown (kw hK hw rfl) d (kk H locs ls h1 h2 h3)
/-! calls -/
def MH_ (Cn : String) : Prop := Cn ≠ "java/lang/invoke/MethodHandle" ∧ Cn ≠ "java/lang/invoke/VarHandle"
def MV (y : MethodName) (b : ByteArray) (nL : Nat) (ret : Option FieldType) (np : Nat) : Prop := Cond.instanceMethod y ∈ lw_tbl ∧ Cond.selects y.cls y y ∈ lw_tbl ∧ Cond.code y b nL ret ∈ lw_tbl ∧ Cond.initialized y.cls ∈ lw_tbl ∧ MH_ y.cls ∧ (parseMethodDescriptor y.desc).map (fun d => d.parameters.length) = some np
def MS (y : MethodName) (b : ByteArray) (nL : Nat) (ret : Option FieldType) (np : Nat) : Prop := Cond.static y ∈ lw_tbl ∧ Cond.code y b nL ret ∈ lw_tbl ∧ Cond.initialized y.cls ∈ lw_tbl ∧ MH_ y.cls ∧ (parseMethodDescriptor y.desc).map (fun d => d.parameters.length) = some np
def MI (y : MethodName) (b : ByteArray) (nL : Nat) (np : Nat) : Prop := Cond.instanceMethod y ∈ lw_tbl ∧ y.name = "<init>" ∧ Cond.code y b nL none ∈ lw_tbl ∧ Cond.initialized y.cls ∈ lw_tbl ∧ MH_ y.cls ∧ (parseMethodDescriptor y.desc).map (fun d => d.parameters.length) = some np
def ML (own : String) (idx : Nat) (y : MethodName) : Prop := Cond.methodLink own idx y ∈ lw_tbl ∨ ∃ host, Cond.methodLinkNest own idx y host ∈ lw_tbl
theorem np_of {y : MethodName} {np : Nat} (h : (parseMethodDescriptor y.desc).map (fun d => d.parameters.length) = some np) : ∀ sig, parseMethodDescriptor y.desc = some sig → np = sig.parameters.length := by
  intro sig hs
  rw [hs] at h
  exact (Option.some.inj h).symm
theorem catsum {rest : List Value} (h : rest.length ≤ 4) : (rest.map fun v => v.category).sum ≤ 8 := by
  have : ∀ l : List Value, (l.map fun v => v.category).sum ≤ 2 * l.length := by
    intro l
    induction l with
    | nil => simp
    | cons a l ih =>
      have := lv_cat a
      simp only [List.map_cons, List.sum_cons, List.length_cons]
      omega
  have := this rest
  omega
theorem run_fin {X : Xv} {p : Program} {e : Env} {R : Room} {s : State} {m : MethodId} {args : Array Value} {below : List Frame} {meth : Method} {c : Code} {Q : State → Prop} {Post : Option Value → Mm → Mm → Prop} {mc ms : Nat} {st0 rest : List Value} {av : Array Value} {H : Heap} {locs : List Loc} {ls : Array Slot}
    (hr : va_Run p X.1 e R s m args below meth c H locs k n mc ms (F0 m pc ls st0) rest (Qn X Post av) (frX X)) (h2 : va_S (fun q => X.2.2.2 ≤ q) s.heap H locs) (h3 : LV ls c.maxLocals ll)
    (kk : ∀ r G' M', Post r G' M' → PW (X, p, e, R, s, m, args, below, meth, c, Q) G' M' (k + mc) (n + ms) (pc + 3) ll (r.toList ++ rest)) : W p X.1 e R s m args below meth c H locs k n Q (F0 m pc ls st0) := by
  obtain ⟨l, D, cA, B0⟩ := X
  intro T hT Y
  obtain ⟨v, st₀, t, T', L, h0, X2, hL, e1, e2, ⟨⟨r, G', M', hv, hp, hh⟩, hz, hkp⟩, st⟩ := hr T hT Y
  cases hv
  rw [h0] at hz hkp
  obtain ⟨t2, a1, b1⟩ := kk v G' M' hp T'.heap (locs ++ L) ls (by rw [e1]; exact hh) ⟨Nat.le_trans h2.1 (by rw [e1]; exact hz), fun q q1 q2 => by rw [e1, hkp q (Nat.lt_of_lt_of_le q1 h2.1) q2]; exact h2.2.1 q q1 q2, fun q hq => by
      rcases List.mem_append.mp hq with h | h
      · exact h2.2.2 q h
      · exact hL q h⟩ h3 T' rfl X2
  exact ⟨t2, st t2 a1, b1⟩
theorem Pn.at {l : Launch} {D : va_G} {cA : Nat → ClassId} {B0 : Nat} {s : State} {H : Heap} {locs : List Loc} {av : List Value} (hK : Ks (l, D, cA, B0) s) (h1 : HR D cA B0 G M H) (h2 : va_S (fun q => B0 ≤ q) s.heap H locs) : ∀ U : State, U.heap = H → s.WarmedH U.vm → Pn (l, D, cA, B0) av G M av.toArray U :=
  fun U hU hW => ⟨rfl, hK.moved hU h2.2.1 hW, by rw [hU]; exact h1⟩
theorem pw_callV (C : Cx E cc nL own tb R0) {X : Xv} (hX : E.1 = X) {idx : Nat} {y : MethodName} {b : ByteArray} {nL' np fr lo mc ms : Nat} {ret : Option FieldType} {a K : Int} {As st0 : List Value} {Post : Option Value → Mm → Mm → Prop} (d : decode cc pc = .ok (.invokevirtual idx, 3)) (hl : ML own idx y) (hy : MV y b nL' ret np) (hM : CT X y b nL' ret fr lo mc ms (vR a :: As) G M Post) (hcl : KC K y.cls) (hk : G 0 a 0 = K)
    (hst : st0 = As.reverse ++ vR a :: st) (hn : As.length = np) (hroom : fr + 1 ≤ R0.frames ∧ 8 + (nL' + 11) + lo ≤ R0.locals) (hW : st.length ≤ 4) (hf : k + mc ≤ R0.cells ∧ n + ms ≤ R0.slots)
    (kk : ∀ r G' M', Post r G' M' → PW E G' M' (k + mc) (n + ms) (pc + 3) ll (r.toList ++ st)) : PW E G M k n pc ll st0 := by
  obtain ⟨⟨l, D, cA, B0⟩, p, e, R, s, m, args, below, meth, c, Q⟩ := E
  obtain ⟨hx, hb, hml, hown, hlocks, htb, hR, hK⟩ := C
  subst hX; subst hR; subst hst
  intro H locs ls h1 h2 h3
  have hnn : 0 ≤ a := h1.nn (by obtain ⟨ci, T, N, e, -⟩ := hcl; omega)
  have hrc := h1.recv hK hcl hk
  have hpa := Pn.at (av := vR a :: As) hK h1 h2
  rw [vR_pos hnn] at hM hpa ⊢
  obtain ⟨w1, w2, w3, w4, w5, w6⟩ := hy
  have hws : ∀ w ∈ [Cond.code y b nL' ret], ∀ (a' : Array Value) (U : State), s.WarmedH U.vm → w.before a' U = true := fun w hw a' U hW => by
    cases List.mem_singleton.mp hw
    exact okw_warm (A := args) hW rfl (kw hK w3 rfl)
  refine run_fin (av := (Value.ref a.toNat :: As).toArray) ?_ h2 h3 kk
  rcases hl with h | ⟨host, h⟩
  · exact va_runV (rest := st) ⟨hx, hb, hml, hown, fun w hw => kw hK (ho := by exact (List.mem_filter.mp hw).2) (List.mem_filter.mp hw).1⟩ (Ts := lw_tbl.filter okw) hM ⟨⟨rfl, rfl, hroom.1, hroom.2, hws, List.mem_singleton.mpr rfl, kw hK w3 rfl, kw hK w4 rfl, w5, np_of w6, kw hK h rfl⟩, kw hK w1 rfl, kw hK w2 rfl⟩ ⟨Pn.blind, hrc, hpa⟩ rfl hn (h3.1.trans hml) rfl (lv_room (catsum hW)) d hf
  · exact va_runVN (rest := st) ⟨hx, hb, hml, hown, fun w hw => kw hK (ho := by exact (List.mem_filter.mp hw).2) (List.mem_filter.mp hw).1⟩ (Ts := lw_tbl.filter okw) hM ⟨⟨⟨rfl, rfl, hroom.1, hroom.2, hws, List.mem_singleton.mpr rfl⟩, kw hK w3 rfl, kw hK w4 rfl, w5, np_of w6, kw hK h rfl⟩, kw hK w1 rfl, kw hK w2 rfl⟩ ⟨Pn.blind, hrc, hpa⟩ rfl hn (h3.1.trans hml) rfl (lv_room (catsum hW)) d hf
theorem pw_callS (C : Cx E cc nL own tb R0) {X : Xv} (hX : E.1 = X) {idx : Nat} {y : MethodName} {b : ByteArray} {nL' np fr lo mc ms : Nat} {ret : Option FieldType} {As st0 : List Value} {Post : Option Value → Mm → Mm → Prop} (d : decode cc pc = .ok (.invokestatic idx, 3)) (hl : ML own idx y) (hy : MS y b nL' ret np) (hM : CT X y b nL' ret fr lo mc ms As G M Post)
    (hst : st0 = As.reverse ++ st) (hn : As.length = np) (hroom : fr + 1 ≤ R0.frames ∧ 8 + (nL' + 11) + lo ≤ R0.locals) (hW : st.length ≤ 4) (hf : k + mc ≤ R0.cells ∧ n + ms ≤ R0.slots)
    (kk : ∀ r G' M', Post r G' M' → PW E G' M' (k + mc) (n + ms) (pc + 3) ll (r.toList ++ st)) : PW E G M k n pc ll st0 := by
  obtain ⟨⟨l, D, cA, B0⟩, p, e, R, s, m, args, below, meth, c, Q⟩ := E
  obtain ⟨hx, hb, hml, hown, hlocks, htb, hR, hK⟩ := C
  subst hX; subst hR; subst hst
  intro H locs ls h1 h2 h3
  have hpa := Pn.at (av := As) hK h1 h2
  obtain ⟨w1, w3, w4, w5, w6⟩ := hy
  have hws : ∀ w ∈ [Cond.code y b nL' ret], ∀ (a' : Array Value) (U : State), s.WarmedH U.vm → w.before a' U = true := fun w hw a' U hW => by
    cases List.mem_singleton.mp hw
    exact okw_warm (A := args) hW rfl (kw hK w3 rfl)
  refine run_fin (av := As.toArray) ?_ h2 h3 kk
  rcases hl with h | ⟨host, h⟩
  · exact va_runS (rest := st) ⟨hx, hb, hml, hown, fun w hw => kw hK (ho := by exact (List.mem_filter.mp hw).2) (List.mem_filter.mp hw).1⟩ (Ts := lw_tbl.filter okw) hM ⟨⟨rfl, rfl, hroom.1, hroom.2, hws, List.mem_singleton.mpr rfl, kw hK w3 rfl, kw hK w4 rfl, w5, np_of w6, kw hK h rfl⟩, kw hK w1 rfl⟩ ⟨Pn.blind, hpa⟩ rfl hn (h3.1.trans hml) rfl (lv_room (catsum hW)) d hf
  · exact va_runSN (rest := st) ⟨hx, hb, hml, hown, fun w hw => kw hK (ho := by exact (List.mem_filter.mp hw).2) (List.mem_filter.mp hw).1⟩ (Ts := lw_tbl.filter okw) hM ⟨⟨⟨rfl, rfl, hroom.1, hroom.2, hws, List.mem_singleton.mpr rfl⟩, kw hK w3 rfl, kw hK w4 rfl, w5, np_of w6, kw hK h rfl⟩, kw hK w1 rfl, trivial⟩ ⟨Pn.blind, hpa⟩ rfl hn (h3.1.trans hml) rfl (lv_room (catsum hW)) d hf
theorem pw_callI (C : Cx E cc nL own tb R0) {X : Xv} (hX : E.1 = X) {idx : Nat} {y : MethodName} {b : ByteArray} {nL' np fr lo mc ms : Nat} {a : Int} {As st0 : List Value} {Post : Option Value → Mm → Mm → Prop} (d : decode cc pc = .ok (.invokespecial idx, 3)) (hl : ML own idx y) (hy : MI y b nL' np) (hM : CT X y b nL' none fr lo mc ms (vR a :: As) G M Post) (hnn : 0 ≤ a)
    (hst : st0 = As.reverse ++ vR a :: st) (hn : As.length = np) (hroom : fr + 1 ≤ R0.frames ∧ 8 + (nL' + 11) + lo ≤ R0.locals) (hW : st.length ≤ 4) (hf : k + mc ≤ R0.cells ∧ n + ms ≤ R0.slots)
    (kk : ∀ r G' M', Post r G' M' → PW E G' M' (k + mc) (n + ms) (pc + 3) ll (r.toList ++ st)) : PW E G M k n pc ll st0 := by
  obtain ⟨⟨l, D, cA, B0⟩, p, e, R, s, m, args, below, meth, c, Q⟩ := E
  obtain ⟨hx, hb, hml, hown, hlocks, htb, hR, hK⟩ := C
  subst hX; subst hR; subst hst
  intro H locs ls h1 h2 h3
  have hpa := Pn.at (av := vR a :: As) hK h1 h2
  rw [vR_pos hnn] at hM hpa ⊢
  obtain ⟨w1, w2, w3, w4, w5, w6⟩ := hy
  have hws : ∀ w ∈ [Cond.code y b nL' none], ∀ (a' : Array Value) (U : State), s.WarmedH U.vm → w.before a' U = true := fun w hw a' U hW => by
    cases List.mem_singleton.mp hw
    exact okw_warm (A := args) hW rfl (kw hK w3 rfl)
  refine run_fin (av := (Value.ref a.toNat :: As).toArray) ?_ h2 h3 kk
  rcases hl with h | ⟨host, h⟩
  · exact va_runI (rest := st) ⟨hx, hb, hml, hown, fun w hw => kw hK (ho := by exact (List.mem_filter.mp hw).2) (List.mem_filter.mp hw).1⟩ (Ts := lw_tbl.filter okw) hM ⟨⟨rfl, rfl, hroom.1, hroom.2, hws, List.mem_singleton.mpr rfl, kw hK w3 rfl, kw hK w4 rfl, w5, np_of w6, kw hK h rfl⟩, w2, kw hK w1 rfl⟩ ⟨Pn.blind, hpa⟩ rfl hn (h3.1.trans hml) rfl (lv_room (catsum hW)) d hf
  · exact va_runIN (rest := st) ⟨hx, hb, hml, hown, fun w hw => kw hK (ho := by exact (List.mem_filter.mp hw).2) (List.mem_filter.mp hw).1⟩ (Ts := lw_tbl.filter okw) hM ⟨⟨⟨rfl, rfl, hroom.1, hroom.2, hws, List.mem_singleton.mpr rfl⟩, kw hK w3 rfl, kw hK w4 rfl, w5, np_of w6, kw hK h rfl⟩, w2, kw hK w1 rfl⟩ ⟨Pn.blind, hpa⟩ rfl hn (h3.1.trans hml) rfl (lv_room (catsum hW)) d hf
end Rows3
