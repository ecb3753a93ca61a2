theorem kw {X : Xv} {s : State} {args : Array Value} (hK : Ks X s) {w : Cond} (hw : w ∈ lw_tbl) (ho : okw w = true) : w.before args s = true := by
  obtain ⟨l, D, cA, B0⟩ := X
  exact okw_same rfl ho (hK.2.2.1 w hw ho)
theorem klay {X : Xv} {s : State} {args : Array Value} (hK : Ks X s) {ci : Nat} {r : vw_C} (h : vwCl[ci]? = some r) : ∀ w ∈ u_ws r.1 r.2.1 r.2.2, w.before args s = true :=
  fun w hw => kw hK (lay_in ci r h w hw) (lay_ok w hw)
/-- the link at idx in own's pool is the field f (of the objects of kind K) -/
def FL (own : String) (idx : Nat) (K f : Int) (fin : Option Bool) (ty : FieldType) : Prop := ∃ (ci j : Nat) (C : String) (T : u_T) (N : Nat) (ref : String), K = (ci : Int) + 1 ∧ f = 20 * (ci : Int) + (j : Int) ∧ vwCl[ci]? = some (C, T, N) ∧ j < N ∧
  (Cond.fieldLink own idx ref (T j).2.1 (T j).2.2.1 ∈ lw_tbl ∨ ∃ host, Cond.fieldLinkNest own idx ref (T j).2.1 (T j).2.2.1 host ∈ lw_tbl) ∧
  (ref = (T j).1 ∨ Cond.sameField ref (T j).1 (T j).2.1 (T j).2.2.1 ∈ lw_tbl) ∧ (∀ b, fin = some b → (T j).2.2.2 = b) ∧ parseFieldDescriptor (T j).2.2.1 = some ty ∧
  (fin = some true → (T j).1 = own ∧ Cond.fieldLink own idx ref (T j).2.1 (T j).2.2.1 ∈ lw_tbl)
theorem HR.ob {D : va_G} {cA : Nat → ClassId} {B0 : Nat} {G M : Mm} {H : Heap} (h : HR D cA B0 G M H) {a : Int} {ci : Nat} {r : vw_C} (hr : vwCl[ci]? = some r) (hk : G 0 a 0 = (ci : Int) + 1) : t_OB a.toNat (D.1 ci) r.2.2 (D.2 ci) H (fun k => fv G M ci k a) := by
  obtain ⟨-, -, h1, -⟩ := h.1 a (by omega)
  obtain ⟨r', hr', ho⟩ := h1 ci (cls_lt hr) hk
  cases hr.symm.trans hr'
  exact ho
theorem HR.ar {D : va_G} {cA : Nat → ClassId} {B0 : Nat} {G M : Mm} {H : Heap} (h : HR D cA B0 G M H) {a : Int} {t : Nat} (ht : t < 8) (hk : G 0 a 0 = (t : Int) + 100) : 0 ≤ G 1 a 0 ∧ G 1 a 0 ≤ 2147483647 ∧ H[a.toNat]? = some (arrV (cA t) (G 1 a 0).toNat (fun j => avx G M t a (j : Int))) := by
  obtain ⟨-, -, -, h2, -⟩ := h.1 a (by omega)
  exact h2 t ht hk
theorem div20 {ci ci' j j' : Nat} (h : 20 * (ci : Int) + (j : Int) = 20 * (ci' : Int) + (j' : Int)) (e : ci = ci') : j = j' := by omega
section Rows2
variable {E : Ev} {cc : ByteArray} {nL : Nat} {own : String} {tb : List ExceptionTableEntry} {R0 : Room} {G M : Mm} {k n pc : Nat} {ll : List LE} {st : List Value}
theorem pw_getV (C : Cx E cc nL own tb R0) {idx : Nat} {K f a : Int} {fin : Option Bool} {ty : FieldType} {v : Value} (d : decode cc pc = .ok (.getfield idx, 3)) (hL : FL own idx K f fin ty) (hk : G 0 a 0 = K) (hv : v = if isRf f = true then vR (G 2 f a) else vI (M 0 f a)) (kk : PW E G M k n (pc + 3) ll (v :: st)) : PW E G M k n pc ll (vR a :: st) := by
  obtain ⟨⟨l, D, cA, B0⟩, p, e, R, s, m, args, below, meth, c, Q⟩ := E
  obtain ⟨hx, hb, hml, hown, hlocks, htb, hR, hK⟩ := C
  intro H locs ls h1 h2 h3
  obtain ⟨ci, j, Cn, T, N, ref, rfl, rfl, hr, hj, hlink, hsame, -⟩ := hL
  have ho := h1.ob hr hk
  have hnn : 0 ≤ a := h1.nn (by omega)
  have hP : va_P D vwCl [(a.toNat, .inr (ci, (List.range N).map fun k => fv G M ci k a))] H := by
    intro q z hz
    match q, hz with
    | 0, hz =>
      cases hz
      refine ⟨_, hr, ho.to fun k hk => ?_⟩
      simp [vp_V, List.getD_eq_getElem?_getD, hk]
    | q + 1, hz => simp at hz
  have hv0 : ((List.range N).map fun k => fv G M ci k a)[j]? = some v := by
    rw [hv, List.getElem?_map, List.getElem?_range hj]
    rfl
  have hs : ∀ x, s.fieldFound? (T j).1 (T j).2.1 (T j).2.2.1 = some x → s.fieldFound? ref (T j).2.1 (T j).2.2.1 = some x := by
    rcases hsame with h | h
    · rw [h]; exact fun _ h => h
    · exact fun x hx' => u_same (args := args) (kw hK h rfl) x hx'
  rw [vR_pos hnn]
  have q := kk H locs ls h1 h2 h3
  rcases hlink with h | ⟨host, h⟩
  · exact va_get (D := D) hx hb (klay hK hr) (fun _ h => h) hown hK.2.1 hP 0 rfl hr j hj (kw hK h rfl) hs hv0 d q
  · exact va_getN (D := D) hx hb (klay hK hr) (fun _ h => h) hown hK.2.1 hP 0 rfl hr j hj (kw hK h rfl) hs hv0 d q
theorem pw_getI (C : Cx E cc nL own tb R0) {idx : Nat} {K f a : Int} {fin : Option Bool} {ty : FieldType} (d : decode cc pc = .ok (.getfield idx, 3)) (hL : FL own idx K f fin ty) (hk : G 0 a 0 = K) (hf : isRf f = false) (kk : PW E G M k n (pc + 3) ll (vI (M 0 f a) :: st)) : PW E G M k n pc ll (vR a :: st) :=
  pw_getV C d hL hk (by rw [hf]; rfl) kk
theorem pw_getR (C : Cx E cc nL own tb R0) {idx : Nat} {K f a b : Int} {fin : Option Bool} {ty : FieldType} (d : decode cc pc = .ok (.getfield idx, 3)) (hL : FL own idx K f fin ty) (hk : G 0 a 0 = K) (hf : isRf f = true) (hb : G 2 f a = b) (kk : PW E G M k n (pc + 3) ll (vR b :: st)) : PW E G M k n pc ll (vR a :: st) :=
  pw_getV C d hL hk (by rw [hf, hb]; rfl) kk
theorem pw_putV (C : Cx E cc nL own tb R0) {idx : Nat} {K f a : Int} {fin : Bool} {ty : FieldType} {v : Value} {G1 M1 : Mm} (d : decode cc pc = .ok (.putfield idx, 3)) (hL : FL own idx K f (some fin) ty) (hini : fin = true → Ini E) (hk : G 0 a 0 = K)
    (hn : narrow ty v = v) (hfit : fits ty v = true) (hv : (if isRf f = true then vR (G1 2 f a) else vI (M1 0 f a)) = v) (ho : ∀ f', f' ≠ f → G1 2 f' a = G 2 f' a ∧ M1 0 f' a = M 0 f' a) (hg : ∀ a', a' ≠ a → agr G M G1 M1 a') (hga : G1 0 a 0 = G 0 a 0) (h4 : G1 4 0 0 = G 4 0 0)
    (kk : PW E G1 M1 k n (pc + 3) ll st) : PW E G M k n pc ll (v :: vR a :: st) := by
  obtain ⟨⟨l, D, cA, B0⟩, p, e, R, s, m, args, below, meth, c, Q⟩ := E
  obtain ⟨hx, hb, hml, hown, hlocks, htb, hR, hK⟩ := C
  intro H locs ls h1 h2 h3
  obtain ⟨ci, j, Cn, T, N, ref, rfl, rfl, hr, hj, hlink, hsame, hfin, hd, hfin2⟩ := hL
  have hfin := hfin fin rfl
  have hob := h1.ob hr hk
  have hnn : 0 ≤ a := h1.nn (by omega)
  have hlo : (B0 : Int) ≤ a := h1.lo (by omega) (by have := cls_lt hr; omega)
  obtain ⟨cell, q1, q2, q3, q4⟩ := hob
  have hts : ∀ w ∈ u_ws Cn T N, w.before args s = true := klay hK hr
  obtain ⟨ty0, hty, hnm⟩ := lay_ty ci _ hr
  have hap := va_apart (own := own) hts (fun _ h => h) ty0 hty hnm hK.2.1 hr
  obtain ⟨hS, hfc, kC, hkC, hkind⟩ := hK.2.1.1 ci _ hr
  obtain ⟨cf, kf, fi, fd, hi, hsl⟩ := hS j hj
  have hs : ∀ x, s.fieldFound? (T j).1 (T j).2.1 (T j).2.2.1 = some x → s.fieldFound? ref (T j).2.1 (T j).2.2.1 = some x := by
    rcases hsame with h | h
    · rw [h]; exact fun _ h => h
    · exact fun x hx' => u_same (args := args) (kw hK h rfl) x hx'
  have hst := (u_facts hfc hkC (u_lays hts (fun _ h => h) hj) hi).1
  have hlt : fd.slot < cell.slots.size := by rw [hsl]; exact k2_hasslot (q4 j hj)
  have fin_ : ∀ (H' : Heap), H'[a.toNat]? = some (cell.setSlot fd.slot v) → H'.size = H.size → (∀ q, q ≠ a.toNat → H'[q]? = H[q]?) → W p l e R s m args below meth c H' (locs ++ [⟨a.toNat, fd.slot⟩]) k n Q (F0 m (pc + 3) ls st) := by
    intro H' e1 e2 e3
    refine kk H' _ ls (h1.set (by omega) e2 e3 ⟨fun ci' hc' hk' => ?_, fun t ht hk' => ?_, fun hk' => ?_⟩ hg hga h4) (h2.put e2 e3 (show B0 ≤ a.toNat by omega)) h3
    · have : ci' = ci := by omega
      subst this
      refine ⟨_, hr, cell.setSlot fd.slot v, e1, q2, q3, ?_⟩
      intro i hi'
      have hset := t_set q4 hap hj v i hi'
      rw [hsl, hset]
      congr 1
      unfold updV
      by_cases hij : i = j
      · subst hij
        rw [if_pos rfl]
        exact hv.symm
      · rw [if_neg hij]
        have hne : 20 * (ci' : Int) + (i : Int) ≠ 20 * (ci' : Int) + (j : Int) := by omega
        simp only [fv, (ho _ hne).1, (ho _ hne).2]
    · have := cls_lt hr
      omega
    · have := cls_lt hr
      omega
  rw [vR_pos hnn]
  cases hfn : fin with
  | false =>
    subst hfn
    have hlay := hts _ (u_in_lay hj)
    unfold u_lay at hlay
    rw [if_neg (by rw [hfin]; decide)] at hlay
    have h6 := u_store hfc hkC hkind hlay hi hd hn hfit
    rcases hlink with h | ⟨host, h⟩
    · exact W.putK hx hb (f := fd) ⟨hown, kw hK h rfl, ⟨_, _, _, hs _ hi⟩, hst⟩ (by rw [q2]; exact h6) q1 q3 hlt rfl rfl d fin_
    · exact va_WputK hx hb (f := fd) hown (kw hK h rfl) (hs _ hi) hst (by rw [q2]; exact h6) q1 q3 hlt rfl rfl d fin_
  | true =>
    subst hfn
    have hlay := hts _ (u_in_lay hj)
    unfold u_lay at hlay
    rw [if_pos hfin] at hlay
    obtain ⟨hdecl, hl⟩ := hfin2 rfl
    have hcf : m.cls = cf := by
      obtain ⟨_, _, c', _, _, _, -, -, hf', -, -, -, hown2, -⟩ := Cond.laysFinal_spec hlay
      have e1 : c' = cf := by have := hi.symm.trans hf'; simp at this; exact this.1.symm
      rw [hdecl] at hown2
      rw [← e1]; exact Option.some.inj (hown.symm.trans hown2)
    have h6 := u_fits hfc hkC hkind (Or.inr hlay) hi hd hn hfit
    exact W.putFinK hx hb hown (kw hK hl rfl) (hs _ hi) hst hcf (hini rfl) (by rw [q2]; exact h6) q1 q3 hlt rfl rfl d fin_
theorem agr_M0 {G M : Mm} {f a x : Int} : ∀ a', a' ≠ a → agr G M G (mup M 0 f a x) a' := fun a' h =>
  ⟨rfl, rfl, fun _ => rfl, fun _ => rfl, fun f' => mup_n (by omega), fun j => mup_n (by omega)⟩
theorem agr_M1 {G M : Mm} {j a x : Int} : ∀ a', a' ≠ a → agr G M G (mup M 1 a j x) a' := fun a' h =>
  ⟨rfl, rfl, fun _ => rfl, fun _ => rfl, fun f' => mup_n (by omega), fun j => mup_n (by omega)⟩
theorem agr_G2 {G M : Mm} {f a x : Int} : ∀ a', a' ≠ a → agr G M (mup G 2 f a x) M a' := fun a' h =>
  ⟨mup_n (by omega), mup_n (by omega), fun _ => mup_n (by omega), fun _ => mup_n (by omega), fun f' => rfl, fun j => rfl⟩
theorem agr_G3 {G M : Mm} {j a x : Int} : ∀ a', a' ≠ a → agr G M (mup G 3 a j x) M a' := fun a' h =>
  ⟨mup_n (by omega), mup_n (by omega), fun _ => mup_n (by omega), fun _ => mup_n (by omega), fun f' => rfl, fun j => rfl⟩
theorem pw_putI (C : Cx E cc nL own tb R0) {idx : Nat} {K f a x : Int} {fin : Bool} (d : decode cc pc = .ok (.putfield idx, 3)) (hL : FL own idx K f (some fin) .int) (hini : fin = true → Ini E) (hk : G 0 a 0 = K) (hf : isRf f = false) (kk : PW E G (mup M 0 f a x) k n (pc + 3) ll st) : PW E G M k n pc ll (vI x :: vR a :: st) :=
  pw_putV C d hL hini hk rfl rfl (by rw [hf, mup_s]; rfl) (fun f' h => ⟨rfl, mup_n (by omega)⟩) agr_M0 rfl rfl kk
theorem pw_putZ (C : Cx E cc nL own tb R0) {idx : Nat} {K f a x : Int} {fin : Bool} (d : decode cc pc = .ok (.putfield idx, 3)) (hL : FL own idx K f (some fin) .boolean) (hini : fin = true → Ini E) (hk : G 0 a 0 = K) (hf : isRf f = false) (hx : x = 0 ∨ x = 1) (kk : PW E G (mup M 0 f a x) k n (pc + 3) ll st) : PW E G M k n pc ll (vI x :: vR a :: st) :=
  pw_putV C d hL hini hk (by rcases hx with rfl | rfl <;> rfl) (by rcases hx with rfl | rfl <;> rfl) (by rw [hf, mup_s]; rfl) (fun f' h => ⟨rfl, mup_n (by omega)⟩) agr_M0 rfl rfl kk
theorem pw_putR (C : Cx E cc nL own tb R0) {idx : Nat} {K f a x : Int} {fin : Bool} {ty : FieldType} (d : decode cc pc = .ok (.putfield idx, 3)) (hL : FL own idx K f (some fin) ty) (hini : fin = true → Ini E) (hty : (∃ n, ty = .object n) ∨ ∃ t, ty = .array t) (hk : G 0 a 0 = K) (hf : isRf f = true) (kk : PW E (mup G 2 f a x) M k n (pc + 3) ll st) : PW E G M k n pc ll (vR x :: vR a :: st) := by
  have hh : narrow ty (vR x) = vR x ∧ fits ty (vR x) = true := by
    by_cases hx : x < 0
    · rw [vR_neg hx]; rcases hty with ⟨_, rfl⟩ | ⟨_, rfl⟩ <;> exact ⟨rfl, rfl⟩
    · rw [vR_pos (by omega)]; rcases hty with ⟨_, rfl⟩ | ⟨_, rfl⟩ <;> exact ⟨rfl, rfl⟩
  exact pw_putV C d hL hini hk hh.1 hh.2 (by rw [hf, mup_s]; rfl) (fun f' h => ⟨mup_n (by omega), rfl⟩) agr_G2 (mup_n (by omega)) (mup_n (by omega)) kk
theorem HR.pI {D : va_G} {cA : Nat → ClassId} {B0 : Nat} {G M : Mm} {H : Heap} (h : HR D cA B0 G M H) {a : Int} {t : Nat} (ht : t < 2) (hk : G 0 a 0 = (t : Int) + 100) : va_P D vwCl [(a.toNat, .inl (cA t, (G 1 a 0).toNat, .inl (fun j => Int32.ofInt (M 1 a (j : Int)))))] H := by
  intro q z hz
  match q, hz with
  | 0, hz =>
    cases hz
    obtain ⟨-, -, h3⟩ := h.ar (by omega) hk
    show H[a.toNat]? = some (vp_cell _ _)
    rw [h3, vp_cell_i]
    simp only [avx, ht, if_true, vI]
  | q + 1, hz => simp at hz
theorem HR.pR {D : va_G} {cA : Nat → ClassId} {B0 : Nat} {G M : Mm} {H : Heap} (h : HR D cA B0 G M H) {a : Int} {t : Nat} (ht : 2 < t) (ht2 : t < 8) (hk : G 0 a 0 = (t : Int) + 100) : va_P D vwCl [(a.toNat, .inl (cA t, (G 1 a 0).toNat, .inr (.inr (.inr (.inr (fun j => oI (G 3 a (j : Int))))))))] H := by
  intro q z hz
  match q, hz with
  | 0, hz =>
    cases hz
    obtain ⟨-, -, h3⟩ := h.ar ht2 hk
    show H[a.toNat]? = some (vp_cell _ _)
    have e1 : ¬ t < 2 := by omega
    have e2 : ¬ t = 2 := by omega
    rw [h3, vp_cell_q]
    simp only [avx, e1, e2, if_false, vR]
  | q + 1, hz => simp at hz
theorem pw_iald (C : Cx E cc nL own tb R0) {a i : Int} (d : decode cc pc = .ok (.iaload, 1)) (hk : G 0 a 0 = 100) (hi : 0 ≤ i ∧ i < G 1 a 0) (kk : PW E G M k n (pc + 1) ll (vI (M 1 a i) :: st)) : PW E G M k n pc ll (vI i :: vR a :: st) := by
  obtain ⟨⟨l, D, cA, B0⟩, p, e, R, s, m, args, below, meth, c, Q⟩ := E
  obtain ⟨hx, hb, hml, hown, hlocks, htb, hR, hK⟩ := C
  intro H locs ls h1 h2 h3
  have hnn : 0 ≤ a := h1.nn (by omega)
  obtain ⟨z1, z2, -⟩ := h1.ar (a := a) (t := 0) (by omega) (by omega)
  rw [vR_pos hnn]
  have q := kk H locs ls h1 h2 h3
  refine va_iald (D := D) hx hb hK.2.1 (h1.pI (t := 0) (by omega) (by omega)) 0 0 rfl rfl (i32_vin hi.1 (by omega) (by omega)) d ?_
  rw [i32_clamp hi.1 (by omega), Int.toNat_of_nonneg hi.1]
  exact q
theorem pw_zald (C : Cx E cc nL own tb R0) {a i : Int} (d : decode cc pc = .ok (.baload, 1)) (hk : G 0 a 0 = 101) (hi : 0 ≤ i ∧ i < G 1 a 0) (kk : PW E G M k n (pc + 1) ll (vI (M 1 a i) :: st)) : PW E G M k n pc ll (vI i :: vR a :: st) := by
  obtain ⟨⟨l, D, cA, B0⟩, p, e, R, s, m, args, below, meth, c, Q⟩ := E
  obtain ⟨hx, hb, hml, hown, hlocks, htb, hR, hK⟩ := C
  intro H locs ls h1 h2 h3
  have hnn : 0 ≤ a := h1.nn (by omega)
  obtain ⟨z1, z2, -⟩ := h1.ar (a := a) (t := 1) (by omega) (by omega)
  rw [vR_pos hnn]
  have q := kk H locs ls h1 h2 h3
  refine va_zald (D := D) hx hb hK.2.1 (h1.pI (t := 1) (by omega) (by omega)) 0 1 rfl rfl (i32_vin hi.1 (by omega) (by omega)) d ?_
  rw [i32_clamp hi.1 (by omega), Int.toNat_of_nonneg hi.1]
  exact q
theorem pw_aald (C : Cx E cc nL own tb R0) {a i b : Int} {t : Nat} (d : decode cc pc = .ok (.aaload, 1)) (ht : 2 < t ∧ t < 8) (hk : G 0 a 0 = (t : Int) + 100) (hi : 0 ≤ i ∧ i < G 1 a 0) (hb : G 3 a i = b) (kk : PW E G M k n (pc + 1) ll (vR b :: st)) : PW E G M k n pc ll (vI i :: vR a :: st) := by
  subst hb
  obtain ⟨⟨l, D, cA, B0⟩, p, e, R, s, m, args, below, meth, c, Q⟩ := E
  obtain ⟨hx, hb, hml, hown, hlocks, htb, hR, hK⟩ := C
  intro H locs ls h1 h2 h3
  have hnn : 0 ≤ a := h1.nn (by omega)
  obtain ⟨z1, z2, z3⟩ := h1.ar (a := a) (t := t) ht.2 hk
  rw [vR_pos hnn]
  have q := kk H locs ls h1 h2 h3
  have hin := i32_vin hi.1 (n := (G 1 a 0).toNat) (by omega) (by omega)
  have hty : ∃ ty, (tysL cA)[t]? = some (cA t, ty) ∧ ty.isReference = true := by
    match t, ht with
    | 3, _ => exact ⟨_, rfl, rfl⟩
    | 4, _ => exact ⟨_, rfl, rfl⟩
    | 5, _ => exact ⟨_, rfl, rfl⟩
    | 6, _ => exact ⟨_, rfl, rfl⟩
    | 7, _ => exact ⟨_, rfl, rfl⟩
    | 0, h => omega
    | 1, h => omega
    | 2, h => omega
    | t + 8, h => omega
  obtain ⟨ty, hty, href⟩ := hty
  refine W.aald (v := vR (G 3 a i)) hx hb z3 ((hK.2.1.2 t _ hty).1 _ _) href (fun q => by cases q) (by rw [arrV_size]; exact hin) ?_ rfl rfl d q
  rw [i32_clamp hi.1 (by omega), arrV_read _ _ (by omega), Int.toNat_of_nonneg hi.1]
  have e1 : ¬ t < 2 := by omega
  have e2 : ¬ t = 2 := by omega
  simp only [avx, e1, e2, if_false]
theorem pw_alen (C : Cx E cc nL own tb R0) {a x : Int} (d : decode cc pc = .ok (.arraylength, 1)) (hk : 100 ≤ G 0 a 0 ∧ G 0 a 0 < 108) (hx' : G 1 a 0 = x) (kk : PW E G M k n (pc + 1) ll (vI x :: st)) : PW E G M k n pc ll (vR a :: st) := by
  subst hx'
  obtain ⟨⟨l, D, cA, B0⟩, p, e, R, s, m, args, below, meth, c, Q⟩ := E
  obtain ⟨hx, hb, hml, hown, hlocks, htb, hR, hK⟩ := C
  intro H locs ls h1 h2 h3
  have hnn : 0 ≤ a := h1.nn (by omega)
  obtain ⟨t, ht, ht8⟩ : ∃ t : Nat, G 0 a 0 = (t : Int) + 100 ∧ t < 8 := ⟨(G 0 a 0 - 100).toNat, by omega, by omega⟩
  obtain ⟨z1, z2, z3⟩ := h1.ar (a := a) (t := t) ht8 ht
  have hty : ∃ ty, (tysL cA)[t]? = some (cA t, ty) := by
    match t, ht8 with
    | 0, _ => exact ⟨_, rfl⟩
    | 1, _ => exact ⟨_, rfl⟩
    | 2, _ => exact ⟨_, rfl⟩
    | 3, _ => exact ⟨_, rfl⟩
    | 4, _ => exact ⟨_, rfl⟩
    | 5, _ => exact ⟨_, rfl⟩
    | 6, _ => exact ⟨_, rfl⟩
    | 7, _ => exact ⟨_, rfl⟩
    | t + 8, h => omega
  obtain ⟨ty, hty⟩ := hty
  rw [vR_pos hnn]
  have q := kk H locs ls h1 h2 h3
  refine W.alen (n := Int32.ofInt (G 1 a 0)) hx hb z3 ((hK.2.1.2 t _ hty).1 _ _) ?_ rfl rfl d q
  rw [arrV_size]
  show Int32.ofNat _ = _
  rw [← Int32.ofInt_eq_ofNat, Int.toNat_of_nonneg z1]
/-- a store into an array: what the new memory must be -/
theorem ast_ok {D : va_G} {cA : Nat → ClassId} {B0 : Nat} {G M G1 M1 : Mm} {H H1 : Heap} (h1 : HR D cA B0 G M H) {a i : Int} {t : Nat} {v : Value} (ht : t < 8) (hk : G 0 a 0 = (t : Int) + 100) (hi : 0 ≤ i ∧ i < G 1 a 0) (e1 : H1[a.toNat]? = some ((arrV (cA t) (G 1 a 0).toNat (fun j => avx G M t a (j : Int))).setSlot i.toNat v)) (e2 : H1.size = H.size) (e3 : ∀ q, q ≠ a.toNat → H1[q]? = H[q]?)
    (hv : avx G1 M1 t a i = v) (ho : ∀ j, j ≠ i → avx G1 M1 t a j = avx G M t a j) (hg : ∀ a', a' ≠ a → agr G M G1 M1 a') (hga : G1 0 a 0 = G 0 a 0) (hgl : G1 1 a 0 = G 1 a 0) (h4 : G1 4 0 0 = G 4 0 0) : HR D cA B0 G1 M1 H1 := by
  obtain ⟨z1, z2, -⟩ := h1.ar ht hk
  refine h1.set (by omega) e2 e3 ⟨fun ci hc hk' => by omega, fun t' ht' hk' => ?_, fun hk' => by omega⟩ hg hga h4
  have : t' = t := by omega
  subst this
  rw [hgl]
  refine ⟨z1, z2, ?_⟩
  rw [e1, arrV_store]
  congr 2
  funext j
  unfold updV
  by_cases hj : j = i.toNat
  · rw [if_pos hj, hj, Int.toNat_of_nonneg hi.1]
    exact hv.symm
  · rw [if_neg hj]
    exact (ho _ (by omega)).symm
theorem pw_iast (C : Cx E cc nL own tb R0) {a i x : Int} (d : decode cc pc = .ok (.iastore, 1)) (hk : G 0 a 0 = 100) (hi : 0 ≤ i ∧ i < G 1 a 0) (kk : PW E G (mup M 1 a i x) k n (pc + 1) ll st) : PW E G M k n pc ll (vI x :: vI i :: vR a :: st) := by
  obtain ⟨⟨l, D, cA, B0⟩, p, e, R, s, m, args, below, meth, c, Q⟩ := E
  obtain ⟨hx, hb, hml, hown, hlocks, htb, hR, hK⟩ := C
  intro H locs ls h1 h2 h3
  have hnn : 0 ≤ a := h1.nn (by omega)
  have hlo : (B0 : Int) ≤ a := h1.lo (by omega) (by omega)
  obtain ⟨z1, z2, z3⟩ := h1.ar (a := a) (t := 0) (by omega) (by omega)
  rw [vR_pos hnn]
  have hin := i32_vin hi.1 (n := (G 1 a 0).toNat) (by omega) (by omega)
  refine W.iast hx hb z3 ((hK.2.1.2 0 _ rfl).1 _ _) (fun q => by cases q) (by rw [arrV_size]; exact hin) rfl rfl d fun H1 e1 e2 e3 => ?_
  rw [i32_clamp hi.1 (by omega)] at e1
  exact kk H1 _ ls (ast_ok h1 (t := 0) (by omega) (by omega) hi e1 e2 e3 (by simp [avx, mup_s, vI]) (fun j hj => by simp only [avx]; rw [mup_n (by omega)]) agr_M1 rfl rfl rfl) (h2.put e2 e3 (show B0 ≤ a.toNat by omega)) h3
theorem pw_zast (C : Cx E cc nL own tb R0) {a i x : Int} (d : decode cc pc = .ok (.bastore, 1)) (hk : G 0 a 0 = 101) (hi : 0 ≤ i ∧ i < G 1 a 0) (hx01 : x = 0 ∨ x = 1) (kk : PW E G (mup M 1 a i x) k n (pc + 1) ll st) : PW E G M k n pc ll (vI x :: vI i :: vR a :: st) := by
  obtain ⟨⟨l, D, cA, B0⟩, p, e, R, s, m, args, below, meth, c, Q⟩ := E
  obtain ⟨hx, hb, hml, hown, hlocks, htb, hR, hK⟩ := C
  intro H locs ls h1 h2 h3
  have hnn : 0 ≤ a := h1.nn (by omega)
  have hlo : (B0 : Int) ≤ a := h1.lo (by omega) (by omega)
  obtain ⟨z1, z2, z3⟩ := h1.ar (a := a) (t := 1) (by omega) (by omega)
  rw [vR_pos hnn]
  have hin := i32_vin hi.1 (n := (G 1 a 0).toNat) (by omega) (by omega)
  have hnar : narrow .boolean (.int (Int32.ofInt x)) = .int (Int32.ofInt x) := by rcases hx01 with rfl | rfl <;> rfl
  refine W.zast hx hb z3 ((hK.2.1.2 1 _ rfl).1 _ _) (fun q => by cases q) (by rw [arrV_size]; exact hin) rfl rfl d fun H1 e1 e2 e3 => ?_
  rw [i32_clamp hi.1 (by omega), hnar] at e1
  exact kk H1 _ ls (ast_ok h1 (t := 1) (by omega) (by omega) hi e1 e2 e3 (by simp [avx, mup_s, vI]) (fun j hj => by simp only [avx]; rw [mup_n (by omega)]) agr_M1 rfl rfl rfl) (h2.put e2 e3 (show B0 ≤ a.toNat by omega)) h3
end Rows2
