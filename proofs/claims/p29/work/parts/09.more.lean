/-! ===== posts ===== -/
def PE (G M : Mm) (x : Int) : Option Value → Mm → Mm → Prop := fun v G' M' => v = some (vI x) ∧ G' = G ∧ M' = M
def PR (G M : Mm) (x : Int) : Option Value → Mm → Mm → Prop := fun v G' M' => v = some (vR x) ∧ G' = G ∧ M' = M
def PL (G M : Mm) (x : Int) : Option Value → Mm → Mm → Prop := fun v G' M' => v = some (vL x) ∧ G' = G ∧ M' = M
def PV (G M : Mm) : Option Value → Mm → Mm → Prop := fun v G' M' => v = none ∧ G' = G ∧ M' = M
def PI (P : Int → Mm → Mm → Prop) : Option Value → Mm → Mm → Prop := fun v G' M' => ∃ r, v = some (vI r) ∧ P r G' M'
def PQ (P : Int → Mm → Mm → Prop) : Option Value → Mm → Mm → Prop := fun v G' M' => ∃ r, v = some (vR r) ∧ P r G' M'
def PJ (P : Int → Mm → Mm → Prop) : Option Value → Mm → Mm → Prop := fun v G' M' => ∃ r, v = some (vL r) ∧ P r G' M'
def PU (P : Mm → Mm → Prop) : Option Value → Mm → Mm → Prop := fun v G' M' => v = none ∧ P G' M'
theorem lg_len : ∀ (cs : List Nat) (av : List Value), catsOk cs av → (lg_sl av).length ≤ cs.sum
  | _, [], _ => by simp [lg_sl]
  | [], v :: vs, h => by cases h
  | c :: cs, v :: vs, h => by
    obtain ⟨h1, h2⟩ := h
    have ih := lg_len cs vs h2
    rcases lv_cat v with hc | hc
    · have e : lg_sl (v :: vs) = .val v :: lg_sl vs := by simp [lg_sl, hc]
      rw [e, List.length_cons, List.sum_cons]
      omega
    · have e : lg_sl (v :: vs) = .val v :: .second :: lg_sl vs := by simp [lg_sl, hc]
      rw [e, List.length_cons, List.length_cons, List.sum_cons]
      omega
theorem CT.by {X : Xv} {y : MethodName} {b : ByteArray} {nL : Nat} {ret : Option FieldType} {fr lo mc ms : Nat} {av : List Value} {G M : Mm} {Post : Option Value → Mm → Mm → Prop} (hy : plainName y.cls = true) (cs : List Nat) (hcs : catsOk cs av) (hn : cs.sum ≤ nL)
    (body : ∀ E : Ev, E.1 = X → Cx E b nL y.cls [] { frames := fr, cells := mc, slots := ms, locals := lo } → Rt E Post ret mc ms → (y.name = "<init>" → Ini E) → PW E G M 0 0 0 (agc 0 cs av) []) : CT X y b nL ret fr lo mc ms av G M Post :=
  CT.mk hy cs hcs (Nat.le_trans (lg_len cs av hcs) hn) body
theorem CX.by {X : Xv} {y : MethodName} {b : ByteArray} {nL : Nat} {ret : Option FieldType} {fr lo mc ms : Nat} {av : List Value} {G M : Mm} {Post : Option Value → Mm → Mm → Prop} {PX : String → Mm → Mm → Prop} (hy : plainName y.cls = true) (cs : List Nat) (hcs : catsOk cs av) (hn : cs.sum ≤ nL)
    (body : ∀ E : Ev, E.1 = X → Cx E b nL y.cls [] { frames := fr, cells := mc, slots := ms, locals := lo } → Rt E Post ret mc ms → Rx E PX mc ms → PW E G M 0 0 0 (agc 0 cs av) []) : CX X y b nL ret fr lo mc ms av G M Post PX :=
  CX.mk hy cs hcs (Nat.le_trans (lg_len cs av hcs) hn) body
/-! ===== loops over numbers ===== -/
def frN {σ : Type} (f : Int → σ → σ) : Nat → Int → σ → σ
  | 0, _, s => s
  | n + 1, i, s => frN f n (i + 1) (f i s)
/-- f lo, f (lo + 1) .. f (hi - 1), one behind the other -/
def fr {σ : Type} (f : Int → σ → σ) (lo hi : Int) (s : σ) : σ := frN f (hi - lo).toNat lo s
theorem fr_end {σ : Type} {f : Int → σ → σ} {lo hi : Int} {s : σ} (h : hi ≤ lo) : fr f lo hi s = s := by
  unfold fr
  rw [show (hi - lo).toNat = 0 by omega]
  rfl
theorem fr_step {σ : Type} {f : Int → σ → σ} {lo hi : Int} {s : σ} (h : lo < hi) : fr f lo hi s = fr f (lo + 1) hi (f lo s) := by
  unfold fr
  rw [show (hi - lo).toNat = (hi - (lo + 1)).toNat + 1 by omega]
  rfl
theorem fr_go {σ : Type} {f : Int → σ → σ} {lo hi : Int} {s s' R : σ} (hlt : lo < hi) (h : fr f lo hi s = R) (e : f lo s = s') : fr f (lo + 1) hi s' = R := by
  rw [← h, fr_step hlt, e]
theorem fr_done {σ : Type} {f : Int → σ → σ} {lo hi : Int} {s R : σ} (hge : hi ≤ lo) (h : fr f lo hi s = R) : s = R := by
  rw [← h, fr_end hge]
theorem fr_snoc {σ : Type} {f : Int → σ → σ} {s : σ} {lo : Int} : ∀ (n : Nat), fr f lo (lo + (n : Int) + 1) s = f (lo + n) (fr f lo (lo + n) s) := by
  intro n
  induction n generalizing lo s with
  | zero => rw [fr_step (by omega), fr_end (by omega), fr_end (by omega)]; simp
  | succ n ih =>
    rw [fr_step (by omega), fr_step (lo := lo) (hi := lo + ((n + 1 : Nat) : Int)) (by omega)]
    have := ih (lo := lo + 1) (s := f lo s)
    rw [show lo + ((n + 1 : Nat) : Int) + 1 = lo + 1 + (n : Int) + 1 by omega, this, show lo + ((n + 1 : Nat) : Int) = lo + 1 + (n : Int) by omega]
theorem fr_last {σ : Type} {f : Int → σ → σ} {lo hi : Int} {s : σ} (h : lo ≤ hi) : fr f lo (hi + 1) s = f hi (fr f lo hi s) := by
  have := fr_snoc (f := f) (s := s) (lo := lo) (hi - lo).toNat
  rwa [show lo + ((hi - lo).toNat : Int) = hi by omega] at this
/-- what holds at the start and is kept holds at the end -/
theorem fr_inv {σ : Type} {f : Int → σ → σ} {hi : Int} (P : Int → σ → Prop) {lo : Int} {s : σ} (h : lo ≤ hi) (h0 : P lo s) (hs : ∀ i s, lo ≤ i → i < hi → P i s → P (i + 1) (f i s)) : P hi (fr f lo hi s) := by
  have key : ∀ (n : Nat) (i : Int) (s : σ), lo ≤ i → i + n = hi → P i s → P hi (fr f i hi s) := by
    intro n
    induction n with
    | zero => intro i s _ e hp; rw [fr_end (by omega)]; rw [show hi = i by omega]; exact hp
    | succ n ih =>
      intro i s hi' e hp
      rw [fr_step (by omega)]
      exact ih (i + 1) _ (by omega) (by omega) (hs i s hi' (by omega) hp)
  exact key (hi - lo).toNat lo s (Int.le_refl _) (by omega) h0
theorem fr_congr {σ : Type} {f g : Int → σ → σ} {lo hi : Int} {s : σ} (h : ∀ i s, lo ≤ i → i < hi → f i s = g i s) : fr f lo hi s = fr g lo hi s := by
  by_cases hl : lo ≤ hi
  · have := fr_inv (f := f) (hi := hi) (P := fun i x => x = fr g lo i s) (lo := lo) (s := s) hl (fr_end (Int.le_refl _)).symm (fun i x h1 h2 e => by rw [fr_last h1, ← e]; exact h i x h1 h2)
    exact this
  · rw [fr_end (by omega), fr_end (by omega)]
section Rows4
variable {E : Ev} {cc : ByteArray} {nL : Nat} {own : String} {tb : List ExceptionTableEntry} {R0 : Room} {G M : Mm} {k n pc : Nat} {ll : List LE} {st : List Value}
theorem pw_cVE (C : Cx E cc nL own tb R0) {X : Xv} (hX : E.1 = X) {idx : Nat} {y : MethodName} {b : ByteArray} {nL' np fr lo mc ms : Nat} {ret : Option FieldType} {a K : Int} {As st0 : List Value} {G1 M1 : Mm} {x : Int} (d : decode cc pc = .ok (.invokevirtual idx, 3)) (hl : ML own idx y) (hy : MV y b nL' ret np) (hM : CT X y b nL' ret fr lo mc ms (vR a :: As) G M (PE G1 M1 x)) (hcl : KC K y.cls) (hk : G 0 a 0 = K) (hst : st0 = As.reverse ++ vR a :: st) (hn : As.length = np) (hroom : fr + 1 ≤ R0.frames ∧ 8 + (nL' + 11) + lo ≤ R0.locals) (hW : st.length ≤ 4) (hf : k + mc ≤ R0.cells ∧ n + ms ≤ R0.slots) (kk : PW E G1 M1 (k + mc) (n + ms) (pc + 3) ll (vI x :: st)) : PW E G M k n pc ll st0 := by
  refine pw_callV C hX d hl hy hM hcl hk hst hn hroom hW hf ?_
  intro r G' M' hq; obtain ⟨rfl, rfl, rfl⟩ := hq
  exact kk
theorem pw_cVR (C : Cx E cc nL own tb R0) {X : Xv} (hX : E.1 = X) {idx : Nat} {y : MethodName} {b : ByteArray} {nL' np fr lo mc ms : Nat} {ret : Option FieldType} {a K : Int} {As st0 : List Value} {G1 M1 : Mm} {x : Int} (d : decode cc pc = .ok (.invokevirtual idx, 3)) (hl : ML own idx y) (hy : MV y b nL' ret np) (hM : CT X y b nL' ret fr lo mc ms (vR a :: As) G M (PR G1 M1 x)) (hcl : KC K y.cls) (hk : G 0 a 0 = K) (hst : st0 = As.reverse ++ vR a :: st) (hn : As.length = np) (hroom : fr + 1 ≤ R0.frames ∧ 8 + (nL' + 11) + lo ≤ R0.locals) (hW : st.length ≤ 4) (hf : k + mc ≤ R0.cells ∧ n + ms ≤ R0.slots) (kk : PW E G1 M1 (k + mc) (n + ms) (pc + 3) ll (vR x :: st)) : PW E G M k n pc ll st0 := by
  refine pw_callV C hX d hl hy hM hcl hk hst hn hroom hW hf ?_
  intro r G' M' hq; obtain ⟨rfl, rfl, rfl⟩ := hq
  exact kk
theorem pw_cVL (C : Cx E cc nL own tb R0) {X : Xv} (hX : E.1 = X) {idx : Nat} {y : MethodName} {b : ByteArray} {nL' np fr lo mc ms : Nat} {ret : Option FieldType} {a K : Int} {As st0 : List Value} {G1 M1 : Mm} {x : Int} (d : decode cc pc = .ok (.invokevirtual idx, 3)) (hl : ML own idx y) (hy : MV y b nL' ret np) (hM : CT X y b nL' ret fr lo mc ms (vR a :: As) G M (PL G1 M1 x)) (hcl : KC K y.cls) (hk : G 0 a 0 = K) (hst : st0 = As.reverse ++ vR a :: st) (hn : As.length = np) (hroom : fr + 1 ≤ R0.frames ∧ 8 + (nL' + 11) + lo ≤ R0.locals) (hW : st.length ≤ 4) (hf : k + mc ≤ R0.cells ∧ n + ms ≤ R0.slots) (kk : PW E G1 M1 (k + mc) (n + ms) (pc + 3) ll (vL x :: st)) : PW E G M k n pc ll st0 := by
  refine pw_callV C hX d hl hy hM hcl hk hst hn hroom hW hf ?_
  intro r G' M' hq; obtain ⟨rfl, rfl, rfl⟩ := hq
  exact kk
theorem pw_cVV (C : Cx E cc nL own tb R0) {X : Xv} (hX : E.1 = X) {idx : Nat} {y : MethodName} {b : ByteArray} {nL' np fr lo mc ms : Nat} {ret : Option FieldType} {a K : Int} {As st0 : List Value} {G1 M1 : Mm} (d : decode cc pc = .ok (.invokevirtual idx, 3)) (hl : ML own idx y) (hy : MV y b nL' ret np) (hM : CT X y b nL' ret fr lo mc ms (vR a :: As) G M (PV G1 M1)) (hcl : KC K y.cls) (hk : G 0 a 0 = K) (hst : st0 = As.reverse ++ vR a :: st) (hn : As.length = np) (hroom : fr + 1 ≤ R0.frames ∧ 8 + (nL' + 11) + lo ≤ R0.locals) (hW : st.length ≤ 4) (hf : k + mc ≤ R0.cells ∧ n + ms ≤ R0.slots) (kk : PW E G1 M1 (k + mc) (n + ms) (pc + 3) ll st) : PW E G M k n pc ll st0 := by
  refine pw_callV C hX d hl hy hM hcl hk hst hn hroom hW hf ?_
  intro r G' M' hq; obtain ⟨rfl, rfl, rfl⟩ := hq
  exact kk
theorem pw_cVI (C : Cx E cc nL own tb R0) {X : Xv} (hX : E.1 = X) {idx : Nat} {y : MethodName} {b : ByteArray} {nL' np fr lo mc ms : Nat} {ret : Option FieldType} {a K : Int} {As st0 : List Value} {P : Int → Mm → Mm → Prop} (d : decode cc pc = .ok (.invokevirtual idx, 3)) (hl : ML own idx y) (hy : MV y b nL' ret np) (hM : CT X y b nL' ret fr lo mc ms (vR a :: As) G M (PI P)) (hcl : KC K y.cls) (hk : G 0 a 0 = K) (hst : st0 = As.reverse ++ vR a :: st) (hn : As.length = np) (hroom : fr + 1 ≤ R0.frames ∧ 8 + (nL' + 11) + lo ≤ R0.locals) (hW : st.length ≤ 4) (hf : k + mc ≤ R0.cells ∧ n + ms ≤ R0.slots) (kk : ∀ r G1 M1, P r G1 M1 → PW E G1 M1 (k + mc) (n + ms) (pc + 3) ll (vI r :: st)) : PW E G M k n pc ll st0 := by
  refine pw_callV C hX d hl hy hM hcl hk hst hn hroom hW hf ?_
  intro r G' M' hq; obtain ⟨x, rfl, h⟩ := hq
  exact kk x G' M' h
theorem pw_cVQ (C : Cx E cc nL own tb R0) {X : Xv} (hX : E.1 = X) {idx : Nat} {y : MethodName} {b : ByteArray} {nL' np fr lo mc ms : Nat} {ret : Option FieldType} {a K : Int} {As st0 : List Value} {P : Int → Mm → Mm → Prop} (d : decode cc pc = .ok (.invokevirtual idx, 3)) (hl : ML own idx y) (hy : MV y b nL' ret np) (hM : CT X y b nL' ret fr lo mc ms (vR a :: As) G M (PQ P)) (hcl : KC K y.cls) (hk : G 0 a 0 = K) (hst : st0 = As.reverse ++ vR a :: st) (hn : As.length = np) (hroom : fr + 1 ≤ R0.frames ∧ 8 + (nL' + 11) + lo ≤ R0.locals) (hW : st.length ≤ 4) (hf : k + mc ≤ R0.cells ∧ n + ms ≤ R0.slots) (kk : ∀ r G1 M1, P r G1 M1 → PW E G1 M1 (k + mc) (n + ms) (pc + 3) ll (vR r :: st)) : PW E G M k n pc ll st0 := by
  refine pw_callV C hX d hl hy hM hcl hk hst hn hroom hW hf ?_
  intro r G' M' hq; obtain ⟨x, rfl, h⟩ := hq
  exact kk x G' M' h
theorem pw_cVJ (C : Cx E cc nL own tb R0) {X : Xv} (hX : E.1 = X) {idx : Nat} {y : MethodName} {b : ByteArray} {nL' np fr lo mc ms : Nat} {ret : Option FieldType} {a K : Int} {As st0 : List Value} {P : Int → Mm → Mm → Prop} (d : decode cc pc = .ok (.invokevirtual idx, 3)) (hl : ML own idx y) (hy : MV y b nL' ret np) (hM : CT X y b nL' ret fr lo mc ms (vR a :: As) G M (PJ P)) (hcl : KC K y.cls) (hk : G 0 a 0 = K) (hst : st0 = As.reverse ++ vR a :: st) (hn : As.length = np) (hroom : fr + 1 ≤ R0.frames ∧ 8 + (nL' + 11) + lo ≤ R0.locals) (hW : st.length ≤ 4) (hf : k + mc ≤ R0.cells ∧ n + ms ≤ R0.slots) (kk : ∀ r G1 M1, P r G1 M1 → PW E G1 M1 (k + mc) (n + ms) (pc + 3) ll (vL r :: st)) : PW E G M k n pc ll st0 := by
  refine pw_callV C hX d hl hy hM hcl hk hst hn hroom hW hf ?_
  intro r G' M' hq; obtain ⟨x, rfl, h⟩ := hq
  exact kk x G' M' h
theorem pw_cVU (C : Cx E cc nL own tb R0) {X : Xv} (hX : E.1 = X) {idx : Nat} {y : MethodName} {b : ByteArray} {nL' np fr lo mc ms : Nat} {ret : Option FieldType} {a K : Int} {As st0 : List Value} {P : Mm → Mm → Prop} (d : decode cc pc = .ok (.invokevirtual idx, 3)) (hl : ML own idx y) (hy : MV y b nL' ret np) (hM : CT X y b nL' ret fr lo mc ms (vR a :: As) G M (PU P)) (hcl : KC K y.cls) (hk : G 0 a 0 = K) (hst : st0 = As.reverse ++ vR a :: st) (hn : As.length = np) (hroom : fr + 1 ≤ R0.frames ∧ 8 + (nL' + 11) + lo ≤ R0.locals) (hW : st.length ≤ 4) (hf : k + mc ≤ R0.cells ∧ n + ms ≤ R0.slots) (kk : ∀ G1 M1, P G1 M1 → PW E G1 M1 (k + mc) (n + ms) (pc + 3) ll st) : PW E G M k n pc ll st0 := by
  refine pw_callV C hX d hl hy hM hcl hk hst hn hroom hW hf ?_
  intro r G' M' hq; obtain ⟨rfl, h⟩ := hq
  exact kk G' M' h
theorem pw_cSE (C : Cx E cc nL own tb R0) {X : Xv} (hX : E.1 = X) {idx : Nat} {y : MethodName} {b : ByteArray} {nL' np fr lo mc ms : Nat} {ret : Option FieldType} {As st0 : List Value} {G1 M1 : Mm} {x : Int} (d : decode cc pc = .ok (.invokestatic idx, 3)) (hl : ML own idx y) (hy : MS y b nL' ret np) (hM : CT X y b nL' ret fr lo mc ms As G M (PE G1 M1 x)) (hst : st0 = As.reverse ++ st) (hn : As.length = np) (hroom : fr + 1 ≤ R0.frames ∧ 8 + (nL' + 11) + lo ≤ R0.locals) (hW : st.length ≤ 4) (hf : k + mc ≤ R0.cells ∧ n + ms ≤ R0.slots) (kk : PW E G1 M1 (k + mc) (n + ms) (pc + 3) ll (vI x :: st)) : PW E G M k n pc ll st0 := by
  refine pw_callS C hX d hl hy hM hst hn hroom hW hf ?_
  intro r G' M' hq; obtain ⟨rfl, rfl, rfl⟩ := hq
  exact kk
theorem pw_cSR (C : Cx E cc nL own tb R0) {X : Xv} (hX : E.1 = X) {idx : Nat} {y : MethodName} {b : ByteArray} {nL' np fr lo mc ms : Nat} {ret : Option FieldType} {As st0 : List Value} {G1 M1 : Mm} {x : Int} (d : decode cc pc = .ok (.invokestatic idx, 3)) (hl : ML own idx y) (hy : MS y b nL' ret np) (hM : CT X y b nL' ret fr lo mc ms As G M (PR G1 M1 x)) (hst : st0 = As.reverse ++ st) (hn : As.length = np) (hroom : fr + 1 ≤ R0.frames ∧ 8 + (nL' + 11) + lo ≤ R0.locals) (hW : st.length ≤ 4) (hf : k + mc ≤ R0.cells ∧ n + ms ≤ R0.slots) (kk : PW E G1 M1 (k + mc) (n + ms) (pc + 3) ll (vR x :: st)) : PW E G M k n pc ll st0 := by
  refine pw_callS C hX d hl hy hM hst hn hroom hW hf ?_
  intro r G' M' hq; obtain ⟨rfl, rfl, rfl⟩ := hq
  exact kk
theorem pw_cSL (C : Cx E cc nL own tb R0) {X : Xv} (hX : E.1 = X) {idx : Nat} {y : MethodName} {b : ByteArray} {nL' np fr lo mc ms : Nat} {ret : Option FieldType} {As st0 : List Value} {G1 M1 : Mm} {x : Int} (d : decode cc pc = .ok (.invokestatic idx, 3)) (hl : ML own idx y) (hy : MS y b nL' ret np) (hM : CT X y b nL' ret fr lo mc ms As G M (PL G1 M1 x)) (hst : st0 = As.reverse ++ st) (hn : As.length = np) (hroom : fr + 1 ≤ R0.frames ∧ 8 + (nL' + 11) + lo ≤ R0.locals) (hW : st.length ≤ 4) (hf : k + mc ≤ R0.cells ∧ n + ms ≤ R0.slots) (kk : PW E G1 M1 (k + mc) (n + ms) (pc + 3) ll (vL x :: st)) : PW E G M k n pc ll st0 := by
  refine pw_callS C hX d hl hy hM hst hn hroom hW hf ?_
  intro r G' M' hq; obtain ⟨rfl, rfl, rfl⟩ := hq
  exact kk
theorem pw_cSV (C : Cx E cc nL own tb R0) {X : Xv} (hX : E.1 = X) {idx : Nat} {y : MethodName} {b : ByteArray} {nL' np fr lo mc ms : Nat} {ret : Option FieldType} {As st0 : List Value} {G1 M1 : Mm} (d : decode cc pc = .ok (.invokestatic idx, 3)) (hl : ML own idx y) (hy : MS y b nL' ret np) (hM : CT X y b nL' ret fr lo mc ms As G M (PV G1 M1)) (hst : st0 = As.reverse ++ st) (hn : As.length = np) (hroom : fr + 1 ≤ R0.frames ∧ 8 + (nL' + 11) + lo ≤ R0.locals) (hW : st.length ≤ 4) (hf : k + mc ≤ R0.cells ∧ n + ms ≤ R0.slots) (kk : PW E G1 M1 (k + mc) (n + ms) (pc + 3) ll st) : PW E G M k n pc ll st0 := by
  refine pw_callS C hX d hl hy hM hst hn hroom hW hf ?_
  intro r G' M' hq; obtain ⟨rfl, rfl, rfl⟩ := hq
  exact kk
theorem pw_cSI (C : Cx E cc nL own tb R0) {X : Xv} (hX : E.1 = X) {idx : Nat} {y : MethodName} {b : ByteArray} {nL' np fr lo mc ms : Nat} {ret : Option FieldType} {As st0 : List Value} {P : Int → Mm → Mm → Prop} (d : decode cc pc = .ok (.invokestatic idx, 3)) (hl : ML own idx y) (hy : MS y b nL' ret np) (hM : CT X y b nL' ret fr lo mc ms As G M (PI P)) (hst : st0 = As.reverse ++ st) (hn : As.length = np) (hroom : fr + 1 ≤ R0.frames ∧ 8 + (nL' + 11) + lo ≤ R0.locals) (hW : st.length ≤ 4) (hf : k + mc ≤ R0.cells ∧ n + ms ≤ R0.slots) (kk : ∀ r G1 M1, P r G1 M1 → PW E G1 M1 (k + mc) (n + ms) (pc + 3) ll (vI r :: st)) : PW E G M k n pc ll st0 := by
  refine pw_callS C hX d hl hy hM hst hn hroom hW hf ?_
  intro r G' M' hq; obtain ⟨x, rfl, h⟩ := hq
  exact kk x G' M' h
theorem pw_cSQ (C : Cx E cc nL own tb R0) {X : Xv} (hX : E.1 = X) {idx : Nat} {y : MethodName} {b : ByteArray} {nL' np fr lo mc ms : Nat} {ret : Option FieldType} {As st0 : List Value} {P : Int → Mm → Mm → Prop} (d : decode cc pc = .ok (.invokestatic idx, 3)) (hl : ML own idx y) (hy : MS y b nL' ret np) (hM : CT X y b nL' ret fr lo mc ms As G M (PQ P)) (hst : st0 = As.reverse ++ st) (hn : As.length = np) (hroom : fr + 1 ≤ R0.frames ∧ 8 + (nL' + 11) + lo ≤ R0.locals) (hW : st.length ≤ 4) (hf : k + mc ≤ R0.cells ∧ n + ms ≤ R0.slots) (kk : ∀ r G1 M1, P r G1 M1 → PW E G1 M1 (k + mc) (n + ms) (pc + 3) ll (vR r :: st)) : PW E G M k n pc ll st0 := by
  refine pw_callS C hX d hl hy hM hst hn hroom hW hf ?_
  intro r G' M' hq; obtain ⟨x, rfl, h⟩ := hq
  exact kk x G' M' h
theorem pw_cSJ (C : Cx E cc nL own tb R0) {X : Xv} (hX : E.1 = X) {idx : Nat} {y : MethodName} {b : ByteArray} {nL' np fr lo mc ms : Nat} {ret : Option FieldType} {As st0 : List Value} {P : Int → Mm → Mm → Prop} (d : decode cc pc = .ok (.invokestatic idx, 3)) (hl : ML own idx y) (hy : MS y b nL' ret np) (hM : CT X y b nL' ret fr lo mc ms As G M (PJ P)) (hst : st0 = As.reverse ++ st) (hn : As.length = np) (hroom : fr + 1 ≤ R0.frames ∧ 8 + (nL' + 11) + lo ≤ R0.locals) (hW : st.length ≤ 4) (hf : k + mc ≤ R0.cells ∧ n + ms ≤ R0.slots) (kk : ∀ r G1 M1, P r G1 M1 → PW E G1 M1 (k + mc) (n + ms) (pc + 3) ll (vL r :: st)) : PW E G M k n pc ll st0 := by
  refine pw_callS C hX d hl hy hM hst hn hroom hW hf ?_
  intro r G' M' hq; obtain ⟨x, rfl, h⟩ := hq
  exact kk x G' M' h
theorem pw_cSU (C : Cx E cc nL own tb R0) {X : Xv} (hX : E.1 = X) {idx : Nat} {y : MethodName} {b : ByteArray} {nL' np fr lo mc ms : Nat} {ret : Option FieldType} {As st0 : List Value} {P : Mm → Mm → Prop} (d : decode cc pc = .ok (.invokestatic idx, 3)) (hl : ML own idx y) (hy : MS y b nL' ret np) (hM : CT X y b nL' ret fr lo mc ms As G M (PU P)) (hst : st0 = As.reverse ++ st) (hn : As.length = np) (hroom : fr + 1 ≤ R0.frames ∧ 8 + (nL' + 11) + lo ≤ R0.locals) (hW : st.length ≤ 4) (hf : k + mc ≤ R0.cells ∧ n + ms ≤ R0.slots) (kk : ∀ G1 M1, P G1 M1 → PW E G1 M1 (k + mc) (n + ms) (pc + 3) ll st) : PW E G M k n pc ll st0 := by
  refine pw_callS C hX d hl hy hM hst hn hroom hW hf ?_
  intro r G' M' hq; obtain ⟨rfl, h⟩ := hq
  exact kk G' M' h
theorem pw_cIV (C : Cx E cc nL own tb R0) {X : Xv} (hX : E.1 = X) {idx : Nat} {y : MethodName} {b : ByteArray} {nL' np fr lo mc ms : Nat} {a : Int} {As st0 : List Value} {G1 M1 : Mm} (d : decode cc pc = .ok (.invokespecial idx, 3)) (hl : ML own idx y) (hy : MI y b nL' np) (hM : CT X y b nL' none fr lo mc ms (vR a :: As) G M (PV G1 M1)) (hnn : 0 ≤ a) (hst : st0 = As.reverse ++ vR a :: st) (hn : As.length = np) (hroom : fr + 1 ≤ R0.frames ∧ 8 + (nL' + 11) + lo ≤ R0.locals) (hW : st.length ≤ 4) (hf : k + mc ≤ R0.cells ∧ n + ms ≤ R0.slots) (kk : PW E G1 M1 (k + mc) (n + ms) (pc + 3) ll st) : PW E G M k n pc ll st0 := by
  refine pw_callI C hX d hl hy hM hnn hst hn hroom hW hf ?_
  intro r G' M' hq; obtain ⟨rfl, rfl, rfl⟩ := hq
  exact kk
theorem pw_cIU (C : Cx E cc nL own tb R0) {X : Xv} (hX : E.1 = X) {idx : Nat} {y : MethodName} {b : ByteArray} {nL' np fr lo mc ms : Nat} {a : Int} {As st0 : List Value} {P : Mm → Mm → Prop} (d : decode cc pc = .ok (.invokespecial idx, 3)) (hl : ML own idx y) (hy : MI y b nL' np) (hM : CT X y b nL' none fr lo mc ms (vR a :: As) G M (PU P)) (hnn : 0 ≤ a) (hst : st0 = As.reverse ++ vR a :: st) (hn : As.length = np) (hroom : fr + 1 ≤ R0.frames ∧ 8 + (nL' + 11) + lo ≤ R0.locals) (hW : st.length ≤ 4) (hf : k + mc ≤ R0.cells ∧ n + ms ≤ R0.slots) (kk : ∀ G1 M1, P G1 M1 → PW E G1 M1 (k + mc) (n + ms) (pc + 3) ll st) : PW E G M k n pc ll st0 := by
  refine pw_callI C hX d hl hy hM hnn hst hn hroom hW hf ?_
  intro r G' M' hq; obtain ⟨rfl, h⟩ := hq
  exact kk G' M' h
theorem pw_objInit (C : Cx E cc nL own tb R0) {idx : Nat} {a : Int} (d : decode cc pc = .ok (.invokespecial idx, 3)) (hl : Cond.methodLink own idx Lib.objectInit ∈ lw_tbl) (hi : Cond.instanceMethod Lib.objectInit ∈ lw_tbl) (hc : Cond.code Lib.objectInit ⟨#[0xb1]⟩ 1 none ∈ lw_tbl) (hnn : 0 ≤ a) (hroom : 1 ≤ R0.frames ∧ 2 * st.length + 12 ≤ R0.locals) (kk : PW E G M k n (pc + 3) ll st) : PW E G M k n pc ll (vR a :: st) := by
  obtain ⟨⟨l, D, cA, B0⟩, p, e, R, s, m, args, below, meth, c, Q⟩ := E
  obtain ⟨hx, hb, hml, hown, hlocks, htb, hR, hK⟩ := C
  subst hR
  intro H locs ls h1 h2 h3
  rw [vR_pos hnn]
  have hcs : ∀ l : List Value, (l.map fun v => v.category).sum ≤ 2 * l.length := by
    intro l
    induction l with
    | nil => simp
    | cons a l ih =>
      have := lv_cat a
      simp only [List.map_cons, List.sum_cons, List.length_cons]
      omega
  exact W.objInit hx hb hown (kw hK hl rfl) (kw hK hi rfl) (kw hK hc rfl) rfl h3.1 rfl d hroom.1 (by show 2 * 0 + _ + 12 ≤ _; have := hcs st; have := hroom.2; omega) (kk H locs ls h1 h2 h3)
end Rows4
