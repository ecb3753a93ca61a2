/-! ===== an object with na arrays of ints (of len places each) behind it, and ns numbers: its abstract value L ===== -/
abbrev Fn : Type := Int → Int → Int
def lup (L : Fn) (i t x : Int) : Fn := fun i' t' => if i' = i ∧ t' = t then x else L i' t'
theorem lup_s (L : Fn) (i t x : Int) : lup L i t x i t = x := by simp [lup]
theorem lup_n {L : Fn} {i t x i' t' : Int} (h : ¬ (i' = i ∧ t' = t)) : lup L i t x i' t' = L i' t' := by simp [lup, h]
theorem lup_c (L : Fn) (i t x i' t' : Int) : lup L i t x i' t' = if i' = i ∧ t' = t then x else L i' t' := rfl
def OR (K na ns len : Int) (G M : Mm) (a : Int) (L : Fn) : Prop :=
  G 0 a 0 = K ∧ (∀ i, 0 ≤ i → i < na → G 2 (20 * (K - 1) + i) a = a + 1 + i ∧ G 0 (a + 1 + i) 0 = 100 ∧ G 1 (a + 1 + i) 0 = len) ∧
  (∀ i t, 0 ≤ i → i < na → 0 ≤ t → t < len → M 1 (a + 1 + i) t = L i t) ∧ ∀ s, 0 ≤ s → s < ns → M 0 (20 * (K - 1) + na + s) a = L na s
section ORs
variable {K na ns len : Int} {G M : Mm} {a : Int} {L : Fn}
theorem OR.k (h : OR K na ns len G M a L) : G 0 a 0 = K := h.1
theorem OR.r (h : OR K na ns len G M a L) {f b : Int} (i : Int) (hf : f = 20 * (K - 1) + i ∧ 0 ≤ i ∧ i < na ∧ b = a + 1 + i) : G 2 f a = b := by
  obtain ⟨rfl, h1, h2, rfl⟩ := hf
  exact (h.2.1 i h1 h2).1
theorem OR.ai (h : OR K na ns len G M a L) {b : Int} (i : Int) (hf : b = a + 1 + i ∧ 0 ≤ i ∧ i < na) : AI G b len := by
  obtain ⟨rfl, h1, h2⟩ := hf
  exact (h.2.1 i h1 h2).2
theorem OR.v (h : OR K na ns len G M a L) {b t : Int} (i : Int) (hf : b = a + 1 + i ∧ 0 ≤ i ∧ i < na ∧ 0 ≤ t ∧ t < len) : M 1 b t = L i t := by
  obtain ⟨rfl, h1, h2, h3, h4⟩ := hf
  exact h.2.2.1 i t h1 h2 h3 h4
theorem OR.s (h : OR K na ns len G M a L) {f : Int} (s : Int) (hf : f = 20 * (K - 1) + na + s ∧ 0 ≤ s ∧ s < ns) : M 0 f a = L na s := by
  obtain ⟨rfl, h1, h2⟩ := hf
  exact h.2.2.2 s h1 h2
theorem OR.wv (h : OR K na ns len G M a L) {M1 : Mm} {b t x : Int} (i : Int) (hf : b = a + 1 + i ∧ 0 ≤ i ∧ i < na) (hM : M1 = mup M 1 b t x) : OR K na ns len G M1 a (lup L i t x) := by
  obtain ⟨rfl, h1, h2⟩ := hf
  subst hM
  refine ⟨h.1, h.2.1, fun i' t' q1 q2 q3 q4 => ?_, fun s q1 q2 => ?_⟩
  · by_cases e : i' = i ∧ t' = t
    · rw [e.1, e.2, mup_s, lup_s]
    · rw [mup_n (by omega), lup_n e]
      exact h.2.2.1 i' t' q1 q2 q3 q4
  · rw [mup_n (by omega), lup_n (by omega)]
    exact h.2.2.2 s q1 q2
theorem OR.ws (h : OR K na ns len G M a L) {M1 : Mm} {f x : Int} (s : Int) (hf : f = 20 * (K - 1) + na + s) (hM : M1 = mup M 0 f a x) : OR K na ns len G M1 a (lup L na s x) := by
  subst hM
  refine ⟨h.1, h.2.1, fun i' t' q1 q2 q3 q4 => ?_, fun s' q1 q2 => ?_⟩
  · rw [mup_n (by omega), lup_n (by omega)]
    exact h.2.2.1 i' t' q1 q2 q3 q4
  · by_cases e : s' = s
    · rw [e, hf, mup_s, lup_s]
    · rw [mup_n (by omega), lup_n (by omega)]
      exact h.2.2.2 s' q1 q2
theorem OR.o (h : OR K na ns len G M a L) {G1 M1 : Mm} (hn : 0 ≤ na) (hg : ∀ b, a ≤ b → b ≤ a + na → agr G M G1 M1 b) : OR K na ns len G1 M1 a L := by
  have ha := hg a (by omega) (by omega)
  refine ⟨by rw [ha.1]; exact h.1, fun i h1 h2 => ?_, fun i t h1 h2 h3 h4 => ?_, fun s h1 h2 => by rw [ha.2.2.2.2.1]; exact h.2.2.2 s h1 h2⟩
  · have hb := hg (a + 1 + i) (by omega) (by omega)
    rw [ha.2.2.1, hb.1, hb.2.1]
    exact h.2.1 i h1 h2
  · have hb := hg (a + 1 + i) (by omega) (by omega)
    rw [hb.2.2.2.2.2]
    exact h.2.2.1 i t h1 h2 h3 h4
theorem OR.oM (h : OR K na ns len G M a L) {M1 : Mm} {lo hi : Int} (hO : Ot lo hi M M1) (hr : 0 ≤ na ∧ (hi < a ∨ a + na < lo)) : OR K na ns len G M1 a L :=
  h.o hr.1 fun b h1 h2 => ⟨rfl, rfl, fun _ => rfl, fun _ => rfl, fun f => hO.f (by omega) f, fun j => hO.j (by omega) j⟩
theorem OR.ext (h : OR K na ns len G M a L) {L' : Fn} (h1 : ∀ i t, 0 ≤ i → i < na → 0 ≤ t → t < len → L i t = L' i t) (h2 : ∀ s, 0 ≤ s → s < ns → L na s = L' na s) : OR K na ns len G M a L' :=
  ⟨h.1, h.2.1, fun i t q1 q2 q3 q4 => (h.2.2.1 i t q1 q2 q3 q4).trans (h1 i t q1 q2 q3 q4), fun s q1 q2 => (h.2.2.2 s q1 q2).trans (h2 s q1 q2)⟩
end ORs
/-- a line of the class: 0 left, 1 kindOf, 2 holdOf, 3 sentAt; 4: speed, lag, downFor, wordsSent, end -/
abbrev LR := OR 4 4 5 61
/-- sources: 0 weight, 1 root; 2: count -/
abbrev SR := OR 5 2 1 10
/-- tally: 0 strongestOfRoot; 1: roots, namedRoots, officialRoots, force -/
abbrev YR := OR 7 1 4 10
/-- a fact: 0 said; 1: truth, truthForce, heard, rivalAt -/
abbrev FR := OR 3 1 4 10
/-- a take: 0 values; 1: story, kind, factSet, words, hold, isGuarded, target, killedBy, filedAt -/
abbrev TR := OR 6 1 9 4
/-- the numbers of a line are small -/
def LB (L : Fn) : Prop := (∀ t, 0 ≤ t → t < 61 → (-1 ≤ L 0 t ∧ L 0 t ≤ 200) ∧ (0 ≤ L 1 t ∧ L 1 t ≤ 4) ∧ (0 ≤ L 2 t ∧ L 2 t ≤ 9999) ∧ (-1 ≤ L 3 t ∧ L 3 t ≤ 20000)) ∧
  (0 ≤ L 4 0 ∧ L 4 0 ≤ 60) ∧ (0 ≤ L 4 1 ∧ L 4 1 ≤ 9) ∧ (0 ≤ L 4 2 ∧ L 4 2 ≤ 99) ∧ (0 ≤ L 4 4 ∧ L 4 4 ≤ 61)
section GForms
variable {E : Ev} {cc : ByteArray} {nL : Nat} {own : String} {tb : List ExceptionTableEntry} {R0 : Room} {G M : Mm} {k n pc : Nat} {ll : List LE} {st : List Value}
theorem pw_iastG (C : Cx E cc nL own tb R0) {a i x len : Int} (d : decode cc pc = .ok (.iastore, 1)) (hk : AI G a len) (hi : 0 ≤ i ∧ i < len) (kk : ∀ M1, M1 = mup M 1 a i x → PW E G M1 k n (pc + 1) ll st) : PW E G M k n pc ll (vI x :: vI i :: vR a :: st) :=
  pw_iastE C d hk hi (kk _ rfl)
theorem pw_putIG (C : Cx E cc nL own tb R0) {idx : Nat} {K f a x : Int} {fin : Bool} (d : decode cc pc = .ok (.putfield idx, 3)) (hL : FL own idx K f (some fin) .int) (hini : fin = true → Ini E) (hf : isRf f = false) (hk : G 0 a 0 = K) (kk : ∀ M1, M1 = mup M 0 f a x → PW E G M1 k n (pc + 3) ll st) : PW E G M k n pc ll (vI x :: vR a :: st) :=
  pw_putI C d hL hini hk hf (kk _ rfl)
theorem pw_putZG (C : Cx E cc nL own tb R0) {idx : Nat} {K f a x : Int} {fin : Bool} (d : decode cc pc = .ok (.putfield idx, 3)) (hL : FL own idx K f (some fin) .boolean) (hini : fin = true → Ini E) (hf : isRf f = false) (hx : x = 0 ∨ x = 1) (hk : G 0 a 0 = K) (kk : ∀ M1, M1 = mup M 0 f a x → PW E G M1 k n (pc + 3) ll st) : PW E G M k n pc ll (vI x :: vR a :: st) :=
  pw_putZ C d hL hini hk hf hx (kk _ rfl)
theorem pw_ifL_eq (C : Cx E cc nL own tb R0) {x off : Int} {tgt : Nat} (d : decode cc pc = .ok (.ifCond .eq off, 3)) (ht : (pc : Int) + off = (tgt : Int)) (hx : x = 0) (kk : PW E G M k n tgt ll st) : PW E G M k n pc ll (vI x :: st) :=
  pw_if_eq C d ht (by omega) (fun _ => kk) (fun h => absurd hx h)
theorem pw_ifL_eqn (C : Cx E cc nL own tb R0) {x off : Int} {tgt : Nat} (d : decode cc pc = .ok (.ifCond .eq off, 3)) (ht : (pc : Int) + off = (tgt : Int)) (hx : x = 1) (kk : PW E G M k n (pc + 3) ll st) : PW E G M k n pc ll (vI x :: st) :=
  pw_if_eq C d ht (by omega) (fun h => absurd h (by omega)) (fun _ => kk)
theorem pw_ifL_ne (C : Cx E cc nL own tb R0) {x off : Int} {tgt : Nat} (d : decode cc pc = .ok (.ifCond .ne off, 3)) (ht : (pc : Int) + off = (tgt : Int)) (hx : x = 1) (kk : PW E G M k n tgt ll st) : PW E G M k n pc ll (vI x :: st) :=
  pw_if_ne C d ht (by omega) (fun _ => kk) (fun h => absurd h (by omega))
theorem pw_ifL_nen (C : Cx E cc nL own tb R0) {x off : Int} {tgt : Nat} (d : decode cc pc = .ok (.ifCond .ne off, 3)) (ht : (pc : Int) + off = (tgt : Int)) (hx : x = 0) (kk : PW E G M k n (pc + 3) ll st) : PW E G M k n pc ll (vI x :: st) :=
  pw_if_ne C d ht (by omega) (fun h => absurd hx h) (fun _ => kk)
end GForms
