/-! ===== rows with the value said; booleans; frames of memory ===== -/
def bI (c : Prop) [Decidable c] : Int := if c then 1 else 0
theorem bI_t {c : Prop} [Decidable c] (h : c) : bI c = 1 := if_pos h
theorem bI_f {c : Prop} [Decidable c] (h : ¬ c) : bI c = 0 := if_neg h
theorem bI_01 (c : Prop) [Decidable c] : bI c = 0 ∨ bI c = 1 := by
  by_cases h : c
  · exact Or.inr (bI_t h)
  · exact Or.inl (bI_f h)
theorem bI_0 {c : Prop} [Decidable c] : bI c = 0 ↔ ¬ c := by
  by_cases h : c <;> simp [bI, h]
theorem bI_1 {c : Prop} [Decidable c] : bI c = 1 ↔ c := by
  by_cases h : c <;> simp [bI, h]
theorem bI_c {c d : Prop} [Decidable c] [Decidable d] (h : c ↔ d) : bI c = bI d := by
  by_cases hc : c
  · rw [bI_t hc, bI_t (h.mp hc)]
  · rw [bI_f hc, bI_f (fun z => hc (h.mpr z))]
/-- an int array -/
def AI (G : Mm) (a len : Int) : Prop := G 0 a 0 = 100 ∧ G 1 a 0 = len
def AZ (G : Mm) (a len : Int) : Prop := G 0 a 0 = 101 ∧ G 1 a 0 = len
/-- an array of references of type t (3..7) -/
def AR (G : Mm) (t a len : Int) : Prop := G 0 a 0 = t + 100 ∧ G 1 a 0 = len
/-- outside lo .. hi no number has changed -/
def Ot (lo hi : Int) (M M' : Mm) : Prop := ∀ b, (b < lo ∨ hi < b) → (∀ f, M' 0 f b = M 0 f b) ∧ ∀ j, M' 1 b j = M 1 b j
theorem Ot.rf {lo hi : Int} {M : Mm} : Ot lo hi M M := fun _ _ => ⟨fun _ => rfl, fun _ => rfl⟩
theorem Ot.tr {lo hi : Int} {M M1 M2 : Mm} (h : Ot lo hi M M1) (h' : Ot lo hi M1 M2) : Ot lo hi M M2 := fun b hb =>
  ⟨fun f => ((h' b hb).1 f).trans ((h b hb).1 f), fun j => ((h' b hb).2 j).trans ((h b hb).2 j)⟩
theorem Ot.mono {lo hi lo' hi' : Int} {M M' : Mm} (h : Ot lo hi M M') (h1 : lo' ≤ lo) (h2 : hi ≤ hi') : Ot lo' hi' M M' := fun b hb => h b (by omega)
theorem Ot.u0 {lo hi f a x : Int} {M M' : Mm} (h : Ot lo hi M M') (ha : lo ≤ a ∧ a ≤ hi) : Ot lo hi M (mup M' 0 f a x) := fun b hb =>
  ⟨fun f' => (mup_n (by omega)).trans ((h b hb).1 f'), fun j => (mup_n (by omega)).trans ((h b hb).2 j)⟩
theorem Ot.u1 {lo hi a j x : Int} {M M' : Mm} (h : Ot lo hi M M') (ha : lo ≤ a ∧ a ≤ hi) : Ot lo hi M (mup M' 1 a j x) := fun b hb =>
  ⟨fun f' => (mup_n (by omega)).trans ((h b hb).1 f'), fun j => (mup_n (by omega)).trans ((h b hb).2 j)⟩
theorem Ot.f {lo hi : Int} {M M' : Mm} (h : Ot lo hi M M') {b : Int} (hb : b < lo ∨ hi < b) (f : Int) : M' 0 f b = M 0 f b := (h b hb).1 f
theorem Ot.j {lo hi : Int} {M M' : Mm} (h : Ot lo hi M M') {b : Int} (hb : b < lo ∨ hi < b) (j : Int) : M' 1 b j = M 1 b j := (h b hb).2 j
/-- all cells of before are as they were -/
def Kp (G M G' M' : Mm) : Prop := (∀ a, a < G 4 0 0 → agr G M G' M' a) ∧ G 4 0 0 ≤ G' 4 0 0
theorem agr.rf {G M : Mm} {a : Int} : agr G M G M a := ⟨rfl, rfl, fun _ => rfl, fun _ => rfl, fun _ => rfl, fun _ => rfl⟩
theorem agr.tr {G M G1 M1 G2 M2 : Mm} {a : Int} (h : agr G M G1 M1 a) (h' : agr G1 M1 G2 M2 a) : agr G M G2 M2 a := by
  obtain ⟨a1, a2, a3, a4, a5, a6⟩ := h
  obtain ⟨b1, b2, b3, b4, b5, b6⟩ := h'
  exact ⟨b1.trans a1, b2.trans a2, fun f => (b3 f).trans (a3 f), fun f => (b4 f).trans (a4 f), fun f => (b5 f).trans (a5 f), fun f => (b6 f).trans (a6 f)⟩
theorem Kp.rf {G M : Mm} : Kp G M G M := ⟨fun _ _ => agr.rf, Int.le_refl _⟩
theorem Kp.tr {G M G1 M1 G2 M2 : Mm} (h : Kp G M G1 M1) (h' : Kp G1 M1 G2 M2) : Kp G M G2 M2 := ⟨fun a ha => (h.1 a ha).tr (h'.1 a (by have := h.2; omega)), Int.le_trans h.2 h'.2⟩
theorem Kp.new {G M G1 M1 : Mm} {K len : Int} (h : Kp G M G1 M1) : Kp G M (nG G1 K len) (nM G1 M1) := by
  have h2 := h.2
  exact ⟨fun a ha => (h.1 a ha).tr (agr_n a (by omega)), by rw [nG_next]; omega⟩
theorem Kp.w {G M G1 M1 G2 M2 : Mm} {x : Int} (h : Kp G M G1 M1) (hx : G 4 0 0 ≤ x) (hg : ∀ a', a' ≠ x → agr G1 M1 G2 M2 a') (h4 : G2 4 0 0 = G1 4 0 0) : Kp G M G2 M2 :=
  ⟨fun a ha => (h.1 a ha).tr (hg a (by omega)), by rw [h4]; exact h.2⟩
section Rows5
variable {E : Ev} {cc : ByteArray} {nL : Nat} {own : String} {tb : List ExceptionTableEntry} {R0 : Room} {G M : Mm} {k n pc : Nat} {ll : List LE} {st : List Value}
theorem pw_getE (C : Cx E cc nL own tb R0) {idx : Nat} {K f a x : Int} {fin : Option Bool} {ty : FieldType} (d : decode cc pc = .ok (.getfield idx, 3)) (hL : FL own idx K f fin ty) (hf : isRf f = false) (hk : G 0 a 0 = K) (hv : M 0 f a = x) (kk : PW E G M k n (pc + 3) ll (vI x :: st)) : PW E G M k n pc ll (vR a :: st) :=
  pw_getV C d hL hk (by rw [hf, hv]; rfl) kk
theorem pw_ialdE (C : Cx E cc nL own tb R0) {a i x len : Int} (d : decode cc pc = .ok (.iaload, 1)) (hk : AI G a len) (hi : 0 ≤ i ∧ i < len) (hv : M 1 a i = x) (kk : PW E G M k n (pc + 1) ll (vI x :: st)) : PW E G M k n pc ll (vI i :: vR a :: st) := by
  subst hv
  exact pw_iald C d hk.1 (by rw [hk.2]; exact hi) kk
theorem pw_zaldE (C : Cx E cc nL own tb R0) {a i x len : Int} (d : decode cc pc = .ok (.baload, 1)) (hk : AZ G a len) (hi : 0 ≤ i ∧ i < len) (hv : M 1 a i = x) (kk : PW E G M k n (pc + 1) ll (vI x :: st)) : PW E G M k n pc ll (vI i :: vR a :: st) := by
  subst hv
  exact pw_zald C d hk.1 (by rw [hk.2]; exact hi) kk
theorem pw_iastE (C : Cx E cc nL own tb R0) {a i x len : Int} (d : decode cc pc = .ok (.iastore, 1)) (hk : AI G a len) (hi : 0 ≤ i ∧ i < len) (kk : PW E G (mup M 1 a i x) k n (pc + 1) ll st) : PW E G M k n pc ll (vI x :: vI i :: vR a :: st) :=
  pw_iast C d hk.1 (by rw [hk.2]; exact hi) kk
theorem pw_zastE (C : Cx E cc nL own tb R0) {a i x len : Int} (d : decode cc pc = .ok (.bastore, 1)) (hk : AZ G a len) (hi : 0 ≤ i ∧ i < len) (hx01 : x = 0 ∨ x = 1) (kk : PW E G (mup M 1 a i x) k n (pc + 1) ll st) : PW E G M k n pc ll (vI x :: vI i :: vR a :: st) :=
  pw_zast C d hk.1 (by rw [hk.2]; exact hi) hx01 kk
theorem pw_alenE (C : Cx E cc nL own tb R0) {a len : Int} (d : decode cc pc = .ok (.arraylength, 1)) (hk : AI G a len) (kk : PW E G M k n (pc + 1) ll (vI len :: st)) : PW E G M k n pc ll (vR a :: st) :=
  pw_alen C d (by have := hk.1; omega) hk.2 kk
theorem pw_alenZ (C : Cx E cc nL own tb R0) {a len : Int} (d : decode cc pc = .ok (.arraylength, 1)) (hk : AZ G a len) (kk : PW E G M k n (pc + 1) ll (vI len :: st)) : PW E G M k n pc ll (vR a :: st) :=
  pw_alen C d (by have := hk.1; omega) hk.2 kk
theorem pw_alenR (C : Cx E cc nL own tb R0) {a len t : Int} (d : decode cc pc = .ok (.arraylength, 1)) (hk : AR G t a len) (ht : 2 < t ∧ t < 8) (kk : PW E G M k n (pc + 1) ll (vI len :: st)) : PW E G M k n pc ll (vR a :: st) :=
  pw_alen C d (by have := hk.1; omega) hk.2 kk
theorem pw_aaldE (C : Cx E cc nL own tb R0) {a i b len t : Int} (d : decode cc pc = .ok (.aaload, 1)) (hk : AR G t a len) (ht : 2 < t ∧ t < 8) (hi : 0 ≤ i ∧ i < len) (hv : G 3 a i = b) (kk : PW E G M k n (pc + 1) ll (vR b :: st)) : PW E G M k n pc ll (vI i :: vR a :: st) :=
  pw_aald (t := t.toNat) C d (by omega) (by have := hk.1; omega) (by rw [hk.2]; exact hi) hv kk
theorem pw_ifB_eq (C : Cx E cc nL own tb R0) {c : Prop} [Decidable c] {off : Int} {tgt : Nat} (d : decode cc pc = .ok (.ifCond .eq off, 3)) (ht : (pc : Int) + off = (tgt : Int)) (kt : ¬ c → PW E G M k n tgt ll st) (kf : c → PW E G M k n (pc + 3) ll st) : PW E G M k n pc ll (vI (bI c) :: st) :=
  pw_if_eq C d ht (by rcases bI_01 c with h | h <;> omega) (fun h => kt (bI_0.mp h)) (fun h => kf (by
    rcases bI_01 c with h1 | h1
    · exact absurd h1 h
    · exact bI_1.mp h1))
theorem pw_ifB_ne (C : Cx E cc nL own tb R0) {c : Prop} [Decidable c] {off : Int} {tgt : Nat} (d : decode cc pc = .ok (.ifCond .ne off, 3)) (ht : (pc : Int) + off = (tgt : Int)) (kt : c → PW E G M k n tgt ll st) (kf : ¬ c → PW E G M k n (pc + 3) ll st) : PW E G M k n pc ll (vI (bI c) :: st) :=
  pw_if_ne C d ht (by rcases bI_01 c with h | h <;> omega) (fun h => kt (by
    rcases bI_01 c with h1 | h1
    · exact absurd h1 h
    · exact bI_1.mp h1)) (fun h => kf (bI_0.mp h))
/-- the end, its answer said -/
theorem pw_iretE (C : Cx E cc nL own tb R0) {G0 M0 : Mm} {mc ms : Nat} {x y : Int} (hr : Rt E (PE G0 M0 x) (some .int) mc ms) (d : decode cc pc = .ok (.ireturn, 1)) (hg : G = G0) (hm : M = M0) (h : y = x) (hk : k ≤ mc) (hn : n ≤ ms) : PW E G M k n pc ll [vI y] :=
  pw_iret C hr d ⟨by rw [h], hg, hm⟩ hk hn
theorem pw_zretE (C : Cx E cc nL own tb R0) {G0 M0 : Mm} {mc ms : Nat} {x y : Int} (hr : Rt E (PE G0 M0 x) (some .boolean) mc ms) (d : decode cc pc = .ok (.ireturn, 1)) (h01 : y = 0 ∨ y = 1) (hg : G = G0) (hm : M = M0) (h : y = x) (hk : k ≤ mc) (hn : n ≤ ms) : PW E G M k n pc ll [vI y] :=
  pw_zret C hr d h01 ⟨by rw [h], hg, hm⟩ hk hn
theorem pw_aretE (C : Cx E cc nL own tb R0) {G0 M0 : Mm} {mc ms : Nat} {x y : Int} {rt : FieldType} (hr : Rt E (PR G0 M0 x) (some rt) mc ms) (d : decode cc pc = .ok (.areturn, 1)) (hrt : (∃ n, rt = .object n) ∨ ∃ t, rt = .array t) (hg : G = G0) (hm : M = M0) (h : y = x) (hk : k ≤ mc) (hn : n ≤ ms) : PW E G M k n pc ll [vR y] :=
  pw_aret C hr d hrt ⟨by rw [h], hg, hm⟩ hk hn
theorem pw_lretE (C : Cx E cc nL own tb R0) {G0 M0 : Mm} {mc ms : Nat} {x y : Int} (hr : Rt E (PL G0 M0 x) (some .long) mc ms) (d : decode cc pc = .ok (.lreturn, 1)) (hg : G = G0) (hm : M = M0) (h : y = x) (hk : k ≤ mc) (hn : n ≤ ms) : PW E G M k n pc ll [vL y] :=
  pw_lret C hr d ⟨by rw [h], hg, hm⟩ hk hn
theorem pw_vretE (C : Cx E cc nL own tb R0) {G0 M0 : Mm} {mc ms : Nat} (hr : Rt E (PV G0 M0) none mc ms) (d : decode cc pc = .ok (.return_, 1)) (hg : G = G0) (hm : M = M0) (hk : k ≤ mc) (hn : n ≤ ms) : PW E G M k n pc ll [] :=
  pw_vret C hr d ⟨rfl, hg, hm⟩ hk hn
end Rows5
/-- the first of lo .. hi - 1 with p, or hi -/
def fndN (p : Int → Prop) [DecidablePred p] : Nat → Int → Int
  | 0, i => i
  | n + 1, i => if p i then i else fndN p n (i + 1)
def fnd (p : Int → Prop) [DecidablePred p] (lo hi : Int) : Int := fndN p (hi - lo).toNat lo
theorem fnd_end {p : Int → Prop} [DecidablePred p] {lo hi : Int} (h : hi ≤ lo) : fnd p lo hi = lo := by
  unfold fnd
  rw [show (hi - lo).toNat = 0 by omega]
  rfl
theorem fnd_hit {p : Int → Prop} [DecidablePred p] {lo hi : Int} (h : lo < hi) (hp : p lo) : fnd p lo hi = lo := by
  unfold fnd
  rw [show (hi - lo).toNat = (hi - (lo + 1)).toNat + 1 by omega]
  unfold fndN
  rw [if_pos hp]
theorem fnd_next {p : Int → Prop} [DecidablePred p] {lo hi : Int} (h : lo < hi) (hp : ¬ p lo) : fnd p lo hi = fnd p (lo + 1) hi := by
  unfold fnd
  rw [show (hi - lo).toNat = (hi - (lo + 1)).toNat + 1 by omega]
  rw [fndN, if_neg hp]
theorem fnd_go {p : Int → Prop} [DecidablePred p] {lo hi R : Int} (hlt : lo < hi) (h : fnd p lo hi = R) (hp : ¬ p lo) : fnd p (lo + 1) hi = R := by rw [← h, fnd_next hlt hp]
theorem fnd_at {p : Int → Prop} [DecidablePred p] {lo hi R : Int} (hlt : lo < hi) (h : fnd p lo hi = R) (hp : p lo) : lo = R := by rw [← h, fnd_hit hlt hp]
theorem fnd_no {p : Int → Prop} [DecidablePred p] {lo hi R : Int} (hge : hi ≤ lo) (h : fnd p lo hi = R) : lo = R := by rw [← h, fnd_end hge]
theorem fnd_spec {p : Int → Prop} [DecidablePred p] {lo hi : Int} (h : lo ≤ hi) : lo ≤ fnd p lo hi ∧ fnd p lo hi ≤ hi ∧ (∀ j, lo ≤ j → j < fnd p lo hi → ¬ p j) ∧ (fnd p lo hi < hi → p (fnd p lo hi)) := by
  have key : ∀ (n : Nat) (i : Int), i + n = hi → i ≤ fnd p i hi ∧ fnd p i hi ≤ hi ∧ (∀ j, i ≤ j → j < fnd p i hi → ¬ p j) ∧ (fnd p i hi < hi → p (fnd p i hi)) := by
    intro n
    induction n with
    | zero => intro i e; rw [fnd_end (by omega)]; exact ⟨by omega, by omega, fun j _ _ => by omega, fun _ => by omega⟩
    | succ n ih =>
      intro i e
      by_cases hp : p i
      · rw [fnd_hit (by omega) hp]; exact ⟨by omega, by omega, fun j _ _ => by omega, fun _ => hp⟩
      · rw [fnd_next (by omega) hp]
        obtain ⟨a, b, c, d⟩ := ih (i + 1) (by omega)
        refine ⟨by omega, b, fun j h1 h2 => ?_, d⟩
        by_cases e' : j = i
        · rw [e']; exact hp
        · exact c j (by omega) h2
  exact key (hi - lo).toNat lo (by omega)
theorem fnd_lt {p : Int → Prop} [DecidablePred p] {lo hi : Int} (h : lo ≤ hi) : fnd p lo hi < hi ↔ ∃ j, lo ≤ j ∧ j < hi ∧ p j := by
  obtain ⟨a, b, c, d⟩ := fnd_spec (p := p) h
  constructor
  · intro hl; exact ⟨_, a, hl, d hl⟩
  · rintro ⟨j, h1, h2, h3⟩
    apply Classical.byContradiction
    intro hn
    exact c j h1 (by omega) h3
