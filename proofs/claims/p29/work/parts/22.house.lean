/-! ===== the class's object at B, its cells up to B + 201, its abstract value A: A 0 0: stories, takes, lines, now; A 10 sources; A (20 + l) lines; A (100 + f) facts; A (200 + t) takes ===== -/
abbrev An : Type := Int → Fn
def aup (A : An) (i : Int) (L : Fn) : An := fun j => if j = i then L else A j
theorem aup_s (A : An) (i : Int) (L : Fn) : aup A i L i = L := by simp [aup]
theorem aup_n {A : An} {i : Int} {L : Fn} {j : Int} (h : j ≠ i) : aup A i L j = A j := by simp [aup, h]
def HG (G : Mm) (B : Int) : Prop := G 0 B 0 = 8 ∧ (G 2 140 B = B + 1 ∧ G 2 141 B = B + 4 ∧ G 2 142 B = B + 6 ∧ G 2 143 B = B + 55 ∧ G 2 144 B = B + 176 ∧ G 2 145 B = B + 197) ∧
  AR G 3 (B + 6) 24 ∧ AR G 4 (B + 55) 60 ∧ AR G 5 (B + 176) 4 ∧ (∀ f, 0 ≤ f → f < 24 → G 3 (B + 6) f = B + 7 + 2 * f) ∧ (∀ t, 0 ≤ t → t < 60 → G 3 (B + 55) t = B + 56 + 2 * t) ∧ ∀ l, 0 ≤ l → l < 4 → G 3 (B + 176) l = B + 177 + 5 * l
def RC (G M : Mm) (B : Int) (A : An) : Prop := HG G B ∧ (∀ s, 0 ≤ s → s < 4 → M 0 (146 + s) B = A 0 0 s) ∧ SR G M (B + 1) (A 10) ∧ (∃ Y, YR G M (B + 4) Y) ∧ (∀ f, 0 ≤ f → f < 24 → FR G M (B + 7 + 2 * f) (A (100 + f))) ∧
  (∀ t, 0 ≤ t → t < 60 → TR G M (B + 56 + 2 * t) (A (200 + t))) ∧ (∀ l, 0 ≤ l → l < 4 → LR G M (B + 177 + 5 * l) (A (20 + l))) ∧ ∃ Z, LR G M (B + 197) Z
section RCs
variable {G M M1 : Mm} {B : Int} {A : An}
theorem RC.k (h : RC G M B A) : G 0 B 0 = 8 := h.1.1
theorem RC.r0 (h : RC G M B A) : G 2 140 B = B + 1 := h.1.2.1.1
theorem RC.r1 (h : RC G M B A) : G 2 141 B = B + 4 := h.1.2.1.2.1
theorem RC.r2 (h : RC G M B A) : G 2 142 B = B + 6 := h.1.2.1.2.2.1
theorem RC.r3 (h : RC G M B A) : G 2 143 B = B + 55 := h.1.2.1.2.2.2.1
theorem RC.r4 (h : RC G M B A) : G 2 144 B = B + 176 := h.1.2.1.2.2.2.2.1
theorem RC.r5 (h : RC G M B A) : G 2 145 B = B + 197 := h.1.2.1.2.2.2.2.2
theorem RC.a2 (h : RC G M B A) : AR G 3 (B + 6) 24 := h.1.2.2.1
theorem RC.a3 (h : RC G M B A) : AR G 4 (B + 55) 60 := h.1.2.2.2.1
theorem RC.a4 (h : RC G M B A) : AR G 5 (B + 176) 4 := h.1.2.2.2.2.1
theorem RC.e2 (h : RC G M B A) (f : Int) (h1 : 0 ≤ f ∧ f < 24) : G 3 (B + 6) f = B + 7 + 2 * f := h.1.2.2.2.2.2.1 f h1.1 h1.2
theorem RC.e3 (h : RC G M B A) (t : Int) (h1 : 0 ≤ t ∧ t < 60) : G 3 (B + 55) t = B + 56 + 2 * t := h.1.2.2.2.2.2.2.1 t h1.1 h1.2
theorem RC.e4 (h : RC G M B A) (l : Int) (h1 : 0 ≤ l ∧ l < 4) : G 3 (B + 176) l = B + 177 + 5 * l := h.1.2.2.2.2.2.2.2 l h1.1 h1.2
theorem RC.n (h : RC G M B A) (s : Int) {f : Int} (hf : f = 146 + s ∧ 0 ≤ s ∧ s < 4) : M 0 f B = A 0 0 s := by
  obtain ⟨rfl, h1, h2⟩ := hf
  exact h.2.1 s h1 h2
theorem RC.so (h : RC G M B A) : SR G M (B + 1) (A 10) := h.2.2.1
theorem RC.ty (h : RC G M B A) : ∃ Y, YR G M (B + 4) Y := h.2.2.2.1
theorem RC.fa (h : RC G M B A) (f : Int) (h1 : 0 ≤ f ∧ f < 24) : FR G M (B + 7 + 2 * f) (A (100 + f)) := h.2.2.2.2.1 f h1.1 h1.2
theorem RC.ta (h : RC G M B A) (t : Int) (h1 : 0 ≤ t ∧ t < 60) : TR G M (B + 56 + 2 * t) (A (200 + t)) := h.2.2.2.2.2.1 t h1.1 h1.2
theorem RC.li (h : RC G M B A) (l : Int) (h1 : 0 ≤ l ∧ l < 4) : LR G M (B + 177 + 5 * l) (A (20 + l)) := h.2.2.2.2.2.2.1 l h1.1 h1.2
theorem RC.tr (h : RC G M B A) : ∃ Z, LR G M (B + 197) Z := h.2.2.2.2.2.2.2
/-- all parts but those in lo .. hi go on -/
theorem RC.mk' (h : RC G M B A) {A1 : An} {lo hi : Int} (hO : Ot lo hi M M1)
    (h0 : (hi < B ∨ B < lo) ∧ (∀ s, A1 0 0 s = A 0 0 s) ∨ ∀ s, 0 ≤ s → s < 4 → M1 0 (146 + s) B = A1 0 0 s)
    (hs : (hi < B + 1 ∨ B + 3 < lo) ∧ A1 10 = A 10 ∨ SR G M1 (B + 1) (A1 10))
    (hy : (hi < B + 4 ∨ B + 5 < lo) ∨ ∃ Y, YR G M1 (B + 4) Y)
    (hf : ∀ f, 0 ≤ f → f < 24 → (hi < B + 7 + 2 * f ∨ B + 8 + 2 * f < lo) ∧ A1 (100 + f) = A (100 + f) ∨ FR G M1 (B + 7 + 2 * f) (A1 (100 + f)))
    (ht : ∀ t, 0 ≤ t → t < 60 → (hi < B + 56 + 2 * t ∨ B + 57 + 2 * t < lo) ∧ A1 (200 + t) = A (200 + t) ∨ TR G M1 (B + 56 + 2 * t) (A1 (200 + t)))
    (hl : ∀ l, 0 ≤ l → l < 4 → (hi < B + 177 + 5 * l ∨ B + 181 + 5 * l < lo) ∧ A1 (20 + l) = A (20 + l) ∨ LR G M1 (B + 177 + 5 * l) (A1 (20 + l)))
    (hz : (hi < B + 197 ∨ B + 201 < lo) ∨ ∃ Z, LR G M1 (B + 197) Z) : RC G M1 B A1 := by
  refine ⟨h.1, fun s q1 q2 => ?_, ?_, ?_, fun f q1 q2 => ?_, fun t q1 q2 => ?_, fun l q1 q2 => ?_, ?_⟩
  · rcases h0 with ⟨p1, p2⟩ | p
    · rw [hO.f (by omega), p2]; exact h.2.1 s q1 q2
    · exact p s q1 q2
  · rcases hs with ⟨p1, p2⟩ | p
    · rw [p2]; exact h.so.oM hO (by omega)
    · exact p
  · rcases hy with p1 | p
    · obtain ⟨Y, hY⟩ := h.ty; exact ⟨Y, hY.oM hO (by omega)⟩
    · exact p
  · rcases hf f q1 q2 with ⟨p1, p2⟩ | p
    · rw [p2]; exact (h.fa f ⟨q1, q2⟩).oM hO (by omega)
    · exact p
  · rcases ht t q1 q2 with ⟨p1, p2⟩ | p
    · rw [p2]; exact (h.ta t ⟨q1, q2⟩).oM hO (by omega)
    · exact p
  · rcases hl l q1 q2 with ⟨p1, p2⟩ | p
    · rw [p2]; exact (h.li l ⟨q1, q2⟩).oM hO (by omega)
    · exact p
  · rcases hz with p1 | p
    · obtain ⟨Z, hZ⟩ := h.tr; exact ⟨Z, hZ.oM hO (by omega)⟩
    · exact p
theorem RC.o (h : RC G M B A) {lo hi : Int} (hO : Ot lo hi M M1) (hr : hi < B ∨ B + 201 < lo) : RC G M1 B A :=
  h.mk' hO (Or.inl ⟨by omega, fun _ => rfl⟩) (Or.inl ⟨by omega, rfl⟩) (Or.inl (by omega)) (fun f _ _ => Or.inl ⟨by omega, rfl⟩) (fun t _ _ => Or.inl ⟨by omega, rfl⟩) (fun l _ _ => Or.inl ⟨by omega, rfl⟩) (Or.inl (by omega))
theorem RC.wn (h : RC G M B A) (s : Int) {f x : Int} (hf : f = 146 + s ∧ 0 ≤ s ∧ s < 4) (hM : M1 = mup M 0 f B x) : RC G M1 B (aup A 0 (lup (A 0) 0 s x)) := by
  obtain ⟨rfl, h1, h2⟩ := hf
  have hO : Ot B B M M1 := by rw [hM]; exact Ot.rf.u0 (by omega)
  refine h.mk' hO (Or.inr fun s' q1 q2 => ?_) (Or.inl ⟨by omega, aup_n (by omega)⟩) (Or.inl (by omega)) (fun f _ _ => Or.inl ⟨by omega, aup_n (by omega)⟩) (fun t _ _ => Or.inl ⟨by omega, aup_n (by omega)⟩) (fun l _ _ => Or.inl ⟨by omega, aup_n (by omega)⟩) (Or.inl (by omega))
  rw [aup_s, hM]
  by_cases e : s' = s
  · rw [e, mup_s, lup_s]
  · rw [mup_n (by omega), lup_n (by omega)]; exact h.2.1 s' q1 q2
theorem RC.uS (h : RC G M B A) {S : Fn} (hS : SR G M1 (B + 1) S) (hO : Ot (B + 1) (B + 3) M M1) : RC G M1 B (aup A 10 S) :=
  h.mk' hO (Or.inl ⟨by omega, fun _ => by rw [aup_n (by omega)]⟩) (Or.inr (by rw [aup_s]; exact hS)) (Or.inl (by omega)) (fun f _ _ => Or.inl ⟨by omega, aup_n (by omega)⟩) (fun t _ _ => Or.inl ⟨by omega, aup_n (by omega)⟩) (fun l _ _ => Or.inl ⟨by omega, aup_n (by omega)⟩) (Or.inl (by omega))
theorem RC.uY (h : RC G M B A) {Y : Fn} (hY : YR G M1 (B + 4) Y) (hO : Ot (B + 4) (B + 5) M M1) : RC G M1 B A :=
  h.mk' hO (Or.inl ⟨by omega, fun _ => rfl⟩) (Or.inl ⟨by omega, rfl⟩) (Or.inr ⟨Y, hY⟩) (fun f _ _ => Or.inl ⟨by omega, rfl⟩) (fun t _ _ => Or.inl ⟨by omega, rfl⟩) (fun l _ _ => Or.inl ⟨by omega, rfl⟩) (Or.inl (by omega))
theorem RC.uZ (h : RC G M B A) {Z : Fn} (hZ : LR G M1 (B + 197) Z) (hO : Ot (B + 197) (B + 201) M M1) : RC G M1 B A :=
  h.mk' hO (Or.inl ⟨by omega, fun _ => rfl⟩) (Or.inl ⟨by omega, rfl⟩) (Or.inl (by omega)) (fun f _ _ => Or.inl ⟨by omega, rfl⟩) (fun t _ _ => Or.inl ⟨by omega, rfl⟩) (fun l _ _ => Or.inl ⟨by omega, rfl⟩) (Or.inr ⟨Z, hZ⟩)
theorem RC.uF (h : RC G M B A) {F : Fn} (f : Int) (hf : 0 ≤ f ∧ f < 24) (hF : FR G M1 (B + 7 + 2 * f) F) (hO : Ot (B + 7 + 2 * f) (B + 8 + 2 * f) M M1) : RC G M1 B (aup A (100 + f) F) :=
  h.mk' hO (Or.inl ⟨by omega, fun _ => by rw [aup_n (by omega)]⟩) (Or.inl ⟨by omega, aup_n (by omega)⟩) (Or.inl (by omega)) (fun f' _ _ => by
    by_cases e : f' = f
    · subst e; exact Or.inr (by rw [aup_s]; exact hF)
    · exact Or.inl ⟨by omega, aup_n (by omega)⟩) (fun t _ _ => Or.inl ⟨by omega, aup_n (by omega)⟩) (fun l _ _ => Or.inl ⟨by omega, aup_n (by omega)⟩) (Or.inl (by omega))
theorem RC.uT (h : RC G M B A) {T : Fn} (t : Int) (ht : 0 ≤ t ∧ t < 60) (hT : TR G M1 (B + 56 + 2 * t) T) (hO : Ot (B + 56 + 2 * t) (B + 57 + 2 * t) M M1) : RC G M1 B (aup A (200 + t) T) :=
  h.mk' hO (Or.inl ⟨by omega, fun _ => by rw [aup_n (by omega)]⟩) (Or.inl ⟨by omega, aup_n (by omega)⟩) (Or.inl (by omega)) (fun f _ _ => Or.inl ⟨by omega, aup_n (by omega)⟩) (fun t' _ _ => by
    by_cases e : t' = t
    · subst e; exact Or.inr (by rw [aup_s]; exact hT)
    · exact Or.inl ⟨by omega, aup_n (by omega)⟩) (fun l _ _ => Or.inl ⟨by omega, aup_n (by omega)⟩) (Or.inl (by omega))
theorem RC.uL (h : RC G M B A) {L : Fn} (l : Int) (hl : 0 ≤ l ∧ l < 4) (hL : LR G M1 (B + 177 + 5 * l) L) (hO : Ot (B + 177 + 5 * l) (B + 181 + 5 * l) M M1) : RC G M1 B (aup A (20 + l) L) :=
  h.mk' hO (Or.inl ⟨by omega, fun _ => by rw [aup_n (by omega)]⟩) (Or.inl ⟨by omega, aup_n (by omega)⟩) (Or.inl (by omega)) (fun f _ _ => Or.inl ⟨by omega, aup_n (by omega)⟩) (fun t _ _ => Or.inl ⟨by omega, aup_n (by omega)⟩) (fun l' _ _ => by
    by_cases e : l' = l
    · subst e; exact Or.inr (by rw [aup_s]; exact hL)
    · exact Or.inl ⟨by omega, aup_n (by omega)⟩) (Or.inl (by omega))
/-- a fact and the tally -/
theorem RC.uFY (h : RC G M B A) {F : Fn} (f : Int) (hf : 0 ≤ f ∧ f < 24) (hF : FR G M1 (B + 7 + 2 * f) F) (hY : ∃ Y, YR G M1 (B + 4) Y) (hO : Ot2 (B + 7 + 2 * f) (B + 8 + 2 * f) (B + 4) (B + 5) M M1) : RC G M1 B (aup A (100 + f) F) := by
  refine ⟨h.1, fun s q1 q2 => ?_, ?_, hY, fun f' q1 q2 => ?_, fun t q1 q2 => ?_, fun l q1 q2 => ?_, ?_⟩
  · rw [(hO B (by omega) (by omega)).1, aup_n (by omega)]; exact h.2.1 s q1 q2
  · rw [aup_n (by omega)]; exact h.so.oM2 hO (by omega)
  · by_cases e : f' = f
    · subst e; rw [aup_s]; exact hF
    · rw [aup_n (by omega)]; exact (h.fa f' ⟨q1, q2⟩).oM2 hO (by omega)
  · rw [aup_n (by omega)]; exact (h.ta t ⟨q1, q2⟩).oM2 hO (by omega)
  · rw [aup_n (by omega)]; exact (h.li l ⟨q1, q2⟩).oM2 hO (by omega)
  · obtain ⟨Z, hZ⟩ := h.tr; exact ⟨Z, hZ.oM2 hO (by omega)⟩
end RCs
/-- the numbers of a take -/
def TB (T : Fn) (tk : Int) : Prop := (∀ f, 0 ≤ f → f < 4 → -1 ≤ T 0 f ∧ T 0 f ≤ 99) ∧ (0 ≤ T 1 0 ∧ T 1 0 < 6) ∧ (0 ≤ T 1 1 ∧ T 1 1 ≤ 4) ∧ (0 ≤ T 1 2 ∧ T 1 2 ≤ 15) ∧ (0 ≤ T 1 3 ∧ T 1 3 ≤ 200) ∧ (0 ≤ T 1 4 ∧ T 1 4 ≤ 9999) ∧ (0 ≤ T 1 5 ∧ T 1 5 ≤ 1) ∧ (-1 ≤ T 1 6 ∧ T 1 6 < 60) ∧ (-1 ≤ T 1 7 ∧ T 1 7 < 60) ∧ (0 ≤ T 1 8 ∧ T 1 8 ≤ 9999)
def AB (A : An) : Prop := ((0 ≤ A 0 0 0 ∧ A 0 0 0 ≤ 6) ∧ (0 ≤ A 0 0 1 ∧ A 0 0 1 ≤ 60) ∧ (0 ≤ A 0 0 2 ∧ A 0 0 2 ≤ 4) ∧ (0 ≤ A 0 0 3 ∧ A 0 0 3 ≤ 9999)) ∧ SB (A 10) ∧ (∀ f, 0 ≤ f → f < 24 → FB (A (100 + f))) ∧ (∀ t, 0 ≤ t → t < 60 → TB (A (200 + t)) (A 0 0 1)) ∧ ∀ l, 0 ≤ l → l < 4 → LB (A (20 + l))
section ABs
variable {A : An}
theorem AB.n (h : AB A) : (0 ≤ A 0 0 0 ∧ A 0 0 0 ≤ 6) ∧ (0 ≤ A 0 0 1 ∧ A 0 0 1 ≤ 60) ∧ (0 ≤ A 0 0 2 ∧ A 0 0 2 ≤ 4) ∧ (0 ≤ A 0 0 3 ∧ A 0 0 3 ≤ 9999) := h.1
theorem AB.so (h : AB A) : SB (A 10) := h.2.1
theorem AB.fa (h : AB A) (f : Int) (h1 : 0 ≤ f ∧ f < 24) : FB (A (100 + f)) := h.2.2.1 f h1.1 h1.2
theorem AB.ta (h : AB A) (t : Int) (h1 : 0 ≤ t ∧ t < 60) : TB (A (200 + t)) (A 0 0 1) := h.2.2.2.1 t h1.1 h1.2
theorem AB.li (h : AB A) (l : Int) (h1 : 0 ≤ l ∧ l < 4) : LB (A (20 + l)) := h.2.2.2.2 l h1.1 h1.2
end ABs
theorem TB.v0 {T : Fn} {tk : Int} (h : TB T tk) (f : Int) (h1 : 0 ≤ f) (h2 : f < 4) : -1 ≤ T 0 f ∧ T 0 f ≤ 99 := h.1 f h1 h2
theorem TB.s0 {T : Fn} {tk : Int} (h : TB T tk) : 0 ≤ T 1 0 ∧ T 1 0 < 6 := h.2.1
theorem TB.s1 {T : Fn} {tk : Int} (h : TB T tk) : 0 ≤ T 1 1 ∧ T 1 1 ≤ 4 := h.2.2.1
theorem TB.s2 {T : Fn} {tk : Int} (h : TB T tk) : 0 ≤ T 1 2 ∧ T 1 2 ≤ 15 := h.2.2.2.1
theorem TB.s3 {T : Fn} {tk : Int} (h : TB T tk) : 0 ≤ T 1 3 ∧ T 1 3 ≤ 200 := h.2.2.2.2.1
theorem TB.s4 {T : Fn} {tk : Int} (h : TB T tk) : 0 ≤ T 1 4 ∧ T 1 4 ≤ 9999 := h.2.2.2.2.2.1
theorem TB.s5 {T : Fn} {tk : Int} (h : TB T tk) : 0 ≤ T 1 5 ∧ T 1 5 ≤ 1 := h.2.2.2.2.2.2.1
theorem TB.s6 {T : Fn} {tk : Int} (h : TB T tk) : -1 ≤ T 1 6 ∧ T 1 6 < 60 := h.2.2.2.2.2.2.2.1
theorem TB.s7 {T : Fn} {tk : Int} (h : TB T tk) : -1 ≤ T 1 7 ∧ T 1 7 < 60 := h.2.2.2.2.2.2.2.2.1
theorem TB.s8 {T : Fn} {tk : Int} (h : TB T tk) : 0 ≤ T 1 8 ∧ T 1 8 ≤ 9999 := h.2.2.2.2.2.2.2.2.2
