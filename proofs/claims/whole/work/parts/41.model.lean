/-! ===== the model's object at Q, its lists at Q + 1 .. Q + 4 (sources, stories, takes, lines); D: where its objects lie (D 0 j list j's array, 1 sources, 2 stories' arrays, 3 facts, 4 takes, 5 lines); I: which object a cell is of ===== -/
def MSo (G M : Mm) (a w r : Int) : Prop := G 0 a 0 = 11 ∧ M 0 200 a = w ∧ M 0 202 a = r
def MFa (G M : Mm) (a : Int) (F : Fn) : Prop := G 0 a 0 = 9 ∧ G 2 160 a = a + 1 ∧ AI G (a + 1) 10 ∧ (∀ k, 0 ≤ k → k < 10 → M 1 (a + 1) k = F 0 k) ∧ M 0 161 a = F 1 3
def MTa (G M : Mm) (a : Int) (T : Fn) : Prop := G 0 a 0 = 12 ∧ G 2 223 a = a + 1 ∧ AI G (a + 1) 4 ∧ (M 0 220 a = T 1 0 ∧ M 0 221 a = T 1 1 ∧ M 0 222 a = T 1 2 ∧ M 0 224 a = T 1 5 ∧ M 0 225 a = T 1 3 ∧ M 0 226 a = T 1 4 ∧ M 0 227 a = T 1 6 ∧ M 0 228 a = T 1 8 ∧ M 0 229 a = bI (¬ T 1 7 = -1)) ∧ ∀ f, 0 ≤ f → f < 4 → ¬ T 0 f = -1 → M 1 (a + 1) f = T 0 f
def MLi (G M : Mm) (a : Int) (L : Fn) : Prop := G 0 a 0 = 10 ∧ (G 2 184 a = a + 1 ∧ G 2 185 a = a + 2 ∧ G 2 186 a = a + 3) ∧ AZ G (a + 1) 61 ∧ AI G (a + 2) 61 ∧ AI G (a + 3) 61 ∧ (M 0 180 a = L 4 0 ∧ M 0 181 a = L 4 1 ∧ M 0 182 a = L 4 2 ∧ M 0 183 a = L 4 3) ∧
  ∀ t, 0 ≤ t → t < 61 → M 1 (a + 1) t = bI (¬ L 0 t = -1) ∧ (¬ L 0 t = -1 → M 1 (a + 2) t = L 0 t) ∧ M 1 (a + 3) t = L 3 t
section MOs
variable {G M G1 M1 : Mm} {a : Int}
theorem MSo.o {w r : Int} (h : MSo G M a w r) (h1 : agr G M G1 M1 a) : MSo G1 M1 a w r := ⟨h1.1.trans h.1, (h1.2.2.2.2.1 _).trans h.2.1, (h1.2.2.2.2.1 _).trans h.2.2⟩
theorem AI.o {len : Int} (h : AI G a len) (hb : agr G M G1 M1 a) : AI G1 a len := ⟨hb.1.trans h.1, hb.2.1.trans h.2⟩
theorem AZ.o {len : Int} (h : AZ G a len) (hb : agr G M G1 M1 a) : AZ G1 a len := ⟨hb.1.trans h.1, hb.2.1.trans h.2⟩
theorem MFa.o {F : Fn} (h : MFa G M a F) (h1 : agr G M G1 M1 a) (h2 : agr G M G1 M1 (a + 1)) : MFa G1 M1 a F :=
  ⟨h1.1.trans h.1, (h1.2.2.1 _).trans h.2.1, h.2.2.1.o h2, fun k q1 q2 => (h2.2.2.2.2.2 _).trans (h.2.2.2.1 k q1 q2), (h1.2.2.2.2.1 _).trans h.2.2.2.2⟩
theorem MTa.o {T : Fn} (h : MTa G M a T) (h1 : agr G M G1 M1 a) (h2 : agr G M G1 M1 (a + 1)) : MTa G1 M1 a T := by
  obtain ⟨a1, a2, a3, a4, a5⟩ := h
  have e := h1.2.2.2.2.1
  exact ⟨h1.1.trans a1, (h1.2.2.1 _).trans a2, a3.o h2, by rw [e, e, e, e, e, e, e, e, e]; exact a4, fun f q1 q2 q3 => (h2.2.2.2.2.2 _).trans (a5 f q1 q2 q3)⟩
theorem MLi.o {L : Fn} (h : MLi G M a L) (h1 : agr G M G1 M1 a) (h2 : agr G M G1 M1 (a + 1)) (h3 : agr G M G1 M1 (a + 2)) (h4 : agr G M G1 M1 (a + 3)) : MLi G1 M1 a L := by
  obtain ⟨a1, a2, a3, a4, a5, a6, a7⟩ := h
  have e := h1.2.2.2.2.1
  have g := h1.2.2.1
  refine ⟨h1.1.trans a1, by rw [g, g, g]; exact a2, a3.o h2, a4.o h3, a5.o h4, by rw [e, e, e, e]; exact a6, fun t q1 q2 => ?_⟩
  rw [h2.2.2.2.2.2, h3.2.2.2.2.2, h4.2.2.2.2.2]
  exact a7 t q1 q2
theorem MFa.ext {F F' : Fn} (h : MFa G M a F) (h0 : ∀ k, 0 ≤ k → k < 10 → F 0 k = F' 0 k) (h3 : F 1 3 = F' 1 3) : MFa G M a F' := ⟨h.1, h.2.1, h.2.2.1, fun k q1 q2 => (h.2.2.2.1 k q1 q2).trans (h0 k q1 q2), h.2.2.2.2.trans h3⟩
theorem ALm.o' {mb q n e : Int} (h : ALm mb G M q n e) (hq : agr G M G1 M1 q) (he : agr G M G1 M1 e ∨ (G 0 e 0 = 98 ∨ G 0 e 0 = 99) ∧ G1 0 e 0 = G 0 e 0) (h4 : G 4 0 0 ≤ G1 4 0 0) : ALm mb G1 M1 q n e := by
  rcases he with he | ⟨he, he2⟩
  · exact h.o hq he h4
  · obtain ⟨a1, a2, a3, a4, a5, a6, a7, a8⟩ := h
    refine ⟨by omega, by omega, hq.1.trans a3, (hq.2.2.1 _).trans a4, (hq.2.2.2.2.1 _).trans a5, by rw [hq.2.2.2.2.1]; exact a6, a7, Or.inr ?_⟩
    rw [he2]; exact ⟨by omega, he⟩
end MOs
/-- the places -/
def PLc (G : Mm) (Q : Int) (A : An) (D : Fn) (I : Int → Int) : Prop := (∀ j, 1 ≤ j → j ≤ 4 → (Q + 6 ≤ D 0 j ∧ D 0 j < G 4 0 0 ∧ I (D 0 j) = j) ∨ (G 0 (D 0 j) 0 = 98 ∨ G 0 (D 0 j) 0 = 99)) ∧ (∀ i, 0 ≤ i → i < A 10 2 0 → (Q + 6 ≤ D 1 i ∧ D 1 i < G 4 0 0) ∧ I (D 1 i) = 1000 + i) ∧ (∀ i, 0 ≤ i → i < A 0 0 0 → (Q + 6 ≤ D 2 i ∧ D 2 i < G 4 0 0) ∧ I (D 2 i) = 2000 + i) ∧ (∀ i, 0 ≤ i → i < A 0 0 0 * 4 → (Q + 6 ≤ D 3 i ∧ D 3 i + 1 < G 4 0 0) ∧ I (D 3 i) = 3000 + i ∧ I (D 3 i + 1) = 4000 + i) ∧ (∀ i, 0 ≤ i → i < A 0 0 1 → (Q + 6 ≤ D 4 i ∧ D 4 i + 1 < G 4 0 0) ∧ I (D 4 i) = 5000 + i ∧ I (D 4 i + 1) = 6000 + i) ∧ (∀ i, 0 ≤ i → i < A 0 0 2 → (Q + 6 ≤ D 5 i ∧ D 5 i + 3 < G 4 0 0) ∧ I (D 5 i) = 7000 + i ∧ I (D 5 i + 1) = 7100 + i ∧ I (D 5 i + 2) = 7200 + i ∧ I (D 5 i + 3) = 7300 + i)
theorem PLc.e {G : Mm} {Q : Int} {A : An} {D : Fn} {I : Int → Int} (h : PLc G Q A D I) : ∀ j, 1 ≤ j → j ≤ 4 → (Q + 6 ≤ D 0 j ∧ D 0 j < G 4 0 0 ∧ I (D 0 j) = j) ∨ (G 0 (D 0 j) 0 = 98 ∨ G 0 (D 0 j) 0 = 99) := h.1
theorem PLc.s {G : Mm} {Q : Int} {A : An} {D : Fn} {I : Int → Int} (h : PLc G Q A D I) : ∀ i, 0 ≤ i → i < A 10 2 0 → (Q + 6 ≤ D 1 i ∧ D 1 i < G 4 0 0) ∧ I (D 1 i) = 1000 + i := h.2.1
theorem PLc.y {G : Mm} {Q : Int} {A : An} {D : Fn} {I : Int → Int} (h : PLc G Q A D I) : ∀ i, 0 ≤ i → i < A 0 0 0 → (Q + 6 ≤ D 2 i ∧ D 2 i < G 4 0 0) ∧ I (D 2 i) = 2000 + i := h.2.2.1
theorem PLc.f {G : Mm} {Q : Int} {A : An} {D : Fn} {I : Int → Int} (h : PLc G Q A D I) : ∀ i, 0 ≤ i → i < A 0 0 0 * 4 → (Q + 6 ≤ D 3 i ∧ D 3 i + 1 < G 4 0 0) ∧ I (D 3 i) = 3000 + i ∧ I (D 3 i + 1) = 4000 + i := h.2.2.2.1
theorem PLc.t {G : Mm} {Q : Int} {A : An} {D : Fn} {I : Int → Int} (h : PLc G Q A D I) : ∀ i, 0 ≤ i → i < A 0 0 1 → (Q + 6 ≤ D 4 i ∧ D 4 i + 1 < G 4 0 0) ∧ I (D 4 i) = 5000 + i ∧ I (D 4 i + 1) = 6000 + i := h.2.2.2.2.1
theorem PLc.l {G : Mm} {Q : Int} {A : An} {D : Fn} {I : Int → Int} (h : PLc G Q A D I) : ∀ i, 0 ≤ i → i < A 0 0 2 → (Q + 6 ≤ D 5 i ∧ D 5 i + 3 < G 4 0 0) ∧ I (D 5 i) = 7000 + i ∧ I (D 5 i + 1) = 7100 + i ∧ I (D 5 i + 2) = 7200 + i ∧ I (D 5 i + 3) = 7300 + i := h.2.2.2.2.2
def RM (G M : Mm) (Q : Int) (A : An) (D : Fn) (I : Int → Int) : Prop := (0 ≤ Q ∧ Q + 5 < G 4 0 0) ∧ (G 0 Q 0 = 13) ∧ (∀ j, 1 ≤ j → j ≤ 4 → G 2 (241 + j) Q = Q + j) ∧ (M 0 241 Q = A 0 0 3) ∧ (AL G M (Q + 1) (A 10 2 0) (D 0 1)) ∧ (AL G M (Q + 2) (A 0 0 0) (D 0 2)) ∧ (AL G M (Q + 3) (A 0 0 1) (D 0 3)) ∧ (AL G M (Q + 4) (A 0 0 2) (D 0 4)) ∧ (∀ i, 0 ≤ i → i < A 10 2 0 → G 3 (D 0 1) i = D 1 i) ∧ (∀ i, 0 ≤ i → i < A 0 0 0 → G 3 (D 0 2) i = D 2 i) ∧ (∀ i, 0 ≤ i → i < A 0 0 1 → G 3 (D 0 3) i = D 4 i) ∧ (∀ i, 0 ≤ i → i < A 0 0 2 → G 3 (D 0 4) i = D 5 i) ∧ (∀ i, 0 ≤ i → i < A 10 2 0 → MSo G M (D 1 i) (A 10 0 i) (A 10 1 i)) ∧ (∀ i, 0 ≤ i → i < A 0 0 0 → AR G 6 (D 2 i) 4) ∧ (∀ i f, 0 ≤ i → i < A 0 0 0 → 0 ≤ f → f < 4 → G 3 (D 2 i) f = D 3 (i * 4 + f)) ∧ (∀ i, 0 ≤ i → i < A 0 0 0 * 4 → MFa G M (D 3 i) (A (100 + i))) ∧ (∀ i, 0 ≤ i → i < A 0 0 1 → MTa G M (D 4 i) (A (200 + i))) ∧ (∀ i, 0 ≤ i → i < A 0 0 2 → MLi G M (D 5 i) (A (20 + i))) ∧ (PLc G Q A D I)
theorem RM.q {G M : Mm} {Q : Int} {A : An} {D : Fn} {I : Int → Int} (h : RM G M Q A D I) : 0 ≤ Q ∧ Q + 5 < G 4 0 0 := h.1
theorem RM.k {G M : Mm} {Q : Int} {A : An} {D : Fn} {I : Int → Int} (h : RM G M Q A D I) : G 0 Q 0 = 13 := h.2.1
theorem RM.r {G M : Mm} {Q : Int} {A : An} {D : Fn} {I : Int → Int} (h : RM G M Q A D I) : ∀ j, 1 ≤ j → j ≤ 4 → G 2 (241 + j) Q = Q + j := h.2.2.1
theorem RM.w {G M : Mm} {Q : Int} {A : An} {D : Fn} {I : Int → Int} (h : RM G M Q A D I) : M 0 241 Q = A 0 0 3 := h.2.2.2.1
theorem RM.l1 {G M : Mm} {Q : Int} {A : An} {D : Fn} {I : Int → Int} (h : RM G M Q A D I) : AL G M (Q + 1) (A 10 2 0) (D 0 1) := h.2.2.2.2.1
theorem RM.l2 {G M : Mm} {Q : Int} {A : An} {D : Fn} {I : Int → Int} (h : RM G M Q A D I) : AL G M (Q + 2) (A 0 0 0) (D 0 2) := h.2.2.2.2.2.1
theorem RM.l3 {G M : Mm} {Q : Int} {A : An} {D : Fn} {I : Int → Int} (h : RM G M Q A D I) : AL G M (Q + 3) (A 0 0 1) (D 0 3) := h.2.2.2.2.2.2.1
theorem RM.l4 {G M : Mm} {Q : Int} {A : An} {D : Fn} {I : Int → Int} (h : RM G M Q A D I) : AL G M (Q + 4) (A 0 0 2) (D 0 4) := h.2.2.2.2.2.2.2.1
theorem RM.e1 {G M : Mm} {Q : Int} {A : An} {D : Fn} {I : Int → Int} (h : RM G M Q A D I) : ∀ i, 0 ≤ i → i < A 10 2 0 → G 3 (D 0 1) i = D 1 i := h.2.2.2.2.2.2.2.2.1
theorem RM.e2 {G M : Mm} {Q : Int} {A : An} {D : Fn} {I : Int → Int} (h : RM G M Q A D I) : ∀ i, 0 ≤ i → i < A 0 0 0 → G 3 (D 0 2) i = D 2 i := h.2.2.2.2.2.2.2.2.2.1
theorem RM.e3 {G M : Mm} {Q : Int} {A : An} {D : Fn} {I : Int → Int} (h : RM G M Q A D I) : ∀ i, 0 ≤ i → i < A 0 0 1 → G 3 (D 0 3) i = D 4 i := h.2.2.2.2.2.2.2.2.2.2.1
theorem RM.e4 {G M : Mm} {Q : Int} {A : An} {D : Fn} {I : Int → Int} (h : RM G M Q A D I) : ∀ i, 0 ≤ i → i < A 0 0 2 → G 3 (D 0 4) i = D 5 i := h.2.2.2.2.2.2.2.2.2.2.2.1
theorem RM.so {G M : Mm} {Q : Int} {A : An} {D : Fn} {I : Int → Int} (h : RM G M Q A D I) : ∀ i, 0 ≤ i → i < A 10 2 0 → MSo G M (D 1 i) (A 10 0 i) (A 10 1 i) := h.2.2.2.2.2.2.2.2.2.2.2.2.1
theorem RM.ya {G M : Mm} {Q : Int} {A : An} {D : Fn} {I : Int → Int} (h : RM G M Q A D I) : ∀ i, 0 ≤ i → i < A 0 0 0 → AR G 6 (D 2 i) 4 := h.2.2.2.2.2.2.2.2.2.2.2.2.2.1
theorem RM.ye {G M : Mm} {Q : Int} {A : An} {D : Fn} {I : Int → Int} (h : RM G M Q A D I) : ∀ i f, 0 ≤ i → i < A 0 0 0 → 0 ≤ f → f < 4 → G 3 (D 2 i) f = D 3 (i * 4 + f) := h.2.2.2.2.2.2.2.2.2.2.2.2.2.2.1
theorem RM.fa {G M : Mm} {Q : Int} {A : An} {D : Fn} {I : Int → Int} (h : RM G M Q A D I) : ∀ i, 0 ≤ i → i < A 0 0 0 * 4 → MFa G M (D 3 i) (A (100 + i)) := h.2.2.2.2.2.2.2.2.2.2.2.2.2.2.2.1
theorem RM.ta {G M : Mm} {Q : Int} {A : An} {D : Fn} {I : Int → Int} (h : RM G M Q A D I) : ∀ i, 0 ≤ i → i < A 0 0 1 → MTa G M (D 4 i) (A (200 + i)) := h.2.2.2.2.2.2.2.2.2.2.2.2.2.2.2.2.1
theorem RM.li {G M : Mm} {Q : Int} {A : An} {D : Fn} {I : Int → Int} (h : RM G M Q A D I) : ∀ i, 0 ≤ i → i < A 0 0 2 → MLi G M (D 5 i) (A (20 + i)) := h.2.2.2.2.2.2.2.2.2.2.2.2.2.2.2.2.2.1
theorem RM.p {G M : Mm} {Q : Int} {A : An} {D : Fn} {I : Int → Int} (h : RM G M Q A D I) : PLc G Q A D I := h.2.2.2.2.2.2.2.2.2.2.2.2.2.2.2.2.2.2
section RMs
variable {G M G1 M1 : Mm} {Q : Int} {A : An} {D : Fn} {I : Int → Int}
theorem RM.o (h : RM G M Q A D I) (hb : ∀ b, Q ≤ b → b < G 4 0 0 → agr G M G1 M1 b) (he : ∀ b, (G 0 b 0 = 98 ∨ G 0 b 0 = 99) → b < G 4 0 0 → G1 0 b 0 = G 0 b 0) (h4 : G 4 0 0 ≤ G1 4 0 0) : RM G1 M1 Q A D I := by
  have hq := h.q
  have hQ := hb Q (by omega) (by omega)
  have hee : ∀ j, 1 ≤ j → j ≤ 4 → D 0 j < G 4 0 0 → agr G M G1 M1 (D 0 j) ∨ (G 0 (D 0 j) 0 = 98 ∨ G 0 (D 0 j) 0 = 99) ∧ G1 0 (D 0 j) 0 = G 0 (D 0 j) 0 := fun j q1 q2 q3 => by
    rcases h.p.e j q1 q2 with ⟨z1, z2, -⟩ | z
    · exact Or.inl (hb _ (by omega) z2)
    · exact Or.inr ⟨z, he _ z q3⟩
  have hel : ∀ j n, 1 ≤ j → j ≤ 4 → ∀ i, 0 ≤ i → i < n → AL G M (Q + j) n (D 0 j) → G1 3 (D 0 j) i = G 3 (D 0 j) i := fun j n q1 q2 i q3 q4 hl => by
    have hk := (hl.ar (by omega)).1.1
    rcases h.p.e j q1 q2 with ⟨z1, z2, -⟩ | z
    · exact (hb _ (by omega) z2).2.2.2.1 i
    · omega
  refine ⟨⟨hq.1, by omega⟩, hQ.1.trans h.k, fun j q1 q2 => (hQ.2.2.1 _).trans (h.r j q1 q2), (hQ.2.2.2.2.1 _).trans h.w,
    h.l1.o' (hb _ (by omega) (by omega)) (hee 1 (by omega) (by omega) h.l1.2.1.2) h4, h.l2.o' (hb _ (by omega) (by omega)) (hee 2 (by omega) (by omega) h.l2.2.1.2) h4, h.l3.o' (hb _ (by omega) (by omega)) (hee 3 (by omega) (by omega) h.l3.2.1.2) h4, h.l4.o' (hb _ (by omega) (by omega)) (hee 4 (by omega) (by omega) h.l4.2.1.2) h4,
    fun i q1 q2 => (hel 1 _ (by omega) (by omega) i q1 q2 h.l1).trans (h.e1 i q1 q2), fun i q1 q2 => (hel 2 _ (by omega) (by omega) i q1 q2 h.l2).trans (h.e2 i q1 q2), fun i q1 q2 => (hel 3 _ (by omega) (by omega) i q1 q2 h.l3).trans (h.e3 i q1 q2), fun i q1 q2 => (hel 4 _ (by omega) (by omega) i q1 q2 h.l4).trans (h.e4 i q1 q2),
    fun i q1 q2 => ?_, fun i q1 q2 => ?_, fun i f q1 q2 q3 q4 => ?_, fun i q1 q2 => ?_, fun i q1 q2 => ?_, fun i q1 q2 => ?_, ?_⟩
  · have z := (h.p.s i q1 q2).1; exact (h.so i q1 q2).o (hb _ (by omega) z.2)
  · have z := (h.p.y i q1 q2).1; exact (h.ya i q1 q2).o (hb _ (by omega) z.2)
  · have z := (h.p.y i q1 q2).1; exact ((hb _ (by omega) z.2).2.2.2.1 f).trans (h.ye i f q1 q2 q3 q4)
  · have z := (h.p.f i q1 q2).1; exact (h.fa i q1 q2).o (hb _ (by omega) (by omega)) (hb _ (by omega) (by omega))
  · have z := (h.p.t i q1 q2).1; exact (h.ta i q1 q2).o (hb _ (by omega) (by omega)) (hb _ (by omega) (by omega))
  · have z := (h.p.l i q1 q2).1; exact (h.li i q1 q2).o (hb _ (by omega) (by omega)) (hb _ (by omega) (by omega)) (hb _ (by omega) (by omega)) (hb _ (by omega) (by omega))
  · refine ⟨fun j q1 q2 => ?_, fun i q1 q2 => ?_, fun i q1 q2 => ?_, fun i q1 q2 => ?_, fun i q1 q2 => ?_, fun i q1 q2 => ?_⟩
    · rcases h.p.e j q1 q2 with ⟨z1, z2, z3⟩ | z
      · exact Or.inl ⟨z1, by omega, z3⟩
      · right
        have hD : D 0 j < G 4 0 0 := by
          rcases (show j = 1 ∨ j = 2 ∨ j = 3 ∨ j = 4 by omega) with rfl | rfl | rfl | rfl
          · exact h.l1.2.1.2
          · exact h.l2.2.1.2
          · exact h.l3.2.1.2
          · exact h.l4.2.1.2
        rw [he _ z hD]; exact z
    · have z := h.p.s i q1 q2; exact ⟨by omega, z.2⟩
    · have z := h.p.y i q1 q2; exact ⟨by omega, z.2⟩
    · have z := h.p.f i q1 q2; exact ⟨by omega, z.2⟩
    · have z := h.p.t i q1 q2; exact ⟨by omega, z.2⟩
    · have z := h.p.l i q1 q2; exact ⟨by omega, z.2⟩
theorem RM.kp (h : RM G M Q A D I) (hk : Kp G M G1 M1) : RM G1 M1 Q A D I := h.o (fun b _ q => hk.1 b q) (fun b _ q => (hk.1 b q).1) hk.2
theorem RM.ot (h : RM G M Q A D I) {B : Int} (hO : Ot B (B + 201) M M1) (hB : B + 201 < Q) : RM G M1 Q A D I :=
  h.o (fun b q _ => ⟨rfl, rfl, fun _ => rfl, fun _ => rfl, fun f => hO.f (by omega) f, fun j => hO.j (by omega) j⟩) (fun _ _ _ => rfl) (Int.le_refl _)
/-- a list's get, its element said -/
theorem RM.g1 (h : RM G M Q A D I) {X : Xv} {i : Int} (hi : 0 ≤ i ∧ i < A 10 2 0) : CT X yJx4a65c_get_915e3 cJx4a65c_get_915e3 2 (some (.object "java/lang/Object")) 2 43 0 0 [vR (Q + 1), vI i] G M (PR G M (D 1 i)) := by
  have := c_get (X := X) h.l1 hi
  rwa [h.e1 i hi.1 hi.2] at this
theorem RM.g2 (h : RM G M Q A D I) {X : Xv} {i : Int} (hi : 0 ≤ i ∧ i < A 0 0 0) : CT X yJx4a65c_get_915e3 cJx4a65c_get_915e3 2 (some (.object "java/lang/Object")) 2 43 0 0 [vR (Q + 2), vI i] G M (PR G M (D 2 i)) := by
  have := c_get (X := X) h.l2 hi
  rwa [h.e2 i hi.1 hi.2] at this
theorem RM.g3 (h : RM G M Q A D I) {X : Xv} {i : Int} (hi : 0 ≤ i ∧ i < A 0 0 1) : CT X yJx4a65c_get_915e3 cJx4a65c_get_915e3 2 (some (.object "java/lang/Object")) 2 43 0 0 [vR (Q + 3), vI i] G M (PR G M (D 4 i)) := by
  have := c_get (X := X) h.l3 hi
  rwa [h.e3 i hi.1 hi.2] at this
theorem RM.g4 (h : RM G M Q A D I) {X : Xv} {i : Int} (hi : 0 ≤ i ∧ i < A 0 0 2) : CT X yJx4a65c_get_915e3 cJx4a65c_get_915e3 2 (some (.object "java/lang/Object")) 2 43 0 0 [vR (Q + 4), vI i] G M (PR G M (D 5 i)) := by
  have := c_get (X := X) h.l4 hi
  rwa [h.e4 i hi.1 hi.2] at this
end RMs
