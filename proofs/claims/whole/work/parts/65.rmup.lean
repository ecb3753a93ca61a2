/-! ===== the model's memory as it is written ===== -/
/-- cells below Q, and Q + 5, are as they were, all kinds, and what was thrown -/
def Fq (Q : Int) (G M G1 M1 : Mm) : Prop := (∀ b, b < G 4 0 0 → (b < Q ∨ b = Q + 5) → agr G M G1 M1 b) ∧ (∀ b, b < G 4 0 0 → G1 0 b 0 = G 0 b 0) ∧ G 4 0 0 ≤ G1 4 0 0 ∧ M1 0 240 Q = M 0 240 Q
theorem Fq.rf {Q : Int} {G M : Mm} : Fq Q G M G M := ⟨fun _ _ _ => agr.rf, fun _ _ => rfl, Int.le_refl _, rfl⟩
theorem Fq.tr {Q : Int} {G M G1 M1 G2 M2 : Mm} (h : Fq Q G M G1 M1) (h' : Fq Q G1 M1 G2 M2) : Fq Q G M G2 M2 :=
  ⟨fun b hb hq => (h.1 b hb hq).tr (h'.1 b (by have := h.2.2.1; omega) hq), fun b hb => (h'.2.1 b (by have := h.2.2.1; omega)).trans (h.2.1 b hb), Int.le_trans h.2.2.1 h'.2.2.1, h'.2.2.2.trans h.2.2.2⟩
theorem Kp.fq {Q : Int} {G M G1 M1 : Mm} (h : Kp G M G1 M1) (hQ : Q < G 4 0 0) : Fq Q G M G1 M1 :=
  ⟨fun b hb _ => h.1 b hb, fun b hb => (h.1 b hb).1, h.2, (h.1 Q hQ).2.2.2.2.1 240⟩
theorem Fq.wr {Q lo hi : Int} {G M G1 M1 M2 : Mm} (h : Fq Q G M G1 M1) (hO : Ot lo hi M1 M2) (hlo : Q + 6 ≤ lo) : Fq Q G M G1 M2 :=
  ⟨fun b hb hq => (h.1 b hb hq).tr ⟨rfl, rfl, fun _ => rfl, fun _ => rfl, fun f => hO.f (by omega) f, fun j => hO.j (by omega) j⟩, h.2.1, h.2.2.1, (hO.f (by omega) _).trans h.2.2.2⟩
theorem Fq.nw {Q x : Int} {G M G1 M1 : Mm} (h : Fq Q G M G1 M1) : Fq Q G M G1 (mup M1 0 241 Q x) :=
  ⟨fun b hb hq => (h.1 b hb hq).tr (agr_M0 b (by omega)), h.2.1, h.2.2.1, (mup_n (by omega)).trans h.2.2.2⟩
theorem EM.fq {X : Xv} {Q : Int} {G M G1 M1 : Mm} (h : EM X G) (hk : Fq Q G M G1 M1) : EM X G1 := by
  obtain ⟨⟨h1, h2⟩, h3, h4⟩ := h
  have := hk.2.2.1
  exact ⟨⟨(hk.2.1 _ h2).trans h1, by omega⟩, (hk.2.1 _ h4).trans h3, by omega⟩
section RMu
variable {G M G1 M1 : Mm} {Q : Int} {A A1 : An} {D D1 : Fn} {I : Int → Int}
/-- other tags on new cells -/
theorem RM.tg (h : RM G M Q A D I) {I1 : Int → Int} (hI : ∀ b, b < G 4 0 0 → I1 b = I b) : RM G M Q A D I1 := by
  refine ⟨h.q, h.k, h.r, h.w, h.l1, h.l2, h.l3, h.l4, h.e1, h.e2, h.e3, h.e4, h.so, h.ya, h.ye, h.fa, h.ta, h.li, fun j q1 q2 => ?_, fun i q1 q2 => ?_, fun i q1 q2 => ?_, fun i q1 q2 => ?_, fun i q1 q2 => ?_, fun i q1 q2 => ?_⟩
  · rcases h.p.e j q1 q2 with ⟨z1, z2, z3⟩ | z
    · exact Or.inl ⟨z1, z2, by rw [hI _ z2]; exact z3⟩
    · exact Or.inr z
  · have z := h.p.s i q1 q2; exact ⟨z.1, by rw [hI _ (by omega)]; exact z.2⟩
  · have z := h.p.y i q1 q2; exact ⟨z.1, by rw [hI _ (by omega)]; exact z.2⟩
  · have z := h.p.f i q1 q2; exact ⟨z.1, by rw [hI _ (by omega), hI _ (by omega)]; exact z.2⟩
  · have z := h.p.t i q1 q2; exact ⟨z.1, by rw [hI _ (by omega), hI _ (by omega)]; exact z.2⟩
  · have z := h.p.l i q1 q2; exact ⟨z.1, by rw [hI _ (by omega), hI _ (by omega), hI _ (by omega), hI _ (by omega)]; exact z.2⟩
/-- other places where nothing lies yet -/
theorem RM.dd (h : RM G M Q A D I) (d0 : ∀ j, 1 ≤ j → j ≤ 4 → D1 0 j = D 0 j) (d1 : ∀ i, 0 ≤ i → i < A 10 2 0 → D1 1 i = D 1 i) (d2 : ∀ i, 0 ≤ i → i < A 0 0 0 → D1 2 i = D 2 i) (d3 : ∀ i, 0 ≤ i → i < A 0 0 0 * 4 → D1 3 i = D 3 i) (d4 : ∀ i, 0 ≤ i → i < A 0 0 1 → D1 4 i = D 4 i) (d5 : ∀ i, 0 ≤ i → i < A 0 0 2 → D1 5 i = D 5 i) : RM G M Q A D1 I := by
  have a1 := d0 1 (by omega) (by omega)
  have a2 := d0 2 (by omega) (by omega)
  have a3 := d0 3 (by omega) (by omega)
  have a4 := d0 4 (by omega) (by omega)
  refine ⟨h.q, h.k, h.r, h.w, by rw [a1]; exact h.l1, by rw [a2]; exact h.l2, by rw [a3]; exact h.l3, by rw [a4]; exact h.l4, fun i q1 q2 => by rw [a1, d1 i q1 q2]; exact h.e1 i q1 q2, fun i q1 q2 => by rw [a2, d2 i q1 q2]; exact h.e2 i q1 q2, fun i q1 q2 => by rw [a3, d4 i q1 q2]; exact h.e3 i q1 q2, fun i q1 q2 => by rw [a4, d5 i q1 q2]; exact h.e4 i q1 q2, fun i q1 q2 => by rw [d1 i q1 q2]; exact h.so i q1 q2, fun i q1 q2 => by rw [d2 i q1 q2]; exact h.ya i q1 q2, fun i f q1 q2 q3 q4 => by rw [d2 i q1 q2, d3 _ (by omega) (by omega)]; exact h.ye i f q1 q2 q3 q4, fun i q1 q2 => by rw [d3 i q1 q2]; exact h.fa i q1 q2, fun i q1 q2 => by rw [d4 i q1 q2]; exact h.ta i q1 q2, fun i q1 q2 => by rw [d5 i q1 q2]; exact h.li i q1 q2, fun j q1 q2 => by rw [d0 j q1 q2]; exact h.p.e j q1 q2, fun i q1 q2 => by rw [d1 i q1 q2]; exact h.p.s i q1 q2, fun i q1 q2 => by rw [d2 i q1 q2]; exact h.p.y i q1 q2, fun i q1 q2 => by rw [d3 i q1 q2]; exact h.p.f i q1 q2, fun i q1 q2 => by rw [d4 i q1 q2]; exact h.p.t i q1 q2, fun i q1 q2 => by rw [d5 i q1 q2]; exact h.p.l i q1 q2⟩
/-- numbers of one stretch are written -/
theorem RM.wr (h : RM G M Q A D I) {lo hi : Int} (hO : Ot lo hi M M1) (hlo : Q + 6 ≤ lo) (h0 : ∀ s, 0 ≤ s → s < 4 → A1 0 0 s = A 0 0 s) (h10 : ∀ i t, A1 10 i t = A 10 i t) (hso : ∀ i, 0 ≤ i → i < A 10 2 0 → D 1 i < lo ∨ hi < D 1 i)
    (hfa : ∀ i, 0 ≤ i → i < A 0 0 0 * 4 → (D 3 i + 1 < lo ∨ hi < D 3 i) ∧ A1 (100 + i) = A (100 + i) ∨ MFa G M1 (D 3 i) (A1 (100 + i)))
    (hta : ∀ i, 0 ≤ i → i < A 0 0 1 → (D 4 i + 1 < lo ∨ hi < D 4 i) ∧ A1 (200 + i) = A (200 + i) ∨ MTa G M1 (D 4 i) (A1 (200 + i)))
    (hli : ∀ i, 0 ≤ i → i < A 0 0 2 → (D 5 i + 3 < lo ∨ hi < D 5 i) ∧ A1 (20 + i) = A (20 + i) ∨ MLi G M1 (D 5 i) (A1 (20 + i))) : RM G M1 Q A1 D I := by
  have e0 := h0 0 (by omega) (by omega)
  have e1 := h0 1 (by omega) (by omega)
  have e2 := h0 2 (by omega) (by omega)
  have e3 := h0 3 (by omega) (by omega)
  have ec := h10 2 0
  have ag : ∀ b, b < lo ∨ hi < b → agr G M G M1 b := fun b hb => ⟨rfl, rfl, fun _ => rfl, fun _ => rfl, fun f => hO.f hb f, fun j => hO.j hb j⟩
  have al : ∀ j n, 1 ≤ j → j ≤ 4 → AL G M (Q + j) n (D 0 j) → AL G M1 (Q + j) n (D 0 j) := fun j n q1 q2 hl => by
    obtain ⟨b1, b2, b3, b4, b5, b6, b7, b8⟩ := hl
    exact ⟨b1, b2, b3, b4, (hO.f (by omega) _).trans b5, by rw [hO.f (by omega)]; exact b6, b7, b8⟩
  refine ⟨h.q, h.k, h.r, by rw [hO.f (by omega), e3]; exact h.w, by rw [ec]; exact al 1 _ (by omega) (by omega) h.l1, by rw [e0]; exact al 2 _ (by omega) (by omega) h.l2, by rw [e1]; exact al 3 _ (by omega) (by omega) h.l3, by rw [e2]; exact al 4 _ (by omega) (by omega) h.l4, by rw [ec]; exact h.e1, by rw [e0]; exact h.e2, by rw [e1]; exact h.e3, by rw [e2]; exact h.e4, fun i q1 q2 => ?_, by rw [e0]; exact h.ya, by rw [e0]; exact h.ye, fun i q1 q2 => ?_, fun i q1 q2 => ?_, fun i q1 q2 => ?_, h.p.e, by rw [ec]; exact h.p.s, by rw [e0]; exact h.p.y, by rw [e0]; exact h.p.f, by rw [e1]; exact h.p.t, by rw [e2]; exact h.p.l⟩
  · rw [ec] at q2; rw [h10, h10]; exact (h.so i q1 q2).o (ag _ (hso i q1 q2))
  · rw [e0] at q2
    rcases hfa i q1 q2 with ⟨z1, z2⟩ | z
    · rw [z2]; exact (h.fa i q1 q2).o (ag _ (by omega)) (ag _ (by omega))
    · exact z
  · rw [e1] at q2
    rcases hta i q1 q2 with ⟨z1, z2⟩ | z
    · rw [z2]; exact (h.ta i q1 q2).o (ag _ (by omega)) (ag _ (by omega))
    · exact z
  · rw [e2] at q2
    rcases hli i q1 q2 with ⟨z1, z2⟩ | z
    · rw [z2]; exact (h.li i q1 q2).o (ag _ (by omega)) (ag _ (by omega)) (ag _ (by omega)) (ag _ (by omega))
    · exact z
/-- no block of the model's holds a cell of another tag -/
theorem RM.nS (h : RM G M Q A D I) {lo hi : Int} (hI : ∀ b, lo ≤ b → b ≤ hi → I b < 1000 ∨ 3000 ≤ I b) : ∀ i, 0 ≤ i → i < A 10 2 0 → D 1 i < lo ∨ hi < D 1 i := fun i q1 q2 => by
  have z := h.p.s i q1 q2
  have hn := h.l1.2.2.2.2.2.2.1
  apply Classical.byContradiction
  intro hc
  have := hI (D 1 i) (by omega) (by omega)
  omega
theorem RM.uL (h : RM G M Q A D I) {l : Int} (hl : 0 ≤ l ∧ l < A 0 0 2 ∧ l < 4) {L : Fn} (hL : MLi G M1 (D 5 l) L) (hO : Ot (D 5 l) (D 5 l + 3) M M1) : RM G M1 Q (aup A (20 + l) L) D I := by
  have p := h.p.l l hl.1 hl.2.1
  have c1 := h.l1.2.2.2.2.2.2.1
  have c2 := h.l2.2.2.2.2.2.2.1
  have c3 := h.l3.2.2.2.2.2.2.1
  have c4 := h.l4.2.2.2.2.2.2.1
  refine h.wr hO (by omega) (fun s _ _ => by rw [aup_n (by omega)]) (fun i t => by rw [aup_n (by omega)]) (fun i q1 q2 => ?_) (fun i q1 q2 => ?_) (fun i q1 q2 => ?_) (fun i q1 q2 => ?_)
  · have z := h.p.s i q1 q2
    apply Classical.byContradiction
    intro hc
    rcases (show D 1 i = D 5 l ∨ D 1 i = D 5 l + 1 ∨ D 1 i = D 5 l + 2 ∨ D 1 i = D 5 l + 3 by omega) with e | e | e | e <;> (rw [e] at z; omega)
  · left
    have z := h.p.f i q1 q2
    refine ⟨?_, aup_n (by omega)⟩
    apply Classical.byContradiction
    intro hc
    rcases (show D 3 i = D 5 l - 1 ∨ D 3 i = D 5 l ∨ D 3 i = D 5 l + 1 ∨ D 3 i = D 5 l + 2 ∨ D 3 i = D 5 l + 3 by omega) with e | e | e | e | e
    · rw [e, show D 5 l - 1 + 1 = D 5 l by omega] at z; omega
    all_goals (rw [e] at z; omega)
  · left
    have z := h.p.t i q1 q2
    refine ⟨?_, aup_n (show 200 + i ≠ 20 + l by omega)⟩
    apply Classical.byContradiction
    intro hc
    rcases (show D 4 i = D 5 l - 1 ∨ D 4 i = D 5 l ∨ D 4 i = D 5 l + 1 ∨ D 4 i = D 5 l + 2 ∨ D 4 i = D 5 l + 3 by omega) with e | e | e | e | e
    · rw [e, show D 5 l - 1 + 1 = D 5 l by omega] at z; omega
    all_goals (rw [e] at z; omega)
  · by_cases e : i = l
    · right; rw [e, aup_s]; exact hL
    · left
      have z := h.p.l i q1 q2
      refine ⟨?_, aup_n (by omega)⟩
      apply Classical.byContradiction
      intro hc
      rcases (show D 5 i = D 5 l - 3 ∨ D 5 i = D 5 l - 2 ∨ D 5 i = D 5 l - 1 ∨ D 5 i = D 5 l ∨ D 5 i = D 5 l + 1 ∨ D 5 i = D 5 l + 2 ∨ D 5 i = D 5 l + 3 by omega) with e | e | e | e | e | e | e
      · rw [e, show D 5 l - 3 + 3 = D 5 l by omega] at z; omega
      · rw [e, show D 5 l - 2 + 2 = D 5 l by omega] at z; omega
      · rw [e, show D 5 l - 1 + 1 = D 5 l by omega] at z; omega
      all_goals (rw [e] at z; omega)
theorem RM.uF (h : RM G M Q A D I) {f : Int} (hf : 0 ≤ f ∧ f < A 0 0 0 * 4 ∧ f < 24 ∧ A 0 0 2 ≤ 4) {F : Fn} (hF : MFa G M1 (D 3 f) F) (hO : Ot (D 3 f) (D 3 f + 1) M M1) : RM G M1 Q (aup A (100 + f) F) D I := by
  have p := h.p.f f hf.1 hf.2.1
  have c1 := h.l1.2.2.2.2.2.2.1
  have c2 := h.l2.2.2.2.2.2.2.1
  have c3 := h.l3.2.2.2.2.2.2.1
  have c4 := h.l4.2.2.2.2.2.2.1
  refine h.wr hO (by omega) (fun s _ _ => by rw [aup_n (by omega)]) (fun i t => by rw [aup_n (by omega)]) (fun i q1 q2 => ?_) (fun i q1 q2 => ?_) (fun i q1 q2 => ?_) (fun i q1 q2 => ?_)
  · have z := h.p.s i q1 q2
    apply Classical.byContradiction
    intro hc
    rcases (show D 1 i = D 3 f ∨ D 1 i = D 3 f + 1 by omega) with e | e <;> (rw [e] at z; omega)
  · by_cases e : i = f
    · right; rw [e, aup_s]; exact hF
    · left
      have z := h.p.f i q1 q2
      refine ⟨?_, aup_n (by omega)⟩
      apply Classical.byContradiction
      intro hc
      rcases (show D 3 i = D 3 f - 1 ∨ D 3 i = D 3 f ∨ D 3 i = D 3 f + 1 by omega) with e | e | e
      · rw [e, show D 3 f - 1 + 1 = D 3 f by omega] at z; omega
      all_goals (rw [e] at z; omega)
  · left
    have z := h.p.t i q1 q2
    refine ⟨?_, aup_n (by omega)⟩
    apply Classical.byContradiction
    intro hc
    rcases (show D 4 i = D 3 f - 1 ∨ D 4 i = D 3 f ∨ D 4 i = D 3 f + 1 by omega) with e | e | e
    · rw [e, show D 3 f - 1 + 1 = D 3 f by omega] at z; omega
    all_goals (rw [e] at z; omega)
  · left
    have z := h.p.l i q1 q2
    refine ⟨?_, aup_n (by omega)⟩
    apply Classical.byContradiction
    intro hc
    rcases (show D 5 i = D 3 f - 3 ∨ D 5 i = D 3 f - 2 ∨ D 5 i = D 3 f - 1 ∨ D 5 i = D 3 f ∨ D 5 i = D 3 f + 1 by omega) with e | e | e | e | e
    · rw [e, show D 3 f - 3 + 3 = D 3 f by omega] at z; omega
    · rw [e, show D 3 f - 2 + 2 = D 3 f by omega] at z; omega
    · rw [e, show D 3 f - 1 + 1 = D 3 f by omega] at z; omega
    all_goals (rw [e] at z; omega)
theorem RM.uT (h : RM G M Q A D I) {t : Int} (ht : 0 ≤ t ∧ t < A 0 0 1 ∧ A 0 0 0 ≤ 6) {T : Fn} (hT : MTa G M1 (D 4 t) T) (hO : Ot (D 4 t) (D 4 t + 1) M M1) : RM G M1 Q (aup A (200 + t) T) D I := by
  have p := h.p.t t ht.1 ht.2.1
  have c1 := h.l1.2.2.2.2.2.2.1
  have c2 := h.l2.2.2.2.2.2.2.1
  have c3 := h.l3.2.2.2.2.2.2.1
  have c4 := h.l4.2.2.2.2.2.2.1
  refine h.wr hO (by omega) (fun s _ _ => by rw [aup_n (by omega)]) (fun i t => by rw [aup_n (by omega)]) (fun i q1 q2 => ?_) (fun i q1 q2 => ?_) (fun i q1 q2 => ?_) (fun i q1 q2 => ?_)
  · have z := h.p.s i q1 q2
    apply Classical.byContradiction
    intro hc
    rcases (show D 1 i = D 4 t ∨ D 1 i = D 4 t + 1 by omega) with e | e <;> (rw [e] at z; omega)
  · left
    have z := h.p.f i q1 q2
    refine ⟨?_, aup_n (show 100 + i ≠ 200 + t by omega)⟩
    apply Classical.byContradiction
    intro hc
    rcases (show D 3 i = D 4 t - 1 ∨ D 3 i = D 4 t ∨ D 3 i = D 4 t + 1 by omega) with e | e | e
    · rw [e, show D 4 t - 1 + 1 = D 4 t by omega] at z; omega
    all_goals (rw [e] at z; omega)
  · by_cases e : i = t
    · right; rw [e, aup_s]; exact hT
    · left
      have z := h.p.t i q1 q2
      refine ⟨?_, aup_n (by omega)⟩
      apply Classical.byContradiction
      intro hc
      rcases (show D 4 i = D 4 t - 1 ∨ D 4 i = D 4 t ∨ D 4 i = D 4 t + 1 by omega) with e | e | e
      · rw [e, show D 4 t - 1 + 1 = D 4 t by omega] at z; omega
      all_goals (rw [e] at z; omega)
  · left
    have z := h.p.l i q1 q2
    refine ⟨?_, aup_n (by omega)⟩
    apply Classical.byContradiction
    intro hc
    rcases (show D 5 i = D 4 t - 3 ∨ D 5 i = D 4 t - 2 ∨ D 5 i = D 4 t - 1 ∨ D 5 i = D 4 t ∨ D 5 i = D 4 t + 1 by omega) with e | e | e | e | e
    · rw [e, show D 4 t - 3 + 3 = D 4 t by omega] at z; omega
    · rw [e, show D 4 t - 2 + 2 = D 4 t by omega] at z; omega
    · rw [e, show D 4 t - 1 + 1 = D 4 t by omega] at z; omega
    all_goals (rw [e] at z; omega)
/-- an object that is none of the model's blocks (an iterator) is written -/
theorem RM.uI (h : RM G M Q A D I) {x : Int} (hx : Q + 6 ≤ x ∧ I x = 9) (hO : Ot x x M M1) : RM G M1 Q A D I := by
  have c1 := h.l1.2.2.2.2.2.2.1
  have c2 := h.l2.2.2.2.2.2.2.1
  have c3 := h.l3.2.2.2.2.2.2.1
  have c4 := h.l4.2.2.2.2.2.2.1
  refine h.wr hO hx.1 (fun _ _ _ => rfl) (fun _ _ => rfl) (fun i q1 q2 => ?_) (fun i q1 q2 => Or.inl ⟨?_, rfl⟩) (fun i q1 q2 => Or.inl ⟨?_, rfl⟩) (fun i q1 q2 => Or.inl ⟨?_, rfl⟩)
  · have z := h.p.s i q1 q2
    apply Classical.byContradiction
    intro hc
    rw [show D 1 i = x by omega] at z; omega
  · have z := h.p.f i q1 q2
    apply Classical.byContradiction
    intro hc
    rcases (show D 3 i = x - 1 ∨ D 3 i = x by omega) with e | e
    · rw [e, show x - 1 + 1 = x by omega] at z; omega
    · rw [e] at z; omega
  · have z := h.p.t i q1 q2
    apply Classical.byContradiction
    intro hc
    rcases (show D 4 i = x - 1 ∨ D 4 i = x by omega) with e | e
    · rw [e, show x - 1 + 1 = x by omega] at z; omega
    · rw [e] at z; omega
  · have z := h.p.l i q1 q2
    apply Classical.byContradiction
    intro hc
    rcases (show D 5 i = x - 3 ∨ D 5 i = x - 2 ∨ D 5 i = x - 1 ∨ D 5 i = x by omega) with e | e | e | e
    · rw [e, show x - 3 + 3 = x by omega] at z; omega
    · rw [e, show x - 2 + 2 = x by omega] at z; omega
    · rw [e, show x - 1 + 1 = x by omega] at z; omega
    · rw [e] at z; omega
/-- the minute goes on -/
theorem RM.nw (h : RM G M Q A D I) {x : Int} : RM G (mup M 0 241 Q x) Q (aup A 0 (lup (A 0) 0 3 x)) D I := by
  have hq := h.q
  have a0 := fun b (hb : b ≠ Q) => agr_M0 (G := G) (M := M) (f := 241) (x := x) b hb
  have he : ∀ j n, AL G M (Q + j) n (D 0 j) → 1 ≤ j → j ≤ 4 → AL G (mup M 0 241 Q x) (Q + j) n (D 0 j) := fun j n hl q1 q2 => by
    obtain ⟨b1, b2, b3, b4, b5, b6, b7, b8⟩ := hl
    exact ⟨b1, b2, b3, b4, (mup_n (by omega)).trans b5, by rw [mup_n (by omega)]; exact b6, b7, b8⟩
  have k1 : aup A 0 (lup (A 0) 0 3 x) 10 = A 10 := aup_n (by omega)
  have k0 : ∀ s, s ≠ 3 → aup A 0 (lup (A 0) 0 3 x) 0 0 s = A 0 0 s := fun s hs => by rw [aup_s, lup_n (by omega)]
  have k3 : aup A 0 (lup (A 0) 0 3 x) 0 0 3 = x := by rw [aup_s, lup_s]
  have c0 := k0 0 (by omega)
  have c1 := k0 1 (by omega)
  have c2 := k0 2 (by omega)
  refine ⟨hq, h.k, h.r, by rw [k3, mup_s], by rw [k1]; exact he 1 _ h.l1 (by omega) (by omega), by rw [c0]; exact he 2 _ h.l2 (by omega) (by omega), by rw [c1]; exact he 3 _ h.l3 (by omega) (by omega), by rw [c2]; exact he 4 _ h.l4 (by omega) (by omega), by rw [k1]; exact h.e1, by rw [c0]; exact h.e2, by rw [c1]; exact h.e3, by rw [c2]; exact h.e4, fun i q1 q2 => ?_, by rw [c0]; exact h.ya, by rw [c0]; exact h.ye, fun i q1 q2 => ?_, fun i q1 q2 => ?_, fun i q1 q2 => ?_, h.p.e, by rw [k1]; exact h.p.s, by rw [c0]; exact h.p.y, by rw [c0]; exact h.p.f, by rw [c1]; exact h.p.t, by rw [c2]; exact h.p.l⟩
  · rw [k1] at q2; have z := (h.p.s i q1 q2).1; rw [k1]; exact (h.so i q1 q2).o (a0 _ (by omega))
  · rw [c0] at q2; have z := (h.p.f i q1 q2).1; rw [aup_n (by omega)]; exact (h.fa i q1 q2).o (a0 _ (by omega)) (a0 _ (by omega))
  · rw [c1] at q2; have z := (h.p.t i q1 q2).1; rw [aup_n (by omega)]; exact (h.ta i q1 q2).o (a0 _ (by omega)) (a0 _ (by omega))
  · rw [c2] at q2; have z := (h.p.l i q1 q2).1; rw [aup_n (by omega)]; exact (h.li i q1 q2).o (a0 _ (by omega)) (a0 _ (by omega)) (a0 _ (by omega)) (a0 _ (by omega))
/-- an element is put into list j -/
theorem RM.ac (h : RM G M Q A D I) {j n v : Int} (hj : 1 ≤ j ∧ j ≤ 4) (hk : G 0 (Q + j) 0 = 2) (hadd : ADD G M (Q + j) n (D 0 j) v G1 M1) (hn : 0 ≤ n) (hI : ∀ b, G 4 0 0 ≤ b → I b = j) : ∃ e1, AL G1 M1 (Q + j) (n + 1) e1 ∧ (∀ i, 0 ≤ i → i < n → G1 3 e1 i = G 3 (D 0 j) i) ∧ G1 3 e1 n = v ∧ (Q + 6 ≤ e1 ∧ e1 < G1 4 0 0 ∧ I e1 = j) ∧ (G 4 0 0 ≤ G1 4 0 0) ∧ (∀ b, b < G 4 0 0 → b ≠ Q + j → (b < Q + 6 ∨ I b ≠ j ∨ G 0 b 0 = 98 ∨ G 0 b 0 = 99) → agr G M G1 M1 b) ∧ Fq Q G M G1 M1 := by
  obtain ⟨e1, a1, a2, a3, a4, a5⟩ := hadd
  have hq := h.q
  have he1 := (a1.ar (by omega)).1.1
  have hq2 := a1.k
  rcases a4 with ⟨rfl, hk7, h4⟩ | ⟨rfl, h4⟩
  · rcases h.p.e j hj.1 hj.2 with ⟨z1, z2, z3⟩ | z
    · have ag : ∀ b, b < G 4 0 0 → b ≠ Q + j → (b < Q + 6 ∨ I b ≠ j ∨ G 0 b 0 = 98 ∨ G 0 b 0 = 99) → agr G M G1 M1 b := fun b hb hne hc => a5 b hb hne (by intro e; rw [e] at hc; omega)
      refine ⟨_, a1, a2, a3, ⟨z1, by omega, z3⟩, by omega, ag, ⟨fun b hb hc => ag b hb (by omega) (by omega), fun b hb => ?_, by omega, ?_⟩⟩
      · by_cases e : b = Q + j
        · rw [e, hq2, hk]
        · by_cases e2 : b = D 0 j
          · rw [e2, hk7]; exact he1
          · exact (a5 b hb e e2).1
      · exact (ag Q (by omega) (by omega) (by omega)).2.2.2.2.1 240
    · omega
  · have ag : ∀ b, b < G 4 0 0 → b ≠ Q + j → (b < Q + 6 ∨ I b ≠ j ∨ G 0 b 0 = 98 ∨ G 0 b 0 = 99) → agr G M G1 M1 b := fun b hb hne hc => a5 b hb hne (by omega)
    refine ⟨_, a1, a2, a3, ⟨by omega, by omega, hI _ (Int.le_refl _)⟩, by omega, ag, ⟨fun b hb hc => ag b hb (by omega) (by omega), fun b hb => ?_, by omega, ?_⟩⟩
    · by_cases e : b = Q + j
      · rw [e, hq2, hk]
      · exact (a5 b hb e (by omega)).1
    · exact (ag Q (by omega) (by omega) (by omega)).2.2.2.2.1 240
theorem RM.ad1 (h : RM G M Q A D I) (hI : ∀ b, G 4 0 0 ≤ b → I b = 1) (hadd : ADD G M (Q + 1) (A 10 2 0) (D 0 1) (D 1 (A 10 2 0)) G1 M1) (hw : MSo G M (D 1 (A 10 2 0)) (A1 10 0 (A 10 2 0)) (A1 10 1 (A 10 2 0))) (hp : (Q + 6 ≤ D 1 (A 10 2 0) ∧ D 1 (A 10 2 0) < G 4 0 0) ∧ I (D 1 (A 10 2 0)) = 1000 + A 10 2 0) (c1 : A1 10 2 0 = A 10 2 0 + 1) (c2 : A1 0 0 0 = A 0 0 0) (c3 : A1 0 0 1 = A 0 0 1) (c4 : A1 0 0 2 = A 0 0 2) (cw : A1 0 0 3 = A 0 0 3) (hs : ∀ i, 0 ≤ i → i < A 10 2 0 → A1 10 0 i = A 10 0 i ∧ A1 10 1 i = A 10 1 i) (hf : ∀ i, 0 ≤ i → i < A 0 0 0 * 4 → A1 (100 + i) = A (100 + i)) (ht : ∀ i, 0 ≤ i → i < A 0 0 1 → A1 (200 + i) = A (200 + i)) (hl : ∀ i, 0 ≤ i → i < A 0 0 2 → A1 (20 + i) = A (20 + i)) : ∃ e1, RM G1 M1 Q A1 (lup D 0 1 e1) I ∧ Fq Q G M G1 M1 := by
  have hq := h.q
  have b1 := h.l1.2.2.2.2.2.2.1
  have b2 := h.l2.2.2.2.2.2.2.1
  have b3 := h.l3.2.2.2.2.2.2.1
  have b4 := h.l4.2.2.2.2.2.2.1
  obtain ⟨e1, a1, a2, a3, a4, h4, ag, hFq⟩ := h.ac (by omega) h.l1.k hadd (by omega) hI
  refine ⟨e1, ?_, hFq⟩
  have dd : ∀ x y, ¬ (x = 0 ∧ y = 1) → lup D 0 1 e1 x y = D x y := fun x y hxy => lup_n hxy
  have de : lup D 0 1 e1 0 1 = e1 := lup_s _ _ _ _
  have agQ := ag Q (by omega) (by omega) (by omega)
  have hD : ∀ x, 1 ≤ x → x ≤ 4 → x ≠ 1 → D 0 x < G 4 0 0 → agr G M G1 M1 (D 0 x) := fun x q1 q2 q3 q4 => by
    rcases h.p.e x q1 q2 with ⟨z1, z2, z3⟩ | z
    · exact ag _ q4 (by omega) (by omega)
    · refine ag _ q4 (fun e => ?_) (by omega)
      have hkj := h.l1.k
      rw [e] at z; omega
  have hD2 := hD 2 (by omega) (by omega) (by omega) h.l2.2.1.2
  have hD3 := hD 3 (by omega) (by omega) (by omega) h.l3.2.1.2
  have hD4 := hD 4 (by omega) (by omega) (by omega) h.l4.2.1.2
  refine ⟨⟨hq.1, by omega⟩, agQ.1.trans h.k, fun x q1 q2 => (agQ.2.2.1 _).trans (h.r x q1 q2), by rw [cw]; exact (agQ.2.2.2.2.1 _).trans h.w, by rw [c1, de]; exact a1, by rw [c2, dd 0 2 (by omega)]; exact h.l2.o (ag _ (by omega) (by omega) (by omega)) hD2 h4, by rw [c3, dd 0 3 (by omega)]; exact h.l3.o (ag _ (by omega) (by omega) (by omega)) hD3 h4, by rw [c4, dd 0 4 (by omega)]; exact h.l4.o (ag _ (by omega) (by omega) (by omega)) hD4 h4, fun i q1 q2 => ?_, fun i q1 q2 => by rw [c2] at q2; rw [dd 0 2 (by omega), dd 2 i (by omega)]; exact (hD2.2.2.2.1 i).trans (h.e2 i q1 q2), fun i q1 q2 => by rw [c3] at q2; rw [dd 0 3 (by omega), dd 4 i (by omega)]; exact (hD3.2.2.2.1 i).trans (h.e3 i q1 q2), fun i q1 q2 => by rw [c4] at q2; rw [dd 0 4 (by omega), dd 5 i (by omega)]; exact (hD4.2.2.2.1 i).trans (h.e4 i q1 q2), fun i q1 q2 => ?_, fun i q1 q2 => ?_, fun i f q1 q2 q3 q4 => ?_, fun i q1 q2 => ?_, fun i q1 q2 => ?_, fun i q1 q2 => ?_, fun x q1 q2 => ?_, fun i q1 q2 => ?_, fun i q1 q2 => ?_, fun i q1 q2 => ?_, fun i q1 q2 => ?_, fun i q1 q2 => ?_⟩
  · rw [c1] at q2; rw [de, dd 1 i (by omega)]
    by_cases e : i = A 10 2 0
    · rw [e]; exact a3
    · exact (a2 i q1 (by omega)).trans (h.e1 i q1 (by omega))
  · rw [c1] at q2; rw [dd 1 i (by omega)]
    by_cases e : i = A 10 2 0
    · rw [e]; exact hw.o (ag _ (by omega) (by omega) (by omega))
    · have z := h.p.s i q1 (by omega); have y := hs i q1 (by omega); rw [y.1, y.2]; exact (h.so i q1 (by omega)).o (ag _ (by omega) (by omega) (by omega))
  · rw [c2] at q2; rw [dd 2 i (by omega)]
    have z := h.p.y i q1 q2; exact AR.o (h.ya i q1 q2) (ag _ (by omega) (by omega) (by omega))
  · rw [c2] at q2; rw [dd 2 i (by omega), dd 3 _ (by omega)]
    have z := h.p.y i q1 q2; exact ((ag _ (by omega) (by omega) (by omega)).2.2.2.1 f).trans (h.ye i f q1 q2 q3 q4)
  · rw [c2] at q2; rw [dd 3 i (by omega)]
    have z := h.p.f i q1 q2; rw [hf i q1 q2]; exact (h.fa i q1 q2).o (ag _ (by omega) (by omega) (by omega)) (ag _ (by omega) (by omega) (by omega))
  · rw [c3] at q2; rw [dd 4 i (by omega)]
    have z := h.p.t i q1 q2; rw [ht i q1 q2]; exact (h.ta i q1 q2).o (ag _ (by omega) (by omega) (by omega)) (ag _ (by omega) (by omega) (by omega))
  · rw [c4] at q2; rw [dd 5 i (by omega)]
    have z := h.p.l i q1 q2; rw [hl i q1 q2]; exact (h.li i q1 q2).o (ag _ (by omega) (by omega) (by omega)) (ag _ (by omega) (by omega) (by omega)) (ag _ (by omega) (by omega) (by omega)) (ag _ (by omega) (by omega) (by omega))
  · by_cases e : x = 1
    · rw [e, de]; exact Or.inl ⟨a4.1, a4.2.1, a4.2.2⟩
    · rw [dd 0 x (by omega)]
      rcases h.p.e x q1 q2 with ⟨z1, z2, z3⟩ | z
      · exact Or.inl ⟨z1, by omega, z3⟩
      · right
        have hlt : D 0 x < G 4 0 0 := by
          rcases (show x = 1 ∨ x = 2 ∨ x = 3 ∨ x = 4 by omega) with rfl | rfl | rfl | rfl
          · exact h.l1.2.1.2
          · exact h.l2.2.1.2
          · exact h.l3.2.1.2
          · exact h.l4.2.1.2
        rw [(hD x q1 q2 e hlt).1]; exact z
  · rw [c1] at q2; rw [dd 1 i (by omega)]
    by_cases e : i = A 10 2 0
    · rw [e]; exact ⟨by omega, hp.2⟩
    · have z := h.p.s i q1 (by omega); exact ⟨by omega, z.2⟩
  · rw [c2] at q2; rw [dd 2 i (by omega)]
    have z := h.p.y i q1 q2; exact ⟨by omega, z.2⟩
  · rw [c2] at q2; rw [dd 3 i (by omega)]
    have z := h.p.f i q1 q2; exact ⟨by omega, z.2⟩
  · rw [c3] at q2; rw [dd 4 i (by omega)]
    have z := h.p.t i q1 q2; exact ⟨by omega, z.2⟩
  · rw [c4] at q2; rw [dd 5 i (by omega)]
    have z := h.p.l i q1 q2; exact ⟨by omega, z.2⟩
theorem RM.ad2 (h : RM G M Q A D I) (hI : ∀ b, G 4 0 0 ≤ b → I b = 2) (hadd : ADD G M (Q + 2) (A 0 0 0) (D 0 2) (D 2 (A 0 0 0)) G1 M1) (hw : AR G 6 (D 2 (A 0 0 0)) 4) (hwe : ∀ f, 0 ≤ f → f < 4 → G 3 (D 2 (A 0 0 0)) f = D 3 (A 0 0 0 * 4 + f)) (hwf : ∀ f, 0 ≤ f → f < 4 → MFa G M (D 3 (A 0 0 0 * 4 + f)) (A1 (100 + (A 0 0 0 * 4 + f)))) (hp : (Q + 6 ≤ D 2 (A 0 0 0) ∧ D 2 (A 0 0 0) < G 4 0 0) ∧ I (D 2 (A 0 0 0)) = 2000 + A 0 0 0) (hpf : ∀ f, 0 ≤ f → f < 4 → (Q + 6 ≤ D 3 (A 0 0 0 * 4 + f) ∧ D 3 (A 0 0 0 * 4 + f) + 1 < G 4 0 0) ∧ I (D 3 (A 0 0 0 * 4 + f)) = 3000 + (A 0 0 0 * 4 + f) ∧ I (D 3 (A 0 0 0 * 4 + f) + 1) = 4000 + (A 0 0 0 * 4 + f)) (c1 : A1 10 2 0 = A 10 2 0) (c2 : A1 0 0 0 = A 0 0 0 + 1) (c3 : A1 0 0 1 = A 0 0 1) (c4 : A1 0 0 2 = A 0 0 2) (cw : A1 0 0 3 = A 0 0 3) (hs : ∀ i, 0 ≤ i → i < A 10 2 0 → A1 10 0 i = A 10 0 i ∧ A1 10 1 i = A 10 1 i) (hf : ∀ i, 0 ≤ i → i < A 0 0 0 * 4 → A1 (100 + i) = A (100 + i)) (ht : ∀ i, 0 ≤ i → i < A 0 0 1 → A1 (200 + i) = A (200 + i)) (hl : ∀ i, 0 ≤ i → i < A 0 0 2 → A1 (20 + i) = A (20 + i)) : ∃ e1, RM G1 M1 Q A1 (lup D 0 2 e1) I ∧ Fq Q G M G1 M1 := by
  have hq := h.q
  have b1 := h.l1.2.2.2.2.2.2.1
  have b2 := h.l2.2.2.2.2.2.2.1
  have b3 := h.l3.2.2.2.2.2.2.1
  have b4 := h.l4.2.2.2.2.2.2.1
  obtain ⟨e1, a1, a2, a3, a4, h4, ag, hFq⟩ := h.ac (by omega) h.l2.k hadd (by omega) hI
  refine ⟨e1, ?_, hFq⟩
  have dd : ∀ x y, ¬ (x = 0 ∧ y = 2) → lup D 0 2 e1 x y = D x y := fun x y hxy => lup_n hxy
  have de : lup D 0 2 e1 0 2 = e1 := lup_s _ _ _ _
  have agQ := ag Q (by omega) (by omega) (by omega)
  have hD : ∀ x, 1 ≤ x → x ≤ 4 → x ≠ 2 → D 0 x < G 4 0 0 → agr G M G1 M1 (D 0 x) := fun x q1 q2 q3 q4 => by
    rcases h.p.e x q1 q2 with ⟨z1, z2, z3⟩ | z
    · exact ag _ q4 (by omega) (by omega)
    · refine ag _ q4 (fun e => ?_) (by omega)
      have hkj := h.l2.k
      rw [e] at z; omega
  have hD1 := hD 1 (by omega) (by omega) (by omega) h.l1.2.1.2
  have hD3 := hD 3 (by omega) (by omega) (by omega) h.l3.2.1.2
  have hD4 := hD 4 (by omega) (by omega) (by omega) h.l4.2.1.2
  refine ⟨⟨hq.1, by omega⟩, agQ.1.trans h.k, fun x q1 q2 => (agQ.2.2.1 _).trans (h.r x q1 q2), by rw [cw]; exact (agQ.2.2.2.2.1 _).trans h.w, by rw [c1, dd 0 1 (by omega)]; exact h.l1.o (ag _ (by omega) (by omega) (by omega)) hD1 h4, by rw [c2, de]; exact a1, by rw [c3, dd 0 3 (by omega)]; exact h.l3.o (ag _ (by omega) (by omega) (by omega)) hD3 h4, by rw [c4, dd 0 4 (by omega)]; exact h.l4.o (ag _ (by omega) (by omega) (by omega)) hD4 h4, fun i q1 q2 => by rw [c1] at q2; rw [dd 0 1 (by omega), dd 1 i (by omega)]; exact (hD1.2.2.2.1 i).trans (h.e1 i q1 q2), fun i q1 q2 => ?_, fun i q1 q2 => by rw [c3] at q2; rw [dd 0 3 (by omega), dd 4 i (by omega)]; exact (hD3.2.2.2.1 i).trans (h.e3 i q1 q2), fun i q1 q2 => by rw [c4] at q2; rw [dd 0 4 (by omega), dd 5 i (by omega)]; exact (hD4.2.2.2.1 i).trans (h.e4 i q1 q2), fun i q1 q2 => ?_, fun i q1 q2 => ?_, fun i f q1 q2 q3 q4 => ?_, fun i q1 q2 => ?_, fun i q1 q2 => ?_, fun i q1 q2 => ?_, fun x q1 q2 => ?_, fun i q1 q2 => ?_, fun i q1 q2 => ?_, fun i q1 q2 => ?_, fun i q1 q2 => ?_, fun i q1 q2 => ?_⟩
  · rw [c2] at q2; rw [de, dd 2 i (by omega)]
    by_cases e : i = A 0 0 0
    · rw [e]; exact a3
    · exact (a2 i q1 (by omega)).trans (h.e2 i q1 (by omega))
  · rw [c1] at q2; rw [dd 1 i (by omega)]
    have z := h.p.s i q1 q2; have y := hs i q1 q2; rw [y.1, y.2]; exact (h.so i q1 q2).o (ag _ (by omega) (by omega) (by omega))
  · rw [c2] at q2; rw [dd 2 i (by omega)]
    by_cases e : i = A 0 0 0
    · rw [e]; exact AR.o hw (ag _ (by omega) (by omega) (by omega))
    · have z := h.p.y i q1 (by omega); exact AR.o (h.ya i q1 (by omega)) (ag _ (by omega) (by omega) (by omega))
  · rw [c2] at q2; rw [dd 2 i (by omega), dd 3 _ (by omega)]
    by_cases e : i = A 0 0 0
    · rw [e]; exact ((ag _ (by omega) (by omega) (by omega)).2.2.2.1 f).trans (hwe f q3 q4)
    · have z := h.p.y i q1 (by omega); exact ((ag _ (by omega) (by omega) (by omega)).2.2.2.1 f).trans (h.ye i f q1 (by omega) q3 q4)
  · rw [c2] at q2; rw [dd 3 i (by omega)]
    by_cases e : A 0 0 0 * 4 ≤ i
    · have y := hpf (i - A 0 0 0 * 4) (by omega) (by omega)
      have w := hwf (i - A 0 0 0 * 4) (by omega) (by omega)
      rw [show A 0 0 0 * 4 + (i - A 0 0 0 * 4) = i by omega] at y w
      exact w.o (ag _ (by omega) (by omega) (by omega)) (ag _ (by omega) (by omega) (by omega))
    · have z := h.p.f i q1 (by omega); rw [hf i q1 (by omega)]; exact (h.fa i q1 (by omega)).o (ag _ (by omega) (by omega) (by omega)) (ag _ (by omega) (by omega) (by omega))
  · rw [c3] at q2; rw [dd 4 i (by omega)]
    have z := h.p.t i q1 q2; rw [ht i q1 q2]; exact (h.ta i q1 q2).o (ag _ (by omega) (by omega) (by omega)) (ag _ (by omega) (by omega) (by omega))
  · rw [c4] at q2; rw [dd 5 i (by omega)]
    have z := h.p.l i q1 q2; rw [hl i q1 q2]; exact (h.li i q1 q2).o (ag _ (by omega) (by omega) (by omega)) (ag _ (by omega) (by omega) (by omega)) (ag _ (by omega) (by omega) (by omega)) (ag _ (by omega) (by omega) (by omega))
  · by_cases e : x = 2
    · rw [e, de]; exact Or.inl ⟨a4.1, a4.2.1, a4.2.2⟩
    · rw [dd 0 x (by omega)]
      rcases h.p.e x q1 q2 with ⟨z1, z2, z3⟩ | z
      · exact Or.inl ⟨z1, by omega, z3⟩
      · right
        have hlt : D 0 x < G 4 0 0 := by
          rcases (show x = 1 ∨ x = 2 ∨ x = 3 ∨ x = 4 by omega) with rfl | rfl | rfl | rfl
          · exact h.l1.2.1.2
          · exact h.l2.2.1.2
          · exact h.l3.2.1.2
          · exact h.l4.2.1.2
        rw [(hD x q1 q2 e hlt).1]; exact z
  · rw [c1] at q2; rw [dd 1 i (by omega)]
    have z := h.p.s i q1 q2; exact ⟨by omega, z.2⟩
  · rw [c2] at q2; rw [dd 2 i (by omega)]
    by_cases e : i = A 0 0 0
    · rw [e]; exact ⟨by omega, hp.2⟩
    · have z := h.p.y i q1 (by omega); exact ⟨by omega, z.2⟩
  · rw [c2] at q2; rw [dd 3 i (by omega)]
    by_cases e : A 0 0 0 * 4 ≤ i
    · have y := hpf (i - A 0 0 0 * 4) (by omega) (by omega)
      rw [show A 0 0 0 * 4 + (i - A 0 0 0 * 4) = i by omega] at y
      exact ⟨by omega, y.2⟩
    · have z := h.p.f i q1 (by omega); exact ⟨by omega, z.2⟩
  · rw [c3] at q2; rw [dd 4 i (by omega)]
    have z := h.p.t i q1 q2; exact ⟨by omega, z.2⟩
  · rw [c4] at q2; rw [dd 5 i (by omega)]
    have z := h.p.l i q1 q2; exact ⟨by omega, z.2⟩
theorem RM.ad3 (h : RM G M Q A D I) (hI : ∀ b, G 4 0 0 ≤ b → I b = 3) (hadd : ADD G M (Q + 3) (A 0 0 1) (D 0 3) (D 4 (A 0 0 1)) G1 M1) (hw : MTa G M (D 4 (A 0 0 1)) (A1 (200 + A 0 0 1))) (hp : (Q + 6 ≤ D 4 (A 0 0 1) ∧ D 4 (A 0 0 1) + 1 < G 4 0 0) ∧ I (D 4 (A 0 0 1)) = 5000 + A 0 0 1 ∧ I (D 4 (A 0 0 1) + 1) = 6000 + A 0 0 1) (c1 : A1 10 2 0 = A 10 2 0) (c2 : A1 0 0 0 = A 0 0 0) (c3 : A1 0 0 1 = A 0 0 1 + 1) (c4 : A1 0 0 2 = A 0 0 2) (cw : A1 0 0 3 = A 0 0 3) (hs : ∀ i, 0 ≤ i → i < A 10 2 0 → A1 10 0 i = A 10 0 i ∧ A1 10 1 i = A 10 1 i) (hf : ∀ i, 0 ≤ i → i < A 0 0 0 * 4 → A1 (100 + i) = A (100 + i)) (ht : ∀ i, 0 ≤ i → i < A 0 0 1 → A1 (200 + i) = A (200 + i)) (hl : ∀ i, 0 ≤ i → i < A 0 0 2 → A1 (20 + i) = A (20 + i)) : ∃ e1, RM G1 M1 Q A1 (lup D 0 3 e1) I ∧ Fq Q G M G1 M1 := by
  have hq := h.q
  have b1 := h.l1.2.2.2.2.2.2.1
  have b2 := h.l2.2.2.2.2.2.2.1
  have b3 := h.l3.2.2.2.2.2.2.1
  have b4 := h.l4.2.2.2.2.2.2.1
  obtain ⟨e1, a1, a2, a3, a4, h4, ag, hFq⟩ := h.ac (by omega) h.l3.k hadd (by omega) hI
  refine ⟨e1, ?_, hFq⟩
  have dd : ∀ x y, ¬ (x = 0 ∧ y = 3) → lup D 0 3 e1 x y = D x y := fun x y hxy => lup_n hxy
  have de : lup D 0 3 e1 0 3 = e1 := lup_s _ _ _ _
  have agQ := ag Q (by omega) (by omega) (by omega)
  have hD : ∀ x, 1 ≤ x → x ≤ 4 → x ≠ 3 → D 0 x < G 4 0 0 → agr G M G1 M1 (D 0 x) := fun x q1 q2 q3 q4 => by
    rcases h.p.e x q1 q2 with ⟨z1, z2, z3⟩ | z
    · exact ag _ q4 (by omega) (by omega)
    · refine ag _ q4 (fun e => ?_) (by omega)
      have hkj := h.l3.k
      rw [e] at z; omega
  have hD1 := hD 1 (by omega) (by omega) (by omega) h.l1.2.1.2
  have hD2 := hD 2 (by omega) (by omega) (by omega) h.l2.2.1.2
  have hD4 := hD 4 (by omega) (by omega) (by omega) h.l4.2.1.2
  refine ⟨⟨hq.1, by omega⟩, agQ.1.trans h.k, fun x q1 q2 => (agQ.2.2.1 _).trans (h.r x q1 q2), by rw [cw]; exact (agQ.2.2.2.2.1 _).trans h.w, by rw [c1, dd 0 1 (by omega)]; exact h.l1.o (ag _ (by omega) (by omega) (by omega)) hD1 h4, by rw [c2, dd 0 2 (by omega)]; exact h.l2.o (ag _ (by omega) (by omega) (by omega)) hD2 h4, by rw [c3, de]; exact a1, by rw [c4, dd 0 4 (by omega)]; exact h.l4.o (ag _ (by omega) (by omega) (by omega)) hD4 h4, fun i q1 q2 => by rw [c1] at q2; rw [dd 0 1 (by omega), dd 1 i (by omega)]; exact (hD1.2.2.2.1 i).trans (h.e1 i q1 q2), fun i q1 q2 => by rw [c2] at q2; rw [dd 0 2 (by omega), dd 2 i (by omega)]; exact (hD2.2.2.2.1 i).trans (h.e2 i q1 q2), fun i q1 q2 => ?_, fun i q1 q2 => by rw [c4] at q2; rw [dd 0 4 (by omega), dd 5 i (by omega)]; exact (hD4.2.2.2.1 i).trans (h.e4 i q1 q2), fun i q1 q2 => ?_, fun i q1 q2 => ?_, fun i f q1 q2 q3 q4 => ?_, fun i q1 q2 => ?_, fun i q1 q2 => ?_, fun i q1 q2 => ?_, fun x q1 q2 => ?_, fun i q1 q2 => ?_, fun i q1 q2 => ?_, fun i q1 q2 => ?_, fun i q1 q2 => ?_, fun i q1 q2 => ?_⟩
  · rw [c3] at q2; rw [de, dd 4 i (by omega)]
    by_cases e : i = A 0 0 1
    · rw [e]; exact a3
    · exact (a2 i q1 (by omega)).trans (h.e3 i q1 (by omega))
  · rw [c1] at q2; rw [dd 1 i (by omega)]
    have z := h.p.s i q1 q2; have y := hs i q1 q2; rw [y.1, y.2]; exact (h.so i q1 q2).o (ag _ (by omega) (by omega) (by omega))
  · rw [c2] at q2; rw [dd 2 i (by omega)]
    have z := h.p.y i q1 q2; exact AR.o (h.ya i q1 q2) (ag _ (by omega) (by omega) (by omega))
  · rw [c2] at q2; rw [dd 2 i (by omega), dd 3 _ (by omega)]
    have z := h.p.y i q1 q2; exact ((ag _ (by omega) (by omega) (by omega)).2.2.2.1 f).trans (h.ye i f q1 q2 q3 q4)
  · rw [c2] at q2; rw [dd 3 i (by omega)]
    have z := h.p.f i q1 q2; rw [hf i q1 q2]; exact (h.fa i q1 q2).o (ag _ (by omega) (by omega) (by omega)) (ag _ (by omega) (by omega) (by omega))
  · rw [c3] at q2; rw [dd 4 i (by omega)]
    by_cases e : i = A 0 0 1
    · rw [e]; exact hw.o (ag _ (by omega) (by omega) (by omega)) (ag _ (by omega) (by omega) (by omega))
    · have z := h.p.t i q1 (by omega); rw [ht i q1 (by omega)]; exact (h.ta i q1 (by omega)).o (ag _ (by omega) (by omega) (by omega)) (ag _ (by omega) (by omega) (by omega))
  · rw [c4] at q2; rw [dd 5 i (by omega)]
    have z := h.p.l i q1 q2; rw [hl i q1 q2]; exact (h.li i q1 q2).o (ag _ (by omega) (by omega) (by omega)) (ag _ (by omega) (by omega) (by omega)) (ag _ (by omega) (by omega) (by omega)) (ag _ (by omega) (by omega) (by omega))
  · by_cases e : x = 3
    · rw [e, de]; exact Or.inl ⟨a4.1, a4.2.1, a4.2.2⟩
    · rw [dd 0 x (by omega)]
      rcases h.p.e x q1 q2 with ⟨z1, z2, z3⟩ | z
      · exact Or.inl ⟨z1, by omega, z3⟩
      · right
        have hlt : D 0 x < G 4 0 0 := by
          rcases (show x = 1 ∨ x = 2 ∨ x = 3 ∨ x = 4 by omega) with rfl | rfl | rfl | rfl
          · exact h.l1.2.1.2
          · exact h.l2.2.1.2
          · exact h.l3.2.1.2
          · exact h.l4.2.1.2
        rw [(hD x q1 q2 e hlt).1]; exact z
  · rw [c1] at q2; rw [dd 1 i (by omega)]
    have z := h.p.s i q1 q2; exact ⟨by omega, z.2⟩
  · rw [c2] at q2; rw [dd 2 i (by omega)]
    have z := h.p.y i q1 q2; exact ⟨by omega, z.2⟩
  · rw [c2] at q2; rw [dd 3 i (by omega)]
    have z := h.p.f i q1 q2; exact ⟨by omega, z.2⟩
  · rw [c3] at q2; rw [dd 4 i (by omega)]
    by_cases e : i = A 0 0 1
    · rw [e]; exact ⟨by omega, hp.2⟩
    · have z := h.p.t i q1 (by omega); exact ⟨by omega, z.2⟩
  · rw [c4] at q2; rw [dd 5 i (by omega)]
    have z := h.p.l i q1 q2; exact ⟨by omega, z.2⟩
theorem RM.ad4 (h : RM G M Q A D I) (hI : ∀ b, G 4 0 0 ≤ b → I b = 4) (hadd : ADD G M (Q + 4) (A 0 0 2) (D 0 4) (D 5 (A 0 0 2)) G1 M1) (hw : MLi G M (D 5 (A 0 0 2)) (A1 (20 + A 0 0 2))) (hp : (Q + 6 ≤ D 5 (A 0 0 2) ∧ D 5 (A 0 0 2) + 3 < G 4 0 0) ∧ I (D 5 (A 0 0 2)) = 7000 + A 0 0 2 ∧ I (D 5 (A 0 0 2) + 1) = 7100 + A 0 0 2 ∧ I (D 5 (A 0 0 2) + 2) = 7200 + A 0 0 2 ∧ I (D 5 (A 0 0 2) + 3) = 7300 + A 0 0 2) (c1 : A1 10 2 0 = A 10 2 0) (c2 : A1 0 0 0 = A 0 0 0) (c3 : A1 0 0 1 = A 0 0 1) (c4 : A1 0 0 2 = A 0 0 2 + 1) (cw : A1 0 0 3 = A 0 0 3) (hs : ∀ i, 0 ≤ i → i < A 10 2 0 → A1 10 0 i = A 10 0 i ∧ A1 10 1 i = A 10 1 i) (hf : ∀ i, 0 ≤ i → i < A 0 0 0 * 4 → A1 (100 + i) = A (100 + i)) (ht : ∀ i, 0 ≤ i → i < A 0 0 1 → A1 (200 + i) = A (200 + i)) (hl : ∀ i, 0 ≤ i → i < A 0 0 2 → A1 (20 + i) = A (20 + i)) : ∃ e1, RM G1 M1 Q A1 (lup D 0 4 e1) I ∧ Fq Q G M G1 M1 := by
  have hq := h.q
  have b1 := h.l1.2.2.2.2.2.2.1
  have b2 := h.l2.2.2.2.2.2.2.1
  have b3 := h.l3.2.2.2.2.2.2.1
  have b4 := h.l4.2.2.2.2.2.2.1
  obtain ⟨e1, a1, a2, a3, a4, h4, ag, hFq⟩ := h.ac (by omega) h.l4.k hadd (by omega) hI
  refine ⟨e1, ?_, hFq⟩
  have dd : ∀ x y, ¬ (x = 0 ∧ y = 4) → lup D 0 4 e1 x y = D x y := fun x y hxy => lup_n hxy
  have de : lup D 0 4 e1 0 4 = e1 := lup_s _ _ _ _
  have agQ := ag Q (by omega) (by omega) (by omega)
  have hD : ∀ x, 1 ≤ x → x ≤ 4 → x ≠ 4 → D 0 x < G 4 0 0 → agr G M G1 M1 (D 0 x) := fun x q1 q2 q3 q4 => by
    rcases h.p.e x q1 q2 with ⟨z1, z2, z3⟩ | z
    · exact ag _ q4 (by omega) (by omega)
    · refine ag _ q4 (fun e => ?_) (by omega)
      have hkj := h.l4.k
      rw [e] at z; omega
  have hD1 := hD 1 (by omega) (by omega) (by omega) h.l1.2.1.2
  have hD2 := hD 2 (by omega) (by omega) (by omega) h.l2.2.1.2
  have hD3 := hD 3 (by omega) (by omega) (by omega) h.l3.2.1.2
  refine ⟨⟨hq.1, by omega⟩, agQ.1.trans h.k, fun x q1 q2 => (agQ.2.2.1 _).trans (h.r x q1 q2), by rw [cw]; exact (agQ.2.2.2.2.1 _).trans h.w, by rw [c1, dd 0 1 (by omega)]; exact h.l1.o (ag _ (by omega) (by omega) (by omega)) hD1 h4, by rw [c2, dd 0 2 (by omega)]; exact h.l2.o (ag _ (by omega) (by omega) (by omega)) hD2 h4, by rw [c3, dd 0 3 (by omega)]; exact h.l3.o (ag _ (by omega) (by omega) (by omega)) hD3 h4, by rw [c4, de]; exact a1, fun i q1 q2 => by rw [c1] at q2; rw [dd 0 1 (by omega), dd 1 i (by omega)]; exact (hD1.2.2.2.1 i).trans (h.e1 i q1 q2), fun i q1 q2 => by rw [c2] at q2; rw [dd 0 2 (by omega), dd 2 i (by omega)]; exact (hD2.2.2.2.1 i).trans (h.e2 i q1 q2), fun i q1 q2 => by rw [c3] at q2; rw [dd 0 3 (by omega), dd 4 i (by omega)]; exact (hD3.2.2.2.1 i).trans (h.e3 i q1 q2), fun i q1 q2 => ?_, fun i q1 q2 => ?_, fun i q1 q2 => ?_, fun i f q1 q2 q3 q4 => ?_, fun i q1 q2 => ?_, fun i q1 q2 => ?_, fun i q1 q2 => ?_, fun x q1 q2 => ?_, fun i q1 q2 => ?_, fun i q1 q2 => ?_, fun i q1 q2 => ?_, fun i q1 q2 => ?_, fun i q1 q2 => ?_⟩
  · rw [c4] at q2; rw [de, dd 5 i (by omega)]
    by_cases e : i = A 0 0 2
    · rw [e]; exact a3
    · exact (a2 i q1 (by omega)).trans (h.e4 i q1 (by omega))
  · rw [c1] at q2; rw [dd 1 i (by omega)]
    have z := h.p.s i q1 q2; have y := hs i q1 q2; rw [y.1, y.2]; exact (h.so i q1 q2).o (ag _ (by omega) (by omega) (by omega))
  · rw [c2] at q2; rw [dd 2 i (by omega)]
    have z := h.p.y i q1 q2; exact AR.o (h.ya i q1 q2) (ag _ (by omega) (by omega) (by omega))
  · rw [c2] at q2; rw [dd 2 i (by omega), dd 3 _ (by omega)]
    have z := h.p.y i q1 q2; exact ((ag _ (by omega) (by omega) (by omega)).2.2.2.1 f).trans (h.ye i f q1 q2 q3 q4)
  · rw [c2] at q2; rw [dd 3 i (by omega)]
    have z := h.p.f i q1 q2; rw [hf i q1 q2]; exact (h.fa i q1 q2).o (ag _ (by omega) (by omega) (by omega)) (ag _ (by omega) (by omega) (by omega))
  · rw [c3] at q2; rw [dd 4 i (by omega)]
    have z := h.p.t i q1 q2; rw [ht i q1 q2]; exact (h.ta i q1 q2).o (ag _ (by omega) (by omega) (by omega)) (ag _ (by omega) (by omega) (by omega))
  · rw [c4] at q2; rw [dd 5 i (by omega)]
    by_cases e : i = A 0 0 2
    · rw [e]; exact hw.o (ag _ (by omega) (by omega) (by omega)) (ag _ (by omega) (by omega) (by omega)) (ag _ (by omega) (by omega) (by omega)) (ag _ (by omega) (by omega) (by omega))
    · have z := h.p.l i q1 (by omega); rw [hl i q1 (by omega)]; exact (h.li i q1 (by omega)).o (ag _ (by omega) (by omega) (by omega)) (ag _ (by omega) (by omega) (by omega)) (ag _ (by omega) (by omega) (by omega)) (ag _ (by omega) (by omega) (by omega))
  · by_cases e : x = 4
    · rw [e, de]; exact Or.inl ⟨a4.1, a4.2.1, a4.2.2⟩
    · rw [dd 0 x (by omega)]
      rcases h.p.e x q1 q2 with ⟨z1, z2, z3⟩ | z
      · exact Or.inl ⟨z1, by omega, z3⟩
      · right
        have hlt : D 0 x < G 4 0 0 := by
          rcases (show x = 1 ∨ x = 2 ∨ x = 3 ∨ x = 4 by omega) with rfl | rfl | rfl | rfl
          · exact h.l1.2.1.2
          · exact h.l2.2.1.2
          · exact h.l3.2.1.2
          · exact h.l4.2.1.2
        rw [(hD x q1 q2 e hlt).1]; exact z
  · rw [c1] at q2; rw [dd 1 i (by omega)]
    have z := h.p.s i q1 q2; exact ⟨by omega, z.2⟩
  · rw [c2] at q2; rw [dd 2 i (by omega)]
    have z := h.p.y i q1 q2; exact ⟨by omega, z.2⟩
  · rw [c2] at q2; rw [dd 3 i (by omega)]
    have z := h.p.f i q1 q2; exact ⟨by omega, z.2⟩
  · rw [c3] at q2; rw [dd 4 i (by omega)]
    have z := h.p.t i q1 q2; exact ⟨by omega, z.2⟩
  · rw [c4] at q2; rw [dd 5 i (by omega)]
    by_cases e : i = A 0 0 2
    · rw [e]; exact ⟨by omega, hp.2⟩
    · have z := h.p.l i q1 (by omega); exact ⟨by omega, z.2⟩
end RMu
