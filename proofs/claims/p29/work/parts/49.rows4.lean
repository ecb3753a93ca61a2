/-! ===== rows of rows, three minutes, what stays ===== -/
def MX (G : Mm) (V n len : Int) : Prop := AR G 6 V n ∧ ∀ i, 0 ≤ i → i < n → G 3 V i = V + 1 + i ∧ AI G (V + 1 + i) len
/-- the states that were seen last, at W -/
def WC (M : Mm) (W : Int) (A : An) : Prop := ∀ t k, 0 ≤ t → t < 60 → 0 ≤ k → k < 2 → (0 ≤ M 1 (W + 1 + t) k ∧ M 1 (W + 1 + t) k ≤ 5) ∧ (A 0 0 1 ≤ t → M 1 (W + 1 + t) k = 0) ∧ (t < A 0 0 1 → stt A k t = 0 ∨ M 1 (W + 1 + t) k ≤ stt A k t)
theorem WC.mo {M : Mm} {W : Int} {A A1 : An} (h : WC M W A) (hm : Mo A A1) (hn : A 0 0 1 ≤ A1 0 0 1) : WC M W A1 := fun t k q1 q2 q3 q4 => by
  obtain ⟨a, b, c⟩ := h t k q1 q2 q3 q4
  refine ⟨a, fun z => b (by omega), fun z => ?_⟩
  by_cases e : t < A 0 0 1
  · have x := c e
    have y := hm k t q3 q4 q1 e
    omega
  · have x := b (by omega)
    have y := stt_bd (A := A1) (l := k) (t := t)
    omega
theorem WC.m {M M1 : Mm} {W : Int} {A : An} (h : WC M W A) (e : ∀ t k, 0 ≤ t → t < 60 → M1 1 (W + 1 + t) k = M 1 (W + 1 + t) k) : WC M1 W A := fun t k q1 q2 q3 q4 => by
  rw [e t k q1 q2]; exact h t k q1 q2 q3 q4
theorem WC.set {M M1 : Mm} {W t k : Int} {A : An} (h : WC M W A) (ht : t < A 0 0 1) (e : M1 = mup M 1 (W + 1 + t) k (stt A k t)) : WC M1 W A := fun t' k' q1 q2 q3 q4 => by
  rw [e]
  by_cases z : t' = t ∧ k' = k
  · rw [z.1, z.2, mup_s]
    have := stt_bd (A := A) (l := k) (t := t)
    exact ⟨this, fun q => by omega, fun q => Or.inr (Int.le_refl _)⟩
  · rw [mup_n (by omega)]; exact h t' k' q1 q2 q3 q4
/-- from G, M on: no shape below has changed, no number but those of the house and of the rows behind W -/
def PsQ (B W : Int) (G M G1 M1 : Mm) : Prop := (∀ b, b < G 4 0 0 → G1 0 b 0 = G 0 b 0 ∧ G1 1 b 0 = G 1 b 0 ∧ (∀ f, G1 2 f b = G 2 f b) ∧ ∀ j, G1 3 b j = G 3 b j) ∧ (∀ b, b < G 4 0 0 → (b < B ∨ B + 201 < b) → (b ≤ W ∨ W + 60 < b) → ∀ j, M1 1 b j = M 1 b j) ∧ G 4 0 0 ≤ G1 4 0 0
section PsQs
variable {B W : Int} {G M G1 M1 M2 : Mm}
theorem PsQ.rf : PsQ B W G M G M := ⟨fun b _ => ⟨rfl, rfl, fun _ => rfl, fun _ => rfl⟩, fun b _ _ _ _ => rfl, Int.le_refl _⟩
theorem PsQ.new (h : PsQ B W G M G1 M1) {K len : Int} : PsQ B W G M (nG G1 K len) (nM G1 M1) := by
  obtain ⟨h1, h2, h3⟩ := h
  refine ⟨fun b q => ?_, fun b q q2 q3 j => ?_, by rw [nG_next]; omega⟩
  · have a := agr_n (G := G1) (M := M1) (K := K) (len := len) b (by omega)
    have z := h1 b q
    exact ⟨a.1.trans z.1, a.2.1.trans z.2.1, fun f => (a.2.2.1 f).trans (z.2.2.1 f), fun j => (a.2.2.2.1 j).trans (z.2.2.2 j)⟩
  · rw [nM_o1 (by omega)]; exact h2 b q q2 q3 j
theorem PsQ.ot (h : PsQ B W G M G1 M1) (o : Ot B (B + 201) M1 M2) : PsQ B W G M G1 M2 :=
  ⟨h.1, fun b q q2 q3 j => (o.j q2 j).trans (h.2.1 b q q2 q3 j), h.2.2⟩
theorem PsQ.w (h : PsQ B W G M G1 M1) {a j x : Int} (ha : G 4 0 0 ≤ a ∨ (W < a ∧ a ≤ W + 60)) (e : M2 = mup M1 1 a j x) : PsQ B W G M G1 M2 :=
  ⟨h.1, fun b q q2 q3 i => by rw [e, mup_n (by omega)]; exact h.2.1 b q q2 q3 i, h.2.2⟩
theorem PsQ.wk (h : PsQ B (G 4 0 0) G M G1 M1) : PsQ B W G M G1 M1 := ⟨h.1, fun b q q2 _ j => h.2.1 b q q2 (Or.inl (by omega)) j, h.2.2⟩
theorem PsQ.row (h : PsQ B (G 4 0 0) G M G1 M1) (hB : B + 201 < W) (hG : W + 60 < G 4 0 0) {t : Int} (ht : 0 ≤ t ∧ t < 60) (k : Int) : M1 1 (W + 1 + t) k = M 1 (W + 1 + t) k :=
  h.2.1 _ (by omega) (by omega) (Or.inl (by omega)) k
theorem MX.q {V n len : Int} (h : MX G V n len) (hQ : PsQ B W G M G1 M1) (hn : 0 ≤ n) (hV : V + n < G 4 0 0) : MX G1 V n len := by
  have a := hQ.1 V (by omega)
  refine ⟨⟨a.1.trans h.1.1, a.2.1.trans h.1.2⟩, fun i q1 q2 => ?_⟩
  have z := h.2 i q1 q2
  have b := hQ.1 (V + 1 + i) (by omega)
  exact ⟨(a.2.2.2 i).trans z.1, b.1.trans z.2.1, b.2.1.trans z.2.2⟩
end PsQs
theorem mG_MX {G : Mm} {n len : Int} : MX (mG G n len) (G 4 0 0) n len :=
  ⟨⟨mG_0, mG_1⟩, fun i q1 q2 => ⟨by rw [mG_3, if_pos ⟨q1, q2⟩], mG_0r (by omega), mG_1r (by omega)⟩⟩
theorem PsQ.mna {B W : Int} {G M G1 M1 : Mm} (h : PsQ B W G M G1 M1) {n len : Int} (hn : 0 ≤ n) : PsQ B W G M (mG G1 n len) (mM G1 M1 n) := by
  obtain ⟨h1, h2, h3⟩ := h
  refine ⟨fun b q => ?_, fun b q q2 q3 j => ?_, by rw [mG_4]; omega⟩
  · have a := agr_m (G := G1) (M := M1) (n := n) (len := len) (a := b) (by omega) hn
    have z := h1 b q
    exact ⟨a.1.trans z.1, a.2.1.trans z.2.1, fun f => (a.2.2.1 f).trans (z.2.2.1 f), fun j => (a.2.2.2.1 j).trans (z.2.2.2 j)⟩
  · have a := agr_m (G := G1) (M := M1) (n := n) (len := len) (a := b) (by omega) hn
    rw [a.2.2.2.2.2]; exact h2 b q q2 q3 j
/-! a minute, as the lines answer of it -/
theorem rS_cnt {m : Int} : ∀ (n : Nat) (L : Fn) (w s : Int), (rS (fun L => mU L m) m n L w s).2 ≤ s + n := by
  intro n
  induction n with
  | zero => intro L w s; show s ≤ s + 0; omega
  | succ n ih =>
    intro L w s
    have e : rS (fun L => mU L m) m (n + 1) L w s = if w ≤ 0 then (L, s) else if mU L m = -1 then (L, s) else rS (fun L => mU L m) m n (sn L m (mU L m) (min w (L 0 (mU L m)))) (w - min w (L 0 (mU L m))) (if L 0 (mU L m) - min w (L 0 (mU L m)) = 0 then s + 1 else s) := rfl
    rw [e]
    by_cases h0 : w ≤ 0
    · rw [if_pos h0]; show s ≤ s + ((n + 1 : Nat) : Int); omega
    · rw [if_neg h0]
      by_cases hu : mU L m = -1
      · rw [if_pos hu]; show s ≤ s + ((n + 1 : Nat) : Int); omega
      · rw [if_neg hu]
        refine Int.le_trans (ih _ _ _) ?_
        split <;> omega
theorem rM_cnt {L : Fn} {m : Int} (h : LB L) : (rM L m).2 ≤ 60 := by
  unfold rM
  split
  · show (0 : Int) ≤ 60; omega
  · have := rS_cnt (m := m) (L 4 0).toNat L (L 4 0) 0
    have := h.s0
    omega
theorem nMin_bd {A : An} (hA : AB A) (h2 : A 0 0 2 = 2) : 0 ≤ nMin A ∧ nMin A ≤ 120 := by
  have hn := hA.n
  have e : nMin A = 0 + (rM (A (20 + 0)) (A 0 0 3 + 1)).2 + (rM (A (20 + 1)) (A 0 0 3 + 1)).2 := by
    unfold nMin
    rw [h2]
    rfl
  have a := rM_fx (m := A 0 0 3 + 1) (hA.li 0 (by omega)) (by omega)
  have b := rM_fx (m := A 0 0 3 + 1) (hA.li 1 (by omega)) (by omega)
  have c := rM_cnt (m := A 0 0 3 + 1) (hA.li 0 (by omega))
  have d := rM_cnt (m := A 0 0 3 + 1) (hA.li 1 (by omega))
  omega
theorem pas_1 {A : An} : (aPas A 1).1 = aMin A ∧ (aPas A 1).2 = nMin A := by
  have e : aPas A 1 = (aMin (aPas A 0).1, (aPas A 0).2 + nMin (aPas A 0).1) := aPas_1 (A := A) (m := 0) (by omega)
  rw [e, aPas_0]
  exact ⟨rfl, Int.zero_add _⟩
theorem min_k {A : An} (hI : Inv A) (hL : LX A) (hm : A 0 0 3 < 9999) {k : Int} (hk : 0 ≤ k ∧ k < 2) : oLi (aMin A) k 4 + oLi (aMin A) k 5 = oLi A k 4 + oLi A k 5 ∧ (0 < oLi A k 2 → oLi (aMin A) k 5 = oLi A k 5) ∧ (¬ 0 < oLi A k 2 → oLi (aMin A) k 5 - oLi A k 5 = oLi (aMin A) k 0 ∨ oLi (aMin A) k 3 = 0) := by
  have hA := hI.1
  have hn := hA.n
  have h2 := hL.1.2
  obtain ⟨e0, eo, el⟩ := min_f hA
  have b := hA.li k (by omega)
  have f := rM_fx (m := A 0 0 3 + 1) b (by omega)
  have e := el k hk.1 (by omega)
  have d4 : ∀ A : An, oLi A k 4 = cL (A (20 + k)) := fun A => rfl
  have d5 : ∀ A : An, oLi A k 5 = A (20 + k) 4 3 := fun A => rfl
  have d2 : ∀ A : An, oLi A k 2 = A (20 + k) 4 2 := fun A => rfl
  have d0 : ∀ A : An, oLi A k 0 = A (20 + k) 4 0 := fun A => rfl
  have d3 : ∀ A : An, oLi A k 3 = cW (A (20 + k)) := fun A => rfl
  rw [d4, d5, d4, d5, d2, d0, d3, e, rM_40]
  refine ⟨f.1, f.2.2.2.1, fun q => ?_⟩
  rcases f.2.2.2.2.1 q with z | z
  · left; omega
  · right
    have b4 : 0 ≤ (rM (A (20 + k)) (A 0 0 3 + 1)).1 4 4 := by rw [rM_44]; exact b.s4.1
    refine cW_0 b4 z fun t q1 q2 q3 => ?_
    have w := (hI.2.1.l k t hk.1 (by omega) q1 (by rw [rM_44] at q2; have := b.s4; omega)).2
    rw [f.2.2.2.2.2.2 t]
    rw [rM_44] at q2
    have := f.2.2.2.2.2.1 t
    have y := w (by omega)
    have hlt : t < A 0 0 1 := by
      have := hI.2.1.e k hk.1 (by omega)
      omega
    rw [y.2.1, (hL.2.2.1 t q1 hlt).1]
    omega
theorem oLi_bd {A : An} (hA : AB A) (hL : LX A) {k : Int} (hk : 0 ≤ k ∧ k < 2) : (0 ≤ oLi A k 4 ∧ oLi A k 4 ≤ 12200) ∧ (0 ≤ oLi A k 5 ∧ oLi A k 5 ≤ 600000) ∧ (0 ≤ oLi A k 2 ∧ oLi A k 2 ≤ 99) ∧ (0 ≤ oLi A k 0 ∧ oLi A k 0 ≤ 60) ∧ (0 ≤ oLi A k 3 ∧ oLi A k 3 ≤ 61) := by
  have hn := hA.n
  have b := hA.li k (by omega)
  have z := hL.2.1 k hk.1 hk.2
  have d4 : oLi A k 4 = cL (A (20 + k)) := rfl
  have d5 : oLi A k 5 = A (20 + k) 4 3 := rfl
  have d2 : oLi A k 2 = A (20 + k) 4 2 := rfl
  have d0 : oLi A k 0 = A (20 + k) 4 0 := rfl
  have d3 : oLi A k 3 = cW (A (20 + k)) := rfl
  rw [d4, d5, d2, d0, d3]
  have := b.s2
  have := b.s0
  exact ⟨cL_bd b, by omega, by omega, by omega, cW_bd b⟩
/-- v > 0 as a number -/
theorem pw_gt01 {E : Ev} {cc : ByteArray} {nL : Nat} {own : String} {tb : List ExceptionTableEntry} {R0 : Room} {G M : Mm} {k n pc : Nat} {ll : List LE} {st : List Value} (C : Cx E cc nL own tb R0) {x off off2 : Int} {t1 t2 : Nat} (d : decode cc pc = .ok (.ifCond .le off, 3)) (d1 : decode cc (pc + 3) = .ok (.iconst 1, 1)) (d2 : decode cc (pc + 4) = .ok (.goto off2, 3)) (d3 : decode cc t1 = .ok (.iconst 0, 1)) (h1 : (pc : Int) + off = (t1 : Int)) (h2 : ((pc + 4 : Nat) : Int) + off2 = (t2 : Int)) (h3 : t1 + 1 = t2) (hr : -2147483648 ≤ x ∧ x ≤ 2147483647) (kk : PW E G M k n t2 ll (vI (bI (0 < x)) :: st)) : PW E G M k n pc ll (vI x :: st) := by
  refine pw_if_le (tgt := t1) C d h1 hr (fun c => ?_) (fun c => ?_)
  · refine pw_iconst C d3 ?_
    rw [bI_f (by omega)] at kk
    rw [h3]; exact kk
  · refine pw_iconst C d1 ?_
    refine pw_goto (tgt := t2) C d2 h2 ?_
    rw [bI_t (by omega)] at kk
    exact kk
theorem arr_bd {A : An} (hA : AB A) {l t : Int} (hl : 0 ≤ l ∧ l < 4) (ht : 0 ≤ t ∧ t < 60) : -1 ≤ arr A l t ∧ arr A l t ≤ 20009 := by
  have hn := hA.n
  have b := hA.li l hl
  have b1 := b.s1
  have b3 := b.v3 t ht.1 (by omega)
  unfold arr
  split
  · omega
  · split
    · omega
    · unfold rU
      have sp := fnd_spec (p := fun i => rI (A (20 + l)) (A 0 0 3) i 0 t = 0) (lo := 1) (hi := 100 - A (20 + l) 4 1) (by omega)
      split <;> omega
