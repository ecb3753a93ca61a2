/-! ===== the law's loop: what holds at each turn ===== -/
/-- what the takes said as they were filed, at V -/
def VC (M : Mm) (V : Int) (A : An) : Prop := ∀ t f, 0 ≤ t → t < A 0 0 1 → 0 ≤ f → f < 4 → M 1 (V + 1 + t) f = A (200 + t) 0 f
def LJ (B i tk : Int) (k n : Nat) (G M : Mm) (A : An) : Prop := RC G M B A ∧ ((Inv A ∧ SN A) ∧ LX A) ∧ (A 10 2 0 = 6 ∧ A 0 0 1 = tk) ∧ (0 ≤ tk ∧ tk ≤ 58) ∧ A 0 0 3 ≤ 3 * i ∧ (MX G (B + 202) 60 4 ∧ MX G (B + 263) 60 2) ∧ B + 324 ≤ G 4 0 0 ∧ VC M (B + 202) A ∧ WC M (B + 263) A ∧ ((k : Int) ≤ 400 + 5 * i ∧ (n : Int) ≤ 4000 + 10 * i)
section LJs
variable {B i tk : Int} {k n : Nat} {G M M1 M2 : Mm} {A A1 : An}
/-- one turn on, no take more -/
theorem LJ.go (h : LJ B i tk k n G M A) (hR : RC G M1 B A1) (hO : Ot B (B + 201) M M1) (hI : (Inv A1 ∧ SN A1) ∧ LX A1) (hM : Mo A A1) (e1 : A1 0 0 1 = A 0 0 1) (e3 : A1 0 0 3 = A 0 0 3) (eS : A1 10 2 0 = A 10 2 0) (ev : ∀ t f, 0 ≤ t → t < A 0 0 1 → A1 (200 + t) 0 f = A (200 + t) 0 f) : LJ B (i + 1) tk k n G M1 A1 := by
  obtain ⟨h1, h2, h3, h4, h5, h6, h7, h8, h9, h10⟩ := h
  refine ⟨hR, hI, ⟨eS.trans h3.1, e1.trans h3.2⟩, h4, by omega, h6, h7, fun t f q1 q2 q3 q4 => ?_, ?_, by omega⟩
  · rw [e1] at q2
    rw [hO.j (by omega), ev t f q1 q2]; exact h8 t f q1 q2 q3 q4
  · exact (h9.m (M1 := M1) (fun t k q1 q2 => hO.j (by omega) k)).mo hM (by omega)
/-- one turn on, a take more, what it says written down -/
theorem LJ.new (h : LJ B i tk k n G M A) (hR : RC G M2 B A1) (hO : Ot B (B + 201) M M1) (hV : ∀ b j, ¬ b = B + 202 + 1 + tk → M2 1 b j = M1 1 b j) (hr : ∀ f, 0 ≤ f → f < 4 → M2 1 (B + 202 + 1 + tk) f = A1 (200 + tk) 0 f) (hI : (Inv A1 ∧ SN A1) ∧ LX A1) (hM : Mo A A1) (ht : tk ≤ 57) (e1 : A1 0 0 1 = tk + 1) (e3 : A1 0 0 3 = A 0 0 3) (eS : A1 10 2 0 = A 10 2 0) (ev : ∀ t f, 0 ≤ t → t < A 0 0 1 → A1 (200 + t) 0 f = A (200 + t) 0 f) : LJ B (i + 1) (tk + 1) k n G M2 A1 := by
  obtain ⟨h1, h2, h3, h4, h5, h6, h7, h8, h9, h10⟩ := h
  refine ⟨hR, hI, ⟨eS.trans h3.1, e1⟩, by omega, by omega, h6, h7, fun t f q1 q2 q3 q4 => ?_, ?_, by omega⟩
  · rw [e1] at q2
    by_cases e : t = tk
    · rw [e]; exact hr f q3 q4
    · rw [hV _ _ (by omega), hO.j (by omega), ev t f q1 (by omega)]; exact h8 t f q1 (by omega) q3 q4
  · exact (h9.m (M1 := M2) (fun t k q1 q2 => (hV _ _ (by omega)).trans (hO.j (by omega) k))).mo hM (by omega)
end LJs
/-- one turn on, three minutes -/
theorem LJ.pas {B i tk : Int} {k n : Nat} {G M G1 M1 : Mm} {A A1 : An} (h : LJ B i tk k n G M A) (hP : PsF A 3 A1) (hI : (Inv A1 ∧ SN A1) ∧ LX A1) (hR : RC G1 M1 B A1) (hW : WC M1 (B + 263) A1) (hQ : PsQ B (B + 263) G M G1 M1) : LJ B (i + 1) tk (k + 5) (n + 10) G1 M1 A1 := by
  obtain ⟨h1, h2, h3, h4, h5, h6, h7, h8, h9, h10⟩ := h
  have c1 := hP.1 1
  rw [if_neg (by omega)] at c1
  have c3 := hP.1 3
  rw [if_pos rfl] at c3
  have e10 : A1 10 = A 10 := hP.2.1 10 (by omega) (by omega)
  refine ⟨hR, hI, ⟨by rw [e10]; exact h3.1, c1.trans h3.2⟩, h4, by omega, ⟨h6.1.q hQ (by omega) (by omega), h6.2.q hQ (by omega) (by omega)⟩, by have := hQ.2.2; omega, fun t f q1 q2 q3 q4 => ?_, hW, by omega⟩
  rw [c1] at q2
  rw [hQ.2.1 (B + 202 + 1 + t) (by omega) (by omega) (by omega) f, hP.2.1 (200 + t) (by omega) (by omega)]
  exact h8 t f q1 q2 q3 q4
/-- who was first: a rival now -/
theorem fh_i {A A1 : An} {s f : Int} (e0 : A1 0 = A 0) (el : ∀ l, 0 ≤ l → l < A 0 0 2 → A1 (20 + l) = A (20 + l)) (et : ∀ t, 0 ≤ t → t < A 0 0 1 → A1 (200 + t) = A (200 + t)) : fh A1 s f = fh A s f := by
  unfold fh
  rw [e0]
  have h1 : ∀ t, fhT A1 t = fhT A t := fun t => by
    unfold fhT
    rw [e0]
    exact fr_congr fun l c q1 q2 => by
      unfold fhS hs
      rw [el l q1 q2, e0]
  exact fr_congr fun t c q1 q2 => by
    unfold fhF wth
    rw [h1, et t q1 q2]
theorem riv_key {A : An} {s f : Int} (hA : AB A) (hi : 0 ≤ s * 4 + f ∧ s * 4 + f < 24) (h : A (100 + (s * 4 + f)) 1 3 = -1) : oFa (aRiv A (s * 4 + f)) s f 6 = 1 ↔ (oFa A s f 6 = 1 ∧ oFa (aRiv A (s * 4 + f)) s f 5 < A 0 0 3) := by
  have hn := hA.n
  have e5 : fh (aRiv A (s * 4 + f)) s f = fh A s f := fh_i (riv_o (by omega)) (fun l q1 q2 => riv_o (by omega)) (fun t q1 q2 => riv_o (by omega))
  have a : oFa (aRiv A (s * 4 + f)) s f 6 = bI (isF (aRiv A (s * 4 + f)) s f) := rfl
  have b : oFa A s f 6 = bI (isF A s f) := rfl
  have c : oFa (aRiv A (s * 4 + f)) s f 5 = fh (aRiv A (s * 4 + f)) s f := rfl
  rw [a, b, c, bI_1, bI_1, e5]
  unfold isF
  rw [e5, riv_i, lup_s, h]
  constructor
  · rintro ⟨q1, q2⟩
    exact ⟨⟨q1, Or.inl rfl⟩, by omega⟩
  · rintro ⟨⟨q1, _⟩, q2⟩
    exact ⟨q1, Or.inr q2⟩
theorem oTa_6 {A : An} {t : Int} : oTa A t 6 = if A (200 + t) 1 7 = -1 then 0 else 1 := rfl
theorem kil_bd {A : An} {t : Int} (h2 : A 0 0 2 = 2) : 0 ≤ nKil A t ∧ nKil A t ≤ 2 := by
  have := cnt_bd (p := fun l => A (20 + l) 0 t = 0) (n := A 0 0 2) (by omega)
  unfold nKil
  omega
theorem ins_p2k : ∀ f : Nat, f < 4 → ∀ j : Nat, j < 4 → ((((2 : Int) ^ f) / (2 : Int) ^ j) % 2 = 1 ↔ j = f) := by decide +kernel
theorem ins_p2 {f j : Int} (hf : 0 ≤ f ∧ f < 4) (hj : 0 ≤ j ∧ j < 4) : ins (p2 f) j ↔ j = f := by
  have := ins_p2k f.toNat (by omega) j.toNat (by omega)
  unfold ins
  constructor
  · intro q; have := this.mp q; omega
  · intro q; exact this.mpr (by omega)
theorem hv_p2 {A : An} {s f : Int} (hf : 0 ≤ f ∧ f < 4) (h : ¬ A (100 + (s * 4 + f)) 1 0 = -1) : hv A s (p2 f) 0 = 4 := by
  have z := fnd_spec (p := fun j => ins (p2 f) j ∧ vtf A 0 (s * 4 + j) = -1) (lo := 0) (hi := 4) (by omega)
  have e : hv A s (p2 f) 0 = fnd (fun j => ins (p2 f) j ∧ vtf A 0 (s * 4 + j) = -1) 0 4 := rfl
  rw [e]
  apply Classical.byContradiction
  intro hc
  obtain ⟨y1, y2⟩ := z.2.2.2 (by omega)
  rw [(ins_p2 hf (by omega)).mp y1] at y2
  exact h y2
