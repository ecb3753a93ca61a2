/-! ===== three minutes of a house; what arrives; the mean delay is no less than nothing ===== -/
def PsF (A : An) (i : Int) (Ac : An) : Prop := (∀ s, Ac 0 0 s = if s = 3 then A 0 0 3 + i else A 0 0 s) ∧ (∀ j, j ≠ 0 → (j < 20 ∨ 22 ≤ j) → Ac j = A j) ∧ ∀ l, 0 ≤ l → l < 2 → Ac (20 + l) = rI (A (20 + l)) (A 0 0 3) i
theorem PsF.z {A : An} : PsF A 0 A := by
  refine ⟨fun s => ?_, fun j _ _ => rfl, fun l _ _ => rI_0.symm⟩
  by_cases e : s = 3
  · rw [if_pos e, e]; omega
  · rw [if_neg e]
theorem PsF.s {A Ac : An} {i : Int} (h : PsF A i Ac) (hi : 0 ≤ i) (hA : AB Ac) (h2 : A 0 0 2 = 2) : PsF A (i + 1) (aMin Ac) := by
  obtain ⟨a, b, c⟩ := h
  obtain ⟨e0, eo, el⟩ := min_f hA
  have c2 := a 2
  rw [if_neg (by omega)] at c2
  have c3 := a 3
  rw [if_pos rfl] at c3
  refine ⟨fun s => ?_, fun j q1 q2 => ?_, fun l q1 q2 => ?_⟩
  · rw [aMin_0 (by omega)]
    by_cases e : s = 3
    · rw [if_pos e, if_pos e, c3]; omega
    · rw [if_neg e, if_neg e, a, if_neg e]
  · rw [eo j q1 (by omega)]; exact b j q1 q2
  · rw [el l q1 (by omega), c l q1 q2, c3, rI_s hi, Int.add_assoc]
theorem rI_n {L : Fn} {u t : Int} (h4 : 0 ≤ L 4 4) (h : L 0 t = -1) : ∀ n : Nat, rI L u (n : Int) 0 t = -1 := by
  intro n
  induction n with
  | zero => show rI L u 0 0 t = -1; rw [rI_0]; exact h
  | succ n ih =>
    show rI L u ((n : Int) + 1) 0 t = -1
    rw [rI_s (by omega)]
    exact rM_n (by rw [(rI_44 (by omega)).1]; exact h4) ih
theorem stt_gt {A : An} {l t : Int} : 3 < stt A l t ↔ hs A l t := by
  by_cases c : hs A l t
  · by_cases d : dr A l t
    · rw [stt_5 c d]; exact ⟨fun _ => c, fun _ => by omega⟩
    · rw [stt_4 c d]; exact ⟨fun _ => c, fun _ => by omega⟩
  · refine ⟨fun q => ?_, fun q => absurd q c⟩
    exfalso
    by_cases a : A (20 + l) 0 t = -1
    · rw [stt_0 a] at q; omega
    · by_cases b : A (20 + l) 0 t = 0
      · rw [stt_3 b c] at q; omega
      · by_cases w : A (20 + l) 0 t = A (200 + t) 1 3
        · rw [stt_1 a b w] at q; omega
        · rw [stt_2 a b w] at q; omega
/-- what would come within three minutes has come -/
theorem arr_ok {A A3 : An} (hA : AB A) (hX : LX A) (h : PsF A 3 A3) {l t : Int} (hl : 0 ≤ l ∧ l < 2) (ht : 0 ≤ t ∧ t < A 0 0 1) : 3 < stt A3 l t ↔ 0 ≤ arr A l t ∧ arr A l t ≤ 3 := by
  obtain ⟨a, b, c⟩ := h
  have hn := hA.n
  have c3 := a 3
  rw [if_pos rfl] at c3
  have bl := hA.li l (by omega)
  have lag := (hX.2.1 l hl.1 hl.2).1
  have b1 := bl.s1
  have b4 := bl.s4
  have e4 := (rI_44 (L := A (20 + l)) (u := A 0 0 3) (i := 3) (by omega)).2
  rw [stt_gt]
  have hhs : hs A3 l t ↔ rI (A (20 + l)) (A 0 0 3) 3 0 t = 0 ∧ rI (A (20 + l)) (A 0 0 3) 3 3 t + A (20 + l) 4 1 ≤ A 0 0 3 + 3 := by
    unfold hs
    rw [c l hl.1 hl.2, c3, e4]
  rw [hhs]
  have b0 := bl.v0 t ht.1 (by omega)
  by_cases z : A (20 + l) 0 t = -1
  · have e : arr A l t = -1 := if_pos z
    have r := rI_n (u := A 0 0 3) b4.1 z 3
    rw [e, show ((3 : Nat) : Int) = 3 from rfl] at *
    exact ⟨fun q => by omega, fun q => by omega⟩
  · by_cases y : A (20 + l) 0 t = 0
    · have e : arr A l t = max 0 (A (20 + l) 3 t + A (20 + l) 4 1 - A 0 0 3) := by
        unfold arr
        rw [if_neg z, if_pos y]
      have r := rI_sent (L := A (20 + l)) (u := A 0 0 3) (t := t) (i := 0) (j := 3) b4.1 (by omega) (by omega) (by rw [rI_0]; exact y)
      rw [rI_0] at r
      rw [e, r.1, r.2]
      exact ⟨fun q => by omega, fun q => ⟨rfl, by omega⟩⟩
    · have e : arr A l t = rU (A (20 + l)) t (A 0 0 3) := by
        unfold arr
        rw [if_neg z, if_neg y]
      have p0 : 0 < A (20 + l) 0 t := by omega
      rw [e]
      have sp := fnd_spec (p := fun i => rI (A (20 + l)) (A 0 0 3) i 0 t = 0) (lo := 1) (hi := 100 - A (20 + l) 4 1) (by omega)
      unfold rU
      obtain ⟨d, hd⟩ : ∃ d, d = fnd (fun i => rI (A (20 + l)) (A 0 0 3) i 0 t = 0) 1 (100 - A (20 + l) 4 1) := ⟨_, rfl⟩
      rw [← hd] at sp ⊢
      by_cases q : d ≤ 3
      · have pd := sp.2.2.2 (by omega)
        have r1 := rI_at (u := A 0 0 3) b4.1 p0 sp.1 (fun j q1 q2 => sp.2.2.1 j q1 q2) pd
        have r2 := rI_sent (j := 3) b4.1 (by omega) q pd
        rw [if_pos (by omega), r2.1, r2.2, r1]
        exact ⟨fun w => by omega, fun w => ⟨rfl, by omega⟩⟩
      · have r1 := (rI_not (u := A 0 0 3) (i := 3) b4.1 p0 (by omega) (fun j q1 q2 => sp.2.2.1 j q1 (by omega))).1
        refine ⟨fun w => by omega, fun w => ?_⟩
        exfalso
        have w1 := w.1
        have w2 := w.2
        split at w1
        · next hc => rw [if_pos hc] at w2; omega
        · omega
/-! the mean delay -/
theorem md_bd {A : An} (hA : AB A) (hX : LX A) : (0 ≤ (mdS A).1 ∧ (mdS A).1 ≤ 20000 * (mdS A).2) ∧ 0 ≤ (mdS A).2 ∧ (mdS A).2 ≤ 120 := by
  have hn := hA.n
  have h2 := hX.1.2
  have key := fr_inv (σ := Int × Int) (f := fun l s => fr (fun t s => mdF A l t s) 0 (A 0 0 1) s) (hi := A 0 0 2) (P := fun l s => (0 ≤ s.1 ∧ s.1 ≤ 20000 * s.2) ∧ 0 ≤ s.2 ∧ s.2 ≤ 60 * l) (lo := 0) (s := (0, 0)) (by omega) (by (try dsimp only); omega) (fun l s q1 q2 hp => by
    have in_ := fr_inv (σ := Int × Int) (f := fun t s => mdF A l t s) (hi := A 0 0 1) (P := fun t s => (0 ≤ s.1 ∧ s.1 ≤ 20000 * s.2) ∧ 0 ≤ s.2 ∧ s.2 ≤ 60 * l + t) (lo := 0) (s := s) (by omega) (by omega) (fun t s q3 q4 hp => by
      have w := hX.2.2.2.1 l t q1 (by omega) q3 q4
      have y := hX.2.2.1 t q3 q4
      have b := (hA.li l (by omega)).v3 t q3 (by omega)
      have b8 := (hA.ta t (by omega)).s8
      (try dsimp only)
      unfold mdF
      split
      · next hz =>
        have := w.2 hz
        (try dsimp only)
        rw [y.1]
        omega
      · omega)
    (try dsimp only)
    (try dsimp only at in_)
    omega)
  have e : mdS A = fr (fun l s => fr (fun t s => mdF A l t s) 0 (A 0 0 1) s) 0 (A 0 0 2) (0, 0) := rfl
  rw [← e] at key
  (try dsimp only at key)
  omega
theorem nn_div0 {a b : Int32} (hb : b ≠ 0) : Jvm.FP.Core.dIsNaN (Jvm.FP.Core.ddiv (Jvm.FP.Core.i2d a) (Jvm.FP.Core.i2d b)) = false := by
  rw [Bool.eq_false_iff]
  intro h
  rcases (Jvm.FP.Core.ddiv_nan_iff _ _).mp h with h | h | ⟨s, t, h1, h2⟩ | ⟨h1, h2⟩
  · obtain ⟨s', c, q, e⟩ := Jvm.FP.Core.i2d_fin a
    rw [e] at h; cases h
  · obtain ⟨s', c, q, e⟩ := Jvm.FP.Core.i2d_fin b
    rw [e] at h; cases h
  · obtain ⟨s', c, q, e⟩ := Jvm.FP.Core.i2d_fin a
    rw [e] at h1; cases h1
  · exact Jvm.FP.Core.i2d_ne_zero hb ((Jvm.FP.Core.zero_bits2 _).mp h2)
def nnD (d : Jvm.FP.Core.Datum) : Prop := match d with
  | .nan => False
  | .inf s => s = false
  | .fin s _ _ => s = false
theorem nnD_ratio (f : Jvm.FP.Core.Fmt) (n d : Nat) (e : Int) : nnD (Jvm.FP.Core.roundRatio f false n d e) := by
  unfold Jvm.FP.Core.roundRatio
  split
  · rfl
  · unfold Jvm.FP.Core.roundAt Jvm.FP.Core.settle Jvm.FP.Core.bound
    split <;> split <;> rfl
theorem nnD_i2d {a : Int32} (h : 0 ≤ a.toInt) : nnD (Jvm.FP.Core.val64 (Jvm.FP.Core.i2d a)) := by
  rw [Jvm.FP.Core.val64_i2d]
  unfold Jvm.FP.Core.ofInt
  rw [show decide (a.toInt < 0) = false from decide_eq_false (by omega)]
  exact nnD_ratio _ _ _ _
theorem nnD_quot (f : Jvm.FP.Core.Fmt) {x y : Jvm.FP.Core.Datum} (hx : nnD x) (hy : nnD y) (hn : Jvm.FP.Core.quotient f x y ≠ .nan) : nnD (Jvm.FP.Core.quotient f x y) := by
  match x, y, hx, hy with
  | .inf s, .inf t, hx, hy => exact absurd rfl hn
  | .inf s, .fin t _ _, hx, hy =>
    have e1 : s = false := hx
    have e2 : t = false := hy
    subst e1; subst e2
    rfl
  | .fin s _ _, .inf t, hx, hy =>
    have e1 : s = false := hx
    have e2 : t = false := hy
    subst e1; subst e2
    rfl
  | .fin s c q, .fin t d r, hx, hy =>
    have e1 : s = false := hx
    have e2 : t = false := hy
    subst e1; subst e2
    have e : Jvm.FP.Core.quotient f (.fin false c q) (.fin false d r) = if d = 0 then (if c = 0 then .nan else .inf (false != false)) else Jvm.FP.Core.roundRatio f (false != false) c d (q - r) := rfl
    rw [e] at hn ⊢
    split
    · next hd =>
      split
      · next hc => rw [if_pos hd, if_pos hc] at hn; exact absurd rfl hn
      · rfl
    · exact nnD_ratio _ _ _ _
theorem nnD_cmp {x y : Jvm.FP.Core.Datum} (hx : nnD x) (hy : ∃ q, y = .fin false 0 q) : Jvm.FP.Core.order x y = some .gt ∨ Jvm.FP.Core.order x y = some .eq := by
  obtain ⟨q, rfl⟩ := hy
  match x, hx with
  | .inf s, hx =>
    have e1 : s = false := hx
    subst e1
    left; rfl
  | .fin s c r, hx =>
    have e1 : s = false := hx
    subst e1
    have e2 : Jvm.FP.Core.order (.fin false c r) (.fin false 0 q) = some (compare (Jvm.FP.Core.inUnits c r (min r q) : Int) (0 : Int)) := by
      unfold Jvm.FP.Core.order Jvm.FP.Core.signed
      simp [Jvm.FP.Core.inUnits]
    rw [e2]
    generalize Jvm.FP.Core.inUnits c r (min r q) = k
    by_cases hk : k = 0
    · right; rw [hk]; rfl
    · left
      have : compare (k : Int) 0 = .gt := Int.compare_eq_gt.mpr (by omega)
      rw [this]
theorem md_ge {A : An} (hA : AB A) (hX : LX A) : ∃ r, Op.cmpValue (FP.dcmp (mdV (mdS A)) FP.dconst0) .l = Int32.ofInt r ∧ 0 ≤ r ∧ r ≤ 1 := by
  have hb := md_bd hA hX
  obtain ⟨a, c⟩ : ∃ s : Int × Int, s = mdS A := ⟨_, rfl⟩
  rw [← c] at hb ⊢
  have hz : ∃ q, Jvm.FP.Core.val64 FP.dconst0 = .fin false 0 q := ⟨Jvm.FP.Core.b64.qmin, by decide +kernel⟩
  have key : FP.dcmp (mdV a) FP.dconst0 = some .gt ∨ FP.dcmp (mdV a) FP.dconst0 = some .eq := by
    refine nnD_cmp (x := Jvm.FP.Core.val64 (mdV a)) ?_ hz
    unfold mdV
    split
    · obtain ⟨q, e⟩ := hz
      rw [e]; rfl
    · next h0 =>
      have hb2 : Int32.ofInt a.2 ≠ 0 := i32_ne0 (by omega)
      have nn := nn_div (a := Int32.ofInt a.1) hb2
      show nnD (Jvm.FP.Core.val64 (Jvm.FP.Core.ddiv (Jvm.FP.Core.i2d (Int32.ofInt a.1)) (Jvm.FP.Core.i2d (Int32.ofInt a.2))))
      rw [Jvm.FP.Core.val64_ddiv]
      refine nnD_quot _ (nnD_i2d (by rw [i32_toInt (by omega) (by omega)]; omega)) (nnD_i2d (by rw [i32_toInt (by omega) (by omega)]; omega)) ?_
      rw [← Jvm.FP.Core.val64_ddiv]
      have kn : Jvm.FP.Core.dIsNaN (Jvm.FP.Core.ddiv (Jvm.FP.Core.i2d (Int32.ofInt a.1)) (Jvm.FP.Core.i2d (Int32.ofInt a.2))) = false := nn_div0 hb2
      exact (Jvm.FP.Core.notNaN_iff _).mp kn
  rcases key with k | k
  · exact ⟨1, by rw [k]; rfl, by omega, by omega⟩
  · exact ⟨0, by rw [k]; rfl, by omega, by omega⟩
