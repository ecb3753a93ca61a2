/-! ===== memory: two functions G (shape: kinds, lengths, references) and M (numbers) =====
G 0 a 0 kind (class number + 1, or 100 + array type; 98, 99: the two empty arrays of ArrayList), G 1 a 0 length, G 2 f a reference field f of a, G 3 a j reference at j of a, G 4 0 0 the heap's size, G 5 .. marks;
M 0 f a number in field f of a, M 1 a j number at j of a. A field's number is 20 * class + slot. A reference is its address, or -1. -/
abbrev Mm : Type := Int → Int → Int → Int
def mup (M : Mm) (b x y v : Int) : Mm := fun b' x' y' => if b' = b ∧ x' = x ∧ y' = y then v else M b' x' y'
theorem mup_s (M : Mm) (b x y v : Int) : mup M b x y v b x y = v := by simp [mup]
theorem mup_n {M : Mm} {b x y v b' x' y' : Int} (h : ¬ (b' = b ∧ x' = x ∧ y' = y)) : mup M b x y v b' x' y' = M b' x' y' := by simp [mup, h]
def vI (x : Int) : Value := .int (Int32.ofInt x)
def vL (x : Int) : Value := .long (Int64.ofInt x)
def oI (x : Int) : Option Nat := if x < 0 then none else some x.toNat
def vR (x : Int) : Value := va_rf (oI x)
theorem vR_pos {x : Int} (h : 0 ≤ x) : vR x = .ref x.toNat := by
  have h1 : ¬ x < 0 := by omega
  simp [vR, oI, h1, va_rf]
theorem vR_neg {x : Int} (h : x < 0) : vR x = .null := by simp [vR, oI, h, va_rf]
theorem cat_vI (x : Int) : (vI x).category = 1 := rfl
theorem cat_vL (x : Int) : (vL x).category = 2 := rfl
theorem cat_vR (x : Int) : (vR x).category = 1 := by
  by_cases h : x < 0
  · rw [vR_neg h]; rfl
  · rw [vR_pos (by omega)]; rfl
theorem i32_toInt {x : Int} (h1 : -2147483648 ≤ x) (h2 : x ≤ 2147483647) : (Int32.ofInt x).toInt = x := Int32.toInt_ofInt_of_le (by omega) (by omega)
theorem i32_eq {x y : Int} (h : (-2147483648 ≤ x ∧ x ≤ 2147483647) ∧ (-2147483648 ≤ y ∧ y ≤ 2147483647)) : Int32.ofInt x = Int32.ofInt y ↔ x = y := by
  constructor
  · intro e
    have := congrArg Int32.toInt e
    rwa [i32_toInt h.1.1 h.1.2, i32_toInt h.2.1 h.2.2] at this
  · intro e; rw [e]
theorem i32_lt {x y : Int} (h : (-2147483648 ≤ x ∧ x ≤ 2147483647) ∧ (-2147483648 ≤ y ∧ y ≤ 2147483647)) : Int32.ofInt x < Int32.ofInt y ↔ x < y := by
  rw [Int32.lt_iff_toInt_lt, i32_toInt h.1.1 h.1.2, i32_toInt h.2.1 h.2.2]
theorem i32_le {x y : Int} (h : (-2147483648 ≤ x ∧ x ≤ 2147483647) ∧ (-2147483648 ≤ y ∧ y ≤ 2147483647)) : Int32.ofInt x ≤ Int32.ofInt y ↔ x ≤ y := by
  rw [Int32.le_iff_toInt_le, i32_toInt h.1.1 h.1.2, i32_toInt h.2.1 h.2.2]
theorem i32_clamp {x : Int} (h1 : 0 ≤ x) (h2 : x ≤ 2147483647) : (Int32.ofInt x).toNatClampNeg = x.toNat := Int32.toNatClampNeg_ofInt_of_le (by omega) (by omega)
theorem i32_vin {x : Int} {n : Nat} (h1 : 0 ≤ x) (h2 : x < n) (h3 : x ≤ 2147483647) : vp_in (Int32.ofInt x) n := by
  unfold vp_in
  rw [i32_clamp h1 h3]
  intro q
  rcases q with q | q
  · have q2 : Int32.ofInt x < Int32.ofInt 0 := q
    rw [i32_lt (by omega)] at q2
    omega
  · omega
theorem i32_of (x : Int32) : Int32.ofInt x.toInt = x := by simp
def isRf (f : Int) : Bool := [0, 20, 40, 60, 61, 62, 63, 80, 81, 100, 120, 140, 141, 142, 143, 144, 145].contains f
def fv (G M : Mm) (ci k : Nat) (a : Int) : Value := if isRf (20 * (ci : Int) + (k : Int)) = true then vR (G 2 (20 * (ci : Int) + (k : Int)) a) else vI (M 0 (20 * (ci : Int) + (k : Int)) a)
/-- array types: 0 int, 1 boolean, 2 long, 3.. references -/
def avx (G M : Mm) (t : Nat) (a j : Int) : Value := if t < 2 then vI (M 1 a j) else if t = 2 then vL (M 1 a j) else vR (G 3 a j)
abbrev tysL (cA : Nat → ClassId) : List (ClassId × FieldType) := [(cA 0, .int), (cA 1, .boolean), (cA 2, .int), (cA 3, .object "Slugwire$Fact"), (cA 4, .object "Slugwire$Take"), (cA 5, .object "Slugwire$Line"), (cA 6, .array .int), (cA 7, .object "Slugwire$Fact")]
def cellOk (D : va_G) (cA : Nat → ClassId) (G M : Mm) (a : Int) (H : Heap) : Prop :=
  (∀ ci : Nat, ci < 13 → G 0 a 0 = (ci : Int) + 1 → ∃ r, vwCl[ci]? = some r ∧ t_OB a.toNat (D.1 ci) r.2.2 (D.2 ci) H (fun k => fv G M ci k a)) ∧
  (∀ t : Nat, t < 8 → G 0 a 0 = (t : Int) + 100 → 0 ≤ G 1 a 0 ∧ G 1 a 0 ≤ 2147483647 ∧ H[a.toNat]? = some (arrV (cA t) (G 1 a 0).toNat (fun j => avx G M t a (j : Int)))) ∧
  (G 0 a 0 = 98 ∨ G 0 a 0 = 99 → ∃ cl : Cell, H[a.toNat]? = some cl ∧ cl.cls = cA 7 ∧ cl.slots.size = 0 ∧ cl.vm.isStatics = false ∧ cl.vm ≠ .unknown)
def agr (G M G1 M1 : Mm) (a : Int) : Prop := G1 0 a 0 = G 0 a 0 ∧ G1 1 a 0 = G 1 a 0 ∧ (∀ f, G1 2 f a = G 2 f a) ∧ (∀ j, G1 3 a j = G 3 a j) ∧ (∀ f, M1 0 f a = M 0 f a) ∧ ∀ j, M1 1 a j = M 1 a j
theorem cellOk.kept {D : va_G} {cA : Nat → ClassId} {G M G1 M1 : Mm} {a : Int} {H H1 : Heap} (h : cellOk D cA G M a H) (hH : H1[a.toNat]? = H[a.toNat]?) (e : agr G M G1 M1 a) : cellOk D cA G1 M1 a H1 := by
  obtain ⟨e0, e1, e2, e3, e4, e5⟩ := e
  obtain ⟨h1, h2, h3⟩ := h
  refine ⟨fun ci hc hk => ?_, fun t ht hk => ?_, fun hk => ?_⟩
  · obtain ⟨r, hr, ho⟩ := h1 ci hc (by rw [← e0]; exact hk)
    refine ⟨r, hr, (ho.kept hH).to fun k _ => ?_⟩
    simp only [fv, e2, e4]
  · obtain ⟨q1, q2, q3⟩ := h2 t ht (by rw [← e0]; exact hk)
    rw [e1]
    refine ⟨q1, q2, ?_⟩
    rw [hH, q3]
    simp only [avx, e3, e5]
  · rw [hH]
    exact h3 (by rw [← e0]; exact hk)
def HR (D : va_G) (cA : Nat → ClassId) (B0 : Nat) (G M : Mm) (H : Heap) : Prop := (∀ a, G 0 a 0 ≠ 0 → ((B0 : Int) ≤ a ∨ (0 ≤ a ∧ (G 0 a 0 = 98 ∨ G 0 a 0 = 99))) ∧ a < (H.size : Int) ∧ cellOk D cA G M a H) ∧ G 4 0 0 = (H.size : Int) ∧ (B0 : Int) ≤ G 4 0 0
theorem HR.nn {D : va_G} {cA : Nat → ClassId} {B0 : Nat} {G M : Mm} {H : Heap} (h : HR D cA B0 G M H) {a : Int} (ha : G 0 a 0 ≠ 0) : 0 ≤ a := by
  obtain ⟨h1, -, -⟩ := h.1 a ha
  omega
theorem HR.lo {D : va_G} {cA : Nat → ClassId} {B0 : Nat} {G M : Mm} {H : Heap} (h : HR D cA B0 G M H) {a : Int} (ha : G 0 a 0 ≠ 0) (h8 : G 0 a 0 ≠ 98 ∧ G 0 a 0 ≠ 99) : (B0 : Int) ≤ a := by
  obtain ⟨h1, -, -⟩ := h.1 a ha
  omega
theorem HR.set {D : va_G} {cA : Nat → ClassId} {B0 : Nat} {G M G1 M1 : Mm} {H H1 : Heap} (h : HR D cA B0 G M H) {a : Int} (ha : G 0 a 0 ≠ 0) (hz : H1.size = H.size) (ho : ∀ q : Nat, q ≠ a.toNat → H1[q]? = H[q]?) (h1 : cellOk D cA G1 M1 a H1) (hg : ∀ a', a' ≠ a → agr G M G1 M1 a') (hga : G1 0 a 0 = G 0 a 0) (h4 : G1 4 0 0 = G 4 0 0) : HR D cA B0 G1 M1 H1 := by
  have hn := h.nn ha
  refine ⟨fun b hb => ?_, by rw [h4, hz]; exact h.2.1, by rw [h4]; exact h.2.2⟩
  rw [hz]
  by_cases e : b = a
  · subst e
    obtain ⟨q1, q2, -⟩ := h.1 b ha
    rw [hga]
    exact ⟨q1, q2, h1⟩
  · have g := hg b e
    have hb' : G 0 b 0 ≠ 0 := by rw [← g.1]; exact hb
    obtain ⟨q1, q2, q3⟩ := h.1 b hb'
    have hbn := h.nn hb'
    rw [g.1]
    exact ⟨q1, q2, q3.kept (ho _ (by omega)) g⟩
theorem HR.new {D : va_G} {cA : Nat → ClassId} {B0 : Nat} {G M G1 M1 : Mm} {H H1 : Heap} (h : HR D cA B0 G M H) (hz : H1.size = H.size + 1) (ho : ∀ q : Nat, q < H.size → H1[q]? = H[q]?) (h1 : cellOk D cA G1 M1 (G 4 0 0) H1) (hg : ∀ a', a' ≠ G 4 0 0 → agr G M G1 M1 a') (h4 : G1 4 0 0 = G 4 0 0 + 1) : HR D cA B0 G1 M1 H1 := by
  have hs := h.2.1
  refine ⟨fun b hb => ?_, by rw [h4, hz, hs]; omega, by rw [h4]; have := h.2.2; omega⟩
  rw [hz]
  by_cases e : b = G 4 0 0
  · subst e
    exact ⟨Or.inl h.2.2, by omega, h1⟩
  · have g := hg b e
    have hb' : G 0 b 0 ≠ 0 := by rw [← g.1]; exact hb
    obtain ⟨q1, q2, q3⟩ := h.1 b hb'
    have hbn := h.nn hb'
    rw [g.1]
    exact ⟨q1, by omega, q3.kept (ho _ (by omega)) g⟩
/-! ===== the tables' words ===== -/
def isNest : Cond → Bool
  | .fieldLinkNest .. => true
  | .methodLinkNest .. => true
  | _ => false
def isAC : Cond → Bool
  | .arrayClass _ => true
  | _ => false
def okw (w : Cond) : Bool := (w.onTables && (w.keepsFace || isNest w)) || isAC w
theorem okw_warm {s U : State} (hW : s.WarmedH U.vm) {w : Cond} (ho : okw w = true) {A A' : Array Value} (h : w.before A s = true) : w.before A' U = true := by
  unfold okw at ho
  rw [Bool.or_eq_true, Bool.and_eq_true, Bool.or_eq_true] at ho
  rcases ho with ⟨h1, h2 | h2⟩ | h2
  · have h3 := Cond.before_shiftedFace (State.Shifted.of_warmed hW) w h2 h
    exact va_tabs h1 (rfl : (s.setVm U.vm).vm = U.vm) h3
  · cases w with
    | fieldLinkNest a b c d e f => exact va_Nw.use rfl (va_Nw.warmF hW (va_Nw.of rfl h))
    | methodLinkNest a b c d => exact va_Nw.use rfl (va_Nw.warmM hW (va_Nw.of rfl h))
    | _ => simp [isNest] at h2
  · cases w with
    | arrayClass ty => exact word_at hW (Or.inr ⟨ty, rfl⟩) h
    | _ => simp [isAC] at h2
theorem okw_same {s U : State} (hvm : s.vm = U.vm) {w : Cond} (ho : okw w = true) {A A' : Array Value} (h : w.before A s = true) : w.before A' U = true :=
  okw_warm (by rw [← hvm]; exact State.WarmedH.refl s) ho h
theorem lay_in : ∀ (ci : Nat) (r : vw_C), vwCl[ci]? = some r → ∀ w ∈ u_ws r.1 r.2.1 r.2.2, w ∈ lw_tbl := by
  intro ci r h
  match ci, h with
  | 0, h => cases h; exact inX0
  | 1, h => cases h; exact inX0
  | 2, h => cases h; exact inX0
  | 3, h => cases h; exact inX1
  | 4, h => cases h; exact inX2
  | 5, h => cases h; exact inX3
  | 6, h => cases h; exact inX4
  | 7, h => cases h; exact inX5
  | k + 8, h => simp [vwCl] at h
theorem lay_ok {C : String} {T : u_T} {N : Nat} : ∀ w ∈ u_ws C T N, okw w = true := by
  intro w hw
  obtain ⟨k, -, rfl⟩ := List.mem_map.mp hw
  unfold u_lay
  by_cases h : (T k).2.2.2 = true
  · rw [if_pos h]; rfl
  · rw [if_neg h]; rfl
theorem lay_ty : ∀ (ci : Nat) (r : vw_C), vwCl[ci]? = some r → ∃ ty : Nat → FieldType, (∀ k, k < r.2.2 → parseFieldDescriptor (r.2.1 k).2.2.1 = some (ty k)) ∧ ∀ a, a < r.2.2 → ∀ b, b < r.2.2 → a ≠ b → (r.2.1 a).2.1 ≠ (r.2.1 b).2.1 := by
  intro ci r h
  match ci, h with
  | 0, h => cases h; exact ⟨tyX0, tyX0_ok, nmX0⟩
  | 1, h => cases h; exact ⟨tyX0, tyX0_ok, nmX0⟩
  | 2, h => cases h; exact ⟨tyX0, tyX0_ok, nmX0⟩
  | 3, h => cases h; exact ⟨tyX1, tyX1_ok, nmX1⟩
  | 4, h => cases h; exact ⟨tyX2, tyX2_ok, nmX2⟩
  | 5, h => cases h; exact ⟨tyX3, tyX3_ok, nmX3⟩
  | 6, h => cases h; exact ⟨tyX4, tyX4_ok, nmX4⟩
  | 7, h => cases h; exact ⟨tyX5, tyX5_ok, nmX5⟩
  | k + 8, h => simp [vwCl] at h
theorem cls_lt {ci : Nat} {r : vw_C} (h : vwCl[ci]? = some r) : ci < 13 := Nat.lt_of_lt_of_le (List.getElem?_eq_some_iff.mp h).1 (Nat.le_of_ble_eq_true rfl)
