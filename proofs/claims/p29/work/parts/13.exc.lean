/-! ===== throws: the heap has grown by cells that nobody names ===== -/
def gZ (G : Mm) (z : Int) : Mm := fun b x y => if b = 4 ∧ x = 0 ∧ y = 0 then z else G b x y
theorem gZ_4 {G : Mm} {z : Int} : gZ G z 4 0 0 = z := by simp [gZ]
theorem gZ_n {G : Mm} {z b x y : Int} (h : b ≠ 4) : gZ G z b x y = G b x y := by simp [gZ, h]
theorem agr_Z {G M : Mm} {z a : Int} : agr G M (gZ G z) M a :=
  ⟨gZ_n (by omega), gZ_n (by omega), fun _ => gZ_n (by omega), fun _ => gZ_n (by omega), fun _ => rfl, fun _ => rfl⟩
theorem Kp.z {G M : Mm} {z : Int} (h : G 4 0 0 ≤ z) : Kp G M (gZ G z) M := ⟨fun _ _ => agr_Z, by rw [gZ_4]; exact h⟩
theorem HR.grow {D : va_G} {cA : Nat → ClassId} {B0 : Nat} {G M : Mm} {H H1 : Heap} (h : HR D cA B0 G M H) (hz : H.size ≤ H1.size) (ho : ∀ q : Nat, q < H.size → H1[q]? = H[q]?) : HR D cA B0 (gZ G H1.size) M H1 := by
  have hs := h.2.1
  refine ⟨fun b hb => ?_, gZ_4, by rw [gZ_4]; have := h.2.2; omega⟩
  rw [gZ_n (by omega)] at hb ⊢
  obtain ⟨q1, q2, q3⟩ := h.1 b hb
  have hbn := h.nn hb
  exact ⟨q1, by omega, q3.kept (ho _ (by omega)) agr_Z⟩
theorem sum_le (l : List Value) : (l.map fun v => v.category).sum ≤ 2 * l.length := by
  induction l with
  | nil => simp
  | cons a l ih =>
    have := lv_cat a
    simp only [List.map_cons, List.sum_cons, List.length_cons]
    omega
