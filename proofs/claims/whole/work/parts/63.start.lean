/-! ===== a new house ===== -/
theorem A00_F {f : Int} (h : 0 ≤ f ∧ f < 24) : A00 (100 + f) = F00 := by unfold A00; rw [if_neg (by omega), if_pos (by omega)]
theorem A00_T {t : Int} (h : 0 ≤ t) : A00 (200 + t) = T00 := by unfold A00; rw [if_neg (by omega), if_neg (by omega), if_pos (by omega)]
theorem A00_L {l : Int} (h : 0 ≤ l ∧ l < 4) : A00 (20 + l) = L00 := by unfold A00; rw [if_pos (by omega)]
theorem A00_AB : AB A00 := by
  refine ⟨⟨⟨Int.le_refl _, by decide⟩, ⟨Int.le_refl _, by decide⟩, ⟨Int.le_refl _, by decide⟩, ⟨Int.le_refl _, by decide⟩⟩, ⟨⟨Int.le_refl _, by decide⟩, fun i q1 q2 => ?_⟩, fun f q1 q2 => ?_, fun t q1 q2 => ?_, fun l q1 q2 => ?_⟩
  · have e : A00 10 2 0 = 0 := rfl
    omega
  · rw [A00_F ⟨q1, q2⟩]
    exact ⟨fun j _ _ => ⟨by show (-1 : Int) ≤ -1; omega, by show (-1 : Int) ≤ 99; omega⟩, by decide, by decide, by decide, by decide⟩
  · rw [A00_T q1]
    exact ⟨fun f _ _ => ⟨by show (-1 : Int) ≤ 0; omega, by show (0 : Int) ≤ 99; omega⟩, by decide, by decide, by decide, by decide, by decide, by decide, by decide, by decide, by decide⟩
  · rw [A00_L ⟨q1, q2⟩]
    exact ⟨fun t _ _ => ⟨⟨by show (-1 : Int) ≤ -1; omega, by show (-1 : Int) ≤ 200; omega⟩, ⟨by show (0 : Int) ≤ 0; omega, by show (0 : Int) ≤ 4; omega⟩, ⟨by show (0 : Int) ≤ 0; omega, by show (0 : Int) ≤ 9999; omega⟩, by show (-1 : Int) ≤ -1; omega, by show (-1 : Int) ≤ 20000; omega⟩, by decide, by decide, by decide, by decide⟩
theorem A00_WF : WF A00 := by
  have e0 : A00 0 0 0 = 0 := rfl
  have e1 : A00 0 0 1 = 0 := rfl
  have e2 : A00 0 0 2 = 0 := rfl
  refine ⟨fun t f q1 q2 => ?_, fun l t q1 q2 => ?_, fun l q1 q2 => ?_, fun l t q1 q2 => ?_, fun t q1 q2 => ?_, fun k t q1 q2 => ?_, fun i q1 q2 => ?_, fun i k q1 q2 => ?_⟩ <;> omega
