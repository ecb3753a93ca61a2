/-! ===== what a line does is not changed by how many words it has sent ===== -/
def Eq43 (L L' : Fn) : Prop := ∀ i t, ¬ (i = 4 ∧ t = 3) → L i t = L' i t
theorem Eq43.up {L L' : Fn} (h : Eq43 L L') (i t x : Int) : Eq43 (lup L i t x) (lup L' i t x) := fun a b q => by
  rw [lup_c, lup_c, h a b q]
theorem Eq43.s {L L' : Fn} (h : Eq43 L L') (x y : Int) : Eq43 (lup L 4 3 x) (lup L' 4 3 y) := fun a b q => by
  rw [lup_n q, lup_n q]; exact h a b q
theorem Eq43.l {L : Fn} (x : Int) : Eq43 (lup L 4 3 x) L := fun a b q => lup_n q
theorem Eq43.xmU {L L' : Fn} (h : Eq43 L L') (m : Int) : mU L m = mU L' m := by
  have e0 : L 0 = L' 0 := funext fun t => h 0 t (by omega)
  have e1 : L 1 = L' 1 := funext fun t => h 1 t (by omega)
  have e2 : L 2 = L' 2 := funext fun t => h 2 t (by omega)
  show fr (mUs (L 0) (L 2) (L 1) m) 0 (L 4 4) (-1) = fr (mUs (L' 0) (L' 2) (L' 1) m) 0 (L' 4 4) (-1)
  rw [e0, e1, e2, h 4 4 (by omega)]
theorem Eq43.xsn {L L' : Fn} (h : Eq43 L L') (m t g : Int) : Eq43 (sn L m t g) (sn L' m t g) := by
  have e0 := h 0 t (by omega)
  have r1 : sn L m t g = if L 0 t - g = 0 then lup (lup (lup L 0 t (L 0 t - g)) 4 3 (L 4 3 + g)) 3 t m else lup (lup L 0 t (L 0 t - g)) 4 3 (L 4 3 + g) := rfl
  have r2 : sn L' m t g = if L' 0 t - g = 0 then lup (lup (lup L' 0 t (L' 0 t - g)) 4 3 (L' 4 3 + g)) 3 t m else lup (lup L' 0 t (L' 0 t - g)) 4 3 (L' 4 3 + g) := rfl
  rw [r1, r2, ← e0]
  by_cases hz : L 0 t - g = 0
  · rw [if_pos hz, if_pos hz]; exact ((h.up _ _ _).s _ _).up _ _ _
  · rw [if_neg hz, if_neg hz]; exact (h.up _ _ _).s _ _
theorem rS_43 {m : Int} : ∀ (n : Nat) (L L' : Fn) (w s : Int), Eq43 L L' → Eq43 (rS (fun L => mU L m) m n L w s).1 (rS (fun L => mU L m) m n L' w s).1 ∧ (rS (fun L => mU L m) m n L w s).2 = (rS (fun L => mU L m) m n L' w s).2 := by
  intro n
  induction n with
  | zero => intro L L' w s h; exact ⟨h, rfl⟩
  | succ n ih =>
    intro L L' w s h
    have r : ∀ L : Fn, rS (fun L => mU L m) m (n + 1) L w s = if w ≤ 0 then (L, s) else if mU L m = -1 then (L, s) else rS (fun L => mU L m) m n (sn L m (mU L m) (min w (L 0 (mU L m)))) (w - min w (L 0 (mU L m))) (if L 0 (mU L m) - min w (L 0 (mU L m)) = 0 then s + 1 else s) := fun L => rfl
    rw [r L, r L', ← h.xmU m, ← h 0 (mU L m) (by omega)]
    by_cases hw : w ≤ 0
    · rw [if_pos hw, if_pos hw]; exact ⟨h, rfl⟩
    · rw [if_neg hw, if_neg hw]
      by_cases hu : mU L m = -1
      · rw [if_pos hu, if_pos hu]; exact ⟨h, rfl⟩
      · rw [if_neg hu, if_neg hu]; exact ih _ _ _ _ (h.xsn _ _ _)
theorem Eq43.xrM {L L' : Fn} (h : Eq43 L L') (m : Int) : Eq43 (rM L m).1 (rM L' m).1 ∧ (rM L m).2 = (rM L' m).2 := by
  have r : ∀ L : Fn, rM L m = if 0 < L 4 2 then (lup L 4 2 (L 4 2 - 1), 0) else rS (fun L => mU L m) m (L 4 0).toNat L (L 4 0) 0 := fun L => rfl
  rw [r L, r L', ← h 4 2 (by omega), ← h 4 0 (by omega)]
  by_cases hd : 0 < L 4 2
  · rw [if_pos hd, if_pos hd]; exact ⟨h.up _ _ _, rfl⟩
  · rw [if_neg hd, if_neg hd]; exact rS_43 _ _ _ _ _ h
theorem Eq43.xrI {L L' : Fn} (h : Eq43 L L') (u : Int) {i : Int} (hi : 0 ≤ i) : Eq43 (rI L u i) (rI L' u i) := by
  have key : ∀ n : Nat, Eq43 (rI L u (n : Int)) (rI L' u (n : Int)) := by
    intro n
    induction n with
    | zero => show Eq43 (rI L u 0) (rI L' u 0); rw [rI_0, rI_0]; exact h
    | succ n ih =>
      show Eq43 (rI L u ((n : Int) + 1)) (rI L' u ((n : Int) + 1))
      rw [rI_s (by omega), rI_s (by omega)]
      exact (Eq43.xrM ih _).1
  have := key i.toNat
  rwa [show ((i.toNat : Nat) : Int) = i by omega] at this
theorem mAr_43 {L L' : Fn} {t u : Int} (h : Eq43 L L') : mAr L t u = mAr L' t u := by
  have e : fnd (fun i => mHas (rI L u i) t (u + i)) 0 100 = fnd (fun i => mHas (rI L' u i) t (u + i)) 0 100 := by
    have a := fnd_spec (p := fun i => mHas (rI L u i) t (u + i)) (lo := 0) (hi := 100) (by omega)
    have b := fnd_spec (p := fun i => mHas (rI L' u i) t (u + i)) (lo := 0) (hi := 100) (by omega)
    have c : ∀ i, 0 ≤ i → (mHas (rI L u i) t (u + i) ↔ mHas (rI L' u i) t (u + i)) := fun i hi => by
      have z := h.xrI u hi
      unfold mHas
      rw [z 3 t (by omega), z 4 1 (by omega)]
    rcases Int.lt_trichotomy (fnd (fun i => mHas (rI L u i) t (u + i)) 0 100) (fnd (fun i => mHas (rI L' u i) t (u + i)) 0 100) with q | q | q
    · exact absurd ((c _ a.1).mp (a.2.2.2 (by omega))) (b.2.2.1 _ a.1 q)
    · exact q
    · exact absurd ((c _ b.1).mpr (b.2.2.2 (by omega))) (a.2.2.1 _ b.1 q)
  unfold mAr
  rw [h 0 t (by omega), e]
