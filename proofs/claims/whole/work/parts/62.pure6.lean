/-! ===== the model's lead is the class's ===== -/
theorem mst_pos {S F : Fn} {z : Int} (h : SB S) (hF : ∀ k, S 2 0 ≤ k → k < 10 → F 0 k = -1) (hz : ¬ mst S F z = -1) : 1 ≤ mfo S F (mst S F z) := by
  have hb := mst_best (z := z) h hF
  rcases hb with ⟨a, _⟩ | ⟨a, _, _⟩
  · exact absurd a.1 hz
  · obtain ⟨k, k1, k2, k3⟩ := (fnd_lt (p := fun k => F 0 k = (fr (mstS S F z) 0 100 (-1, 0)).1) (lo := 0) (hi := 10) (by omega)).mp a.2.1
    have hkn : k < S 2 0 := by
      apply Classical.byContradiction
      intro hn
      have := hF k (by omega) k2
      have := a.1
      omega
    rw [mfo_eq h]
    exact tF_pos h ⟨k1, hkn⟩ k3
theorem fT_0 {A : An} {i : Int} (hA : AB A) (hW : WF A) (h : 0 ≤ i ∧ i < A 0 0 0 * 4) : (A (100 + i) 1 1 = 0 ↔ A (100 + i) 1 0 = -1) ∧ 0 ≤ A (100 + i) 1 1 ∧ A (100 + i) 1 1 ≤ 30 := by
  have hn := hA.n
  have hw := hW.f i h.1 h.2
  have hb := (hA.fa i (by omega)).s1
  refine ⟨?_, hb⟩
  rw [hw.2.2]
  by_cases hz : A (100 + i) 1 0 = -1
  · rw [if_pos hz]; exact ⟨fun _ => hz, fun _ => rfl⟩
  · rw [if_neg hz]
    have hp := mst_pos (z := 1) hA.so (hW.none h) (by rw [← hw.1]; exact hz)
    rw [← hw.1] at hp
    exact ⟨fun q => by omega, fun q => absurd q hz⟩
theorem mLs_eq {A : An} {s wd set : Int} (hA : AB A) (hW : WF A) (hs : 0 ≤ s ∧ s < A 0 0 0) : ((hv A s set 0 = 4 ∧ wdf 3 (bc set) ≤ wd) → mLs A s wd set = fo A s set) ∧ (¬ (hv A s set 0 = 4 ∧ wdf 3 (bc set) ≤ wd) → mLs A s wd set < 0) := by
  have t0 := fT_0 (i := s * 4 + 0) hA hW (by omega)
  have t1 := fT_0 (i := s * 4 + 1) hA hW (by omega)
  have t2 := fT_0 (i := s * 4 + 2) hA hW (by omega)
  have t3 := fT_0 (i := s * 4 + 3) hA hW (by omega)
  have ew : wdf 3 (bc set) = 20 + 15 * bc set := rfl
  have eh : hv A s set 0 = 4 ↔ ∀ f, 0 ≤ f → f < 4 → ¬ (ins set f ∧ A (100 + (s * 4 + f)) 1 0 = -1) := by
    have q := fnd_lt (p := fun f => ins set f ∧ vtf A 0 (s * 4 + f) = -1) (lo := 0) (hi := 4) (by omega)
    have r := fnd_spec (p := fun f => ins set f ∧ vtf A 0 (s * 4 + f) = -1) (lo := 0) (hi := 4) (by omega)
    constructor
    · intro z f f1 f2 hf
      have := q.mpr ⟨f, f1, f2, hf⟩
      unfold hv at z
      omega
    · intro z
      unfold hv
      apply Classical.byContradiction
      intro hn
      obtain ⟨f, f1, f2, hf⟩ := q.mp (by omega)
      exact z f f1 f2 hf
  have em : mLs A s wd set = (let g : Int → Int → Int := fun f c => if ins set f then c + (if A (100 + (s * 4 + f)) 1 1 = 0 then -1000 else A (100 + (s * 4 + f)) 1 1) else c; g 3 (g 2 (g 1 (g 0 (if 20 + 15 * bc set ≤ wd then 0 else -1000))))) := rfl
  have ef : fo A s set = (let g : Int → Int → Int := fun f c => if ins set f then c + A (100 + (s * 4 + f)) 1 1 else c; g 3 (g 2 (g 1 (g 0 0)))) := rfl
  have h0 := fun z => eh.mp z 0 (by omega) (by omega)
  have h1 := fun z => eh.mp z 1 (by omega) (by omega)
  have h2 := fun z => eh.mp z 2 (by omega) (by omega)
  have h3 := fun z => eh.mp z 3 (by omega) (by omega)
  have hb : (¬ (ins set 0 ∧ A (100 + (s * 4 + 0)) 1 0 = -1) ∧ ¬ (ins set 1 ∧ A (100 + (s * 4 + 1)) 1 0 = -1) ∧ ¬ (ins set 2 ∧ A (100 + (s * 4 + 2)) 1 0 = -1) ∧ ¬ (ins set 3 ∧ A (100 + (s * 4 + 3)) 1 0 = -1)) → hv A s set 0 = 4 := fun ⟨a, b, c, d⟩ => eh.mpr (fun f f1 f2 => by
    rcases (show f = 0 ∨ f = 1 ∨ f = 2 ∨ f = 3 by omega) with rfl | rfl | rfl | rfl
    · exact a
    · exact b
    · exact c
    · exact d)
  rw [em, ef, ew]
  dsimp only
  generalize A (100 + (s * 4 + 0)) 1 1 = T0 at *
  generalize A (100 + (s * 4 + 1)) 1 1 = T1 at *
  generalize A (100 + (s * 4 + 2)) 1 1 = T2 at *
  generalize A (100 + (s * 4 + 3)) 1 1 = T3 at *
  generalize A (100 + (s * 4 + 0)) 1 0 = U0 at *
  generalize A (100 + (s * 4 + 1)) 1 0 = U1 at *
  generalize A (100 + (s * 4 + 2)) 1 0 = U2 at *
  generalize A (100 + (s * 4 + 3)) 1 0 = U3 at *
  clear em ef eh
  by_cases i0 : ins set 0 <;> by_cases i1 : ins set 1 <;> by_cases i2 : ins set 2 <;> by_cases i3 : ins set 3 <;> (try simp only [i0, i1, i2, i3, if_true, if_false, true_and, false_and, not_false_eq_true, and_self, and_true, true_implies, forall_const] at h0) <;> (try simp only [i0, i1, i2, i3, if_true, if_false, true_and, false_and, not_false_eq_true, and_self, and_true, true_implies, forall_const] at h1) <;> (try simp only [i0, i1, i2, i3, if_true, if_false, true_and, false_and, not_false_eq_true, and_self, and_true, true_implies, forall_const] at h2) <;> (try simp only [i0, i1, i2, i3, if_true, if_false, true_and, false_and, not_false_eq_true, and_self, and_true, true_implies, forall_const] at h3) <;> (try simp only [i0, i1, i2, i3, if_true, if_false, true_and, false_and, not_false_eq_true, and_self, and_true, true_implies, forall_const] at hb) <;> (try simp only [i0, i1, i2, i3, if_true, if_false, true_and, false_and, not_false_eq_true, and_self, and_true, true_implies, forall_const]) <;> constructor <;> intro z <;> omega
theorem mLe_eq {A : An} {s wd : Int} (hA : AB A) (hW : WF A) (hs : 0 ≤ s ∧ s < A 0 0 0) : mLe A s wd = lea A s wd := by
  have key := fr_inv (σ := Int × Int) (f := fun set b => if b.2 < mLs A s wd set then (set, mLs A s wd set) else b) (hi := 16) (P := fun i b => b = fr (leS A s wd) 1 i (0, 0) ∧ 0 ≤ b.2) (lo := 1) (s := ((0, 0) : Int × Int)) (by omega) ⟨(fr_end (Int.le_refl _)).symm, Int.le_refl _⟩ (fun i b q1 q2 hp => by
    obtain ⟨l1, l2⟩ := mLs_eq (set := i) (wd := wd) hA hW hs
    rw [fr_last q1, ← hp.1]
    unfold leS
    by_cases hc : hv A s i 0 = 4 ∧ wdf 3 (bc i) ≤ wd
    · rw [l1 hc]
      by_cases hb : b.2 < fo A s i
      · rw [if_pos hb, if_pos ⟨hc.1, hc.2, hb⟩]; exact ⟨rfl, by have := hp.2; show 0 ≤ fo A s i; omega⟩
      · rw [if_neg hb, if_neg (fun q => hb q.2.2)]; exact ⟨rfl, hp.2⟩
    · have := l2 hc
      rw [if_neg (by have := hp.2; omega), if_neg (fun q => hc ⟨q.1, q.2.1⟩)]; exact ⟨rfl, hp.2⟩)
  unfold mLe lea
  rw [key.1]
