/-! ===== values said; facts counted ===== -/
theorem cn_at {p : Int → Prop} [DecidablePred p] {lo hi x : Int} (h1 : lo ≤ x) (h2 : x < hi) : cn p lo hi = cn p lo x + (if p x then 1 else 0) + cn p (x + 1) hi := by
  have z : cn p lo hi = fr (fun r c => if p r then c + 1 else c) x hi (cn p lo x) := by
    show fr (fun r c => if p r then c + 1 else c) lo hi 0 = _
    rw [fr_split h1 (Int.le_of_lt h2)]
    rfl
  rw [z, fr_step h2, cn_sh]
  by_cases hp : p x
  · rw [if_pos hp, if_pos hp]
  · rw [if_neg hp, if_neg hp]; omega
theorem cn_point {p q : Int → Prop} [DecidablePred p] [DecidablePred q] {lo hi x : Int} (h1 : lo ≤ x) (h2 : x < hi) (hn : ¬ p x) (h : ∀ r, q r ↔ p r ∨ r = x) : cn q lo hi = cn p lo hi + 1 := by
  rw [cn_at (p := q) h1 h2, cn_at (p := p) h1 h2, if_pos ((h x).mpr (Or.inr rfl)), if_neg hn]
  have e1 : cn q lo x = cn p lo x := cn_congr fun r a b => (h r).trans ⟨fun z => z.elim id (fun e => by omega), Or.inl⟩
  have e2 : cn q (x + 1) hi = cn p (x + 1) hi := cn_congr fun r a b => (h r).trans ⟨fun z => z.elim id (fun e => by omega), Or.inl⟩
  rw [e1, e2]
  omega
theorem mvl_eq {F : Fn} (hF : FB0 F) : mvl F = cVal F := by
  have key := fr_inv (σ := Int) (f := fun s c => if ¬ F 0 s = -1 ∧ ¬ fnd (fun j => F 0 j = F 0 s) 0 s < s then c + 1 else c) (hi := 10) (P := fun n x => x = cn (fun v => fnd (fun k => F 0 k = v) 0 n < n) 0 100) (lo := 0) (s := 0) (by omega) (by
      have : cn (fun v => fnd (fun k => F 0 k = v) 0 0 < 0) 0 100 = cn (fun v => fnd (fun k => F 0 k = v) 0 0 < 0) 0 0 := cn_tail (Int.le_refl _) (by omega) (fun v _ _ => by rw [fnd_end (Int.le_refl _)]; omega)
      rw [this]
      rfl) (fun n x q1 q2 e => by
      have hb := hF.v0 n q1 q2
      have up : ∀ v, fnd (fun k => F 0 k = v) 0 (n + 1) < n + 1 ↔ fnd (fun k => F 0 k = v) 0 n < n ∨ v = F 0 n := fun v => by
        rw [fnd_lt (by omega), fnd_lt q1]
        constructor
        · rintro ⟨j, a, b, c⟩
          by_cases ej : j = n
          · right; rw [← c, ej]
          · left; exact ⟨j, a, by omega, c⟩
        · rintro (⟨j, a, b, c⟩ | c)
          · exact ⟨j, a, by omega, c⟩
          · exact ⟨n, q1, by omega, c.symm⟩
      by_cases hx : ¬ F 0 n = -1 ∧ ¬ fnd (fun j => F 0 j = F 0 n) 0 n < n
      · rw [if_pos hx, e]
        exact (cn_point (x := F 0 n) (by omega) (by omega) hx.2 up).symm
      · rw [if_neg hx, e]
        refine cn_congr fun v a b => ((up v).trans ⟨fun z => z.elim id (fun ev => ?_), Or.inl⟩).symm
        rw [ev]
        apply Classical.byContradiction
        intro hn
        exact hx ⟨by omega, hn⟩)
  exact key.symm
/-- nested over facts, flat over rows -/
theorem fr_flat {g : Int → Int → Int} {n c : Int} (hn : 0 ≤ n) : fr (fun s c => fr (fun f c => g (s * 4 + f) c) 0 4 c) 0 n c = fr g 0 (n * 4) c := by
  have := fr_inv (σ := Int) (f := fun s c => fr (fun f c => g (s * 4 + f) c) 0 4 c) (hi := n) (P := fun i x => x = fr g 0 (i * 4) c) (lo := 0) (s := c) hn (by rw [fr_end (by omega)]) (fun i x q1 q2 e => by
    rw [show (i + 1) * 4 = i * 4 + 1 + 1 + 1 + 1 by omega, fr_last (by omega), fr_last (by omega), fr_last (by omega), fr_last (by omega), ← e]
    have z : fr (fun f c => g (i * 4 + f) c) 0 4 x = g (i * 4 + 3) (g (i * 4 + 2) (g (i * 4 + 1) (g (i * 4 + 0) x))) := rfl
    rw [z, show i * 4 + 0 = i * 4 by omega, show i * 4 + 1 + 1 = i * 4 + 2 by omega, show i * 4 + 2 + 1 = i * 4 + 3 by omega])
  exact this
/-- a value is said where something is heard -/
theorem hrd_some {S F : Fn} (h : SB S) (hF0 : FB0 F) (hF : ∀ k, S 2 0 ≤ k → k < 10 → F 0 k = -1) : ¬ mhd S F = -1 ↔ 0 < cSay F := by
  have hc := h.c
  have hs : 0 < cSay F ↔ ∃ k, (0 ≤ k ∧ k < 10) ∧ ¬ F 0 k = -1 := by
    have e : cSay F = cn (fun s => ¬ F 0 s = -1) 0 10 := rfl
    rw [e]
    constructor
    · intro z
      apply Classical.byContradiction
      intro hn
      have : cn (fun s => ¬ F 0 s = -1) 0 10 = cn (fun s => ¬ F 0 s = -1) 0 0 := cn_tail (Int.le_refl _) (by omega) (fun r a b q => hn ⟨r, ⟨a, b⟩, q⟩)
      have e0 : cn (fun s => ¬ F 0 s = -1) 0 0 = 0 := rfl
      omega
    · rintro ⟨k, a, b⟩
      rw [cn_at (p := fun s => ¬ F 0 s = -1) a.1 a.2, if_pos b]
      have := cn_bd (p := fun s => ¬ F 0 s = -1) (lo := 0) (hi := k)
      have := cn_bd (p := fun s => ¬ F 0 s = -1) (lo := k + 1) (hi := 10)
      omega
  rw [hs]
  have m0 : ¬ mst S F 0 = -1 ↔ ∃ k, (0 ≤ k ∧ k < 10) ∧ ¬ F 0 k = -1 := by
    have hb := mst_best (z := 0) h hF
    unfold mst
    constructor
    · intro hz
      rcases hb with ⟨a, _⟩ | ⟨a, _, _⟩
      · exact absurd a.1 hz
      · obtain ⟨k, k1, k2, k3⟩ := (fnd_lt (p := fun k => F 0 k = (fr (mstS S F 0) 0 100 (-1, 0)).1) (lo := 0) (hi := 10) (by omega)).mp a.2.1
        exact ⟨k, ⟨k1, k2⟩, by have := a.1; omega⟩
    · rintro ⟨k, a, b⟩
      rcases hb with ⟨_, c⟩ | ⟨c, _, _⟩
      · have hv := hF0.v0 k a.1 a.2
        exact absurd ⟨by omega, (fnd_lt (by omega)).mpr ⟨k, a.1, a.2, rfl⟩, Or.inl rfl⟩ (c (F 0 k))
      · have := c.1; omega
  have m1 : ¬ mst S F 1 = -1 → ∃ k, (0 ≤ k ∧ k < 10) ∧ ¬ F 0 k = -1 := by
    intro hz
    have hb := mst_best (z := 1) h hF
    unfold mst at hz
    rcases hb with ⟨a, _⟩ | ⟨a, _, _⟩
    · exact absurd a.1 hz
    · obtain ⟨k, k1, k2, k3⟩ := (fnd_lt (p := fun k => F 0 k = (fr (mstS S F 1) 0 100 (-1, 0)).1) (lo := 0) (hi := 10) (by omega)).mp a.2.1
      exact ⟨k, ⟨k1, k2⟩, by have := a.1; omega⟩
  unfold mhd
  by_cases hz : mst S F 1 = -1
  · rw [if_pos hz]; exact m0
  · rw [if_neg hz]; exact ⟨fun _ => m1 hz, fun _ => hz⟩
