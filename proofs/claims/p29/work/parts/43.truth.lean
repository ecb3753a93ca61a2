/-! ===== the truth, what is heard, who is needed ===== -/
theorem tF_none {S F : Fn} {v : Int} (hS : SB S) (h : ∀ k, 0 ≤ k → k < S 2 0 → ¬ F 0 k = v) : tF S F v = 0 := by
  have e : ∀ r, sR S F v r = 0 := fun r => by
    rcases (sR_sp (F := F) (v := v) (r := r) hS).2 with q | ⟨k, q1, q2, -⟩
    · exact q
    · exact absurd q2.1 (h k q1.1 q1.2)
  unfold tF
  exact fr_id fun r q1 q2 => if_neg (by rw [e]; omega)
theorem said_of {S F : Fn} {v : Int} (hS : SB S) (h : 0 < pG S F v) : ∃ k, (0 ≤ k ∧ k < S 2 0) ∧ F 0 k = v := by
  apply Classical.byContradiction
  intro hn
  have z := tF_none (F := F) (v := v) hS (fun k q1 q2 q3 => hn ⟨k, ⟨q1, q2⟩, q3⟩)
  obtain ⟨z1, z2, z3⟩ := tF_zero hS z
  unfold pG at h
  rw [z1, z2, z3] at h
  exact absurd h (by decide)
theorem tru_some {S F : Fn} (hS : SB S) (h : ¬ tru S F = -1) : ((∃ k, (0 ≤ k ∧ k < S 2 0) ∧ F 0 k = tru S F) ∧ 0 < pG S F (tru S F)) ∧ ∀ v, ¬ v = -1 → 0 < pG S F v → tF S F v < tF S F (tru S F) ∨ (tF S F v = tF S F (tru S F) ∧ tru S F ≤ v) := by
  have hb := stC_best (F := F) (z := 1) hS
  have e : tru S F = (fr (stS S F 1 (-1)) 0 (S 2 0) (-1, 0)).1 := rfl
  unfold Bst at hb
  rw [← e] at hb
  rcases hb with ⟨a, _⟩ | ⟨a, b, c⟩
  · exact absurd a.1 h
  · refine ⟨⟨a.1, a.2.2.resolve_left (by omega)⟩, fun v q1 q2 => ?_⟩
    exact c v ⟨said_of hS q2, q1, Or.inr q2⟩
theorem neP_0 {S F : Fn} {v w : Int} (hS : SB S) (hv : ¬ v = -1) : neP S F v w 0 ↔ tru S F = v := by
  have hb := stC_best (F := F) (z := 1) hS
  have hbv := stC_bestv (F := F) (u := v) hS
  have e : tru S F = (fr (stS S F 1 (-1)) 0 (S 2 0) (-1, 0)).1 := rfl
  have ev : stC S F 1 v = (fr (stS S F 1 v) 0 (S 2 0) (-1, 0)).1 := rfl
  unfold Bst at hb
  rw [← e] at hb
  unfold Bst at hbv
  rw [← ev] at hbv
  have eg : grd (tO S F v + (if w = 3 then (0 : Int) else 0)) (tN S F v + (if w = 2 then (0 : Int) else 0)) (tR S F v + 0) = pG S F v := by
    unfold grd pG
    rw [show tO S F v + (if w = 3 then (0 : Int) else 0) = tO S F v by split <;> omega, show tN S F v + (if w = 2 then (0 : Int) else 0) = tN S F v by split <;> omega, Int.add_zero]
  unfold neP
  rw [eg, Int.mul_zero, Int.add_zero]
  constructor
  · rintro ⟨h1, h2⟩
    have hs := said_of hS h2
    rcases hb with ⟨_, a⟩ | ⟨a, -, c⟩
    · exact absurd ⟨hs, hv, Or.inr h2⟩ (a v)
    · apply Classical.byContradiction
      intro hne
      have cv := c v ⟨hs, hv, Or.inr h2⟩
      have pt : 0 < pG S F (tru S F) := a.2.2.resolve_left (by omega)
      rcases hbv with ⟨_, b⟩ | ⟨b, -, d⟩
      · exact absurd ⟨a.1, ⟨a.2.1, hne⟩, pt⟩ (b (tru S F))
      · have dv := d (tru S F) ⟨a.1, ⟨a.2.1, hne⟩, pt⟩
        rw [if_neg b.2.1.1] at h1
        omega
  · intro ht
    rcases hb with ⟨a, _⟩ | ⟨a, -, c⟩
    · exact absurd (ht.symm.trans a.1) hv
    · rw [ht] at a c
      have pt : 0 < pG S F v := a.2.2.resolve_left (by omega)
      refine ⟨?_, pt⟩
      obtain ⟨k, k1, k2⟩ := a.1
      have hp := tF_pos hS k1 k2
      rcases hbv with ⟨b, _⟩ | ⟨b, -, d⟩
      · rw [if_pos b.1]; left; omega
      · rw [if_neg b.2.1.1]
        have := c (stC S F 1 v) ⟨b.1, b.2.1.1, Or.inr b.2.2⟩
        have := b.2.1.2
        omega
theorem nee_bd {S F : Fn} {v w : Int} : -1 ≤ nee S F v w ∧ nee S F v w ≤ 10 := by
  have := fnd_spec (p := neP S F v w) (lo := 0) (hi := 11) (by omega)
  unfold nee
  split <;> omega
theorem nee_eq {S F : Fn} {v w k : Int} (hk : 0 ≤ k ∧ k < 11) (hn : ∀ j, 0 ≤ j → j < k → ¬ nee S F v w = j) : nee S F v w = k ↔ neP S F v w k := by
  have z := fnd_spec (p := neP S F v w) (lo := 0) (hi := 11) (by omega)
  have e : fnd (neP S F v w) 0 11 < 11 → nee S F v w = fnd (neP S F v w) 0 11 := fun q => if_pos q
  have e' : ¬ fnd (neP S F v w) 0 11 < 11 → nee S F v w = -1 := fun q => if_neg q
  obtain ⟨d, hd⟩ : ∃ d, d = fnd (neP S F v w) 0 11 := ⟨_, rfl⟩
  rw [← hd] at z e e'
  constructor
  · intro h
    by_cases q : d < 11
    · have := e q
      rw [show k = d by omega]; exact z.2.2.2 q
    · have := e' q; omega
  · intro h
    have h1 : d ≤ k := by
      apply Classical.byContradiction
      intro q
      exact z.2.2.1 k hk.1 (by omega) h
    have h2 := e (by omega)
    by_cases q : d = k
    · omega
    · exact absurd h2 (hn d z.1 (by omega))
theorem nee_0 {S F : Fn} {v w : Int} (hS : SB S) (hv : ¬ v = -1) (h : tru S F = v) : nee S F v w = 0 :=
  (nee_eq (by omega) (fun j q1 q2 => by omega)).mpr ((neP_0 hS hv).mpr h)
theorem say_none {F : Fn} (h : cSay F = 0) : ∀ k, 0 ≤ k → k < 10 → F 0 k = -1 := fun k q1 q2 => by
  have e : cn (fun s => ¬ F 0 s = -1) 0 10 = 0 := h
  have := cn_zero e k q1 q2
  exact Decidable.not_not.mp this
theorem say_some {F : Fn} {k : Int} (h1 : 0 ≤ k ∧ k < 10) (h : ¬ F 0 k = -1) : 0 < cSay F := by
  have e : cSay F = cn (fun s => ¬ F 0 s = -1) 0 10 := rfl
  rw [e, cn_at (p := fun s => ¬ F 0 s = -1) h1.1 h1.2, if_pos h]
  have := cn_bd (p := fun s => ¬ F 0 s = -1) (lo := 0) (hi := k)
  have := cn_bd (p := fun s => ¬ F 0 s = -1) (lo := k + 1) (hi := 10)
  omega
/-- something is heard where somebody says something -/
theorem hrd_none {S F : Fn} (hS : SB S) (hb : ∀ k, S 2 0 ≤ k → k < 10 → F 0 k = -1) : hrd S F = -1 ↔ cSay F = 0 := by
  have hc := hS.c
  have b0 := stC_best (F := F) (z := 0) hS
  have e0 : stC S F 0 (-1) = (fr (stS S F 0 (-1)) 0 (S 2 0) (-1, 0)).1 := rfl
  unfold Bst at b0
  rw [← e0] at b0
  constructor
  · intro h
    have ht : tru S F = -1 := by
      apply Classical.byContradiction
      intro q
      unfold hrd at h
      rw [if_neg q] at h
      exact q h
    unfold hrd at h
    rw [if_pos ht] at h
    rcases b0 with ⟨_, a⟩ | ⟨a, _, _⟩
    · show cn (fun s => ¬ F 0 s = -1) 0 10 = 0
      unfold cn
      refine fr_id fun k q1 q2 => if_neg fun q => ?_
      by_cases hk : k < S 2 0
      · exact a (F 0 k) ⟨⟨k, ⟨q1, hk⟩, rfl⟩, q, Or.inl rfl⟩
      · exact q (hb k (by omega) q2)
    · exact absurd h a.2.1
  · intro h
    have hn := say_none h
    have ht : tru S F = -1 := by
      apply Classical.byContradiction
      intro q
      obtain ⟨⟨⟨k, k1, k2⟩, _⟩, _⟩ := tru_some hS q
      have := hn k k1.1 (by omega)
      exact q (by rw [← k2]; exact this)
    unfold hrd
    rw [if_pos ht]
    rcases b0 with ⟨a, _⟩ | ⟨a, _, _⟩
    · exact a.1
    · obtain ⟨⟨k, k1, k2⟩, c, _⟩ := a
      exact absurd (k2.symm.trans (hn k k1.1 (by omega))) c
/-- six say something, of six: each does -/
theorem say_all {F : Fn} (h : cSay F = 6) (hb : ∀ k, 6 ≤ k → k < 10 → F 0 k = -1) : ∀ k, 0 ≤ k → k < 6 → ¬ F 0 k = -1 := fun k q1 q2 q => by
  have e : cn (fun s => ¬ F 0 s = -1) 0 10 = 6 := h
  rw [cn_tail (mid := 6) (by omega) (by omega) (fun r a b z => z (hb r a b)), cn_at (p := fun s => ¬ F 0 s = -1) q1 q2, if_neg (fun z => z q)] at e
  have le : ∀ lo hi, lo ≤ hi → cn (fun s => ¬ F 0 s = -1) lo hi ≤ hi - lo := fun lo hi hl => by
    unfold cn
    have := fr_inv (σ := Int) (f := fun r c => if ¬ F 0 r = -1 then c + 1 else c) (hi := hi) (P := fun i c => c ≤ i - lo) (lo := lo) (s := 0) hl (by omega) (fun i c a b hp => by
      (try dsimp only)
      split <;> omega)
    exact this
  have := le 0 k q1
  have := le (k + 1) 6 (by omega)
  omega
/-! one source more, that says v -/
section More1
variable {S F F1 : Fn} {v : Int}
theorem m1_sR (hS : SB S) (h1 : ∀ t, F1 0 t = if t = S 2 0 then v else F 0 t) (r : Int) : sR (sAdd S 2 (-1)) F1 v r = if r = S 2 0 then 2 else sR S F v r := by
  have hc := hS.c
  have e : sR (sAdd S 2 (-1)) F1 v = fr (wgS (sAdd S 2 (-1)) F1 v) 0 (sAdd S 2 (-1) 2 0) (fun _ => 0) := rfl
  have e2 : fr (wgS (sAdd S 2 (-1)) F1 v) 0 (S 2 0) (fun _ => 0) = sR S F v := fr_congr fun i s q1 q2 => by
    have a1 : sAdd S 2 (-1) 1 i = S 1 i := by rw [sAdd_1, if_neg (by omega)]
    have a0 : sAdd S 2 (-1) 0 i = S 0 i := by rw [sAdd_0, if_neg (by omega)]
    have af : F1 0 i = F 0 i := by rw [h1, if_neg (by omega)]
    unfold wgS
    rw [a1, a0, af]
  have hz : sR S F v (S 2 0) = 0 := by
    rcases (sR_sp (F := F) (v := v) (r := S 2 0) hS).2 with q | ⟨k, q1, q2, -⟩
    · exact q
    · have := hS.r k q1.1 q1.2; omega
  rw [e, sAdd_2, fr_last hc.1, e2]
  unfold wgS
  rw [if_pos (by rw [h1, if_pos rfl]), sAdd_1, if_pos rfl, if_pos rfl, sAdd_0, if_pos rfl]
  by_cases hr : r = S 2 0
  · rw [if_pos hr, if_pos hr, hz]; rfl
  · rw [if_neg hr, if_neg hr]
theorem m1_all (hS : SB S) (h1 : ∀ t, F1 0 t = if t = S 2 0 then v else F 0 t) : tF (sAdd S 2 (-1)) F1 v = tF S F v + 2 ∧ tR (sAdd S 2 (-1)) F1 v = tR S F v + 1 ∧ tN (sAdd S 2 (-1)) F1 v = tN S F v + 1 ∧ tO (sAdd S 2 (-1)) F1 v = tO S F v := by
  have hc := hS.c
  have en : sR (sAdd S 2 (-1)) F1 v (S 2 0) = 2 := by rw [m1_sR hS h1, if_pos rfl]
  have eo : ∀ r, r < S 2 0 → sR (sAdd S 2 (-1)) F1 v r = sR S F v r := fun r q => by rw [m1_sR hS h1, if_neg (by omega)]
  refine ⟨?_, ?_, ?_, ?_⟩
  · unfold tF
    rw [sAdd_2, fr_last hc.1, fr_congr (g := fun r c => if 0 < sR S F v r then c + sR S F v r else c) (fun r c q1 q2 => by rw [eo r q2])]
    (try dsimp only)
    rw [en, if_pos (by omega)]
  · unfold tR
    rw [sAdd_2, fr_last hc.1, fr_congr (g := fun r c => if 0 < sR S F v r then c + 1 else c) (fun r c q1 q2 => by rw [eo r q2])]
    (try dsimp only)
    rw [en, if_pos (by omega)]
  · unfold tN
    rw [sAdd_2, fr_last hc.1, fr_congr (g := fun r c => if sR S F v r = 2 then c + 1 else c) (fun r c q1 q2 => by rw [eo r q2])]
    (try dsimp only)
    rw [en, if_pos (by omega)]
  · unfold tO
    rw [sAdd_2, fr_last hc.1, fr_congr (g := fun r c => if sR S F v r = 3 then c + 1 else c) (fun r c q1 q2 => by rw [eo r q2])]
    (try dsimp only)
    rw [en, if_neg (by omega)]
theorem m1_oth (hS : SB S) (h1 : ∀ t, F1 0 t = if t = S 2 0 then v else F 0 t) {u : Int} (hu : ¬ u = v) : tF (sAdd S 2 (-1)) F1 u = tF S F u ∧ pG (sAdd S 2 (-1)) F1 u = pG S F u := by
  have hc := hS.c
  have e : sR (sAdd S 2 (-1)) F1 u = sR S F u := by
    have e0 : sR (sAdd S 2 (-1)) F1 u = fr (wgS (sAdd S 2 (-1)) F1 u) 0 (sAdd S 2 (-1) 2 0) (fun _ => 0) := rfl
    have e2 : fr (wgS (sAdd S 2 (-1)) F1 u) 0 (S 2 0) (fun _ => 0) = sR S F u := fr_congr fun i s q1 q2 => by
      have a1 : sAdd S 2 (-1) 1 i = S 1 i := by rw [sAdd_1, if_neg (by omega)]
      have a0 : sAdd S 2 (-1) 0 i = S 0 i := by rw [sAdd_0, if_neg (by omega)]
      have af : F1 0 i = F 0 i := by rw [h1, if_neg (by omega)]
      unfold wgS
      rw [a1, a0, af]
    rw [e0, sAdd_2, fr_last hc.1, e2]
    unfold wgS
    rw [if_neg (by rw [h1, if_pos rfl]; exact fun q => hu q.symm)]
  have hs : sR S F u (S 2 0) = 0 := by
    rcases (sR_sp (F := F) (v := u) (r := S 2 0) hS).2 with q | ⟨k, q1, q2, -⟩
    · exact q
    · have := hS.r k q1.1 q1.2; omega
  have c : ∀ (g : Int → Int → Int), (∀ x, g (S 2 0) x = x) → fr g 0 (S 2 0 + 1) 0 = fr g 0 (S 2 0) 0 := fun g hg => by rw [fr_last hc.1, hg]
  have e1 : tF (sAdd S 2 (-1)) F1 u = tF S F u := by
    unfold tF; rw [e, sAdd_2]; exact c _ (fun x => by (try dsimp only); rw [hs]; exact if_neg (by omega))
  have e2 : tO (sAdd S 2 (-1)) F1 u = tO S F u := by
    unfold tO; rw [e, sAdd_2]; exact c _ (fun x => by (try dsimp only); rw [hs]; exact if_neg (by omega))
  have e3 : tN (sAdd S 2 (-1)) F1 u = tN S F u := by
    unfold tN; rw [e, sAdd_2]; exact c _ (fun x => by (try dsimp only); rw [hs]; exact if_neg (by omega))
  have e4 : tR (sAdd S 2 (-1)) F1 u = tR S F u := by
    unfold tR; rw [e, sAdd_2]; exact c _ (fun x => by (try dsimp only); rw [hs]; exact if_neg (by omega))
  refine ⟨e1, ?_⟩
  unfold pG; rw [e2, e3, e4]
theorem m1_st (hS : SB S) (h1 : ∀ t, F1 0 t = if t = S 2 0 then v else F 0 t) : stC (sAdd S 2 (-1)) F1 1 v = stC S F 1 v := by
  have hc := hS.c
  have r : stC (sAdd S 2 (-1)) F1 1 v = (fr (stS (sAdd S 2 (-1)) F1 1 v) 0 (sAdd S 2 (-1) 2 0) (-1, 0)).1 := rfl
  have e : fr (stS (sAdd S 2 (-1)) F1 1 v) 0 (S 2 0) (-1, 0) = fr (stS S F 1 v) 0 (S 2 0) (-1, 0) := fr_congr fun i b q1 q2 => by
    have af : F1 0 i = F 0 i := by rw [h1, if_neg (by omega)]
    unfold stS
    rw [af]
    by_cases hi : F 0 i = v
    · rw [if_neg (fun q => q.2.1 hi), if_neg (fun q => q.2.1 hi)]
    · obtain ⟨a1, a2⟩ := m1_oth hS h1 hi
      rw [a1, a2]
  have d : ∀ x, stS (sAdd S 2 (-1)) F1 1 v (S 2 0) x = x := fun x => by
    unfold stS
    exact if_neg (fun q => q.2.1 (by rw [h1, if_pos rfl]))
  rw [r, sAdd_2, fr_last hc.1, d, e]
  rfl
theorem m1_neP (hS : SB S) (h1 : ∀ t, F1 0 t = if t = S 2 0 then v else F 0 t) (j : Int) : neP (sAdd S 2 (-1)) F1 v 2 j ↔ neP S F v 2 (j + 1) := by
  obtain ⟨a1, a2, a3, a4⟩ := m1_all hS h1
  have hbv := stC_bestv (F := F) (u := v) hS
  have ev : stC S F 1 v = (fr (stS S F 1 v) 0 (S 2 0) (-1, 0)).1 := rfl
  unfold Bst at hbv
  rw [← ev] at hbv
  have eo : (if stC S F 1 v = -1 then (0 : Int) else tF (sAdd S 2 (-1)) F1 (stC S F 1 v)) = if stC S F 1 v = -1 then (0 : Int) else tF S F (stC S F 1 v) := by
    by_cases q : stC S F 1 v = -1
    · rw [if_pos q, if_pos q]
    · rw [if_neg q, if_neg q]
      rcases hbv with ⟨b, _⟩ | ⟨b, -, d⟩
      · exact absurd b.1 q
      · exact (m1_oth hS h1 b.2.1.2).1
  unfold neP
  rw [m1_st hS h1, eo, a1, a2, a3, a4]
  rw [show tF S F v + 2 + 2 * j = tF S F v + 2 * (j + 1) by omega, show tR S F v + 1 + j = tR S F v + (j + 1) by omega, if_pos (show (2 : Int) = 2 from rfl), if_pos (show (2 : Int) = 2 from rfl), show tN S F v + 1 + j = tN S F v + (j + 1) by omega, if_neg (show ¬ (2 : Int) = 3 by omega), if_neg (show ¬ (2 : Int) = 3 by omega)]
end More1
/-! ===== what a desk tells it has got; sums ===== -/
theorem fr_hit {f : Int → Int → Int} {lo hi x c : Int} (h1 : lo ≤ x) (h2 : x < hi) (hx : ∀ c, ¬ f x c = -1) (hk : ∀ i c, lo ≤ i → i < hi → ¬ c = -1 → ¬ f i c = -1) : ¬ fr f lo hi c = -1 := by
  rw [fr_split (mid := x) h1 (by omega), fr_step h2]
  exact fr_inv (σ := Int) (f := f) (hi := hi) (P := fun i c => ¬ c = -1) (lo := x + 1) (s := f x (fr f lo x c)) (by omega) (hx _) (fun i c q1 q2 q3 => hk i c (by omega) q2 q3)
theorem tld_fh {A : An} {l s f : Int} (hA : AB A) (hW : WF A) (hl : 0 ≤ l ∧ l < A 0 0 2) (h : ¬ tld A l s f = -1) : ¬ fh A s f = -1 := by
  have hn := hA.n
  have hq := fnd_spec (p := fun j => tp A l s f (A 0 0 1 - 1 - j)) (lo := 0) (hi := A 0 0 1) (by omega)
  have hi : tlI A l s f < A 0 0 1 := by
    apply Classical.byContradiction
    intro q
    exact h (if_neg q)
  have e : tlI A l s f = fnd (fun j => tp A l s f (A 0 0 1 - 1 - j)) 0 (A 0 0 1) := rfl
  rw [← e] at hq
  obtain ⟨t, ht⟩ : ∃ t, t = A 0 0 1 - 1 - tlI A l s f := ⟨_, rfl⟩
  have hp := hq.2.2.2 hi
  rw [← ht] at hp
  obtain ⟨p1, p2, -⟩ := hp
  have val : ∀ i, 0 ≤ i → i < A 0 0 2 → hs A i t → ¬ A (20 + i) 3 t + A (20 + i) 4 1 = -1 := fun i q1 q2 q3 => by
    have w := (hW.l i t q1 q2 (by omega) (by omega)).1
    have b := hA.li i (by omega)
    have b3 := b.v3 t (by omega) (by omega)
    have b1 := b.s1
    have := q3.1
    omega
  have h1 : ¬ fhT A t = -1 := by
    unfold fhT
    refine fr_hit hl.1 hl.2 (fun c => ?_) (fun i c q1 q2 q3 => ?_)
    · unfold fhS
      by_cases q : c = -1
      · rw [if_pos ⟨p2, Or.inl q⟩]; exact val l hl.1 hl.2 p2
      · split
        · exact val l hl.1 hl.2 p2
        · exact q
    · unfold fhS
      split
      · next z => exact val i q1 q2 z.1
      · exact q3
  unfold fh
  refine fr_hit (x := t) (by omega) (by omega) (fun c => ?_) (fun i c q1 q2 q3 => ?_)
  · unfold fhF
    by_cases q : c = -1
    · rw [if_pos ⟨p1, h1, Or.inl q⟩]; exact h1
    · split
      · exact h1
      · exact q
  · unfold fhF
    split
    · next z => exact z.2.1
    · exact q3
/-- wrong ones, by facts: one line -/
def wgN (A : An) (s f c : Int) : Int := fr (fun l c => if wrg A l s f then c + 1 else c) 0 2 c
def wgT (A : An) : Int := fr (fun s c => fr (fun f c => wgN A s f c) 0 4 c) 0 2 0
theorem wgT_eq {A : An} (h0 : A 0 0 0 = 2) (h2 : A 0 0 2 = 2) : wgT A = cWA A := by
  have e : ∀ l s f c : Int, (if wrg A l s f then c + 1 else c) = c + bI (wrg A l s f) := fun l s f c => by
    by_cases h : wrg A l s f
    · rw [if_pos h, bI_t h]
    · rw [if_neg h, bI_f h]; omega
  have a : wgT A = fr (fun s c => fr (fun f c => fr (fun l c => c + bI (wrg A l s f)) 0 2 c) 0 4 c) 0 2 0 := by
    unfold wgT wgN
    exact fr_congr fun s c _ _ => fr_congr fun f c _ _ => fr_congr fun l c _ _ => e l s f c
  have b : cWA A = fr (fun l c => c + fr (fun s c => fr (fun f c => c + bI (wrg A l s f)) 0 4 c) 0 2 0) 0 2 0 := by
    unfold cWA cWr
    rw [h2, h0]
    exact fr_congr fun l c _ _ => congrArg (fun z => c + z) (fr_congr fun s c _ _ => fr_congr fun f c _ _ => e l s f c)
  rw [a, b]
  generalize hg : (fun l s f => bI (wrg A l s f)) = g
  have eg : ∀ l s f, bI (wrg A l s f) = g l s f := fun l s f => by rw [← hg]
  have a2 : fr (fun s c => fr (fun f c => fr (fun l c => c + bI (wrg A l s f)) 0 2 c) 0 4 c) 0 2 0 = fr (fun s c => fr (fun f c => fr (fun l c => c + g l s f) 0 2 c) 0 4 c) 0 2 0 := fr_congr fun s c _ _ => fr_congr fun f c _ _ => fr_congr fun l c _ _ => by rw [eg]
  have b2 : fr (fun l c => c + fr (fun s c => fr (fun f c => c + bI (wrg A l s f)) 0 4 c) 0 2 0) 0 2 0 = fr (fun l c => c + fr (fun s c => fr (fun f c => c + g l s f) 0 4 c) 0 2 0) 0 2 0 := fr_congr fun l c _ _ => congrArg (fun z => c + z) (fr_congr fun s c _ _ => fr_congr fun f c _ _ => by rw [eg])
  rw [a2, b2]
  have a3 : fr (fun s c => fr (fun f c => fr (fun l c => c + g l s f) 0 2 c) 0 4 c) 0 2 0 = 0 + g 0 0 0 + g 1 0 0 + g 0 0 1 + g 1 0 1 + g 0 0 2 + g 1 0 2 + g 0 0 3 + g 1 0 3 + g 0 1 0 + g 1 1 0 + g 0 1 1 + g 1 1 1 + g 0 1 2 + g 1 1 2 + g 0 1 3 + g 1 1 3 := rfl
  have b3 : fr (fun l c => c + fr (fun s c => fr (fun f c => c + g l s f) 0 4 c) 0 2 0) 0 2 0 = 0 + (0 + g 0 0 0 + g 0 0 1 + g 0 0 2 + g 0 0 3 + g 0 1 0 + g 0 1 1 + g 0 1 2 + g 0 1 3) + (0 + g 1 0 0 + g 1 0 1 + g 1 0 2 + g 1 0 3 + g 1 1 0 + g 1 1 1 + g 1 1 2 + g 1 1 3) := rfl
  rw [a3, b3]
  omega
