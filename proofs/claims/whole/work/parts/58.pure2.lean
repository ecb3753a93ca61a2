/-! ===== the model's proof is the class's ===== -/
theorem cn_congr {p q : Int → Prop} [DecidablePred p] [DecidablePred q] {lo hi : Int} (h : ∀ r, lo ≤ r → r < hi → (p r ↔ q r)) : cn p lo hi = cn q lo hi := by
  unfold cn
  refine fr_congr fun r c q1 q2 => ?_
  by_cases hp : p r
  · rw [if_pos hp, if_pos ((h r q1 q2).mp hp)]
  · rw [if_neg hp, if_neg (fun z => hp ((h r q1 q2).mpr z))]
theorem cn_tail {p : Int → Prop} [DecidablePred p] {lo mid hi : Int} (h1 : lo ≤ mid) (h2 : mid ≤ hi) (h : ∀ r, mid ≤ r → r < hi → ¬ p r) : cn p lo hi = cn p lo mid := by
  unfold cn
  rw [fr_split h1 h2]
  exact fr_id (f := fun r c => if p r then c + 1 else c) (fun r q1 q2 => if_neg (h r q1 q2))
theorem cn_bd {p : Int → Prop} [DecidablePred p] {lo hi : Int} : 0 ≤ cn p lo hi := by
  unfold cn
  by_cases hl : lo ≤ hi
  · exact fr_ge hl (fun i c _ _ => by split <;> omega)
  · rw [fr_end (by omega)]; omega
theorem cn_zero {p : Int → Prop} [DecidablePred p] {lo hi : Int} (h : cn p lo hi = 0) : ∀ r, lo ≤ r → r < hi → ¬ p r := by
  intro r q1 q2 hp
  have e1 : cn p lo hi = cn p lo r + cn p r hi := by
    have z : cn p lo hi = fr (fun r c => if p r then c + 1 else c) r hi (cn p lo r) := by
      show fr (fun r c => if p r then c + 1 else c) lo hi 0 = _
      rw [fr_split q1 (Int.le_of_lt q2)]
      rfl
    rw [z, cn_sh]
  have e2 : cn p r hi = 1 + cn p (r + 1) hi := by
    have z : cn p r hi = fr (fun r c => if p r then c + 1 else c) (r + 1) hi 1 := by
      show fr (fun r c => if p r then c + 1 else c) r hi 0 = _
      rw [fr_step q2, if_pos hp]
      rfl
    rw [z, cn_sh]
  have := cn_bd (p := p) (lo := lo) (hi := r)
  have := cn_bd (p := p) (lo := r + 1) (hi := hi)
  omega
theorem sR_sp {S F : Fn} {v r : Int} (h : SB S) : (∀ k, 0 ≤ k → k < S 2 0 → F 0 k = v → S 1 k = r → S 0 k ≤ sR S F v r) ∧ (sR S F v r = 0 ∨ ∃ k, (0 ≤ k ∧ k < S 2 0) ∧ (F 0 k = v ∧ S 1 k = r) ∧ S 0 k = sR S F v r) := by
  rw [sR_eq h]
  refine fr_inv (σ := Int) (f := mfoS S F v r) (hi := S 2 0) (P := fun i m => (∀ k, 0 ≤ k → k < i → F 0 k = v → S 1 k = r → S 0 k ≤ m) ∧ (m = 0 ∨ ∃ k, (0 ≤ k ∧ k < i) ∧ (F 0 k = v ∧ S 1 k = r) ∧ S 0 k = m)) (lo := 0) (s := 0) h.c.1 ⟨fun k _ _ => by omega, Or.inl rfl⟩ (fun i m q1 q2 hp => ?_)
  have hw := h.w i q1 q2
  unfold mfoS
  by_cases hc : F 0 i = v ∧ S 1 i = r
  · rw [if_pos hc]
    refine ⟨fun k a b c d => ?_, ?_⟩
    · by_cases e : k = i
      · rw [e]; omega
      · have := hp.1 k a (by omega) c d; omega
    · by_cases hm : m ≤ S 0 i
      · right; exact ⟨i, by omega, hc, by omega⟩
      · rcases hp.2 with z | ⟨k, a, b, c⟩
        · omega
        · right; exact ⟨k, by omega, b, by omega⟩
  · rw [if_neg hc]
    refine ⟨fun k a b c d => ?_, ?_⟩
    · by_cases e : k = i
      · rw [e] at c d; exact absurd ⟨c, d⟩ hc
      · exact hp.1 k a (by omega) c d
    · rcases hp.2 with z | ⟨k, a, b, c⟩
      · exact Or.inl z
      · right; exact ⟨k, by omega, b, c⟩
theorem mro_cn {S F : Fn} {v w : Int} (h : SB S) {q : Int → Prop} [DecidablePred q] (hq : ∀ r, 0 ≤ r → r < S 2 0 → (rtP S F v w r ↔ q r)) : mro S F v w = cn q 0 (S 2 0) := by
  unfold mro
  rw [bc_cn, cn_tail h.c.1 h.c.2 (fun r q1 q2 => ?_)]
  · exact cn_congr (fun r q1 q2 => (mro_bits h q1).trans (hq r q1 q2))
  · rw [mro_bits h (by have := h.c.1; omega)]
    rintro ⟨k, a, b, c⟩
    have := h.r k a.1 a.2
    omega
theorem mro_R {S F : Fn} {v : Int} (h : SB S) : mro S F v 0 = tR S F v := by
  have : tR S F v = cn (fun r => 0 < sR S F v r) 0 (S 2 0) := rfl
  rw [this]
  refine mro_cn h fun r q1 q2 => ?_
  obtain ⟨s1, s2⟩ := sR_sp (F := F) (v := v) (r := r) h
  constructor
  · rintro ⟨k, a, b, c⟩
    have := s1 k a.1 a.2 b.1 c
    have := h.w k a.1 a.2
    omega
  · intro z
    rcases s2 with e | ⟨k, a, b, c⟩
    · omega
    · exact ⟨k, a, ⟨b.1, Or.inl rfl⟩, b.2⟩
theorem mro_O {S F : Fn} {v : Int} (h : SB S) : mro S F v 3 = tO S F v := by
  have : tO S F v = cn (fun r => sR S F v r = 3) 0 (S 2 0) := rfl
  rw [this]
  refine mro_cn h fun r q1 q2 => ?_
  obtain ⟨s1, s2⟩ := sR_sp (F := F) (v := v) (r := r) h
  have hb := sR_bd (S := S) (F := F) (v := v) h r
  constructor
  · rintro ⟨k, a, b, c⟩
    have := s1 k a.1 a.2 b.1 c
    omega
  · intro z
    rcases s2 with e | ⟨k, a, b, c⟩
    · omega
    · exact ⟨k, a, ⟨b.1, Or.inr (by omega)⟩, b.2⟩
theorem mro_N {S F : Fn} {v : Int} (h : SB S) (h0 : tO S F v = 0) : mro S F v 2 = tN S F v := by
  have : tN S F v = cn (fun r => sR S F v r = 2) 0 (S 2 0) := rfl
  rw [this]
  have hz := cn_zero (p := fun r => sR S F v r = 3) (lo := 0) (hi := S 2 0) h0
  refine mro_cn h fun r q1 q2 => ?_
  obtain ⟨s1, s2⟩ := sR_sp (F := F) (v := v) (r := r) h
  have hb := sR_bd (S := S) (F := F) (v := v) h r
  have h3 := hz r q1 q2
  constructor
  · rintro ⟨k, a, b, c⟩
    have := s1 k a.1 a.2 b.1 c
    omega
  · intro z
    rcases s2 with e | ⟨k, a, b, c⟩
    · omega
    · exact ⟨k, a, ⟨b.1, Or.inr (by omega)⟩, b.2⟩
theorem tO_nn {S F : Fn} {v : Int} : 0 ≤ tO S F v := cn_bd (p := fun r => sR S F v r = 3)
theorem mpr_eq {S F : Fn} {v : Int} (h : SB S) : mpr S F v = pG S F v := by
  unfold mpr pG
  rw [mro_O h, mro_R h]
  have := tO_nn (S := S) (F := F) (v := v)
  by_cases hz : 0 < tO S F v
  · rw [if_pos hz, if_pos hz]
  · rw [if_neg hz, if_neg hz, mro_N h (by omega)]
    by_cases h2 : 1 < tN S F v
    · rw [if_pos h2, if_pos (show 2 ≤ tN S F v by omega)]
    · rw [if_neg h2, if_neg (show ¬ 2 ≤ tN S F v by omega)]
      by_cases h3 : 2 < tR S F v
      · rw [if_pos h3, if_pos (show 3 ≤ tR S F v by omega)]
      · rw [if_neg h3, if_neg (show ¬ 3 ≤ tR S F v by omega)]
