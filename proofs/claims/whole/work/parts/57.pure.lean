/-! ===== the model's weighing is the class's ===== -/
theorem fr_split {σ : Type} {f : Int → σ → σ} {lo mid hi : Int} {s : σ} (h1 : lo ≤ mid) (h2 : mid ≤ hi) : fr f lo hi s = fr f mid hi (fr f lo mid s) := by
  have := fr_inv (f := f) (hi := hi) (P := fun i x => x = fr f lo i s) (lo := mid) (s := fr f lo mid s) h2 rfl (fun i x q1 q2 e => by rw [fr_last (by omega), ← e])
  exact this.symm
theorem fr_id {σ : Type} {f : Int → σ → σ} {lo hi : Int} {s : σ} (h : ∀ i, lo ≤ i → i < hi → f i s = s) : fr f lo hi s = s := by
  by_cases hl : lo ≤ hi
  · have := fr_inv (f := f) (hi := hi) (P := fun _ x => x = s) (lo := lo) (s := s) hl rfl (fun i x q1 q2 e => by rw [e]; exact h i q1 q2)
    exact this
  · exact fr_end (by omega)
theorem sR_eq {S F : Fn} {v r : Int} (h : SB S) : sR S F v r = fr (mfoS S F v r) 0 (S 2 0) 0 := by
  have := fr_inv (σ := Int → Int) (f := wgS S F v) (hi := S 2 0) (P := fun i f => f r = fr (mfoS S F v r) 0 i 0) (lo := 0) (s := fun _ => 0) h.c.1 (fr_end (Int.le_refl _)).symm (fun i f q1 q2 e => by
    rw [fr_last q1, ← e]
    unfold wgS mfoS
    by_cases hv : F 0 i = v
    · rw [if_pos hv]
      by_cases hr : S 1 i = r
      · rw [if_pos hr.symm, if_pos ⟨hv, hr⟩, hr]
      · rw [if_neg (fun q => hr q.symm), if_neg (fun q => hr q.2)]
    · rw [if_neg hv, if_neg (fun q => hv q.1)])
  exact this
theorem mfo_in {S F : Fn} {v r : Int} (h : SB S) (hr : 0 ≤ r ∧ r ≤ S 2 0) : fr (mfoS S F v r) r (S 2 0) 0 = sR S F v r := by
  rw [sR_eq h, fr_split hr.1 hr.2, fr_id (lo := 0) (hi := r) (fun k q1 q2 => by
    have := h.r k q1 (by omega)
    unfold mfoS
    rw [if_neg (by omega)])]
theorem mfo_eq {S F : Fn} {v : Int} (h : SB S) : mfo S F v = tF S F v := by
  unfold mfo tF
  refine fr_congr fun r c q1 q2 => ?_
  (try dsimp only)
  rw [mfo_in h ⟨q1, by omega⟩]
  have := sR_bd (S := S) (F := F) (v := v) h r
  by_cases hz : 0 < sR S F v r
  · rw [if_pos hz]
  · rw [if_neg hz]; omega
/-! bits -/
theorem ins_bit {n r : Nat} : ins (n : Int) (r : Int) ↔ n.testBit r = true := by
  unfold ins
  rw [Int.toNat_natCast, Nat.testBit_eq_decide_div_mod_eq, decide_eq_true_eq]
  have e : ((n : Int) / 2 ^ r) % 2 = (((n / 2 ^ r) % 2 : Nat) : Int) := by
    push_cast
    rfl
  rw [e]
  omega
theorem ins_orb {x r r' : Int} (hx : 0 ≤ x) (hr : 0 ≤ r) (hr' : 0 ≤ r') : ins (orb x r') r ↔ ins x r ∨ r = r' := by
  obtain ⟨n, rfl⟩ : ∃ n : Nat, x = (n : Int) := ⟨x.toNat, by omega⟩
  obtain ⟨a, rfl⟩ : ∃ n : Nat, r = (n : Int) := ⟨r.toNat, by omega⟩
  obtain ⟨b, rfl⟩ : ∃ n : Nat, r' = (n : Int) := ⟨r'.toNat, by omega⟩
  unfold orb
  rw [ins_bit, ins_bit, Int.toNat_natCast, Int.toNat_natCast, Nat.testBit_or, Nat.one_shiftLeft, Nat.testBit_two_pow]
  simp
  constructor
  · rintro (h | h)
    · exact Or.inl h
    · exact Or.inr (by omega)
  · rintro (h | h)
    · exact Or.inl h
    · exact Or.inr (by omega)
theorem ins_0 {r : Int} : ¬ ins 0 r := by
  unfold ins
  simp
/-! how many roots -/
def cn (p : Int → Prop) [DecidablePred p] (lo hi : Int) : Int := fr (fun r c => if p r then c + 1 else c) lo hi 0
theorem cn_sh {p : Int → Prop} [DecidablePred p] {lo hi c : Int} : fr (fun r c => if p r then c + 1 else c) lo hi c = c + cn p lo hi := by
  by_cases hl : lo ≤ hi
  · have := fr_inv (σ := Int) (f := fun r c => if p r then c + 1 else c) (hi := hi) (P := fun i x => x = c + cn p lo i) (lo := lo) (s := c) hl (by unfold cn; rw [fr_end (by omega)]; omega) (fun i x q1 q2 e => by
      have z : cn p lo (i + 1) = if p i then cn p lo i + 1 else cn p lo i := by unfold cn; rw [fr_last q1]
      rw [z, e]
      split <;> omega)
    exact this
  · unfold cn; rw [fr_end (by omega), fr_end (by omega)]; omega
theorem bc_cn {x : Int} : bc x = cn (fun r => ins x r) 0 10 := by
  unfold cn
  have e : ∀ (r c : Int), (if ins x r then c + 1 else c) = c + bI (ins x r) := fun r c => by
    by_cases h : ins x r
    · rw [if_pos h, bI_t h]
    · rw [if_neg h, bI_f h]; omega
  rw [fr_congr (g := fun r c => c + bI (ins x r)) (fun r c _ _ => e r c)]
  have z : fr (fun r c => c + bI (ins x r)) 0 10 0 = 0 + bI (ins x 0) + bI (ins x 1) + bI (ins x 2) + bI (ins x 3) + bI (ins x 4) + bI (ins x 5) + bI (ins x 6) + bI (ins x 7) + bI (ins x 8) + bI (ins x 9) := rfl
  rw [z]
  unfold bc
  omega
/-- a source of weight w (0: any) with the root r says v -/
def rtP (S F : Fn) (v w r : Int) : Prop := ∃ k, (0 ≤ k ∧ k < S 2 0) ∧ (F 0 k = v ∧ (w = 0 ∨ S 0 k = w)) ∧ S 1 k = r
theorem mro_bits {S F : Fn} {v w r : Int} (h : SB S) (hr : 0 ≤ r) : ins (fr (mroS S F v w) 0 (S 2 0) 0) r ↔ rtP S F v w r := by
  have := fr_inv (σ := Int) (f := mroS S F v w) (hi := S 2 0) (P := fun i x => 0 ≤ x ∧ (ins x r ↔ ∃ k, (0 ≤ k ∧ k < i) ∧ (F 0 k = v ∧ (w = 0 ∨ S 0 k = w)) ∧ S 1 k = r)) (lo := 0) (s := 0) h.c.1 ⟨Int.le_refl _, ⟨fun z => absurd z ins_0, fun ⟨k, q, _⟩ => by omega⟩⟩ (fun i x q1 q2 hp => by
    have hri := h.r i q1 q2
    unfold mroS
    by_cases hc : F 0 i = v ∧ (w = 0 ∨ S 0 i = w)
    · rw [if_pos hc]
      refine ⟨by unfold orb; omega, ?_⟩
      rw [ins_orb hp.1 hr hri.1, hp.2]
      constructor
      · rintro (⟨k, a, b⟩ | z)
        · exact ⟨k, by omega, b⟩
        · exact ⟨i, by omega, hc, z.symm⟩
      · rintro ⟨k, a, b, c⟩
        by_cases e : k = i
        · right; rw [← c, e]
        · left; exact ⟨k, by omega, b, c⟩
    · rw [if_neg hc]
      refine ⟨hp.1, hp.2.trans ⟨fun ⟨k, a, b⟩ => ⟨k, by omega, b⟩, fun ⟨k, a, b, c⟩ => ?_⟩⟩
      by_cases e : k = i
      · rw [e] at b; exact absurd b hc
      · exact ⟨k, by omega, b, c⟩)
  exact this.2
