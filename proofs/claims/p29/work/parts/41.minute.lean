/-! ===== a minute of a line: its words are kept, they go at its speed ===== -/
theorem sm_pt {f g : Int → Int} {lo hi x d : Int} (h1 : lo ≤ x) (h2 : x < hi) (ho : ∀ i, i ≠ x → g i = f i) (hx : g x = f x + d) : sm g lo hi = sm f lo hi + d := by
  have sp : ∀ f : Int → Int, sm f lo hi = sm f lo x + f x + sm f (x + 1) hi := fun f => by
    have e : sm f lo hi = fr (fun i c => c + f i) (x + 1) hi (sm f lo x + f x) := by
      show fr (fun i c => c + f i) lo hi 0 = _
      rw [fr_split (mid := x) h1 (by omega), fr_step h2]
      rfl
    rw [e, sm_sh (by omega)]
  have a : sm g lo x = sm f lo x := by
    unfold sm
    exact fr_congr fun i c q1 q2 => by rw [ho i (by omega)]
  have b : sm g (x + 1) hi = sm f (x + 1) hi := by
    unfold sm
    exact fr_congr fun i c q1 q2 => by rw [ho i (by omega)]
  rw [sp g, sp f, a, b, hx]
  omega
def wq (L : Fn) : Int → Int := fun t => if 0 < L 0 t then L 0 t else 0
theorem cL_sm {L : Fn} : cL L = sm (wq L) 0 (L 4 4) := by
  unfold cL sm
  exact fr_congr fun t c _ _ => by
    unfold wq
    (try dsimp only)
    split <;> omega
theorem sn_43 {L : Fn} {m t g : Int} : sn L m t g 4 3 = L 4 3 + g := by
  unfold sn
  split
  · rw [lup_n (by omega), lup_s]
  · rw [lup_s]
theorem sn_2 {L : Fn} {m t g u : Int} : sn L m t g 2 u = L 2 u := by
  unfold sn
  split
  · rw [lup_n (by omega), lup_n (by omega), lup_n (by omega)]
  · rw [lup_n (by omega), lup_n (by omega)]
theorem sn_cL {L : Fn} {m t g : Int} (ht : 0 ≤ t ∧ t < L 4 4) (hp : 0 < L 0 t) (hg : 0 ≤ g ∧ g ≤ L 0 t) : cL (sn L m t g) = cL L - g := by
  rw [cL_sm, cL_sm, sn_4 (by omega)]
  have := sm_pt (f := wq L) (g := wq (sn L m t g)) (lo := 0) (hi := L 4 4) (x := t) (d := -g) ht.1 ht.2 (fun i hi => by unfold wq; rw [sn_0 hi]) (by
    unfold wq
    rw [sn_t.1, if_pos hp]
    split <;> omega)
  omega
theorem mU_none {L : Fn} {m : Int} (h4 : 0 ≤ L 4 4) (h : mU L m = -1) : ∀ t, 0 ≤ t → t < L 4 4 → ¬ (0 < L 0 t ∧ L 2 t ≤ m) := by
  have key := fr_inv (σ := Int) (f := mUs (L 0) (L 2) (L 1) m) (hi := L 4 4) (P := fun i b => (b = -1 → ∀ t, 0 ≤ t → t < i → ¬ (0 < L 0 t ∧ L 2 t ≤ m))) (lo := 0) (s := -1) h4 (fun _ t q1 q2 => by omega) (fun i b q1 q2 hp => by
    intro e t q3 q4
    unfold mUs at e
    by_cases hc : (0 < L 0 i ∧ L 2 i ≤ m) ∧ (b = -1 ∨ L 1 i < L 1 b)
    · rw [if_pos hc] at e; omega
    · rw [if_neg hc] at e
      by_cases ht : t = i
      · rw [ht]; exact fun z => hc ⟨z, Or.inl e⟩
      · exact hp e t q3 (by omega))
  exact key h
theorem cW_0 {L : Fn} {m : Int} (h4 : 0 ≤ L 4 4) (h : mU L m = -1) (hh : ∀ t, 0 ≤ t → t < L 4 4 → 0 < L 0 t → L 2 t ≤ m) : cW L = 0 := by
  unfold cW
  exact fr_id fun t q1 q2 => if_neg fun q => mU_none h4 h t q1 q2 ⟨q, hh t q1 q2 q⟩
theorem rS_fx {m : Int} (hm : 0 ≤ m ∧ m ≤ 20000) : ∀ (n : Nat) (L : Fn) (w s : Int), LB L → 0 ≤ w →
    (cL (rS (fun L => mU L m) m n L w s).1 + (rS (fun L => mU L m) m n L w s).1 4 3 = cL L + L 4 3 ∧ L 4 3 ≤ (rS (fun L => mU L m) m n L w s).1 4 3 ∧ (rS (fun L => mU L m) m n L w s).1 4 3 ≤ L 4 3 + w ∧ s ≤ (rS (fun L => mU L m) m n L w s).2) ∧
    (w ≤ (n : Int) → (rS (fun L => mU L m) m n L w s).1 4 3 = L 4 3 + w ∨ mU (rS (fun L => mU L m) m n L w s).1 m = -1) ∧ (∀ t, (rS (fun L => mU L m) m n L w s).1 0 t ≤ L 0 t) ∧ ∀ t, (rS (fun L => mU L m) m n L w s).1 2 t = L 2 t := by
  intro n
  induction n with
  | zero =>
    intro L w s hL hw
    refine ⟨⟨rfl, Int.le_refl _, ?_, Int.le_refl _⟩, fun q => Or.inl ?_, fun t => Int.le_refl _, fun t => rfl⟩
    · show L 4 3 ≤ L 4 3 + w; omega
    · show L 4 3 = L 4 3 + w; omega
  | succ n ih =>
    intro L w s hL hw
    have e : rS (fun L => mU L m) m (n + 1) L w s = if w ≤ 0 then (L, s) else if mU L m = -1 then (L, s) else rS (fun L => mU L m) m n (sn L m (mU L m) (min w (L 0 (mU L m)))) (w - min w (L 0 (mU L m))) (if L 0 (mU L m) - min w (L 0 (mU L m)) = 0 then s + 1 else s) := rfl
    rw [e]
    by_cases h0 : w ≤ 0
    · rw [if_pos h0]
      refine ⟨⟨rfl, Int.le_refl _, ?_, Int.le_refl _⟩, fun q => Or.inl ?_, fun t => Int.le_refl _, fun t => rfl⟩
      · show L 4 3 ≤ L 4 3 + w; omega
      · show L 4 3 = L 4 3 + w; omega
    · rw [if_neg h0]
      by_cases hu : mU L m = -1
      · rw [if_pos hu]
        refine ⟨⟨rfl, Int.le_refl _, ?_, Int.le_refl _⟩, fun q => Or.inr hu, fun t => Int.le_refl _, fun t => rfl⟩
        show L 4 3 ≤ L 4 3 + w; omega
      · rw [if_neg hu]
        obtain ⟨hv, b0, b1, b2, b4⟩ := id hL
        obtain ⟨u1, u2, u3, u4⟩ := (mU_spec (L := L) (minute := m) b4.1).resolve_left hu
        generalize mU L m = u at u1 u2 u3 u4
        obtain ⟨g, hg⟩ : ∃ g, g = min w (L 0 u) := ⟨_, rfl⟩
        have g1 : 1 ≤ g ∧ g ≤ w ∧ g ≤ L 0 u := by omega
        rw [← hg]
        have hL1 := sn_LB (m := m) (t := u) (g := g) hL (by omega) (by omega) hm
        obtain ⟨⟨i1, i2, i3, i4⟩, i5, i6, i7⟩ := ih (sn L m u g) (w - g) (if L 0 u - g = 0 then s + 1 else s) hL1 (by omega)
        rw [sn_43] at i1 i2 i3 i5
        rw [sn_cL ⟨u1, u2⟩ u3 (by omega)] at i1
        refine ⟨⟨by omega, by omega, by omega, ?_⟩, fun q => ?_, fun t => ?_, fun t => by rw [i7, sn_2]⟩
        · refine Int.le_trans ?_ i4
          split <;> omega
        · rcases i5 (by omega) with z | z
          · exact Or.inl (by omega)
          · exact Or.inr z
        · refine Int.le_trans (i6 t) ?_
          by_cases ht : t = u
          · rw [ht, sn_t.1]; omega
          · rw [sn_0 ht]; exact Int.le_refl _
/-- what a minute does -/
theorem rM_fx {L : Fn} {m : Int} (h : LB L) (hm : 0 ≤ m ∧ m ≤ 20000) : (cL (rM L m).1 + (rM L m).1 4 3 = cL L + L 4 3) ∧ (L 4 3 ≤ (rM L m).1 4 3 ∧ (rM L m).1 4 3 ≤ L 4 3 + L 4 0) ∧ 0 ≤ (rM L m).2 ∧ (0 < L 4 2 → (rM L m).1 4 3 = L 4 3) ∧ (¬ 0 < L 4 2 → (rM L m).1 4 3 = L 4 3 + L 4 0 ∨ mU (rM L m).1 m = -1) ∧ (∀ t, (rM L m).1 0 t ≤ L 0 t) ∧ ∀ t, (rM L m).1 2 t = L 2 t := by
  obtain ⟨hv, b0, b1, b2, b4⟩ := id h
  unfold rM
  by_cases hd : 0 < L 4 2
  · rw [if_pos hd]
    have e43 : lup L 4 2 (L 4 2 - 1) 4 3 = L 4 3 := lup_n (by omega)
    have ec : cL (lup L 4 2 (L 4 2 - 1)) = cL L := by
      unfold cL
      rw [lup_n (i' := 4) (t' := 4) (by omega)]
      exact fr_congr fun t c _ _ => by rw [lup_n (by omega)]
    refine ⟨?_, ?_, Int.le_refl _, fun _ => e43, fun q => absurd hd q, fun t => ?_, fun t => ?_⟩
    · show cL (lup L 4 2 (L 4 2 - 1)) + lup L 4 2 (L 4 2 - 1) 4 3 = _
      rw [ec, e43]
    · show L 4 3 ≤ lup L 4 2 (L 4 2 - 1) 4 3 ∧ lup L 4 2 (L 4 2 - 1) 4 3 ≤ L 4 3 + L 4 0
      rw [e43]; omega
    · show lup L 4 2 (L 4 2 - 1) 0 t ≤ L 0 t
      rw [lup_n (by omega)]; exact Int.le_refl _
    · show lup L 4 2 (L 4 2 - 1) 2 t = L 2 t
      rw [lup_n (by omega)]
  · rw [if_neg hd]
    obtain ⟨⟨i1, i2, i3, i4⟩, i5, i6, i7⟩ := rS_fx hm (L 4 0).toNat L (L 4 0) 0 h b0.1
    exact ⟨i1, ⟨i2, i3⟩, i4, fun q => absurd q hd, fun _ => i5 (by omega), i6, i7⟩
theorem rM_40 {L : Fn} {m : Int} : (rM L m).1 4 0 = L 4 0 := by
  unfold rM
  split
  · show lup L 4 2 (L 4 2 - 1) 4 0 = L 4 0
    exact lup_n (by omega)
  · exact rS_4 (by omega) _ _ _ _
theorem cL_bd {L : Fn} (h : LB L) : 0 ≤ cL L ∧ cL L ≤ 12200 := by
  obtain ⟨hv, b0, b1, b2, b4⟩ := id h
  have : 0 ≤ cL L ∧ cL L ≤ 200 * L 4 4 := by
    refine fr_inv (σ := Int) (f := fun t c => if 0 < L 0 t then c + L 0 t else c) (hi := L 4 4) (P := fun i c => 0 ≤ c ∧ c ≤ 200 * i) (lo := 0) (s := 0) b4.1 (by omega) ?_
    intro i c q1 q2 hp
    have := (hv i q1 (by omega)).1
    (try dsimp only)
    split <;> omega
  omega
theorem cW_bd {L : Fn} (h : LB L) : 0 ≤ cW L ∧ cW L ≤ 61 := by
  obtain ⟨hv, b0, b1, b2, b4⟩ := id h
  have : 0 ≤ cW L ∧ cW L ≤ L 4 4 := by
    refine fr_inv (σ := Int) (f := fun t c => if 0 < L 0 t then c + 1 else c) (hi := L 4 4) (P := fun i c => 0 ≤ c ∧ c ≤ i) (lo := 0) (s := 0) b4.1 (by omega) ?_
    intro i c q1 q2 hp
    (try dsimp only)
    split <;> omega
  omega
