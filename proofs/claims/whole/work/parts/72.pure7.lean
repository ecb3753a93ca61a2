/-! ===== the model's needs are the class's ===== -/
theorem stC_bestv {S F : Fn} {u : Int} (h : SB S) : Bst (fun v => (∃ k, (0 ≤ k ∧ k < S 2 0) ∧ F 0 k = v) ∧ (¬ v = -1 ∧ ¬ v = u) ∧ 0 < pG S F v) (tF S F) (fr (stS S F 1 u) 0 (S 2 0) (-1, 0)) := by
  refine fr_inv (σ := Int × Int) (f := stS S F 1 u) (hi := S 2 0) (P := fun i b => Bst (fun v => (∃ k, (0 ≤ k ∧ k < i) ∧ F 0 k = v) ∧ (¬ v = -1 ∧ ¬ v = u) ∧ 0 < pG S F v) (tF S F) b) (lo := 0) (s := (-1, 0)) h.c.1 (Or.inl ⟨⟨rfl, rfl⟩, fun c q => by obtain ⟨⟨k, a, _⟩, _⟩ := q; omega⟩) (fun i b q1 q2 hp => ?_)
  by_cases hx : (¬ F 0 i = -1 ∧ ¬ F 0 i = u) ∧ 0 < pG S F (F 0 i)
  · have := hp.add (x := F 0 i) (C' := fun v => (∃ k, (0 ≤ k ∧ k < i + 1) ∧ F 0 k = v) ∧ (¬ v = -1 ∧ ¬ v = u) ∧ 0 < pG S F v) (fun c => ⟨fun ⟨⟨k, a, e⟩, r⟩ => by
        by_cases ek : k = i
        · right; rw [← e, ek]
        · left; exact ⟨⟨k, by omega, e⟩, r⟩, fun q => by
        rcases q with ⟨⟨k, a, e⟩, r⟩ | q
        · exact ⟨⟨k, by omega, e⟩, r⟩
        · rw [q]; exact ⟨⟨i, by omega, rfl⟩, hx⟩⟩) (tF_pos h ⟨q1, q2⟩ rfl)
    have e : stS S F 1 u i b = if b.2 < tF S F (F 0 i) ∨ (tF S F (F 0 i) = b.2 ∧ F 0 i < b.1) then (F 0 i, tF S F (F 0 i)) else b := by
      unfold stS
      by_cases hc : b.2 < tF S F (F 0 i) ∨ (tF S F (F 0 i) = b.2 ∧ F 0 i < b.1)
      · rw [if_pos hc, if_pos ⟨hx.1.1, hx.1.2, hc, Or.inr hx.2⟩]
      · rw [if_neg hc, if_neg (fun q => hc q.2.2.1)]
    rw [e]; exact this
  · have e : stS S F 1 u i b = b := by
      unfold stS
      exact if_neg (fun q => hx ⟨⟨q.1, q.2.1⟩, q.2.2.2.resolve_left (by omega)⟩)
    rw [e]
    refine hp.ext fun c => ⟨fun ⟨⟨k, a, e⟩, r⟩ => ⟨⟨k, by omega, e⟩, r⟩, fun ⟨⟨k, a, e⟩, r⟩ => ⟨⟨k, ?_, e⟩, r⟩⟩
    by_cases ek : k = i
    · rw [ek] at e; rw [← e] at r; exact absurd r hx
    · omega
theorem tF_zero {S F : Fn} {v : Int} (h : SB S) (hz : tF S F v = 0) : tO S F v = 0 ∧ tN S F v = 0 ∧ tR S F v = 0 := by
  have hs : ∀ r, sR S F v r = 0 := fun r => by
    rcases (sR_sp (F := F) (v := v) (r := r) h).2 with q | ⟨k, q1, q2, -⟩
    · exact q
    · have := tF_pos h q1 q2.1; omega
  refine ⟨?_, ?_, ?_⟩
  · exact fr_id fun r q1 q2 => by (try dsimp only); rw [hs]; exact if_neg (by omega)
  · exact fr_id fun r q1 q2 => by (try dsimp only); rw [hs]; exact if_neg (by omega)
  · exact fr_id fun r q1 q2 => by (try dsimp only); rw [hs]; exact if_neg (by omega)
theorem mPv_of {S F : Fn} {v w k : Int} (h : SB S) (hw : 1 ≤ w ∧ w ≤ 3) (hk : 0 ≤ k) : mPv S F v w k ↔ 0 < grd (tO S F v + (if w = 3 then k else 0)) (tN S F v + (if w = 2 then k else 0)) (tR S F v + k) := by
  have b := t_bd (F := F) (v := v) h
  have g : ∀ o n r : Int, 0 < grd o n r ↔ 0 < o ∨ 2 ≤ n ∨ 3 ≤ r := fun o n r => by
    show 0 < (if 0 < o then (3 : Int) else if 2 ≤ n then 2 else if 3 ≤ r then 1 else 0) ↔ _
    split
    · omega
    · split
      · omega
      · split <;> omega
  have gp : 0 < pG S F v ↔ 0 < tO S F v ∨ 2 ≤ tN S F v ∨ 3 ≤ tR S F v := g _ _ _
  show (0 < mpr S F v ∨ (0 < k ∧ w = 3) ∨ (w = 2 ∧ 1 < mro S F v 2 + k) ∨ 2 < mro S F v 0 + k) ↔ _
  rw [g, mpr_eq h, gp, mro_R h]
  by_cases h0 : tO S F v = 0
  · rw [mro_N h h0]
    rcases (show w = 1 ∨ w = 2 ∨ w = 3 by omega) with e | e | e <;> (subst e; simp; omega)
  · rcases (show w = 1 ∨ w = 2 ∨ w = 3 by omega) with e | e | e <;> (subst e; simp; omega)
theorem fnd_congr {p q : Int → Prop} [DecidablePred p] [DecidablePred q] {lo hi : Int} (hl : lo ≤ hi) (h : ∀ i, lo ≤ i → i < hi → (p i ↔ q i)) : fnd p lo hi = fnd q lo hi := by
  have a := fnd_spec (p := p) hl
  have b := fnd_spec (p := q) hl
  rcases Int.lt_trichotomy (fnd p lo hi) (fnd q lo hi) with z | z | z
  · exact absurd ((h _ a.1 (by omega)).mp (a.2.2.2 (by omega))) (b.2.2.1 _ a.1 z)
  · exact z
  · exact absurd ((h _ b.1 (by omega)).mpr (b.2.2.2 (by omega))) (a.2.2.1 _ b.1 z)
theorem mTr_of {S F : Fn} {v w k : Int} (h : SB S) (hF0 : FB0 F) (hF : ∀ k, S 2 0 ≤ k → k < 10 → F 0 k = -1) (hv : 0 ≤ v ∧ v ≤ 99) (hw : 1 ≤ w ∧ w ≤ 3) (hk : 0 ≤ k) : mTr S F v w k ↔ neP S F v w k := by
  have hc := h.c
  have hm := mPv_of (F := F) (v := v) (k := k) h hw hk
  have hb := stC_bestv (F := F) (u := v) h
  have hkw : k * w = w * k := Int.mul_comm k w
  have fB := tF_bd (F := F) (v := v) h
  -- the others, as the model finds them
  have hCe : (fnd (mBt S F v (mfo S F v + k * w)) 0 100 < 100) ↔ ∃ o, ((∃ j, (0 ≤ j ∧ j < S 2 0) ∧ F 0 j = o) ∧ (¬ o = -1 ∧ ¬ o = v) ∧ 0 < pG S F o) ∧ (tF S F v + w * k < tF S F o ∨ tF S F o = tF S F v + w * k ∧ o < v) := by
    rw [fnd_lt (by omega)]
    constructor
    · rintro ⟨o, o1, o2, ⟨a1, a2, a3⟩, a4⟩
      obtain ⟨j, j1, j2, j3⟩ := (fnd_lt (p := fun k => F 0 k = o) (lo := 0) (hi := 10) (by omega)).mp a2
      have hj : j < S 2 0 := by
        apply Classical.byContradiction
        intro hn
        have := hF j (by omega) j2
        omega
      rw [mpr_eq h] at a3
      have pb := pG_bd (S := S) (F := F) (v := o)
      rw [mfo_eq h, mfo_eq h, hkw] at a4
      exact ⟨o, ⟨⟨j, ⟨j1, hj⟩, j3⟩, ⟨by omega, a1⟩, by omega⟩, a4⟩
    · rintro ⟨o, ⟨⟨j, j1, j2⟩, ⟨a1, a2⟩, a3⟩, a4⟩
      have ob := hF0.v0 j j1.1 (by omega)
      rw [j2] at ob
      refine ⟨o, by omega, by omega, ⟨a2, ?_, ?_⟩, ?_⟩
      · exact (fnd_lt (p := fun k => F 0 k = o) (lo := 0) (hi := 10) (by omega)).mpr ⟨j, j1.1, by omega, j2⟩
      · rw [mpr_eq h]; omega
      · rw [mfo_eq h, mfo_eq h, hkw]; exact a4
  show (mPv S F v w k ∧ ¬ fnd (mBt S F v (mfo S F v + k * w)) 0 100 < 100) ↔ _
  rw [hCe, hm]
  have hst : stC S F 1 v = (fr (stS S F 1 v) 0 (S 2 0) (-1, 0)).1 := rfl
  generalize fr (stS S F 1 v) 0 (S 2 0) (-1, 0) = b at hb hst
  have hpos : 0 < grd (tO S F v + (if w = 3 then k else 0)) (tN S F v + (if w = 2 then k else 0)) (tR S F v + k) → 0 < tF S F v + w * k := fun q => by
    by_cases h0 : k = 0
    · subst h0
      by_cases hz : tF S F v = 0
      · obtain ⟨z1, z2, z3⟩ := tF_zero h hz
        rw [z1, z2, z3] at q
        exfalso
        revert q
        rcases (show w = 1 ∨ w = 2 ∨ w = 3 by omega) with e | e | e <;> (subst e; decide)
      · omega
    · have : 0 < w * k := Int.mul_pos (by omega) (by omega)
      omega
  show _ ↔ ((if stC S F 1 v = -1 then 0 else tF S F (stC S F 1 v)) < tF S F v + w * k ∨ (tF S F v + w * k = (if stC S F 1 v = -1 then 0 else tF S F (stC S F 1 v)) ∧ v < stC S F 1 v)) ∧ _
  rw [hst]
  generalize w * k = wk at *
  rcases hb with ⟨⟨b1, b2⟩, b3⟩ | ⟨⟨⟨j, j1, j2⟩, ⟨c1, c2⟩, c3⟩, b2, b3⟩
  · rw [if_pos b1]
    constructor
    · rintro ⟨q1, -⟩
      exact ⟨Or.inl (hpos q1), q1⟩
    · rintro ⟨-, q1⟩
      exact ⟨q1, fun ⟨o, o1, _⟩ => b3 o o1⟩
  · rw [if_neg c1]
    constructor
    · rintro ⟨q1, q2⟩
      refine ⟨?_, q1⟩
      have hq : ¬ (tF S F v + wk < tF S F b.1 ∨ tF S F b.1 = tF S F v + wk ∧ b.1 < v) := fun z => q2 ⟨b.1, ⟨⟨j, j1, j2⟩, ⟨c1, c2⟩, c3⟩, z⟩
      omega
    · rintro ⟨q1, q2⟩
      refine ⟨q2, fun ⟨o, o1, o2⟩ => ?_⟩
      have := b3 o o1
      omega
theorem mNe_eq {S F : Fn} {v w : Int} (h : SB S) (hF0 : FB0 F) (hF : ∀ k, S 2 0 ≤ k → k < 10 → F 0 k = -1) (hv : 0 ≤ v ∧ v ≤ 99) (hw : 1 ≤ w ∧ w ≤ 3) : mNe S F v w = nee S F v w := by
  have e : fnd (mTr S F v w) 0 11 = fnd (neP S F v w) 0 11 := fnd_congr (by omega) (fun k q1 q2 => mTr_of h hF0 hF hv hw q1)
  unfold mNe nee
  rw [e]
/-! ===== when a take comes: the model's way is the class's ===== -/
theorem sn_3 {L : Fn} {m t g u : Int} (h : u ≠ t) : sn L m t g 3 u = L 3 u := by
  unfold sn
  split
  · rw [lup_n (by omega), lup_n (by omega), lup_n (by omega)]
  · rw [lup_n (by omega), lup_n (by omega)]
theorem sn_t {L : Fn} {m t g : Int} : sn L m t g 0 t = L 0 t - g ∧ sn L m t g 3 t = if L 0 t - g = 0 then m else L 3 t := by
  unfold sn
  by_cases hz : L 0 t - g = 0
  · rw [if_pos hz, if_pos hz, lup_n (by omega), lup_n (by omega), lup_s, lup_s]
    exact ⟨rfl, rfl⟩
  · rw [if_neg hz, if_neg hz, lup_n (by omega), lup_s, lup_n (by omega), lup_n (by omega)]
    exact ⟨rfl, rfl⟩
/-- a take's words and its minute behind a minute's steps -/
def St1 (L L' : Fn) (m t : Int) : Prop := (L 0 t ≤ 0 → L' 0 t = L 0 t ∧ L' 3 t = L 3 t) ∧ (0 < L 0 t → (0 < L' 0 t ∧ L' 3 t = L 3 t) ∨ (L' 0 t = 0 ∧ L' 3 t = m))
theorem St1.tr {L L' L2 : Fn} {m t : Int} (h : St1 L L' m t) (h' : St1 L' L2 m t) : St1 L L2 m t := by
  refine ⟨fun q => ?_, fun q => ?_⟩
  · have a := h.1 q
    have b := h'.1 (by omega)
    exact ⟨b.1.trans a.1, b.2.trans a.2⟩
  · rcases h.2 q with ⟨a1, a2⟩ | ⟨a1, a2⟩
    · rcases h'.2 a1 with ⟨b1, b2⟩ | b
      · exact Or.inl ⟨b1, b2.trans a2⟩
      · exact Or.inr b
    · have b := h'.1 (by omega)
      exact Or.inr ⟨b.1.trans a1, b.2.trans a2⟩
theorem rS_t {m t : Int} : ∀ (n : Nat) (L : Fn) (w s : Int), 0 ≤ L 4 4 → St1 L (rS (fun L => mU L m) m n L w s).1 m t := by
  intro n
  induction n with
  | zero => intro L w s _; exact ⟨fun _ => ⟨rfl, rfl⟩, fun q => Or.inl ⟨q, rfl⟩⟩
  | succ n ih =>
    intro L w s h4
    have e : rS (fun L => mU L m) m (n + 1) L w s = if w ≤ 0 then (L, s) else if mU L m = -1 then (L, s) else rS (fun L => mU L m) m n (sn L m (mU L m) (min w (L 0 (mU L m)))) (w - min w (L 0 (mU L m))) (if L 0 (mU L m) - min w (L 0 (mU L m)) = 0 then s + 1 else s) := rfl
    rw [e]
    by_cases hw : w ≤ 0
    · rw [if_pos hw]; exact ⟨fun _ => ⟨rfl, rfl⟩, fun q => Or.inl ⟨q, rfl⟩⟩
    · rw [if_neg hw]
      by_cases hu : mU L m = -1
      · rw [if_pos hu]; exact ⟨fun _ => ⟨rfl, rfl⟩, fun q => Or.inl ⟨q, rfl⟩⟩
      · rw [if_neg hu]
        have hs := (mU_spec (L := L) (minute := m) h4).resolve_left hu
        refine St1.tr (L' := sn L m (mU L m) (min w (L 0 (mU L m)))) ?_ (ih _ _ _ (by rw [sn_4 (by omega)]; exact h4))
        by_cases ht : t = mU L m
        · obtain ⟨a1, a2⟩ := sn_t (L := L) (m := m) (t := mU L m) (g := min w (L 0 (mU L m)))
          rw [ht]
          refine ⟨fun q => by omega, fun q => ?_⟩
          rw [a1, a2]
          by_cases hz : L 0 (mU L m) - min w (L 0 (mU L m)) = 0
          · rw [if_pos hz]; exact Or.inr ⟨hz, rfl⟩
          · rw [if_neg hz]; exact Or.inl ⟨by omega, rfl⟩
        · rw [St1, sn_0 ht, sn_3 ht]
          exact ⟨fun _ => ⟨rfl, rfl⟩, fun q => Or.inl ⟨q, rfl⟩⟩
theorem rM_t {L : Fn} {m t : Int} (h4 : 0 ≤ L 4 4) : St1 L (rM L m).1 m t := by
  unfold rM
  split
  · refine ⟨fun _ => ⟨?_, ?_⟩, fun q => Or.inl ⟨?_, ?_⟩⟩
    · show lup L 4 2 (L 4 2 - 1) 0 t = L 0 t
      exact lup_n (by omega)
    · show lup L 4 2 (L 4 2 - 1) 3 t = L 3 t
      exact lup_n (by omega)
    · show 0 < lup L 4 2 (L 4 2 - 1) 0 t
      rw [lup_n (by omega)]; exact q
    · show lup L 4 2 (L 4 2 - 1) 3 t = L 3 t
      exact lup_n (by omega)
  · exact rS_t _ _ _ _ h4
theorem rI_44 {L : Fn} {u i : Int} (hi : 0 ≤ i) : rI L u i 4 4 = L 4 4 ∧ rI L u i 4 1 = L 4 1 := by
  have key : ∀ n : Nat, rI L u (n : Int) 4 4 = L 4 4 ∧ rI L u (n : Int) 4 1 = L 4 1 := by
    intro n
    induction n with
    | zero => show rI L u 0 4 4 = L 4 4 ∧ rI L u 0 4 1 = L 4 1; rw [rI_0]; exact ⟨rfl, rfl⟩
    | succ n ih =>
      show rI L u ((n : Int) + 1) 4 4 = L 4 4 ∧ rI L u ((n : Int) + 1) 4 1 = L 4 1
      rw [rI_s (by omega), rM_44, rM_41]; exact ih
  have := key i.toNat
  rwa [show ((i.toNat : Nat) : Int) = i by omega] at this
/-- one that is sent stays so -/
theorem rI_sent {L : Fn} {u t i j : Int} (h4 : 0 ≤ L 4 4) (hi : 0 ≤ i) (hj : i ≤ j) (h0 : rI L u i 0 t = 0) : rI L u j 0 t = 0 ∧ rI L u j 3 t = rI L u i 3 t := by
  have key : ∀ n : Nat, rI L u (i + (n : Int)) 0 t = 0 ∧ rI L u (i + (n : Int)) 3 t = rI L u i 3 t := by
    intro n
    induction n with
    | zero => rw [show i + ((0 : Nat) : Int) = i by omega]; exact ⟨h0, rfl⟩
    | succ n ih =>
      rw [show i + ((n + 1 : Nat) : Int) = (i + (n : Int)) + 1 by omega, rI_s (by omega)]
      have z := (rM_t (L := rI L u (i + (n : Int))) (m := u + (i + (n : Int) + 1)) (t := t) (by rw [(rI_44 (by omega)).1]; exact h4)).1 (by omega)
      exact ⟨z.1.trans ih.1, z.2.trans ih.2⟩
  have := key (j - i).toNat
  rwa [show i + (((j - i).toNat : Nat) : Int) = j by omega] at this
/-- one that is not sent is as it was, but for its words -/
theorem rI_not {L : Fn} {u t i : Int} (h4 : 0 ≤ L 4 4) (h0 : 0 < L 0 t) (hi : 0 ≤ i) (hn : ∀ j, 1 ≤ j → j ≤ i → ¬ rI L u j 0 t = 0) : 0 < rI L u i 0 t ∧ rI L u i 3 t = L 3 t := by
  have key : ∀ n : Nat, (n : Int) ≤ i → 0 < rI L u (n : Int) 0 t ∧ rI L u (n : Int) 3 t = L 3 t := by
    intro n
    induction n with
    | zero => intro _; show 0 < rI L u 0 0 t ∧ rI L u 0 3 t = L 3 t; rw [rI_0]; exact ⟨h0, rfl⟩
    | succ n ih =>
      intro hle
      obtain ⟨a1, a2⟩ := ih (by omega)
      have hx := hn ((n : Int) + 1) (by omega) (by omega)
      show 0 < rI L u ((n : Int) + 1) 0 t ∧ rI L u ((n : Int) + 1) 3 t = L 3 t
      rw [rI_s (by omega)] at hx ⊢
      rcases (rM_t (L := rI L u (n : Int)) (m := u + ((n : Int) + 1)) (t := t) (by rw [(rI_44 (by omega)).1]; exact h4)).2 a1 with ⟨b1, b2⟩ | ⟨b1, -⟩
      · exact ⟨b1, b2.trans a2⟩
      · exact absurd b1 hx
  have := key i.toNat (by omega)
  rwa [show ((i.toNat : Nat) : Int) = i by omega] at this
theorem rI_at {L : Fn} {u t i : Int} (h4 : 0 ≤ L 4 4) (h0 : 0 < L 0 t) (hi : 1 ≤ i) (hn : ∀ j, 1 ≤ j → j < i → ¬ rI L u j 0 t = 0) (h : rI L u i 0 t = 0) : rI L u i 3 t = u + i := by
  obtain ⟨a1, a2⟩ := rI_not (u := u) h4 h0 (show 0 ≤ i - 1 by omega) (fun j q1 q2 => hn j q1 (by omega))
  have e : rI L u i = (rM (rI L u (i - 1)) (u + i)).1 := rI_1 (by omega)
  rw [e] at h ⊢
  rcases (rM_t (L := rI L u (i - 1)) (m := u + i) (t := t) (by rw [(rI_44 (by omega)).1]; exact h4)).2 a1 with ⟨b1, b2⟩ | ⟨b1, b2⟩
  · omega
  · exact b2
theorem mAr_pos {L : Fn} {t u : Int} (hB : LB L) (h0 : 0 < L 0 t) (h3 : L 3 t = -1) (hu : 0 ≤ u) : mAr L t u = rU L t u := by
  have h4 := hB.s4.1
  have h1 := hB.s1
  have b := fnd_spec (p := fun i => rI L u i 0 t = 0) (lo := 1) (hi := 100 - L 4 1) (by omega)
  have a := fnd_spec (p := fun i => mHas (rI L u i) t (u + i)) (lo := 0) (hi := 100) (by omega)
  unfold mAr rU
  rw [if_neg (by omega)]
  generalize ea : fnd (fun i => mHas (rI L u i) t (u + i)) 0 100 = fa at a ⊢
  generalize eb : fnd (fun i => rI L u i 0 t = 0) 1 (100 - L 4 1) = fb at b ⊢
  obtain ⟨a1, a2, a3, a4⟩ := a
  obtain ⟨b1, b2, b3, b4⟩ := b
  by_cases hb : fb < 100 - L 4 1
  · rw [if_pos hb]
    have z := b4 hb
    have y := rI_at h4 h0 b1 b3 z
    have hfa : fa = fb + L 4 1 := by
      rcases Int.lt_trichotomy fa (fb + L 4 1) with q | q | q
      · exfalso
        obtain ⟨c1, c2⟩ := a4 (by omega)
        by_cases hlt : fa < fb
        · have w := (rI_not (u := u) h4 h0 a1 (fun j p1 p2 => b3 j p1 (by omega))).2
          exact c1 (w.trans h3)
        · have w := (rI_sent (u := u) (t := t) h4 (show 0 ≤ fb by omega) (show fb ≤ fa by omega) z).2
          rw [w, y, (rI_44 a1).2] at c2
          omega
      · exact q
      · exfalso
        have w := (rI_sent (u := u) (t := t) h4 (show 0 ≤ fb by omega) (show fb ≤ fb + L 4 1 by omega) z).2
        refine a3 (fb + L 4 1) (by omega) q ⟨?_, ?_⟩
        · rw [w, y]; omega
        · rw [w, y, (rI_44 (by omega)).2]; omega
    rw [if_pos (by omega), hfa]
  · rw [if_neg hb]
    have hfa : ¬ fa < 100 := fun q => by
      obtain ⟨c1, c2⟩ := a4 q
      -- the first minute in which it was sent
      have d := fnd_spec (p := fun i => rI L u i 0 t = 0) (lo := 1) (hi := 101) (by omega)
      generalize fnd (fun i => rI L u i 0 t = 0) 1 101 = fd at d
      obtain ⟨d1, d2, d3, d4⟩ := d
      by_cases hd : fd ≤ fa
      · have z := d4 (by omega)
        have y := rI_at h4 h0 d1 d3 z
        have w := (rI_sent (u := u) (t := t) h4 (show 0 ≤ fd by omega) hd z).2
        rw [w, y, (rI_44 a1).2] at c2
        exact b3 fd d1 (by omega) z
      · have w := (rI_not (u := u) h4 h0 a1 (fun j p1 p2 => d3 j p1 (by omega))).2
        exact c1 (w.trans h3)
    rw [if_neg hfa]
theorem mAr_zero {L : Fn} {t u : Int} (hB : LB L) (h0 : L 0 t = 0) (h3 : 0 ≤ L 3 t ∧ L 3 t ≤ u) : mAr L t u = max 0 (L 3 t + L 4 1 - u) := by
  have h4 := hB.s4.1
  have h1 := hB.s1
  have a := fnd_spec (p := fun i => mHas (rI L u i) t (u + i)) (lo := 0) (hi := 100) (by omega)
  have s : ∀ i, 0 ≤ i → rI L u i 3 t = L 3 t := fun i hi => by
    have z := (rI_sent (L := L) (u := u) (t := t) h4 (Int.le_refl 0) hi (by rw [rI_0]; exact h0)).2
    rw [z, rI_0]
  unfold mAr
  rw [if_neg (by omega)]
  generalize fnd (fun i => mHas (rI L u i) t (u + i)) 0 100 = fa at a ⊢
  obtain ⟨a1, a2, a3, a4⟩ := a
  have hfa : fa = max 0 (L 3 t + L 4 1 - u) := by
    rcases Int.lt_trichotomy fa (max 0 (L 3 t + L 4 1 - u)) with q | q | q
    · exfalso
      obtain ⟨c1, c2⟩ := a4 (by omega)
      rw [s fa a1, (rI_44 a1).2] at c2
      omega
    · exact q
    · exfalso
      refine a3 (max 0 (L 3 t + L 4 1 - u)) (by omega) q ⟨?_, ?_⟩
      · rw [s _ (by omega)]; omega
      · rw [s _ (by omega), (rI_44 (by omega)).2]; omega
  rw [if_pos (by omega), hfa]
/-- what was sent was sent by now -/
def SN (A : An) : Prop := ∀ l t, 0 ≤ l → l < A 0 0 2 → 0 ≤ t → t < 61 → A (20 + l) 3 t ≤ A 0 0 3
theorem mAr_eq {A : An} {l t : Int} (hA : AB A) (hW : WF A) (hS : SN A) (hl : 0 ≤ l ∧ l < A 0 0 2) (ht : 0 ≤ t ∧ t < A 0 0 1) : mAr (lup (A (20 + l)) 4 3 0) t (A 0 0 3) = arr A l t := by
  have hn := hA.n
  have hB := hA.li l (by omega)
  have hw := (hW.l l t hl.1 hl.2 ht.1 (by omega)).1
  have hv := hB.v0 t ht.1 (by omega)
  have hv3 := hB.v3 t ht.1 (by omega)
  rw [mAr_43 (Eq43.l 0)]
  unfold arr
  by_cases h1 : A (20 + l) 0 t = -1
  · rw [if_pos h1]; unfold mAr; rw [if_pos h1]
  · rw [if_neg h1]
    by_cases h0 : A (20 + l) 0 t = 0
    · rw [if_pos h0]
      exact mAr_zero hB h0 ⟨by omega, hS l t hl.1 hl.2 ht.1 (by omega)⟩
    · rw [if_neg h0]
      exact mAr_pos hB (by omega) (by omega) (by omega)
theorem mWo_eq {A : An} {l k w : Int} (hA : AB A) (hW : WF A) (hl : 0 ≤ l ∧ l < A 0 0 2) (hk : 0 ≤ k ∧ k ≤ 4) (hw : 1 ≤ w ∧ w ≤ 200) : mWo A l k w = wou A l k w := by
  have hn := hA.n
  have hB := hA.li l (by omega)
  have hx := (hW.l l (A 0 0 1) hl.1 hl.2 (by omega) (by omega)).1
  have hy := hW.n l (A 0 0 1) hl.1 hl.2 (Int.le_refl _) (by omega)
  unfold mWo wou
  have e43 : Eq43 (enq (lup (A (20 + l)) 4 3 0) (A 0 0 1) k w 0) (enq (A (20 + l)) (A 0 0 1) k w 0) := by
    unfold enq
    exact ((((Eq43.l (L := A (20 + l)) 0).up _ _ _).up _ _ _).up _ _ _).up _ _ _
  rw [mAr_43 e43]
  refine mAr_pos (enq_LB hB (by omega) (by omega) (by omega) (by omega)) ?_ ?_ (by omega)
  · unfold enq; rw [lup_n (by omega), lup_n (by omega), lup_n (by omega), lup_s]; omega
  · unfold enq; rw [lup_n (by omega), lup_n (by omega), lup_n (by omega), lup_n (by omega)]; exact hx.mpr (by omega)
/-! ===== the digests ===== -/
theorem mdig_eq {A : An} (hA : AB A) (hW : WF A) : mdig A = dig A := by
  have hn := hA.n
  have e1 : ∀ x, mdA A x = dgA A x := fun x => by
    unfold mdA dgA
    exact fr_congr fun w d q1 q2 => by rw [mnM_eq hA hW]
  have e2 : ∀ x, mdSt A x = dgS A x := fun x => by
    have a : fr (fun s d => fr (fun f d => (fr (fun w d => d * 31 + wr (moF A s f w)) 0 7 d) * 31 + wr (mNe (A 10) (A (100 + (s * 4 + f))) 50 2)) 0 4 d) 0 (A 0 0 0) x = fr (fun s d => fr (fun f d => (fr (fun w d => d * 31 + wr (oFa A s f w)) 0 7 d) * 31 + wr (nee (A 10) (A (100 + (s * 4 + f))) 50 2)) 0 4 d) 0 (A 0 0 0) x := fr_congr fun s d q1 q2 => by
      refine fr_congr fun f d q3 q4 => ?_
      have b : fr (fun w d => d * 31 + wr (moF A s f w)) 0 7 d = fr (fun w d => d * 31 + wr (oFa A s f w)) 0 7 d := fr_congr fun w d q5 q6 => by rw [moF_eq hA hW ⟨q1, q2⟩ ⟨q3, q4⟩]
      rw [b, mNe_eq hA.so (hA.fa (s * 4 + f) (by omega)).f0 (hW.none (by omega)) (by omega) (by omega)]
    unfold mdSt dgS
    rw [a]
    exact fr_congr fun s d q1 q2 => by rw [mLe_eq hA hW ⟨q1, q2⟩]
  have e3 : ∀ x, mdL A x = dgL A x := fun x => by
    unfold mdL dgL
    exact fr_congr fun l d q1 q2 => by rw [mWo_eq hA hW ⟨q1, q2⟩ (by omega) (by omega)]
  unfold mdig dig
  rw [e1, e2, e3]
theorem nWt_sm {A : An} {s f : Int} : nWt A s f = cn (fun t => wth A s f t) 0 (A 0 0 1) := rfl
theorem cn_sm {p : Int → Prop} [DecidablePred p] {lo hi : Int} (h : lo ≤ hi) : cn p lo hi = sm (fun i => if p i then 1 else 0) lo hi := by
  unfold cn sm
  exact fr_congr fun i c q1 q2 => by (try dsimp only); split <;> omega
theorem sm_le {f : Int → Int} {lo hi k : Int} (h : lo ≤ hi) (hf : ∀ i, lo ≤ i → i < hi → f i ≤ k) : sm f lo hi ≤ k * (hi - lo) := by
  have := fr_inv (σ := Int) (f := fun i c => c + f i) (hi := hi) (P := fun i c => c ≤ k * (i - lo)) (lo := lo) (s := 0) h (by rw [Int.sub_self, Int.mul_zero]; exact Int.le_refl _) (fun i c q1 q2 hp => by
    have := hf i q1 q2
    have e : k * (i + 1 - lo) = k * (i - lo) + k := by rw [show i + 1 - lo = (i - lo) + 1 by omega, Int.mul_add, Int.mul_one]
    show c + f i ≤ _
    rw [e]; omega)
  exact this
theorem sm_at {f : Int → Int} {x lo hi k : Int} (h : lo ≤ hi) (h0 : ∀ i, lo ≤ i → i < hi → i ≠ x → f i = 0) (hx : f x ≤ k) (hk : 0 ≤ k) : sm f lo hi ≤ k := by
  have := fr_inv (σ := Int) (f := fun i c => c + f i) (hi := hi) (P := fun i c => (i ≤ x ∧ c = 0) ∨ (x < i ∧ c ≤ k)) (lo := lo) (s := 0) h (by omega) (fun i c q1 q2 hp => by
    show (i + 1 ≤ x ∧ c + f i = 0) ∨ (x < i + 1 ∧ c + f i ≤ k)
    by_cases e : i = x
    · right; rw [e]; omega
    · have := h0 i q1 q2 e; omega)
  rcases this with ⟨_, z⟩ | ⟨_, z⟩
  · show sm f lo hi ≤ k
    unfold sm; omega
  · exact z
theorem nWA_bd {A : An} (hA : AB A) : 0 ≤ nWA A ∧ nWA A ≤ 4 * A 0 0 1 := by
  have hn := hA.n
  refine ⟨nWA_nn hA, ?_⟩
  have e : nWA A = sm (fun s => sm (fun t => sm (fun f => if wth A s f t then 1 else 0) 0 4) 0 (A 0 0 1)) 0 (A 0 0 0) := by
    show fr (fun s c => fr (fun f c => c + nWt A s f) 0 4 c) 0 (A 0 0 0) 0 = fr (fun s c => c + sm (fun t => sm (fun f => if wth A s f t then 1 else 0) 0 4) 0 (A 0 0 1)) 0 (A 0 0 0) 0
    refine fr_congr fun s c q1 q2 => ?_
    show fr (fun f c => c + nWt A s f) 0 4 c = _
    rw [sm_sh (f := fun f => nWt A s f) (by omega)]
    have a : sm (fun f => nWt A s f) 0 4 = sm (fun f => sm (fun t => if wth A s f t then 1 else 0) 0 (A 0 0 1)) 0 4 := by
      show fr (fun f c => c + nWt A s f) 0 4 0 = fr (fun f c => c + sm (fun t => if wth A s f t then 1 else 0) 0 (A 0 0 1)) 0 4 0
      exact fr_congr fun f c q3 q4 => by (try dsimp only); rw [nWt_sm, cn_sm (by omega)]
    rw [a, sm_swap (f := fun f t => if wth A s f t then 1 else 0) (by omega) (by omega)]
  rw [e, sm_swap (f := fun s t => sm (fun f => if wth A s f t then 1 else 0) 0 4) (by omega) (by omega)]
  have z := sm_le (f := fun t => sm (fun s => sm (fun f => if wth A s f t then 1 else 0) 0 4) 0 (A 0 0 0)) (lo := 0) (hi := A 0 0 1) (k := 4) (by omega) (fun t q1 q2 => by
    refine sm_at (x := A (200 + t) 1 0) (by omega) (fun s p1 p2 p3 => ?_) ?_ (by omega)
    · show fr (fun f c => c + (if wth A s f t then 1 else 0)) 0 4 0 = 0
      exact fr_id fun f p4 p5 => by (try dsimp only); rw [if_neg (fun q => p3 q.1.symm)]; omega
    · have y := sm_le (f := fun f => if wth A (A (200 + t) 1 0) f t then (1 : Int) else 0) (lo := 0) (hi := 4) (k := 1) (by omega) (fun f _ _ => by (try dsimp only); split <;> omega)
      omega)
  omega
theorem kD0_eq {A : An} : kD0 A = 2 + nWA A := by
  unfold kD0
  rw [fr_step (by omega), fr_step (by omega), fr_step (by omega), fr_step (by omega), fr_step (by omega), fr_step (by omega), fr_step (by omega), fr_step (by omega), fr_step (by omega), fr_step (by omega), fr_step (by omega), fr_end (by omega)]
  unfold kF0 kMn
  simp
  try omega
theorem kF2_eq {A : An} {s f c : Int} : kF2 A s f c = c + 2 * nWt A s f := by
  unfold kF2
  rw [fr_step (by omega), fr_step (by omega), fr_step (by omega), fr_step (by omega), fr_step (by omega), fr_step (by omega), fr_step (by omega), fr_end (by omega)]
  unfold kF3 kWf
  simp
  try omega
theorem kD1_eq {A : An} (hA : AB A) : kD1 A = 2 + 3 * nWA A := by
  have hn := hA.n
  have e : ∀ c, fr (kF1 A) 0 (A 0 0 0) c = c + 2 * nWA A := fun c => by
    have a : ∀ (s c : Int), kF1 A s c = c + 2 * sm (fun f => nWt A s f) 0 4 := fun s c => by
      have b : kF1 A s c = fr (fun f c => c + 2 * nWt A s f) 0 4 c := fr_congr fun f d _ _ => kF2_eq
      rw [b, sm_sh (f := fun f => 2 * nWt A s f) (by omega)]
      have d : (fun f => 2 * nWt A s f) = (fun f => nWt A s f + nWt A s f) := funext fun f => by omega
      have z : sm (fun f => nWt A s f + nWt A s f) 0 4 = sm (fun f => nWt A s f) 0 4 + sm (fun f => nWt A s f) 0 4 := sm_add (by omega)
      rw [d, z]; omega
    have b : fr (kF1 A) 0 (A 0 0 0) c = fr (fun s c => c + 2 * sm (fun f => nWt A s f) 0 4) 0 (A 0 0 0) c := fr_congr fun s d _ _ => a s d
    have n : nWA A = sm (fun s => sm (fun f => nWt A s f) 0 4) 0 (A 0 0 0) := by
      show fr (fun s c => fr (fun f c => c + nWt A s f) 0 4 c) 0 (A 0 0 0) 0 = fr (fun s c => c + sm (fun f => nWt A s f) 0 4) 0 (A 0 0 0) 0
      exact fr_congr fun s c _ _ => sm_sh (f := fun f => nWt A s f) (by omega)
    rw [b, sm_sh (f := fun s => 2 * sm (fun f => nWt A s f) 0 4) (by omega), n]
    have d : (fun s => 2 * sm (fun f => nWt A s f) 0 4) = (fun s => sm (fun f => nWt A s f) 0 4 + sm (fun f => nWt A s f) 0 4) := funext fun s => by omega
    have z : sm (fun s => sm (fun f => nWt A s f) 0 4 + sm (fun f => nWt A s f) 0 4) 0 (A 0 0 0) = sm (fun s => sm (fun f => nWt A s f) 0 4) 0 (A 0 0 0) + sm (fun s => sm (fun f => nWt A s f) 0 4) 0 (A 0 0 0) := sm_add (by omega)
    rw [d, z]; omega
  unfold kD1
  rw [e, kD0_eq]; omega
theorem kDg_bd {A : An} (hA : AB A) : (0 ≤ kDg A ∧ kDg A ≤ 44 + 21 * A 0 0 1) ∧ 0 ≤ nDg A ∧ nDg A ≤ 9300 := by
  have hn := hA.n
  have hw := nWA_bd hA
  unfold kDg nDg
  rw [kD1_eq hA]
  omega
