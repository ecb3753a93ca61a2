/-! ===== the model's strongest is the class's ===== -/
theorem tF_pos {S F : Fn} {v k : Int} (h : SB S) (hk : 0 ≤ k ∧ k < S 2 0) (hv : F 0 k = v) : 1 ≤ tF S F v := by
  have hr := h.r k hk.1 hk.2
  have hw := h.w k hk.1 hk.2
  have hs := (sR_sp (F := F) (v := v) (r := S 1 k) h).1 k hk.1 hk.2 hv rfl
  have ge : ∀ (lo hi c : Int), lo ≤ hi → c ≤ fr (fun r c => if 0 < sR S F v r then c + sR S F v r else c) lo hi c := fun lo hi c hl => fr_ge hl (fun i c _ _ => by split <;> omega)
  unfold tF
  rw [fr_split (mid := S 1 k) hr.1 (by omega), fr_step (by omega), if_pos (by omega)]
  have g1 := ge 0 (S 1 k) 0 hr.1
  have g2 := ge (S 1 k + 1) (S 2 0) (fr (fun r c => if 0 < sR S F v r then c + sR S F v r else c) 0 (S 1 k) 0 + sR S F v (S 1 k)) (by omega)
  omega
/-- the best of C by g, the lowest first -/
def Bst (C : Int → Prop) (g : Int → Int) (b : Int × Int) : Prop := ((b.1 = -1 ∧ b.2 = 0) ∧ ∀ c, ¬ C c) ∨ (C b.1 ∧ b.2 = g b.1 ∧ ∀ c, C c → g c < g b.1 ∨ (g c = g b.1 ∧ b.1 ≤ c))
theorem Bst.un {C : Int → Prop} {g : Int → Int} {b b' : Int × Int} (h : Bst C g b) (h' : Bst C g b') : b.1 = b'.1 := by
  rcases h with ⟨h1, h2⟩ | ⟨h1, h2, h3⟩ <;> rcases h' with ⟨k1, k2⟩ | ⟨k1, k2, k3⟩
  · rw [h1.1, k1.1]
  · exact absurd k1 (h2 _)
  · exact absurd h1 (k2 _)
  · have := h3 _ k1; have := k3 _ h1; omega
theorem Bst.ext {C C' : Int → Prop} {g : Int → Int} {b : Int × Int} (h : Bst C g b) (e : ∀ c, C c ↔ C' c) : Bst C' g b := by
  rcases h with ⟨h1, h2⟩ | ⟨h1, h2, h3⟩
  · exact Or.inl ⟨h1, fun c q => h2 c ((e c).mpr q)⟩
  · exact Or.inr ⟨(e _).mp h1, h2, fun c q => h3 c ((e c).mpr q)⟩
/-- one more candidate x -/
theorem Bst.add {C C' : Int → Prop} {g : Int → Int} {b : Int × Int} {x : Int} (h : Bst C g b) (hC : ∀ c, C' c ↔ C c ∨ c = x) (hg : 1 ≤ g x) : Bst C' g (if b.2 < g x ∨ (g x = b.2 ∧ x < b.1) then (x, g x) else b) := by
  rcases h with ⟨h1, h2⟩ | ⟨h1, h2, h3⟩
  · rw [if_pos (Or.inl (by omega))]
    exact Or.inr ⟨(hC x).mpr (Or.inr rfl), rfl, fun c q => by
      rcases (hC c).mp q with z | z
      · exact absurd z (h2 c)
      · rw [z]; exact Or.inr ⟨rfl, Int.le_refl _⟩⟩
  · by_cases hc : b.2 < g x ∨ (g x = b.2 ∧ x < b.1)
    · rw [if_pos hc]
      exact Or.inr ⟨(hC x).mpr (Or.inr rfl), rfl, fun c q => by
        rcases (hC c).mp q with z | z
        · have := h3 c z
          show g c < g x ∨ (g c = g x ∧ x ≤ c)
          omega
        · rw [z]; exact Or.inr ⟨rfl, Int.le_refl _⟩⟩
    · rw [if_neg hc]
      exact Or.inr ⟨(hC _).mpr (Or.inl h1), h2, fun c q => by
        rcases (hC c).mp q with z | z
        · exact h3 c z
        · rw [z]; omega⟩
theorem stC_best {S F : Fn} {z : Int} (h : SB S) : Bst (fun v => (∃ k, (0 ≤ k ∧ k < S 2 0) ∧ F 0 k = v) ∧ ¬ v = -1 ∧ (z = 0 ∨ 0 < pG S F v)) (tF S F) (fr (stS S F z (-1)) 0 (S 2 0) (-1, 0)) := by
  refine fr_inv (σ := Int × Int) (f := stS S F z (-1)) (hi := S 2 0) (P := fun i b => Bst (fun v => (∃ k, (0 ≤ k ∧ k < i) ∧ F 0 k = v) ∧ ¬ v = -1 ∧ (z = 0 ∨ 0 < pG S F v)) (tF S F) b) (lo := 0) (s := (-1, 0)) h.c.1 (Or.inl ⟨⟨rfl, rfl⟩, fun c q => by obtain ⟨⟨k, a, _⟩, _⟩ := q; omega⟩) (fun i b q1 q2 hp => ?_)
  by_cases hx : ¬ F 0 i = -1 ∧ (z = 0 ∨ 0 < pG S F (F 0 i))
  · have := hp.add (x := F 0 i) (C' := fun v => (∃ k, (0 ≤ k ∧ k < i + 1) ∧ F 0 k = v) ∧ ¬ v = -1 ∧ (z = 0 ∨ 0 < pG S F v)) (fun c => ⟨fun ⟨⟨k, a, e⟩, r⟩ => by
        by_cases ek : k = i
        · right; rw [← e, ek]
        · left; exact ⟨⟨k, by omega, e⟩, r⟩, fun q => by
        rcases q with ⟨⟨k, a, e⟩, r⟩ | q
        · exact ⟨⟨k, by omega, e⟩, r⟩
        · rw [q]; exact ⟨⟨i, by omega, rfl⟩, hx⟩⟩) (tF_pos h ⟨q1, q2⟩ rfl)
    have e : stS S F z (-1) i b = if b.2 < tF S F (F 0 i) ∨ (tF S F (F 0 i) = b.2 ∧ F 0 i < b.1) then (F 0 i, tF S F (F 0 i)) else b := by
      unfold stS
      by_cases hc : b.2 < tF S F (F 0 i) ∨ (tF S F (F 0 i) = b.2 ∧ F 0 i < b.1)
      · rw [if_pos hc, if_pos ⟨hx.1, hx.1, hc, hx.2⟩]
      · rw [if_neg hc, if_neg (fun q => hc q.2.2.1)]
    rw [e]; exact this
  · have e : stS S F z (-1) i b = b := by
      unfold stS
      rw [if_neg (fun q => hx ⟨q.1, q.2.2.2⟩)]
    rw [e]
    refine hp.ext fun c => ⟨fun ⟨⟨k, a, e⟩, r⟩ => ⟨⟨k, by omega, e⟩, r⟩, fun ⟨⟨k, a, e⟩, r⟩ => ⟨⟨k, ?_, e⟩, r⟩⟩
    by_cases ek : k = i
    · rw [ek] at e; rw [← e] at r; exact absurd r hx
    · omega
theorem mst_best {S F : Fn} {z : Int} (h : SB S) (hF : ∀ k, S 2 0 ≤ k → k < 10 → F 0 k = -1) : Bst (fun v => (0 ≤ v ∧ v < 100) ∧ isd F v ∧ (z = 0 ∨ 0 < pG S F v)) (tF S F) (fr (mstS S F z) 0 100 (-1, 0)) := by
  refine fr_inv (σ := Int × Int) (f := mstS S F z) (hi := 100) (P := fun i b => Bst (fun v => (0 ≤ v ∧ v < i) ∧ isd F v ∧ (z = 0 ∨ 0 < pG S F v)) (tF S F) b) (lo := 0) (s := (-1, 0)) (by omega) (Or.inl ⟨⟨rfl, rfl⟩, fun c q => by have := q.1; omega⟩) (fun i b q1 q2 hp => ?_)
  have e0 : mstS S F z i b = if b.2 < (if isd F i ∧ (z = 0 ∨ 0 < pG S F i) then tF S F i else 0) then (i, if isd F i ∧ (z = 0 ∨ 0 < pG S F i) then tF S F i else 0) else b := by
    unfold mstS
    rw [mpr_eq h, mfo_eq h]
  rw [e0]
  by_cases hx : isd F i ∧ (z = 0 ∨ 0 < pG S F i)
  · rw [if_pos hx]
    obtain ⟨k, k1, k2, k3⟩ := (fnd_lt (p := fun k => F 0 k = i) (lo := 0) (hi := 10) (by omega)).mp hx.1
    have hkn : k < S 2 0 := by
      apply Classical.byContradiction
      intro hn
      have := hF k (by omega) k2
      omega
    have := hp.add (x := i) (C' := fun v => (0 ≤ v ∧ v < i + 1) ∧ isd F v ∧ (z = 0 ∨ 0 < pG S F v)) (fun c => ⟨fun ⟨a, r⟩ => by
        by_cases ek : c = i
        · exact Or.inr ek
        · exact Or.inl ⟨by omega, r⟩, fun q => by
        rcases q with ⟨a, r⟩ | q
        · exact ⟨by omega, r⟩
        · rw [q]; exact ⟨by omega, hx⟩⟩) (tF_pos h ⟨k1, hkn⟩ k3)
    have hb : ¬ (tF S F i = b.2 ∧ i < b.1) := by
      rintro ⟨_, q⟩
      rcases hp with ⟨a, _⟩ | ⟨a, _, _⟩
      · omega
      · have := a.1; omega
    by_cases hc : b.2 < tF S F i
    · rw [if_pos hc]; rw [if_pos (Or.inl hc)] at this; exact this
    · rw [if_neg hc]; rw [if_neg (fun q => q.elim hc hb)] at this; exact this
  · rw [if_neg hx]
    have hb0 : ¬ b.2 < 0 := by
      rcases hp with ⟨a, _⟩ | ⟨a, a2, _⟩
      · omega
      · obtain ⟨k, k1, k2, k3⟩ := (fnd_lt (p := fun k => F 0 k = b.1) (lo := 0) (hi := 10) (by omega)).mp a.2.1
        have : 0 ≤ tF S F b.1 := by rw [← mfo_eq h]; exact (mfo_bd h).1
        omega
    rw [if_neg hb0]
    refine hp.ext fun c => ⟨fun ⟨a, r⟩ => ⟨by omega, r⟩, fun ⟨a, r⟩ => ⟨?_, r⟩⟩
    by_cases ek : c = i
    · rw [ek] at r; exact absurd r hx
    · omega
theorem mst_eq {S F : Fn} {z : Int} (h : SB S) (hF0 : FB0 F) (hF : ∀ k, S 2 0 ≤ k → k < 10 → F 0 k = -1) : mst S F z = stC S F z (-1) := by
  have hc := h.c
  refine (mst_best (z := z) h hF).un ((stC_best (z := z) h).ext fun c => ?_)
  constructor
  · rintro ⟨⟨k, a, e⟩, r1, r2⟩
    have hb := hF0.v0 k a.1 (by omega)
    exact ⟨by omega, (fnd_lt (by omega)).mpr ⟨k, a.1, by omega, e⟩, r2⟩
  · rintro ⟨a, r1, r2⟩
    obtain ⟨k, k1, k2, k3⟩ := (fnd_lt (p := fun k => F 0 k = c) (lo := 0) (hi := 10) (by omega)).mp r1
    refine ⟨⟨k, ⟨k1, ?_⟩, k3⟩, by omega, r2⟩
    apply Classical.byContradiction
    intro hn
    have := hF k (by omega) k2
    omega
theorem mst_tru {S F : Fn} (h : SB S) (hF0 : FB0 F) (hF : ∀ k, S 2 0 ≤ k → k < 10 → F 0 k = -1) : mst S F 1 = tru S F := mst_eq h hF0 hF
theorem mhd_hrd {S F : Fn} (h : SB S) (hF0 : FB0 F) (hF : ∀ k, S 2 0 ≤ k → k < 10 → F 0 k = -1) : mhd S F = hrd S F := by
  unfold mhd hrd
  rw [mst_tru h hF0 hF, mst_eq h hF0 hF]
