/-! ===== what holds of the class's numbers (out of the rows of whole, without the reference) ===== -/
def mfoS (S F : Fn) (v r : Int) : Int → Int → Int := fun k m => if F 0 k = v ∧ S 1 k = r then max m (S 0 k) else m
theorem AB.say {A : An} (hA : AB A) {so i v : Int} (hi : 0 ≤ i ∧ i < 24) (hv : -1 ≤ v ∧ v ≤ 99) : AB (aSay A so i v) := by
  have hF := hA.fa i hi
  refine hA.uF i hi (setl_FB hA.so (fun j q1 q2 => ?_) ?_)
  · rw [lup_c]
    split
    · exact hv
    · exact hF.v0 j q1 q2
  · rw [lup_n (by omega)]; exact hF.s3
theorem setl_0 {S F : Fn} (j : Int) : setl S F 0 j = F 0 j := by
  unfold setl
  rw [lup_n (by omega), lup_n (by omega), lup_n (by omega)]
theorem rI_s {L : Fn} {u i : Int} (h : 0 ≤ i) : rI L u (i + 1) = (rM (rI L u i) (u + (i + 1))).1 := by
  have := rI_1 (L := L) (st := u) (i := i + 1) (by omega)
  rwa [show i + 1 - 1 = i by omega] at this
/-- a line goes with its takes -/
def LW (L : Fn) (T : Int → Fn) (n : Int) : Prop := (∀ t, 0 ≤ t → t < 61 → (L 3 t = -1 ↔ ¬ L 0 t = 0) ∧ (0 < L 0 t → (t < n ∧ t < L 4 4) ∧ L 1 t = T t 1 1 ∧ L 2 t = T t 1 4)) ∧ L 4 4 ≤ n ∧ n ≤ 61
theorem mU_n {L : Fn} {T : Int → Fn} {n m : Int} (hW : LW L T n) (hB : LB L) : mU L m = fr (mUs (L 0) (L 2) (L 1) m) 0 n (-1) := by
  have h4 := hB.s4
  have := fr_inv (σ := Int) (f := mUs (L 0) (L 2) (L 1) m) (hi := n) (P := fun i x => i ≤ L 4 4 ∧ x = fr (mUs (L 0) (L 2) (L 1) m) 0 i (-1) ∨ L 4 4 ≤ i ∧ x = mU L m) (lo := 0) (s := -1) (by have := hW.2.1; omega) (Or.inl ⟨h4.1, (fr_end (by omega)).symm⟩) (fun i x h1 h2 hp => by
    have hx := (hW.1 i h1 (by have := hW.2.2; omega)).2
    rcases hp with ⟨p1, p2⟩ | ⟨p1, p2⟩
    · by_cases e : i = L 4 4
      · right
        refine ⟨by omega, ?_⟩
        unfold mUs
        rw [if_neg (fun q => by have := hx q.1.1; omega), p2, e]
        rfl
      · left
        exact ⟨by omega, by rw [p2, fr_last h1]⟩
    · right
      refine ⟨by omega, ?_⟩
      unfold mUs
      rw [if_neg (fun q => by have := hx q.1.1; omega)]; exact p2)
  rcases this with ⟨p1, p2⟩ | ⟨_, p2⟩
  · have e : n = L 4 4 := by have := hW.2.1; omega
    rw [e]; rfl
  · exact p2.symm
theorem LW.stp {L : Fn} {T : Int → Fn} {n m t g : Int} (h : LW L T n) (ht : 0 ≤ t ∧ t < 61) (hg : 0 < L 0 t ∧ 0 ≤ g ∧ g ≤ L 0 t) (hm : 0 ≤ m) : LW (sn L m t g) T n := by
  refine ⟨fun t' q1 q2 => ?_, by rw [sn_4 (by omega)]; exact h.2.1, h.2.2⟩
  rw [sn_4 (by omega)]
  have hx := h.1 t' q1 q2
  have hy := h.1 t ht.1 ht.2
  unfold sn
  by_cases e : t' = t
  · subst e
    by_cases hz : L 0 t' - g = 0
    · rw [if_pos hz, lup_s, lup_n (by omega), lup_n (by omega), lup_s, lup_n (i' := 1) (by omega), lup_n (i' := 1) (by omega), lup_n (i' := 1) (by omega), lup_n (i' := 2) (by omega), lup_n (i' := 2) (by omega), lup_n (i' := 2) (by omega)]
      exact ⟨by omega, fun z => by omega⟩
    · rw [if_neg hz, lup_n (i' := 3) (by omega), lup_n (i' := 3) (by omega), lup_n (i' := 0) (by omega), lup_s, lup_n (i' := 1) (by omega), lup_n (i' := 1) (by omega), lup_n (i' := 2) (by omega), lup_n (i' := 2) (by omega)]
      exact ⟨by have := hx.1; omega, fun z => hx.2 (by omega)⟩
  · by_cases hz : L 0 t - g = 0
    · rw [if_pos hz, lup_n (by omega), lup_n (by omega), lup_n (by omega), lup_n (i' := 0) (by omega), lup_n (i' := 0) (by omega), lup_n (i' := 0) (by omega), lup_n (i' := 1) (by omega), lup_n (i' := 1) (by omega), lup_n (i' := 1) (by omega), lup_n (i' := 2) (by omega), lup_n (i' := 2) (by omega), lup_n (i' := 2) (by omega)]
      exact hx
    · rw [if_neg hz, lup_n (by omega), lup_n (by omega), lup_n (i' := 0) (by omega), lup_n (i' := 0) (by omega), lup_n (i' := 1) (by omega), lup_n (i' := 1) (by omega), lup_n (i' := 2) (by omega), lup_n (i' := 2) (by omega)]
      exact hx
theorem LW.rSt {T : Int → Fn} {n m : Int} (hm : 0 ≤ m ∧ m ≤ 20000) : ∀ (k : Nat) (L : Fn) (w s : Int), LW L T n → LB L → LW (rS (fun L => mU L m) m k L w s).1 T n := by
  intro k
  induction k with
  | zero => intro L w s h _; exact h
  | succ k ih =>
    intro L w s h hB
    have e : rS (fun L => mU L m) m (k + 1) L w s = if w ≤ 0 then (L, s) else if mU L m = -1 then (L, s) else rS (fun L => mU L m) m k (sn L m (mU L m) (min w (L 0 (mU L m)))) (w - min w (L 0 (mU L m))) (if L 0 (mU L m) - min w (L 0 (mU L m)) = 0 then s + 1 else s) := rfl
    rw [e]
    by_cases hw : w ≤ 0
    · rw [if_pos hw]; exact h
    · rw [if_neg hw]
      by_cases hu : mU L m = -1
      · rw [if_pos hu]; exact h
      · rw [if_neg hu]
        have hs := (mU_spec (L := L) (minute := m) hB.s4.1).resolve_left hu
        have h4 := hB.s4
        exact ih _ _ _ (h.stp (by omega) ⟨by omega, by omega, by omega⟩ hm.1) (sn_LB hB (by omega) (by omega) hm)
theorem LW.rMt {L : Fn} {T : Int → Fn} {n m : Int} (h : LW L T n) (hB : LB L) (hm : 0 ≤ m ∧ m ≤ 20000) : LW (rM L m).1 T n := by
  unfold rM
  split
  · refine ⟨fun t q1 q2 => ?_, ?_, h.2.2⟩
    · dsimp only
      rw [lup_n (i' := 3) (by omega), lup_n (i' := 0) (by omega), lup_n (i' := 1) (by omega), lup_n (i' := 2) (by omega), lup_n (i' := 4) (by omega)]; exact h.1 t q1 q2
    · dsimp only
      rw [lup_n (by omega)]; exact h.2.1
  · exact LW.rSt hm _ _ _ _ h hB
theorem fr_ge {f : Int → Int → Int} {lo hi c : Int} (h : lo ≤ hi) (hf : ∀ i c, lo ≤ i → i < hi → c ≤ f i c) : c ≤ fr f lo hi c :=
  fr_inv (σ := Int) (f := f) (hi := hi) (P := fun _ x => c ≤ x) (lo := lo) (s := c) h (Int.le_refl _) (fun i x h1 h2 hp => Int.le_trans hp (hf i x h1 h2))
theorem fr_split {σ : Type} {f : Int → σ → σ} {lo mid hi : Int} {s : σ} (h1 : lo ≤ mid) (h2 : mid ≤ hi) : fr f lo hi s = fr f mid hi (fr f lo mid s) := by
  have := fr_inv (f := f) (hi := hi) (P := fun i x => x = fr f lo i s) (lo := mid) (s := fr f lo mid s) h2 rfl (fun i x q1 q2 e => by rw [fr_last (by omega), ← e])
  exact this.symm
theorem fr_id {σ : Type} {f : Int → σ → σ} {lo hi : Int} {s : σ} (h : ∀ i, lo ≤ i → i < hi → f i s = s) : fr f lo hi s = s := by
  by_cases hl : lo ≤ hi
  · have := fr_inv (f := f) (hi := hi) (P := fun _ x => x = s) (lo := lo) (s := s) hl rfl (fun i x q1 q2 e => by rw [e]; exact h i q1 q2)
    exact this
  · exact fr_end (by omega)
theorem sR_eq {S F : Fn} {v r : Int} (h : SB S) : sR S F v r = fr (mfoS S F v r) 0 (S 2 0) 0 := by
  have := fr_inv (σ := Int → Int) (f := wgS S F v) (hi := S 2 0) (P := fun i f => f r = fr (mfoS S F v r) 0 i 0) (lo := 0) (s := fun _ => 0) h.c.1 (fr_end (Int.le_refl _)).symm (fun i f q1 q2 e => by
    rw [fr_last q1, ← e]
    unfold wgS mfoS
    by_cases hv : F 0 i = v
    · rw [if_pos hv]
      by_cases hr : S 1 i = r
      · rw [if_pos hr.symm, if_pos ⟨hv, hr⟩, hr]
      · rw [if_neg (fun q => hr q.symm), if_neg (fun q => hr q.2)]
    · rw [if_neg hv, if_neg (fun q => hv q.1)])
  exact this
theorem mfo_in {S F : Fn} {v r : Int} (h : SB S) (hr : 0 ≤ r ∧ r ≤ S 2 0) : fr (mfoS S F v r) r (S 2 0) 0 = sR S F v r := by
  rw [sR_eq h, fr_split hr.1 hr.2, fr_id (lo := 0) (hi := r) (fun k q1 q2 => by
    have := h.r k q1 (by omega)
    unfold mfoS
    rw [if_neg (by omega)])]
theorem ins_bit {n r : Nat} : ins (n : Int) (r : Int) ↔ n.testBit r = true := by
  unfold ins
  rw [Int.toNat_natCast, Nat.testBit_eq_decide_div_mod_eq, decide_eq_true_eq]
  have e : ((n : Int) / 2 ^ r) % 2 = (((n / 2 ^ r) % 2 : Nat) : Int) := by
    push_cast
    rfl
  rw [e]
  omega
theorem ins_0 {r : Int} : ¬ ins 0 r := by
  unfold ins
  simp
def cn (p : Int → Prop) [DecidablePred p] (lo hi : Int) : Int := fr (fun r c => if p r then c + 1 else c) lo hi 0
theorem cn_sh {p : Int → Prop} [DecidablePred p] {lo hi c : Int} : fr (fun r c => if p r then c + 1 else c) lo hi c = c + cn p lo hi := by
  by_cases hl : lo ≤ hi
  · have := fr_inv (σ := Int) (f := fun r c => if p r then c + 1 else c) (hi := hi) (P := fun i x => x = c + cn p lo i) (lo := lo) (s := c) hl (by unfold cn; rw [fr_end (by omega)]; omega) (fun i x q1 q2 e => by
      have z : cn p lo (i + 1) = if p i then cn p lo i + 1 else cn p lo i := by unfold cn; rw [fr_last q1]
      rw [z, e]
      split <;> omega)
    exact this
  · unfold cn; rw [fr_end (by omega), fr_end (by omega)]; omega
theorem bc_cn {x : Int} : bc x = cn (fun r => ins x r) 0 10 := by
  unfold cn
  have e : ∀ (r c : Int), (if ins x r then c + 1 else c) = c + bI (ins x r) := fun r c => by
    by_cases h : ins x r
    · rw [if_pos h, bI_t h]
    · rw [if_neg h, bI_f h]; omega
  rw [fr_congr (g := fun r c => c + bI (ins x r)) (fun r c _ _ => e r c)]
  have z : fr (fun r c => c + bI (ins x r)) 0 10 0 = 0 + bI (ins x 0) + bI (ins x 1) + bI (ins x 2) + bI (ins x 3) + bI (ins x 4) + bI (ins x 5) + bI (ins x 6) + bI (ins x 7) + bI (ins x 8) + bI (ins x 9) := rfl
  rw [z]
  unfold bc
  omega
theorem cn_congr {p q : Int → Prop} [DecidablePred p] [DecidablePred q] {lo hi : Int} (h : ∀ r, lo ≤ r → r < hi → (p r ↔ q r)) : cn p lo hi = cn q lo hi := by
  unfold cn
  refine fr_congr fun r c q1 q2 => ?_
  by_cases hp : p r
  · rw [if_pos hp, if_pos ((h r q1 q2).mp hp)]
  · rw [if_neg hp, if_neg (fun z => hp ((h r q1 q2).mpr z))]
theorem cn_tail {p : Int → Prop} [DecidablePred p] {lo mid hi : Int} (h1 : lo ≤ mid) (h2 : mid ≤ hi) (h : ∀ r, mid ≤ r → r < hi → ¬ p r) : cn p lo hi = cn p lo mid := by
  unfold cn
  rw [fr_split h1 h2]
  exact fr_id (f := fun r c => if p r then c + 1 else c) (fun r q1 q2 => if_neg (h r q1 q2))
theorem cn_bd {p : Int → Prop} [DecidablePred p] {lo hi : Int} : 0 ≤ cn p lo hi := by
  unfold cn
  by_cases hl : lo ≤ hi
  · exact fr_ge hl (fun i c _ _ => by split <;> omega)
  · rw [fr_end (by omega)]; omega
theorem cn_zero {p : Int → Prop} [DecidablePred p] {lo hi : Int} (h : cn p lo hi = 0) : ∀ r, lo ≤ r → r < hi → ¬ p r := by
  intro r q1 q2 hp
  have e1 : cn p lo hi = cn p lo r + cn p r hi := by
    have z : cn p lo hi = fr (fun r c => if p r then c + 1 else c) r hi (cn p lo r) := by
      show fr (fun r c => if p r then c + 1 else c) lo hi 0 = _
      rw [fr_split q1 (Int.le_of_lt q2)]
      rfl
    rw [z, cn_sh]
  have e2 : cn p r hi = 1 + cn p (r + 1) hi := by
    have z : cn p r hi = fr (fun r c => if p r then c + 1 else c) (r + 1) hi 1 := by
      show fr (fun r c => if p r then c + 1 else c) r hi 0 = _
      rw [fr_step q2, if_pos hp]
      rfl
    rw [z, cn_sh]
  have := cn_bd (p := p) (lo := lo) (hi := r)
  have := cn_bd (p := p) (lo := r + 1) (hi := hi)
  omega
theorem sR_sp {S F : Fn} {v r : Int} (h : SB S) : (∀ k, 0 ≤ k → k < S 2 0 → F 0 k = v → S 1 k = r → S 0 k ≤ sR S F v r) ∧ (sR S F v r = 0 ∨ ∃ k, (0 ≤ k ∧ k < S 2 0) ∧ (F 0 k = v ∧ S 1 k = r) ∧ S 0 k = sR S F v r) := by
  rw [sR_eq h]
  refine fr_inv (σ := Int) (f := mfoS S F v r) (hi := S 2 0) (P := fun i m => (∀ k, 0 ≤ k → k < i → F 0 k = v → S 1 k = r → S 0 k ≤ m) ∧ (m = 0 ∨ ∃ k, (0 ≤ k ∧ k < i) ∧ (F 0 k = v ∧ S 1 k = r) ∧ S 0 k = m)) (lo := 0) (s := 0) h.c.1 ⟨fun k _ _ => by omega, Or.inl rfl⟩ (fun i m q1 q2 hp => ?_)
  have hw := h.w i q1 q2
  unfold mfoS
  by_cases hc : F 0 i = v ∧ S 1 i = r
  · rw [if_pos hc]
    refine ⟨fun k a b c d => ?_, ?_⟩
    · by_cases e : k = i
      · rw [e]; omega
      · have := hp.1 k a (by omega) c d; omega
    · by_cases hm : m ≤ S 0 i
      · right; exact ⟨i, by omega, hc, by omega⟩
      · rcases hp.2 with z | ⟨k, a, b, c⟩
        · omega
        · right; exact ⟨k, by omega, b, by omega⟩
  · rw [if_neg hc]
    refine ⟨fun k a b c d => ?_, ?_⟩
    · by_cases e : k = i
      · rw [e] at c d; exact absurd ⟨c, d⟩ hc
      · exact hp.1 k a (by omega) c d
    · rcases hp.2 with z | ⟨k, a, b, c⟩
      · exact Or.inl z
      · right; exact ⟨k, by omega, b, c⟩
theorem tO_nn {S F : Fn} {v : Int} : 0 ≤ tO S F v := cn_bd (p := fun r => sR S F v r = 3)
theorem tF_pos {S F : Fn} {v k : Int} (h : SB S) (hk : 0 ≤ k ∧ k < S 2 0) (hv : F 0 k = v) : 1 ≤ tF S F v := by
  have hr := h.r k hk.1 hk.2
  have hw := h.w k hk.1 hk.2
  have hs := (sR_sp (F := F) (v := v) (r := S 1 k) h).1 k hk.1 hk.2 hv rfl
  have ge : ∀ (lo hi c : Int), lo ≤ hi → c ≤ fr (fun r c => if 0 < sR S F v r then c + sR S F v r else c) lo hi c := fun lo hi c hl => fr_ge hl (fun i c _ _ => by split <;> omega)
  unfold tF
  rw [fr_split (mid := S 1 k) hr.1 (by omega), fr_step (by omega), if_pos (by omega)]
  have g1 := ge 0 (S 1 k) 0 hr.1
  have g2 := ge (S 1 k + 1) (S 2 0) (fr (fun r c => if 0 < sR S F v r then c + sR S F v r else c) 0 (S 1 k) 0 + sR S F v (S 1 k)) (by omega)
  omega
/-- the best of C by g, the lowest first -/
def Bst (C : Int → Prop) (g : Int → Int) (b : Int × Int) : Prop := ((b.1 = -1 ∧ b.2 = 0) ∧ ∀ c, ¬ C c) ∨ (C b.1 ∧ b.2 = g b.1 ∧ ∀ c, C c → g c < g b.1 ∨ (g c = g b.1 ∧ b.1 ≤ c))
theorem Bst.un {C : Int → Prop} {g : Int → Int} {b b' : Int × Int} (h : Bst C g b) (h' : Bst C g b') : b.1 = b'.1 := by
  rcases h with ⟨h1, h2⟩ | ⟨h1, h2, h3⟩ <;> rcases h' with ⟨k1, k2⟩ | ⟨k1, k2, k3⟩
  · rw [h1.1, k1.1]
  · exact absurd k1 (h2 _)
  · exact absurd h1 (k2 _)
  · have := h3 _ k1; have := k3 _ h1; omega
theorem Bst.ext {C C' : Int → Prop} {g : Int → Int} {b : Int × Int} (h : Bst C g b) (e : ∀ c, C c ↔ C' c) : Bst C' g b := by
  rcases h with ⟨h1, h2⟩ | ⟨h1, h2, h3⟩
  · exact Or.inl ⟨h1, fun c q => h2 c ((e c).mpr q)⟩
  · exact Or.inr ⟨(e _).mp h1, h2, fun c q => h3 c ((e c).mpr q)⟩
/-- one more candidate x -/
theorem Bst.add {C C' : Int → Prop} {g : Int → Int} {b : Int × Int} {x : Int} (h : Bst C g b) (hC : ∀ c, C' c ↔ C c ∨ c = x) (hg : 1 ≤ g x) : Bst C' g (if b.2 < g x ∨ (g x = b.2 ∧ x < b.1) then (x, g x) else b) := by
  rcases h with ⟨h1, h2⟩ | ⟨h1, h2, h3⟩
  · rw [if_pos (Or.inl (by omega))]
    exact Or.inr ⟨(hC x).mpr (Or.inr rfl), rfl, fun c q => by
      rcases (hC c).mp q with z | z
      · exact absurd z (h2 c)
      · rw [z]; exact Or.inr ⟨rfl, Int.le_refl _⟩⟩
  · by_cases hc : b.2 < g x ∨ (g x = b.2 ∧ x < b.1)
    · rw [if_pos hc]
      exact Or.inr ⟨(hC x).mpr (Or.inr rfl), rfl, fun c q => by
        rcases (hC c).mp q with z | z
        · have := h3 c z
          show g c < g x ∨ (g c = g x ∧ x ≤ c)
          omega
        · rw [z]; exact Or.inr ⟨rfl, Int.le_refl _⟩⟩
    · rw [if_neg hc]
      exact Or.inr ⟨(hC _).mpr (Or.inl h1), h2, fun c q => by
        rcases (hC c).mp q with z | z
        · exact h3 c z
        · rw [z]; omega⟩
theorem stC_best {S F : Fn} {z : Int} (h : SB S) : Bst (fun v => (∃ k, (0 ≤ k ∧ k < S 2 0) ∧ F 0 k = v) ∧ ¬ v = -1 ∧ (z = 0 ∨ 0 < pG S F v)) (tF S F) (fr (stS S F z (-1)) 0 (S 2 0) (-1, 0)) := by
  refine fr_inv (σ := Int × Int) (f := stS S F z (-1)) (hi := S 2 0) (P := fun i b => Bst (fun v => (∃ k, (0 ≤ k ∧ k < i) ∧ F 0 k = v) ∧ ¬ v = -1 ∧ (z = 0 ∨ 0 < pG S F v)) (tF S F) b) (lo := 0) (s := (-1, 0)) h.c.1 (Or.inl ⟨⟨rfl, rfl⟩, fun c q => by obtain ⟨⟨k, a, _⟩, _⟩ := q; omega⟩) (fun i b q1 q2 hp => ?_)
  by_cases hx : ¬ F 0 i = -1 ∧ (z = 0 ∨ 0 < pG S F (F 0 i))
  · have := hp.add (x := F 0 i) (C' := fun v => (∃ k, (0 ≤ k ∧ k < i + 1) ∧ F 0 k = v) ∧ ¬ v = -1 ∧ (z = 0 ∨ 0 < pG S F v)) (fun c => ⟨fun ⟨⟨k, a, e⟩, r⟩ => by
        by_cases ek : k = i
        · right; rw [← e, ek]
        · left; exact ⟨⟨k, by omega, e⟩, r⟩, fun q => by
        rcases q with ⟨⟨k, a, e⟩, r⟩ | q
        · exact ⟨⟨k, by omega, e⟩, r⟩
        · rw [q]; exact ⟨⟨i, by omega, rfl⟩, hx⟩⟩) (tF_pos h ⟨q1, q2⟩ rfl)
    have e : stS S F z (-1) i b = if b.2 < tF S F (F 0 i) ∨ (tF S F (F 0 i) = b.2 ∧ F 0 i < b.1) then (F 0 i, tF S F (F 0 i)) else b := by
      unfold stS
      by_cases hc : b.2 < tF S F (F 0 i) ∨ (tF S F (F 0 i) = b.2 ∧ F 0 i < b.1)
      · rw [if_pos hc, if_pos ⟨hx.1, hx.1, hc, hx.2⟩]
      · rw [if_neg hc, if_neg (fun q => hc q.2.2.1)]
    rw [e]; exact this
  · have e : stS S F z (-1) i b = b := by
      unfold stS
      rw [if_neg (fun q => hx ⟨q.1, q.2.2.2⟩)]
    rw [e]
    refine hp.ext fun c => ⟨fun ⟨⟨k, a, e⟩, r⟩ => ⟨⟨k, by omega, e⟩, r⟩, fun ⟨⟨k, a, e⟩, r⟩ => ⟨⟨k, ?_, e⟩, r⟩⟩
    by_cases ek : k = i
    · rw [ek] at e; rw [← e] at r; exact absurd r hx
    · omega
theorem cn_at {p : Int → Prop} [DecidablePred p] {lo hi x : Int} (h1 : lo ≤ x) (h2 : x < hi) : cn p lo hi = cn p lo x + (if p x then 1 else 0) + cn p (x + 1) hi := by
  have z : cn p lo hi = fr (fun r c => if p r then c + 1 else c) x hi (cn p lo x) := by
    show fr (fun r c => if p r then c + 1 else c) lo hi 0 = _
    rw [fr_split h1 (Int.le_of_lt h2)]
    rfl
  rw [z, fr_step h2, cn_sh]
  by_cases hp : p x
  · rw [if_pos hp, if_pos hp]
  · rw [if_neg hp, if_neg hp]; omega
theorem cn_point {p q : Int → Prop} [DecidablePred p] [DecidablePred q] {lo hi x : Int} (h1 : lo ≤ x) (h2 : x < hi) (hn : ¬ p x) (h : ∀ r, q r ↔ p r ∨ r = x) : cn q lo hi = cn p lo hi + 1 := by
  rw [cn_at (p := q) h1 h2, cn_at (p := p) h1 h2, if_pos ((h x).mpr (Or.inr rfl)), if_neg hn]
  have e1 : cn q lo x = cn p lo x := cn_congr fun r a b => (h r).trans ⟨fun z => z.elim id (fun e => by omega), Or.inl⟩
  have e2 : cn q (x + 1) hi = cn p (x + 1) hi := cn_congr fun r a b => (h r).trans ⟨fun z => z.elim id (fun e => by omega), Or.inl⟩
  rw [e1, e2]
  omega
/-- nested over facts, flat over rows -/
theorem fr_flat {g : Int → Int → Int} {n c : Int} (hn : 0 ≤ n) : fr (fun s c => fr (fun f c => g (s * 4 + f) c) 0 4 c) 0 n c = fr g 0 (n * 4) c := by
  have := fr_inv (σ := Int) (f := fun s c => fr (fun f c => g (s * 4 + f) c) 0 4 c) (hi := n) (P := fun i x => x = fr g 0 (i * 4) c) (lo := 0) (s := c) hn (by rw [fr_end (by omega)]) (fun i x q1 q2 e => by
    rw [show (i + 1) * 4 = i * 4 + 1 + 1 + 1 + 1 by omega, fr_last (by omega), fr_last (by omega), fr_last (by omega), fr_last (by omega), ← e]
    have z : fr (fun f c => g (i * 4 + f) c) 0 4 x = g (i * 4 + 3) (g (i * 4 + 2) (g (i * 4 + 1) (g (i * 4 + 0) x))) := rfl
    rw [z, show i * 4 + 0 = i * 4 by omega, show i * 4 + 1 + 1 = i * 4 + 2 by omega, show i * 4 + 2 + 1 = i * 4 + 3 by omega])
  exact this
def sm (f : Int → Int) (lo hi : Int) : Int := fr (fun i c => c + f i) lo hi 0
theorem sm_last {f : Int → Int} {lo hi : Int} (h : lo ≤ hi) : sm f lo (hi + 1) = sm f lo hi + f hi := by unfold sm; rw [fr_last h]
theorem sm_0 {f : Int → Int} {lo hi : Int} (h : hi ≤ lo) : sm f lo hi = 0 := by unfold sm; rw [fr_end h]
theorem sm_sh {f : Int → Int} {lo hi c : Int} (h : lo ≤ hi) : fr (fun i c => c + f i) lo hi c = c + sm f lo hi :=
  fr_inv (σ := Int) (f := fun i c => c + f i) (hi := hi) (P := fun i x => x = c + sm f lo i) (lo := lo) (s := c) h (by rw [sm_0 (Int.le_refl _)]; omega) (fun i x q1 q2 e => by rw [sm_last q1, e]; omega)
theorem sm_add {f g : Int → Int} {lo hi : Int} (h : lo ≤ hi) : sm (fun i => f i + g i) lo hi = sm f lo hi + sm g lo hi :=
  fr_inv (σ := Int) (f := fun i c => c + (f i + g i)) (hi := hi) (P := fun i x => x = sm f lo i + sm g lo i) (lo := lo) (s := 0) h (by rw [sm_0 (Int.le_refl _), sm_0 (Int.le_refl _)]; rfl) (fun i x q1 q2 e => by rw [sm_last q1, sm_last q1, e]; omega)
theorem sm_swap {f : Int → Int → Int} {n m : Int} (hn : 0 ≤ n) (hm : 0 ≤ m) : sm (fun i => sm (fun j => f i j) 0 m) 0 n = sm (fun j => sm (fun i => f i j) 0 n) 0 m := by
  refine fr_inv (σ := Int) (f := fun i c => c + sm (fun j => f i j) 0 m) (hi := n) (P := fun i x => x = sm (fun j => sm (fun i => f i j) 0 i) 0 m) (lo := 0) (s := 0) hn ?_ (fun i x q1 q2 e => ?_)
  · unfold sm
    refine (fr_id (f := fun (i : Int) (c : Int) => c + fr (fun i_1 c => c + f i_1 i) 0 0 0) (fun j _ _ => ?_)).symm
    (try dsimp only)
    rw [fr_end (by omega)]; rfl
  · rw [e, ← sm_add hm]
    unfold sm
    refine fr_congr fun j c _ _ => ?_
    (try dsimp only)
    rw [fr_last q1]
theorem fr_pair {a b : Int → Int} {lo hi : Int} {s : Int × Int} (h : lo ≤ hi) : fr (fun i (s : Int × Int) => (s.1 + a i, s.2 + b i)) lo hi s = (s.1 + sm a lo hi, s.2 + sm b lo hi) :=
  fr_inv (σ := Int × Int) (f := fun i s => (s.1 + a i, s.2 + b i)) (hi := hi) (P := fun i x => x = (s.1 + sm a lo i, s.2 + sm b lo i)) (lo := lo) (s := s) h (by rw [sm_0 (Int.le_refl _), sm_0 (Int.le_refl _)]; ext <;> simp) (fun i x q1 q2 e => by rw [sm_last q1, sm_last q1, e]; ext <;> simp <;> omega)
theorem A00_F {f : Int} (h : 0 ≤ f ∧ f < 24) : A00 (100 + f) = F00 := by unfold A00; rw [if_neg (by omega), if_pos (by omega)]
theorem A00_T {t : Int} (h : 0 ≤ t) : A00 (200 + t) = T00 := by unfold A00; rw [if_neg (by omega), if_neg (by omega), if_pos (by omega)]
theorem A00_L {l : Int} (h : 0 ≤ l ∧ l < 4) : A00 (20 + l) = L00 := by unfold A00; rw [if_pos (by omega)]
theorem A00_AB : AB A00 := by
  refine ⟨⟨⟨Int.le_refl _, by decide⟩, ⟨Int.le_refl _, by decide⟩, ⟨Int.le_refl _, by decide⟩, ⟨Int.le_refl _, by decide⟩⟩, ⟨⟨Int.le_refl _, by decide⟩, fun i q1 q2 => ?_⟩, fun f q1 q2 => ?_, fun t q1 q2 => ?_, fun l q1 q2 => ?_⟩
  · have e : A00 10 2 0 = 0 := rfl
    omega
  · rw [A00_F ⟨q1, q2⟩]
    exact ⟨fun j _ _ => ⟨by show (-1 : Int) ≤ -1; omega, by show (-1 : Int) ≤ 99; omega⟩, by decide, by decide, by decide, by decide⟩
  · rw [A00_T q1]
    exact ⟨fun f _ _ => ⟨by show (-1 : Int) ≤ 0; omega, by show (0 : Int) ≤ 99; omega⟩, by decide, by decide, by decide, by decide, by decide, by decide, by decide, by decide, by decide⟩
  · rw [A00_L ⟨q1, q2⟩]
    exact ⟨fun t _ _ => ⟨⟨by show (-1 : Int) ≤ -1; omega, by show (-1 : Int) ≤ 200; omega⟩, ⟨by show (0 : Int) ≤ 0; omega, by show (0 : Int) ≤ 4; omega⟩, ⟨by show (0 : Int) ≤ 0; omega, by show (0 : Int) ≤ 9999; omega⟩, by show (-1 : Int) ≤ -1; omega, by show (-1 : Int) ≤ 20000; omega⟩, by decide, by decide, by decide, by decide⟩
/-- what is not there yet is blank; a take's story is there -/
def BK (A : An) : Prop := (∀ i, A 0 0 0 * 4 ≤ i → i < 24 → (∀ k, 0 ≤ k → k < 10 → A (100 + i) 0 k = -1) ∧ A (100 + i) 1 0 = -1 ∧ A (100 + i) 1 1 = 0 ∧ A (100 + i) 1 2 = -1 ∧ A (100 + i) 1 3 = -1) ∧ (∀ t, A 0 0 1 ≤ t → t < 60 → A (200 + t) 1 7 = -1) ∧ (∀ l, A 0 0 2 ≤ l → l < 4 → (∀ t, 0 ≤ t → t < 61 → A (20 + l) 0 t = -1 ∧ A (20 + l) 3 t = -1) ∧ A (20 + l) 4 2 = 0 ∧ A (20 + l) 4 3 = 0 ∧ A (20 + l) 4 4 = 0) ∧ ∀ t, 0 ≤ t → t < A 0 0 1 → A (200 + t) 1 0 < A 0 0 0
theorem sAdd_2 {S : Fn} {w o : Int} : sAdd S w o 2 0 = S 2 0 + 1 := by
  unfold sAdd
  rw [lup_n (by omega), lup_n (by omega), lup_s]
theorem sAdd_0 {S : Fn} {w o i : Int} : sAdd S w o 0 i = if i = S 2 0 then w else S 0 i := by
  unfold sAdd
  rw [lup_n (by omega), lup_c]
  by_cases e : i = S 2 0
  · rw [if_pos (by omega), if_pos e]
  · rw [if_neg (by omega), if_neg e, lup_n (by omega)]
theorem sAdd_1 {S : Fn} {w o i : Int} : sAdd S w o 1 i = if i = S 2 0 then (if o = -1 then S 2 0 else S 1 o) else S 1 i := by
  unfold sAdd
  rw [lup_c]
  by_cases e : i = S 2 0
  · rw [if_pos (by omega), if_pos e]
  · rw [if_neg (by omega), if_neg e, lup_n (by omega), lup_n (by omega)]
section RMa
variable {G M G1 M1 G2 M2 : Mm} {Q : Int} {A : An} {D : Fn} {I : Int → Int}
/-- a take T comes -/
def aT (A : An) (T : Fn) : An := aup (aup A 0 (lup (A 0) 0 1 (A 0 0 1 + 1))) (200 + A 0 0 1) T
theorem aT_0 {A : An} {T : Fn} (h : 0 ≤ A 0 0 1) {c : Int} : aT A T 0 0 c = if c = 1 then A 0 0 1 + 1 else A 0 0 c := by
  unfold aT
  rw [aup_n (by omega), aup_s, lup_c]
  by_cases e : c = 1
  · rw [if_pos (by omega), if_pos e]
  · rw [if_neg (by omega), if_neg e]
theorem aT_o {A : An} {T : Fn} {j : Int} (h : j ≠ 200 + A 0 0 1) (h0 : j ≠ 0) : aT A T j = A j := by
  unfold aT
  rw [aup_n h, aup_n h0]
theorem aT_t {A : An} {T : Fn} : aT A T (200 + A 0 0 1) = T := aup_s _ _ _
end RMa
def Wt (A : An) : Prop := (∀ t f, 0 ≤ t → t < A 0 0 1 → 0 ≤ f → f < 4 → (ins (A (200 + t) 1 2) f ↔ ¬ A (200 + t) 0 f = -1)) ∧ (∀ t, 0 ≤ t → t < A 0 0 1 → ¬ A (200 + t) 1 7 = -1 → (t < A (200 + t) 1 7 ∧ A (200 + t) 1 7 < A 0 0 1) ∧ A (200 + A (200 + t) 1 7) 1 1 = 1 ∧ A (200 + A (200 + t) 1 7) 1 6 = t) ∧ ∀ k t, 0 ≤ k → k < A 0 0 1 → 0 ≤ t → t < k → A (200 + k) 1 1 = 1 → A (200 + k) 1 6 = t → A (200 + t) 1 7 = k
/-- a line that goes with its takes T, of which there are n -/
def LPr (L : Fn) (T : Int → Fn) (n : Int) : Prop := (∀ t, 0 ≤ t → t < 61 → (L 3 t = -1 ↔ ¬ L 0 t = 0) ∧ (0 < L 0 t → L 1 t = T t 1 1 ∧ L 2 t = T t 1 4 ∧ t < L 4 4)) ∧ L 4 4 ≤ n ∧ ∀ t, n ≤ t → t < 61 → L 0 t = -1
def Wl (A : An) : Prop := ∀ l, 0 ≤ l → l < A 0 0 2 → LPr (A (20 + l)) (fun t => A (200 + t)) (A 0 0 1)
/-- a fact's truth, what is heard of it, and its force are its own -/
def FS (S F : Fn) : Prop := (F 1 0 = tru S F ∧ F 1 2 = hrd S F ∧ F 1 1 = trf S F) ∧ ∀ k, S 2 0 ≤ k → k < 10 → F 0 k = -1
def Wf (A : An) : Prop := ∀ i, 0 ≤ i → i < A 0 0 0 * 4 → FS (A 10) (A (100 + i))
def WF (A : An) : Prop := Wt A ∧ Wl A ∧ Wf A
def Inv (A : An) : Prop := AB A ∧ WF A ∧ BK A
theorem WF.i {A : An} (h : WF A) : ∀ t f, 0 ≤ t → t < A 0 0 1 → 0 ≤ f → f < 4 → (ins (A (200 + t) 1 2) f ↔ ¬ A (200 + t) 0 f = -1) := h.1.1
theorem WF.l {A : An} (h : WF A) : ∀ l t, 0 ≤ l → l < A 0 0 2 → 0 ≤ t → t < 61 → (A (20 + l) 3 t = -1 ↔ ¬ A (20 + l) 0 t = 0) ∧ (0 < A (20 + l) 0 t → A (20 + l) 1 t = A (200 + t) 1 1 ∧ A (20 + l) 2 t = A (200 + t) 1 4 ∧ t < A (20 + l) 4 4) := fun l t q1 q2 q3 q4 => (h.2.1 l q1 q2).1 t q3 q4
theorem WF.e {A : An} (h : WF A) : ∀ l, 0 ≤ l → l < A 0 0 2 → A (20 + l) 4 4 ≤ A 0 0 1 := fun l q1 q2 => (h.2.1 l q1 q2).2.1
theorem WF.n {A : An} (h : WF A) : ∀ l t, 0 ≤ l → l < A 0 0 2 → A 0 0 1 ≤ t → t < 61 → A (20 + l) 0 t = -1 := fun l t q1 q2 q3 q4 => (h.2.1 l q1 q2).2.2 t q3 q4
theorem WF.k {A : An} (h : WF A) : ∀ t, 0 ≤ t → t < A 0 0 1 → ¬ A (200 + t) 1 7 = -1 → (t < A (200 + t) 1 7 ∧ A (200 + t) 1 7 < A 0 0 1) ∧ A (200 + A (200 + t) 1 7) 1 1 = 1 ∧ A (200 + A (200 + t) 1 7) 1 6 = t := h.1.2.1
theorem WF.u {A : An} (h : WF A) : ∀ k t, 0 ≤ k → k < A 0 0 1 → 0 ≤ t → t < k → A (200 + k) 1 1 = 1 → A (200 + k) 1 6 = t → A (200 + t) 1 7 = k := h.1.2.2
theorem WF.b {A : An} (h : WF A) : ∀ i k, 0 ≤ i → i < A 0 0 0 * 4 → A 10 2 0 ≤ k → k < 10 → A (100 + i) 0 k = -1 := fun i k q1 q2 q3 q4 => (h.2.2 i q1 q2).2 k q3 q4
theorem WF.wt {A : An} (h : WF A) : Wt A := h.1
theorem WF.wl {A : An} (h : WF A) : Wl A := h.2.1
theorem WF.wf {A : An} (h : WF A) (_ : AB A) : Wf A := h.2.2
theorem A00_WF : WF A00 := by
  have e1 : A00 0 0 1 = 0 := rfl
  have e2 : A00 0 0 2 = 0 := rfl
  have e0 : A00 0 0 0 = 0 := rfl
  exact ⟨⟨fun t f q1 q2 => by omega, fun t q1 q2 => by omega, fun k t q1 q2 => by omega⟩, fun l q1 q2 => by omega, fun i q1 q2 => by omega⟩
theorem WF.mk {A : An} (_ : AB A) (ht : Wt A) (hl : Wl A) (hf : Wf A) : WF A := ⟨ht, hl, hf⟩
section Keep
variable {A A1 : An}
theorem Wt.of (h : Wt A) (c1 : A1 0 0 1 = A 0 0 1) (et : ∀ t, 0 ≤ t → A1 (200 + t) = A (200 + t)) : Wt A1 := by
  refine ⟨fun t f q1 q2 q3 q4 => ?_, fun t q1 q2 q3 => ?_, fun k t q1 q2 q3 q4 q5 q6 => ?_⟩
  · rw [c1] at q2; rw [et t q1]; exact h.1 t f q1 q2 q3 q4
  · rw [c1] at q2 ⊢; rw [et t q1] at q3 ⊢
    have z := h.2.1 t q1 q2 q3
    rw [et _ (by omega)]; exact z
  · rw [c1] at q2; rw [et k q1] at q5 q6; rw [et t q3]; exact h.2.2 k t q1 q2 q3 q4 q5 q6
theorem LPr.of {L : Fn} {T T1 : Int → Fn} {n : Int} (h : LPr L T n) (e : ∀ t, 0 ≤ t → t < n → T1 t = T t) : LPr L T1 n := by
  refine ⟨fun t q1 q2 => ⟨(h.1 t q1 q2).1, fun q3 => ?_⟩, h.2⟩
  have z := (h.1 t q1 q2).2 q3
  rw [e t q1 (by have := h.2.1; omega)]; exact z
theorem Wl.of (h : Wl A) (c1 : A1 0 0 1 = A 0 0 1) (c2 : A1 0 0 2 = A 0 0 2) (et : ∀ t, 0 ≤ t → A1 (200 + t) = A (200 + t)) (el : ∀ l, 0 ≤ l → l < A 0 0 2 → A1 (20 + l) = A (20 + l)) : Wl A1 := fun l q1 q2 => by
  rw [c2] at q2; rw [c1, el l q1 q2]
  exact (h l q1 q2).of (fun t q3 _ => et t q3)
theorem Wf.of (h : Wf A) (c0 : A1 0 0 0 = A 0 0 0) (e10 : A1 10 = A 10) (ef : ∀ i, 0 ≤ i → i < A 0 0 0 * 4 → A1 (100 + i) = A (100 + i)) : Wf A1 := fun i q1 q2 => by
  rw [c0] at q2; rw [e10, ef i q1 q2]; exact h i q1 q2
theorem BK.of (h : BK A) (c0 : A1 0 0 0 = A 0 0 0) (c1 : A1 0 0 1 = A 0 0 1) (c2 : A1 0 0 2 = A 0 0 2) (ef : ∀ i, A 0 0 0 * 4 ≤ i → i < 24 → A1 (100 + i) = A (100 + i)) (et : ∀ t, A 0 0 1 ≤ t → t < 60 → A1 (200 + t) 1 7 = A (200 + t) 1 7) (el : ∀ l, A 0 0 2 ≤ l → l < 4 → A1 (20 + l) = A (20 + l)) (es : ∀ t, 0 ≤ t → t < A 0 0 1 → A1 (200 + t) 1 0 = A (200 + t) 1 0) : BK A1 := by
  refine ⟨fun i q1 q2 => ?_, fun t q1 q2 => ?_, fun l q1 q2 => ?_, fun t q1 q2 => ?_⟩
  · rw [c0] at q1; rw [ef i q1 q2]; exact h.1 i q1 q2
  · rw [c1] at q1; rw [et t q1 q2]; exact h.2.1 t q1 q2
  · rw [c2] at q1; rw [el l q1 q2]; exact h.2.2.1 l q1 q2
  · rw [c1] at q2; rw [es t q1 q2, c0]; exact h.2.2.2 t q1 q2
end Keep
theorem src_sR {S F : Fn} {w o v : Int} (h0 : 0 ≤ S 2 0) (hv : ¬ v = -1) (hb : F 0 (S 2 0) = -1) : sR (sAdd S w o) F v = sR S F v := by
  have r : sR (sAdd S w o) F v = fr (wgS (sAdd S w o) F v) 0 (sAdd S w o 2 0) (fun _ => 0) := rfl
  have e : fr (wgS (sAdd S w o) F v) 0 (S 2 0) (fun _ => 0) = fr (wgS S F v) 0 (S 2 0) (fun _ => 0) := fr_congr fun i s q1 q2 => by
    have a1 : sAdd S w o 1 i = S 1 i := by rw [sAdd_1, if_neg (by omega)]
    have a0 : sAdd S w o 0 i = S 0 i := by rw [sAdd_0, if_neg (by omega)]
    unfold wgS
    rw [a1, a0]
  have d : ∀ x, wgS (sAdd S w o) F v (S 2 0) x = x := fun x => by
    unfold wgS
    exact if_neg (fun q => hv (by rw [← q, hb]))
  rw [r, sAdd_2, fr_last h0, d, e]
  rfl
theorem src_all {S F : Fn} {w o v : Int} (hS : SB S) (hv : ¬ v = -1) (hb : F 0 (S 2 0) = -1) : tF (sAdd S w o) F v = tF S F v ∧ pG (sAdd S w o) F v = pG S F v := by
  have hc := hS.c
  have e := src_sR (w := w) (o := o) hc.1 hv hb
  have hs : sR S F v (S 2 0) = 0 := by
    rcases (sR_sp (F := F) (v := v) (r := S 2 0) hS).2 with q | ⟨k, q1, q2, -⟩
    · exact q
    · have := hS.r k q1.1 q1.2; omega
  have c : ∀ (g : Int → Int → Int), (∀ x, g (S 2 0) x = x) → fr g 0 (S 2 0 + 1) 0 = fr g 0 (S 2 0) 0 := fun g hg => by rw [fr_last hc.1, hg]
  have e1 : tF (sAdd S w o) F v = tF S F v := by
    unfold tF; rw [e, sAdd_2]; exact c _ (fun x => by (try dsimp only); rw [hs]; exact if_neg (by omega))
  have e2 : tO (sAdd S w o) F v = tO S F v := by
    unfold tO; rw [e, sAdd_2]; exact c _ (fun x => by (try dsimp only); rw [hs]; exact if_neg (by omega))
  have e3 : tN (sAdd S w o) F v = tN S F v := by
    unfold tN; rw [e, sAdd_2]; exact c _ (fun x => by (try dsimp only); rw [hs]; exact if_neg (by omega))
  have e4 : tR (sAdd S w o) F v = tR S F v := by
    unfold tR; rw [e, sAdd_2]; exact c _ (fun x => by (try dsimp only); rw [hs]; exact if_neg (by omega))
  refine ⟨e1, ?_⟩
  unfold pG; rw [e2, e3, e4]
theorem src_st {S F : Fn} {w o z : Int} (hS : SB S) (hb : F 0 (S 2 0) = -1) : stC (sAdd S w o) F z (-1) = stC S F z (-1) := by
  have hc := hS.c
  have r : stC (sAdd S w o) F z (-1) = (fr (stS (sAdd S w o) F z (-1)) 0 (sAdd S w o 2 0) (-1, 0)).1 := rfl
  have e : fr (stS (sAdd S w o) F z (-1)) 0 (S 2 0) (-1, 0) = fr (stS S F z (-1)) 0 (S 2 0) (-1, 0) := fr_congr fun i b q1 q2 => by
    unfold stS
    by_cases hi : F 0 i = -1
    · rw [if_neg (fun q => q.1 hi), if_neg (fun q => q.1 hi)]
    · obtain ⟨a1, a2⟩ := src_all (w := w) (o := o) hS hi hb
      rw [a1, a2]
  have d : ∀ x, stS (sAdd S w o) F z (-1) (S 2 0) x = x := fun x => by
    unfold stS
    exact if_neg (fun q => q.1 hb)
  rw [r, sAdd_2, fr_last hc.1, d, e]
  rfl
theorem src_FS {S F : Fn} {w o : Int} (hS : SB S) (hc : S 2 0 < 10) (h : FS S F) : FS (sAdd S w o) F := by
  have h0 := hS.c
  obtain ⟨⟨a, b, c⟩, d⟩ := h
  have hb := d (S 2 0) (Int.le_refl _) hc
  have e1 : tru (sAdd S w o) F = tru S F := src_st hS hb
  have e2 : hrd (sAdd S w o) F = hrd S F := by
    unfold hrd; rw [e1, src_st hS hb]
  have e3 : trf (sAdd S w o) F = trf S F := by
    unfold trf; rw [e1]
    by_cases h1 : tru S F = -1
    · rw [if_pos h1, if_pos h1]
    · rw [if_neg h1, if_neg h1, (src_all hS h1 hb).1]
  refine ⟨⟨by rw [e1]; exact a, by rw [e2]; exact b, by rw [e3]; exact c⟩, fun k q1 q2 => ?_⟩
  rw [sAdd_2] at q1
  exact d k (by omega) q2
theorem Inv.src {A : An} (h : Inv A) {w o : Int} (hw : 1 ≤ w ∧ w ≤ 3) (hc : A 10 2 0 < 10) (ho : o = -1 ∨ (0 ≤ o ∧ o < A 10 2 0)) : Inv (aSrc A w o) := by
  obtain ⟨hA, hW, hB⟩ := h
  have en : ∀ j, j ≠ 10 → aSrc A w o j = A j := fun j hj => aup_n hj
  have e0 : aSrc A w o 10 = sAdd (A 10) w o := aup_s _ _ _
  have z0 : aSrc A w o 0 = A 0 := en 0 (by omega)
  have hA1 : AB (aSrc A w o) := hA.uS (sAdd_SB hA.so hw hc ho)
  have hn := hA.n
  refine ⟨hA1, WF.mk hA1 (hW.wt.of (by rw [z0]) (fun t q => en _ (by omega))) (hW.wl.of (by rw [z0]) (by rw [z0]) (fun t q => en _ (by omega)) (fun l q1 q2 => en _ (by omega))) (fun i q1 q2 => ?_), hB.of (by rw [z0]) (by rw [z0]) (by rw [z0]) (fun i q1 q2 => en _ (by omega)) (fun t q1 q2 => by rw [en _ (by omega)]) (fun l q1 q2 => en _ (by omega)) (fun t q1 q2 => by rw [en _ (by omega)])⟩
  rw [z0] at q2
  rw [e0, en _ (by omega)]
  exact src_FS hA.so hc (hW.wf hA i q1 q2)
theorem blank_FS {S F : Fn} (hS : SB S) (h : ∀ k, 0 ≤ k → k < 10 → F 0 k = -1) (h0 : F 1 0 = -1 ∧ F 1 1 = 0 ∧ F 1 2 = -1) : FS S F := by
  have hc := hS.c
  have st : ∀ z, stC S F z (-1) = -1 := fun z => by
    have e : fr (stS S F z (-1)) 0 (S 2 0) (-1, 0) = (-1, 0) := fr_id fun i q1 q2 => by
      unfold stS
      exact if_neg (fun q => q.1 (h i q1 (by omega)))
    show (fr (stS S F z (-1)) 0 (S 2 0) (-1, 0)).1 = -1
    rw [e]
  have e1 : tru S F = -1 := st 1
  refine ⟨⟨by rw [e1]; exact h0.1, ?_, ?_⟩, fun k q1 q2 => h k (by omega) q2⟩
  · unfold hrd; rw [if_pos e1, st 0]; exact h0.2.2
  · unfold trf; rw [if_pos e1]; exact h0.2.1
theorem Inv.sty {A : An} (h : Inv A) (hc : A 0 0 0 < 6) : Inv (aSty A) := by
  obtain ⟨hA, hW, hB⟩ := h
  have hn := hA.n
  have en : ∀ j, j ≠ 0 → aSty A j = A j := fun j hj => aup_n hj
  have e0 : aSty A 0 0 0 = A 0 0 0 + 1 := by unfold aSty; rw [aup_s, lup_s]
  have ec : ∀ s, s ≠ 0 → aSty A 0 0 s = A 0 0 s := fun s hs => by unfold aSty; rw [aup_s, lup_n (by omega)]
  have e1 := ec 1 (by omega)
  have e2 := ec 2 (by omega)
  have hA1 : AB (aSty A) := hA.un (by omega)
  refine ⟨hA1, WF.mk hA1 (hW.wt.of e1 (fun t q => en _ (by omega))) (hW.wl.of e1 e2 (fun t q => en _ (by omega)) (fun l q1 q2 => en _ (by omega))) (fun i q1 q2 => ?_), ⟨fun i q1 q2 => ?_, fun t q1 q2 => ?_, fun l q1 q2 => ?_, fun t q1 q2 => ?_⟩⟩
  · rw [e0] at q2
    rw [en 10 (by omega), en (100 + i) (by omega)]
    by_cases hi : i < A 0 0 0 * 4
    · exact hW.wf hA i q1 hi
    · have z := hB.1 i (by omega) (by omega)
      exact blank_FS hA.so z.1 ⟨z.2.1, z.2.2.1, z.2.2.2.1⟩
  · rw [e0] at q1; rw [en _ (by omega)]; exact hB.1 i (by omega) q2
  · rw [e1] at q1; rw [en _ (by omega)]; exact hB.2.1 t q1 q2
  · rw [e2] at q1; rw [en _ (by omega)]; exact hB.2.2.1 l q1 q2
  · rw [e1] at q2; rw [en _ (by omega), e0]; have := hB.2.2.2 t q1 q2; omega
theorem Inv.lin {A : An} (h : Inv A) {sp lg : Int} (hs : 1 ≤ sp ∧ sp ≤ 60) (hg : 0 ≤ lg ∧ lg ≤ 9) (hc : A 0 0 2 < 4) : Inv (aLin A sp lg) := by
  obtain ⟨hA, hW, hB⟩ := h
  have hn := hA.n
  have e0 : aLin A sp lg 0 = lup (A 0) 0 2 (A 0 0 2 + 1) := aup_s _ _ _
  have en : ∀ j, j ≠ 0 → j ≠ 20 + A 0 0 2 → aLin A sp lg j = A j := fun j hj hj2 => by unfold aLin; rw [aup_n hj, aup_n hj2]
  have el : aLin A sp lg (20 + A 0 0 2) = lup (lup (A (20 + A 0 0 2)) 4 0 sp) 4 1 lg := by unfold aLin; rw [aup_n (by omega), aup_s]
  have c2 : aLin A sp lg 0 0 2 = A 0 0 2 + 1 := by rw [e0, lup_s]
  have ec : ∀ s, s ≠ 2 → aLin A sp lg 0 0 s = A 0 0 s := fun s hs => by rw [e0, lup_n (by omega)]
  have c0 := ec 0 (by omega)
  have c1 := ec 1 (by omega)
  have hL := hA.li (A 0 0 2) (by omega)
  have hA1 : AB (aLin A sp lg) := by
    have z := (hA.uL (L := lup (lup (A (20 + A 0 0 2)) 4 0 sp) 4 1 lg) (A 0 0 2) (by omega) ((hL.u4 (by omega)).u4 (by omega))).un (s := 2) (x := A 0 0 2 + 1) (by omega)
    rw [aup_n (by omega)] at z
    exact z
  have et : ∀ t, 0 ≤ t → aLin A sp lg (200 + t) = A (200 + t) := fun t q => en _ (by omega) (by omega)
  refine ⟨hA1, WF.mk hA1 (hW.wt.of c1 et) (fun l q1 q2 => ?_) (hW.wf hA |>.of c0 (en 10 (by omega) (by omega)) (fun i q1 q2 => en _ (by omega) (by omega))), ⟨fun i q1 q2 => ?_, fun t q1 q2 => ?_, fun l q1 q2 => ?_, fun t q1 q2 => ?_⟩⟩
  · rw [c2] at q2
    rw [c1]
    by_cases e : l = A 0 0 2
    · rw [e, el]
      obtain ⟨b1, b2, b3, b4⟩ := hB.2.2.1 (A 0 0 2) (Int.le_refl _) hc
      refine ⟨fun t q3 q4 => ?_, ?_, fun t q3 q4 => ?_⟩
      · have z := b1 t q3 q4
        rw [lup_n (i' := 3) (by omega), lup_n (i' := 3) (by omega), lup_n (i' := 0) (by omega), lup_n (i' := 0) (by omega), z.1, z.2]
        exact ⟨⟨fun _ => by decide, fun _ => rfl⟩, fun q => absurd q (by decide)⟩
      · rw [lup_n (by omega), lup_n (by omega), b4]; omega
      · rw [lup_n (by omega), lup_n (by omega)]; exact (b1 t (by omega) q4).1
    · rw [en _ (by omega) (by omega)]
      exact (hW.wl l q1 (by omega)).of (fun t q3 _ => et t q3)
  · rw [c0] at q1; rw [en _ (by omega) (by omega)]; exact hB.1 i q1 q2
  · rw [c1] at q1; rw [et t (by omega)]; exact hB.2.1 t q1 q2
  · rw [c2] at q1; rw [en _ (by omega) (by omega)]; exact hB.2.2.1 l (by omega) q2
  · rw [c1] at q2; rw [et t q1, c0]; exact hB.2.2.2 t q1 q2
theorem setl_FS {S F : Fn} {so v : Int} (h : FS S F) (hso : 0 ≤ so ∧ so < S 2 0) : FS S (setl S (lup F 0 so v)) := by
  have e1 : tru S (setl S (lup F 0 so v)) = tru S (lup F 0 so v) := stC_up (fun t => setl_0 t)
  have e0 : stC S (setl S (lup F 0 so v)) 0 (-1) = stC S (lup F 0 so v) 0 (-1) := stC_up (fun t => setl_0 t)
  have e2 : hrd S (setl S (lup F 0 so v)) = hrd S (lup F 0 so v) := by unfold hrd; rw [e1, e0]
  have e3 : trf S (setl S (lup F 0 so v)) = trf S (lup F 0 so v) := by unfold trf; rw [e1, tF_up (fun t => setl_0 t)]
  refine ⟨⟨?_, ?_, ?_⟩, fun k q1 q2 => ?_⟩
  · rw [e1]; unfold setl; rw [lup_n (by omega), lup_n (by omega), lup_s]
  · rw [e2]; unfold setl; rw [lup_s]
  · rw [e3]; unfold setl; rw [lup_n (by omega), lup_s]
  · rw [setl_0, lup_n (by omega)]; exact h.2 k q1 q2
theorem Inv.say {A : An} (h : Inv A) {so i v : Int} (hso : 0 ≤ so ∧ so < A 10 2 0) (hi : 0 ≤ i ∧ i < A 0 0 0 * 4) (hv : -1 ≤ v ∧ v ≤ 99) : Inv (aSay A so i v) := by
  obtain ⟨hA, hW, hB⟩ := h
  have hn := hA.n
  have en : ∀ j, j ≠ 100 + i → aSay A so i v j = A j := fun j hj => aup_n hj
  have z0 : aSay A so i v 0 = A 0 := en 0 (by omega)
  have hA1 : AB (aSay A so i v) := hA.say (by omega) hv
  refine ⟨hA1, WF.mk hA1 (hW.wt.of (by rw [z0]) (fun t q => en _ (by omega))) (hW.wl.of (by rw [z0]) (by rw [z0]) (fun t q => en _ (by omega)) (fun l q1 q2 => en _ (by omega))) (fun f q1 q2 => ?_), hB.of (by rw [z0]) (by rw [z0]) (by rw [z0]) (fun f q1 q2 => en _ (by omega)) (fun t q1 q2 => by rw [en _ (by omega)]) (fun l q1 q2 => en _ (by omega)) (fun t q1 q2 => by rw [en _ (by omega)])⟩
  rw [z0] at q2
  rw [en 10 (by omega)]
  by_cases e : f = i
  · rw [e]
    show FS (A 10) (aup A (100 + i) (setl (A 10) (lup (A (100 + i)) 0 so v)) (100 + i))
    rw [aup_s]
    exact setl_FS (hW.wf hA i hi.1 hi.2) hso
  · rw [en _ (by omega)]; exact hW.wf hA f q1 q2
theorem Inv.riv {A : An} (h : Inv A) {i : Int} (hi : 0 ≤ i ∧ i < A 0 0 0 * 4) : Inv (aRiv A i) := by
  obtain ⟨hA, hW, hB⟩ := h
  have hn := hA.n
  have en : ∀ j, j ≠ 100 + i → aRiv A i j = A j := fun j hj => aup_n hj
  have z0 : aRiv A i 0 = A 0 := en 0 (by omega)
  have hF := hA.fa i (by omega)
  have hA1 : AB (aRiv A i) := by
    refine hA.uF i (by omega) ⟨fun j q1 q2 => ?_, ?_, ?_, ?_, ?_⟩
    · rw [lup_n (by omega)]; exact hF.v0 j q1 q2
    · rw [lup_n (by omega)]; exact hF.s0
    · rw [lup_n (by omega)]; exact hF.s1
    · rw [lup_n (by omega)]; exact hF.s2
    · rw [lup_s]; omega
  refine ⟨hA1, WF.mk hA1 (hW.wt.of (by rw [z0]) (fun t q => en _ (by omega))) (hW.wl.of (by rw [z0]) (by rw [z0]) (fun t q => en _ (by omega)) (fun l q1 q2 => en _ (by omega))) (fun f q1 q2 => ?_), hB.of (by rw [z0]) (by rw [z0]) (by rw [z0]) (fun f q1 q2 => en _ (by omega)) (fun t q1 q2 => by rw [en _ (by omega)]) (fun l q1 q2 => en _ (by omega)) (fun t q1 q2 => by rw [en _ (by omega)])⟩
  rw [z0] at q2
  rw [en 10 (by omega)]
  by_cases e : f = i
  · rw [e]
    show FS (A 10) (aup A (100 + i) (lup (A (100 + i)) 1 3 (A 0 0 3)) (100 + i))
    rw [aup_s]
    obtain ⟨⟨a, b, c⟩, d⟩ := hW.wf hA i hi.1 hi.2
    have u : ∀ t, lup (A (100 + i)) 1 3 (A 0 0 3) 0 t = A (100 + i) 0 t := fun t => lup_n (by omega)
    have e1 : tru (A 10) (lup (A (100 + i)) 1 3 (A 0 0 3)) = tru (A 10) (A (100 + i)) := stC_up u
    have e0 : stC (A 10) (lup (A (100 + i)) 1 3 (A 0 0 3)) 0 (-1) = stC (A 10) (A (100 + i)) 0 (-1) := stC_up u
    have e2 : hrd (A 10) (lup (A (100 + i)) 1 3 (A 0 0 3)) = hrd (A 10) (A (100 + i)) := by unfold hrd; rw [e1, e0]
    have e3 : trf (A 10) (lup (A (100 + i)) 1 3 (A 0 0 3)) = trf (A 10) (A (100 + i)) := by unfold trf; rw [e1, tF_up u]
    refine ⟨⟨?_, ?_, ?_⟩, fun k q3 q4 => by rw [u]; exact d k q3 q4⟩
    · rw [e1, lup_n (by omega)]; exact a
    · rw [e2, lup_n (by omega)]; exact b
    · rw [e3, lup_n (by omega)]; exact c
  · rw [en _ (by omega)]; exact hW.wf hA f q1 q2
theorem LPr.v4 {L : Fn} {T : Int → Fn} {n s x : Int} (h : LPr L T n) (hs : s ≠ 4) : LPr (lup L 4 s x) T n := by
  refine ⟨fun t q1 q2 => ?_, ?_, fun t q1 q2 => ?_⟩
  · rw [lup_n (i' := 3) (by omega), lup_n (i' := 0) (by omega), lup_n (i' := 1) (by omega), lup_n (i' := 2) (by omega), lup_n (i' := 4) (by omega)]
    exact h.1 t q1 q2
  · rw [lup_n (by omega)]; exact h.2.1
  · rw [lup_n (by omega)]; exact h.2.2 t q1 q2
theorem Inv.dwn {A : An} (h : Inv A) {l m : Int} (hl : 0 ≤ l ∧ l < A 0 0 2) (hm : 0 ≤ m ∧ m ≤ 99) : Inv (aDwn A l m) := by
  obtain ⟨hA, hW, hB⟩ := h
  have hn := hA.n
  have en : ∀ j, j ≠ 20 + l → aDwn A l m j = A j := fun j hj => aup_n hj
  have z0 : aDwn A l m 0 = A 0 := en 0 (by omega)
  have hA1 : AB (aDwn A l m) := hA.uL l (by omega) ((hA.li l (by omega)).u4 (by omega))
  refine ⟨hA1, WF.mk hA1 (hW.wt.of (by rw [z0]) (fun t q => en _ (by omega))) (fun k q1 q2 => ?_) ((hW.wf hA).of (by rw [z0]) (en _ (by omega)) (fun i q1 q2 => en _ (by omega))), hB.of (by rw [z0]) (by rw [z0]) (by rw [z0]) (fun f q1 q2 => en _ (by omega)) (fun t q1 q2 => by rw [en _ (by omega)]) (fun l q1 q2 => en _ (by omega)) (fun t q1 q2 => by rw [en _ (by omega)])⟩
  rw [z0] at q2 ⊢
  have et : ∀ t, 0 ≤ t → aDwn A l m (200 + t) = A (200 + t) := fun t q => en _ (by omega)
  by_cases e : k = l
  · rw [e]
    show LPr (aup A (20 + l) (lup (A (20 + l)) 4 2 m) (20 + l)) _ _
    rw [aup_s]
    exact ((hW.wl l hl.1 hl.2).v4 (by omega)).of (fun t q3 _ => et t q3)
  · rw [en _ (by omega)]; exact (hW.wl k q1 q2).of (fun t q3 _ => et t q3)

theorem LPr.nq {L : Fn} {T T1 : Int → Fn} {n k x hd : Int} (h : LPr L T n) (hn : 0 ≤ n ∧ n ≤ 60) (hx : 0 < x) (e : ∀ t, 0 ≤ t → t < n → T1 t = T t) (ek : T1 n 1 1 = k) (eh : T1 n 1 4 = hd) : LPr (enq L n k x hd) T1 (n + 1) := by
  have r0 : ∀ t, enq L n k x hd 0 t = if t = n then x else L 0 t := fun t => by
    unfold enq
    rw [lup_n (by omega), lup_n (by omega), lup_n (by omega), lup_c]
    by_cases q : t = n
    · rw [if_pos ⟨rfl, q⟩, if_pos q]
    · rw [if_neg (by omega), if_neg q]
  have r1 : ∀ t, enq L n k x hd 1 t = if t = n then k else L 1 t := fun t => by
    unfold enq
    rw [lup_n (by omega), lup_n (by omega), lup_c]
    by_cases q : t = n
    · rw [if_pos ⟨rfl, q⟩, if_pos q]
    · rw [if_neg (by omega), if_neg q, lup_n (by omega)]
  have r2 : ∀ t, enq L n k x hd 2 t = if t = n then hd else L 2 t := fun t => by
    unfold enq
    rw [lup_n (by omega), lup_c]
    by_cases q : t = n
    · rw [if_pos ⟨rfl, q⟩, if_pos q]
    · rw [if_neg (by omega), if_neg q, lup_n (by omega), lup_n (by omega)]
  have r3 : ∀ t, enq L n k x hd 3 t = L 3 t := fun t => by
    unfold enq
    rw [lup_n (by omega), lup_n (by omega), lup_n (by omega), lup_n (by omega)]
  have r4 : enq L n k x hd 4 4 = n + 1 := by unfold enq; rw [lup_s]
  refine ⟨fun t q1 q2 => ?_, by rw [r4]; omega, fun t q1 q2 => ?_⟩
  · rw [r0, r1, r2, r3, r4]
    by_cases q : t = n
    · rw [if_pos q, if_pos q, if_pos q]
      have z := h.2.2 n (Int.le_refl _) (by omega)
      have y := (h.1 n hn.1 (by omega)).1
      rw [q, ek, eh]
      exact ⟨by omega, fun _ => ⟨rfl, rfl, by omega⟩⟩
    · rw [if_neg q, if_neg q, if_neg q]
      have z := h.1 t q1 q2
      refine ⟨z.1, fun p => ?_⟩
      have y := z.2 p
      have := h.2.1
      rw [e t q1 (by omega)]
      exact ⟨y.1, y.2.1, by omega⟩
  · rw [r0, if_neg (by omega)]; exact h.2.2 t (by omega) q2
theorem LPr.off {L : Fn} {T T1 : Int → Fn} {n t : Int} (h : LPr L T n) (ht : ¬ L 0 t = 0) (h0 : 0 ≤ t ∧ t < 61) (e : ∀ t, 0 ≤ t → t < n → T1 t 1 1 = T t 1 1 ∧ T1 t 1 4 = T t 1 4) : LPr (lup L 0 t (-1)) T1 (n + 1) := by
  refine ⟨fun u q1 q2 => ?_, ?_, fun u q1 q2 => ?_⟩
  · rw [lup_n (i' := 3) (by omega), lup_n (i' := 1) (by omega), lup_n (i' := 2) (by omega), lup_n (i' := 4) (by omega), lup_c]
    have z := h.1 u q1 q2
    by_cases q : u = t
    · rw [if_pos ⟨rfl, q⟩, q]
      have y := (h.1 t h0.1 h0.2).1
      exact ⟨⟨fun _ => by omega, fun _ => y.mpr ht⟩, fun p => absurd p (by omega)⟩
    · rw [if_neg (by omega)]
      refine ⟨z.1, fun p => ?_⟩
      have y := z.2 p
      have := h.2.1
      have w := e u q1 (by omega)
      rw [w.1, w.2]; exact y
  · rw [lup_n (by omega)]; have := h.2.1; omega
  · rw [lup_c]
    split
    · rfl
    · exact h.2.2 u (by omega) q2
theorem LPr.lw {L : Fn} {T : Int → Fn} {n : Int} (h : LPr L T n) (hn : n ≤ 61) : LW L T n :=
  ⟨fun t q1 q2 => ⟨(h.1 t q1 q2).1, fun q3 => by have z := (h.1 t q1 q2).2 q3; have := h.2.1; exact ⟨by omega, z.1, z.2.1⟩⟩, h.2.1, hn⟩
theorem sn_0 {L : Fn} {m t g u : Int} (h : u ≠ t) : sn L m t g 0 u = L 0 u := by
  unfold sn
  split
  · rw [lup_n (by omega), lup_n (by omega), lup_n (by omega)]
  · rw [lup_n (by omega), lup_n (by omega)]
theorem rS_n {m u : Int} : ∀ (n : Nat) (L : Fn) (w s : Int), 0 ≤ L 4 4 → L 0 u = -1 → (rS (fun L => mU L m) m n L w s).1 0 u = -1 := by
  intro n
  induction n with
  | zero => intro L w s _ h; exact h
  | succ n ih =>
    intro L w s h4 h
    have e : rS (fun L => mU L m) m (n + 1) L w s = if w ≤ 0 then (L, s) else if mU L m = -1 then (L, s) else rS (fun L => mU L m) m n (sn L m (mU L m) (min w (L 0 (mU L m)))) (w - min w (L 0 (mU L m))) (if L 0 (mU L m) - min w (L 0 (mU L m)) = 0 then s + 1 else s) := rfl
    rw [e]
    by_cases hw : w ≤ 0
    · rw [if_pos hw]; exact h
    · rw [if_neg hw]
      by_cases hu : mU L m = -1
      · rw [if_pos hu]; exact h
      · rw [if_neg hu]
        have hs := (mU_spec (L := L) (minute := m) h4).resolve_left hu
        refine ih _ _ _ (by rw [sn_4 (by omega)]; exact h4) ?_
        rw [sn_0 (by intro q; rw [q] at h; omega)]; exact h
theorem rM_n {L : Fn} {m u : Int} (h4 : 0 ≤ L 4 4) (h : L 0 u = -1) : (rM L m).1 0 u = -1 := by
  unfold rM
  split
  · show lup L 4 2 (L 4 2 - 1) 0 u = -1
    rw [lup_n (by omega)]; exact h
  · exact rS_n _ _ _ _ h4 h
theorem rM_44 {L : Fn} {m : Int} : (rM L m).1 4 4 = L 4 4 := by
  unfold rM
  split
  · show lup L 4 2 (L 4 2 - 1) 4 4 = L 4 4
    exact lup_n (by omega)
  · exact rS_4 (by omega) _ _ _ _
theorem LPr.rMt {L : Fn} {T : Int → Fn} {n m : Int} (h : LPr L T n) (hB : LB L) (hn : n ≤ 61) (hm : 0 ≤ m ∧ m ≤ 20000) : LPr (rM L m).1 T n := by
  have z := (h.lw hn).rMt hB hm
  refine ⟨fun t q1 q2 => ⟨(z.1 t q1 q2).1, fun q3 => ?_⟩, z.2.1, fun t q1 q2 => rM_n hB.s4.1 (h.2.2 t q1 q2)⟩
  have y := (z.1 t q1 q2).2 q3
  exact ⟨y.2.1, y.2.2, y.1.2⟩
/-- lines 0 .. n - 1 are changed -/
theorem Wl.onL {A A1 : An} {f : Fn → Fn} (c1 : A1 0 0 1 = A 0 0 1) (c2 : A1 0 0 2 = A 0 0 2) (et : ∀ t, 0 ≤ t → A1 (200 + t) = A (200 + t)) (el : ∀ l, 0 ≤ l → l < A 0 0 2 → A1 (20 + l) = f (A (20 + l))) (hf : ∀ l, 0 ≤ l → l < A 0 0 2 → LPr (f (A (20 + l))) (fun t => A (200 + t)) (A 0 0 1)) : Wl A1 := fun l q1 q2 => by
  rw [c2] at q2; rw [c1, el l q1 q2]
  exact (hf l q1 q2).of (fun t q3 _ => et t q3)
theorem Inv.min {A : An} (h : Inv A) (hm : A 0 0 3 < 9999) : Inv (aMin A) := by
  obtain ⟨hA, hW, hB⟩ := h
  have hn := hA.n
  have e0 : aMin A 0 = lup (A 0) 0 3 (A 0 0 3 + 1) := by unfold aMin; rw [onL_n (by omega), aup_s]
  have eo : ∀ j, j ≠ 0 → (j < 20 ∨ 20 + A 0 0 2 ≤ j) → aMin A j = A j := fun j q1 q2 => by unfold aMin; rw [onL_n q2, aup_n q1]
  have el : ∀ l, 0 ≤ l → l < A 0 0 2 → aMin A (20 + l) = (rM (A (20 + l)) (A 0 0 3 + 1)).1 := fun l q1 q2 => by unfold aMin; rw [onL_y (by omega), aup_n (by omega)]
  have ec : ∀ s, s ≠ 3 → aMin A 0 0 s = A 0 0 s := fun s hs => by rw [e0, lup_n (by omega)]
  have hA1 : AB (aMin A) := (hA.un (by omega)).run (by omega) (fun L hL => rM_LB hL (by omega))
  refine ⟨hA1, WF.mk hA1 (hW.wt.of (ec 1 (by omega)) (fun t q => eo _ (by omega) (by omega))) (Wl.onL (f := fun L => (rM L (A 0 0 3 + 1)).1) (ec 1 (by omega)) (ec 2 (by omega)) (fun t q => eo _ (by omega) (by omega)) el (fun l q1 q2 => (hW.wl l q1 q2).rMt (hA.li l (by omega)) (by omega) (by omega))) ((hW.wf hA).of (ec 0 (by omega)) (eo _ (by omega) (by omega)) (fun i q1 q2 => eo _ (by omega) (by omega))), hB.of (ec 0 (by omega)) (ec 1 (by omega)) (ec 2 (by omega)) (fun i q1 q2 => eo _ (by omega) (by omega)) (fun t q1 q2 => by rw [eo _ (by omega) (by omega)]) (fun l q1 q2 => eo _ (by omega) (by omega)) (fun t q1 q2 => by rw [eo _ (by omega) (by omega)])⟩
theorem aPas_0 {A : An} : aPas A 0 = (A, 0) := fr_end (by omega)
theorem aPas_1 {A : An} {m : Int} (h : 0 ≤ m) : aPas A (m + 1) = (aMin (aPas A m).1, (aPas A m).2 + nMin (aPas A m).1) := by
  unfold aPas
  rw [fr_last h]
theorem aMin_0 {A : An} (h : 0 ≤ A 0 0 2) {s : Int} : aMin A 0 0 s = if s = 3 then A 0 0 3 + 1 else A 0 0 s := by
  unfold aMin
  rw [onL_n (by omega), aup_s, lup_c]
  by_cases e : s = 3
  · rw [if_pos ⟨rfl, e⟩, if_pos e]
  · rw [if_neg (by omega), if_neg e]
theorem Inv.pas {A : An} (h : Inv A) {m : Int} (hm : 0 ≤ m) (ht : A 0 0 3 + m ≤ 9999) : Inv (aPas A m).1 ∧ (∀ s, (aPas A m).1 0 0 s = if s = 3 then A 0 0 3 + m else A 0 0 s) := by
  have key : ∀ n : Nat, A 0 0 3 + (n : Int) ≤ 9999 → Inv (aPas A (n : Int)).1 ∧ (∀ s, (aPas A (n : Int)).1 0 0 s = if s = 3 then A 0 0 3 + (n : Int) else A 0 0 s) := by
    intro n
    induction n with
    | zero =>
      intro _
      show Inv (aPas A 0).1 ∧ (∀ s, (aPas A 0).1 0 0 s = if s = 3 then A 0 0 3 + 0 else A 0 0 s)
      rw [aPas_0]
      refine ⟨h, fun s => ?_⟩
      by_cases e : s = 3
      · rw [if_pos e, e]; show A 0 0 3 = A 0 0 3 + 0; omega
      · rw [if_neg e]
    | succ n ih =>
      intro q
      obtain ⟨i1, i2⟩ := ih (by omega)
      show Inv (aPas A ((n : Int) + 1)).1 ∧ (∀ s, (aPas A ((n : Int) + 1)).1 0 0 s = if s = 3 then A 0 0 3 + ((n : Int) + 1) else A 0 0 s)
      rw [aPas_1 (by omega)]
      have h3 := i2 3
      rw [if_pos rfl] at h3
      refine ⟨i1.min (by rw [h3]; omega), fun s => ?_⟩
      show aMin (aPas A (n : Int)).1 0 0 s = _
      rw [aMin_0 (by have := i1.1.n; omega)]
      by_cases e : s = 3
      · rw [if_pos e, if_pos e, h3]; omega
      · rw [if_neg e, if_neg e, i2 s, if_neg e]
  have z := key m.toNat (by omega)
  rwa [show ((m.toNat : Nat) : Int) = m by omega] at z
/-- a new take is filed -/
theorem Inv.take {A : An} (h : Inv A) {T : Fn} (hn60 : A 0 0 1 < 60) (hT : TB T 0) (hi : ∀ f, 0 ≤ f → f < 4 → (ins (T 1 2) f ↔ ¬ T 0 f = -1)) (h7 : T 1 7 = -1) (h1 : ¬ T 1 1 = 1) (h3 : 0 < T 1 3) (h00 : T 1 0 < A 0 0 0) : Inv (aRun (aT A T) (A 0 0 1)) := by
  obtain ⟨hA, hW, hB⟩ := h
  have hn := hA.n
  have z0 := fun c => aT_0 (A := A) (T := T) (c := c) (by omega)
  have y1 := z0 1
  have y2 := z0 2
  rw [if_pos rfl] at y1
  rw [if_neg (by omega)] at y2
  have eq1 : aRun (aT A T) (A 0 0 1) = onL (aT A T) (A 0 0 2) (fun L => enq L (A 0 0 1) (T 1 1) (T 1 3) (T 1 4)) := by
    unfold aRun runF; rw [y2, aT_t]
  have hA0 : AB (aT A T) := (hA.un (s := 1) (x := A 0 0 1 + 1) (by omega)).uT _ (by omega) hT
  have s1 := hT.s1
  have s3 := hT.s3
  have s4 := hT.s4
  have hA1 : AB (aRun (aT A T) (A 0 0 1)) := by
    rw [eq1]
    exact hA0.run (by omega) (fun L hL => enq_LB hL s1 (by omega) s4 (by omega))
  have e0 : ∀ c, aRun (aT A T) (A 0 0 1) 0 0 c = if c = 1 then A 0 0 1 + 1 else A 0 0 c := fun c => by rw [eq1, onL_n (by omega), z0]
  have eo : ∀ j, j ≠ 0 → j ≠ 200 + A 0 0 1 → (j < 20 ∨ 20 + A 0 0 2 ≤ j) → aRun (aT A T) (A 0 0 1) j = A j := fun j q1 q2 q3 => by rw [eq1, onL_n q3, aT_o q2 q1]
  have en : aRun (aT A T) (A 0 0 1) (200 + A 0 0 1) = T := by rw [eq1, onL_n (by omega), aT_t]
  have el : ∀ l, 0 ≤ l → l < A 0 0 2 → aRun (aT A T) (A 0 0 1) (20 + l) = enq (A (20 + l)) (A 0 0 1) (T 1 1) (T 1 3) (T 1 4) := fun l q1 q2 => by rw [eq1, onL_y (by omega), aT_o (by omega) (by omega)]
  have et : ∀ t, 0 ≤ t → t < A 0 0 1 → aRun (aT A T) (A 0 0 1) (200 + t) = A (200 + t) := fun t q1 q2 => eo _ (by omega) (by omega) (by omega)
  have c0 := e0 0
  have c1 := e0 1
  have c2 := e0 2
  rw [if_neg (by omega)] at c0 c2
  rw [if_pos rfl] at c1
  generalize aRun (aT A T) (A 0 0 1) = A1 at hA1 e0 eo en el et c0 c1 c2 ⊢
  refine ⟨hA1, WF.mk hA1 ⟨fun t f q1 q2 q3 q4 => ?_, fun t q1 q2 q3 => ?_, fun k t q1 q2 q3 q4 q5 q6 => ?_⟩ (fun l q1 q2 => ?_) ((hW.wf hA).of c0 (eo _ (by omega) (by omega) (by omega)) (fun i q1 q2 => eo _ (by omega) (by omega) (by omega))), ⟨fun i q1 q2 => ?_, fun t q1 q2 => ?_, fun l q1 q2 => ?_, fun t q1 q2 => ?_⟩⟩
  · rw [c1] at q2
    by_cases e : t = A 0 0 1
    · rw [e, en]; exact hi f q3 q4
    · rw [et t q1 (by omega)]; exact hW.i t f q1 (by omega) q3 q4
  · rw [c1] at q2 ⊢
    by_cases e : t = A 0 0 1
    · rw [e, en] at q3; exact absurd h7 q3
    · rw [et t q1 (by omega)] at q3 ⊢
      have z := hW.k t q1 (by omega) q3
      rw [et _ (by omega) (by omega)]
      exact ⟨by omega, z.2⟩
  · rw [c1] at q2
    by_cases e : k = A 0 0 1
    · rw [e, en] at q5; exact absurd q5 h1
    · rw [et k q1 (by omega)] at q5 q6
      rw [et t q3 (by omega)]
      exact hW.u k t q1 (by omega) q3 q4 q5 q6
  · rw [c2] at q2
    rw [c1, el l q1 q2]
    exact (hW.wl l q1 q2).nq (by omega) h3 (fun t q3 q4 => et t q3 q4) (by show A1 (200 + A 0 0 1) 1 1 = _; rw [en]) (by show A1 (200 + A 0 0 1) 1 4 = _; rw [en])
  · rw [c0] at q1; rw [eo _ (by omega) (by omega) (by omega)]; exact hB.1 i q1 q2
  · rw [c1] at q1; rw [eo _ (by omega) (by omega) (by omega)]; exact hB.2.1 t (by omega) q2
  · rw [c2] at q1; rw [eo _ (by omega) (by omega) (by omega)]; exact hB.2.2.1 l q1 q2
  · rw [c1] at q2; rw [c0]
    by_cases e : t = A 0 0 1
    · rw [e, en]; exact h00
    · rw [et t q1 (by omega)]; exact hB.2.2.2 t q1 (by omega)
/-- the new take's numbers -/
theorem nT_1 {A : An} {s k set g hd tg : Int} : nT A s k set g hd tg 1 0 = s ∧ nT A s k set g hd tg 1 1 = k ∧ nT A s k set g hd tg 1 2 = set ∧ nT A s k set g hd tg 1 3 = wdf k (bc set) ∧ nT A s k set g hd tg 1 4 = hd ∧ nT A s k set g hd tg 1 5 = g ∧ nT A s k set g hd tg 1 6 = tg ∧ nT A s k set g hd tg 1 7 = A (200 + A 0 0 1) 1 7 ∧ nT A s k set g hd tg 1 8 = A 0 0 3 := by
  unfold nT
  simp only [rup_n (show (1 : Int) ≠ 0 by omega), lup_c]
  simp
theorem nT_0 {A : An} {s k set g hd tg f : Int} : nT A s k set g hd tg 0 f = if ins set f then vtf A g (s * 4 + f) else -1 := by
  unfold nT
  rw [rup_s]
theorem wdf_pos {k n : Int} (hk : 0 ≤ k) (hn : 0 ≤ n) : 0 < wdf k n := by
  unfold wdf
  (repeat' split) <;> omega
theorem hv_4 {A : An} {s set g f : Int} (h : hv A s set g = 4) (hf : 0 ≤ f ∧ f < 4) (hi : ins set f) : ¬ vtf A g (s * 4 + f) = -1 := by
  have z := fnd_spec (p := fun f => ins set f ∧ vtf A g (s * 4 + f) = -1) (lo := 0) (hi := 4) (by omega)
  have e : fnd (fun f => ins set f ∧ vtf A g (s * 4 + f) = -1) 0 4 = 4 := h
  exact fun q => z.2.2.1 f hf.1 (by rw [e]; exact hf.2) ⟨hi, q⟩
theorem Inv.fil {A : An} (h : Inv A) {s k set g hd tg : Int} (hn60 : A 0 0 1 < 60) (hs : 0 ≤ s ∧ s < A 0 0 0) (hk : 0 ≤ k ∧ k ≤ 4) (hk1 : ¬ k = 1) (hset : 0 ≤ set ∧ set < 16) (hg : g = 0 ∨ g = 1) (hh : 0 ≤ hd ∧ hd ≤ 9999) (ht : -1 ≤ tg ∧ tg < 60) (hv4 : hv A s set g = 4) : Inv (aFil A s k set g hd tg) := by
  have hn := h.1.n
  have z := nT_1 (A := A) (s := s) (k := k) (set := set) (g := g) (hd := hd) (tg := tg)
  have hb := bc_bd set
  have e : aTk A s k set g hd tg = aT A (nT A s k set g hd tg) := rfl
  show Inv (aRun (aTk A s k set g hd tg) (A 0 0 1))
  rw [e]
  refine h.take hn60 (nT_TB h.1 hn60 (by omega) hk hset hg hh ht) (fun f q1 q2 => ?_) ?_ ?_ ?_ (by rw [z.1]; exact hs.2)
  · rw [z.2.2.1, nT_0]
    by_cases hi : ins set f
    · rw [if_pos hi]; exact ⟨fun _ => hv_4 hv4 ⟨q1, q2⟩ hi, fun _ => hi⟩
    · rw [if_neg hi]; exact ⟨fun q => absurd q hi, fun q => absurd rfl q⟩
  · rw [z.2.2.2.2.2.2.2.1]; exact h.2.2.2.1 _ (Int.le_refl _) hn60
  · rw [z.2.1]; exact hk1
  · rw [z.2.2.2.1]; exact wdf_pos hk.1 hb.1
theorem aKl0_t {A : An} {t : Int} (h : t ≠ A 0 0 1) (h0 : 0 ≤ t) : aKl0 A t (200 + t) = lup (A (200 + t)) 1 7 (A 0 0 1) := aup_s _ _ _
theorem Inv.kil {A : An} (h : Inv A) {t : Int} (hn60 : A 0 0 1 < 60) (ht : 0 ≤ t ∧ t < A 0 0 1) (h7 : A (200 + t) 1 7 = -1) : Inv (aKil A t) := by
  obtain ⟨hA, hW, hB⟩ := h
  have hn := hA.n
  have hs := (hA.ta t (by omega)).s0
  have z := nT_1 (A := A) (s := A (200 + t) 1 0) (k := 1) (set := 0) (g := 0) (hd := 0) (tg := t)
  have b7 := hB.2.1 (A 0 0 1) (Int.le_refl _) hn60
  have k0 : ∀ j, j ≠ 200 + t → aKl0 A t j = aTk A (A (200 + t) 1 0) 1 0 0 0 t j := fun j hj => aup_n hj
  have kt : aKl0 A t (200 + t) = lup (A (200 + t)) 1 7 (A 0 0 1) := aup_s _ _ _
  have kn : aKl0 A t (200 + A 0 0 1) = nT A (A (200 + t) 1 0) 1 0 0 0 t := by rw [k0 _ (by omega), aTk_t]
  have kc : ∀ c, aKl0 A t 0 0 c = if c = 1 then A 0 0 1 + 1 else A 0 0 c := fun c => by rw [k0 _ (by omega), aTk_0 (by omega)]
  have ko : ∀ j, j ≠ 0 → j ≠ 200 + t → j ≠ 200 + A 0 0 1 → aKl0 A t j = A j := fun j q1 q2 q3 => by rw [k0 _ q2, aTk_o q3 q1]
  have hA0 : AB (aKl0 A t) := (hA.tk hn60 hs (by omega) (by omega) (Or.inl rfl) (by omega) (by omega)).uT t (by omega) (tb_k (hA.ta t (by omega)) (by omega))
  have s5 : wdf 1 (bc 0) = 5 := rfl
  have hA1 : AB (aKil A t) := by
    refine hA0.run (by omega) (fun L hL => ?_)
    unfold klF
    rw [kn, z.2.1, z.2.2.2.1, z.2.2.2.2.1, s5]
    split
    · exact enq_LB hL (by omega) (by omega) (by omega) (by omega)
    · exact hL.u0 (by omega)
  have e0 : ∀ c, aKil A t 0 0 c = if c = 1 then A 0 0 1 + 1 else A 0 0 c := fun c => by unfold aKil; rw [onL_n (by omega), kc]
  have eo : ∀ j, j ≠ 0 → j ≠ 200 + t → j ≠ 200 + A 0 0 1 → (j < 20 ∨ 20 + A 0 0 2 ≤ j) → aKil A t j = A j := fun j q1 q2 q3 q4 => by unfold aKil; rw [onL_n q4, ko j q1 q2 q3]
  have en : aKil A t (200 + A 0 0 1) = nT A (A (200 + t) 1 0) 1 0 0 0 t := by unfold aKil; rw [onL_n (by omega), kn]
  have ett : aKil A t (200 + t) = lup (A (200 + t)) 1 7 (A 0 0 1) := by unfold aKil; rw [onL_n (by omega), kt]
  have el : ∀ l, 0 ≤ l → l < A 0 0 2 → aKil A t (20 + l) = klF (aKl0 A t) t (A 0 0 1) (A (20 + l)) := fun l q1 q2 => by unfold aKil; rw [onL_y (by omega), ko _ (by omega) (by omega) (by omega)]
  have eu : ∀ u, 0 ≤ u → u < A 0 0 1 → u ≠ t → aKil A t (200 + u) = A (200 + u) := fun u q1 q2 q3 => eo _ (by omega) (by omega) (by omega) (by omega)
  have er : ∀ u, 0 ≤ u → u < A 0 0 1 → ∀ i j, ¬ (i = 1 ∧ j = 7) → aKil A t (200 + u) i j = A (200 + u) i j := fun u q1 q2 i j q3 => by
    by_cases e : u = t
    · rw [e, ett, lup_n q3]
    · rw [eu u q1 q2 e]
  have c0 := e0 0
  have c1 := e0 1
  have c2 := e0 2
  rw [if_neg (by omega)] at c0 c2
  rw [if_pos rfl] at c1
  have kl : ∀ L, klF (aKl0 A t) t (A 0 0 1) L = if L 0 t = 0 then enq L (A 0 0 1) 1 5 0 else lup L 0 t (-1) := fun L => by
    unfold klF
    rw [kn, z.2.1, z.2.2.2.1, z.2.2.2.2.1, s5]
  generalize aKil A t = A1 at hA1 e0 eo en ett el eu er c0 c1 c2 ⊢
  refine ⟨hA1, WF.mk hA1 ⟨fun u f q1 q2 q3 q4 => ?_, fun u q1 q2 q3 => ?_, fun k u q1 q2 q3 q4 q5 q6 => ?_⟩ (fun l q1 q2 => ?_) ((hW.wf hA).of c0 (eo _ (by omega) (by omega) (by omega) (by omega)) (fun i q1 q2 => eo _ (by omega) (by omega) (by omega) (by omega))), ⟨fun i q1 q2 => ?_, fun u q1 q2 => ?_, fun l q1 q2 => ?_, fun u q1 q2 => ?_⟩⟩
  · rw [c1] at q2
    by_cases e : u = A 0 0 1
    · rw [e, en, z.2.2.1, nT_0, if_neg ins_0]
      exact ⟨fun q => absurd q ins_0, fun q => absurd rfl q⟩
    · rw [er u q1 (by omega) 1 2 (by omega), er u q1 (by omega) 0 f (by omega)]; exact hW.i u f q1 (by omega) q3 q4
  · rw [c1] at q2 ⊢
    by_cases e : u = A 0 0 1
    · rw [e, en, z.2.2.2.2.2.2.2.1] at q3; exact absurd b7 q3
    · by_cases e2 : u = t
      · rw [e2, ett, lup_s, en, z.2.1, z.2.2.2.2.2.2.1]
        exact ⟨by omega, rfl, rfl⟩
      · rw [eu u q1 (by omega) e2] at q3 ⊢
        have y := hW.k u q1 (by omega) q3
        rw [er _ (by omega) (by omega) 1 1 (by omega), er _ (by omega) (by omega) 1 6 (by omega)]
        exact ⟨by omega, y.2⟩
  · rw [c1] at q2
    by_cases e : k = A 0 0 1
    · rw [e, en, z.2.2.2.2.2.2.1] at q6
      rw [← q6, ett, lup_s, e]
    · rw [er k q1 (by omega) 1 1 (by omega)] at q5
      rw [er k q1 (by omega) 1 6 (by omega)] at q6
      have y := hW.u k u q1 (by omega) q3 q4 q5 q6
      by_cases e2 : u = t
      · rw [e2, h7] at y; omega
      · rw [eu u q3 (by omega) e2]; exact y
  · rw [c2] at q2
    rw [c1, el l q1 q2, kl]
    have y := hW.wl l q1 q2
    by_cases hz : A (20 + l) 0 t = 0
    · rw [if_pos hz]
      have y2 : LPr (enq (A (20 + l)) (A 0 0 1) 1 5 0) (fun u => if u < A 0 0 1 then A (200 + u) else A1 (200 + u)) (A 0 0 1 + 1) := y.nq (by omega) (by omega) (fun u q3 q4 => if_pos q4) (by show (if A 0 0 1 < A 0 0 1 then A (200 + A 0 0 1) else A1 (200 + A 0 0 1)) 1 1 = 1; rw [if_neg (by omega), en, z.2.1]) (by show (if A 0 0 1 < A 0 0 1 then A (200 + A 0 0 1) else A1 (200 + A 0 0 1)) 1 4 = 0; rw [if_neg (by omega), en, z.2.2.2.2.1])
      refine ⟨fun u q3 q4 => ⟨(y2.1 u q3 q4).1, fun q5 => ?_⟩, y2.2⟩
      have w := (y2.1 u q3 q4).2 q5
      have w4 := y2.2.1
      by_cases hu : u < A 0 0 1
      · have w1 : (if u < A 0 0 1 then A (200 + u) else A1 (200 + u)) = A (200 + u) := if_pos hu
        have w2 : enq (A (20 + l)) (A 0 0 1) 1 5 0 1 u = A (200 + u) 1 1 := by rw [← w1]; exact w.1
        have w3 : enq (A (20 + l)) (A 0 0 1) 1 5 0 2 u = A (200 + u) 1 4 := by rw [← w1]; exact w.2.1
        refine ⟨?_, ?_, w.2.2⟩
        · show _ = A1 (200 + u) 1 1
          rw [er u q3 hu 1 1 (by omega)]; exact w2
        · show _ = A1 (200 + u) 1 4
          rw [er u q3 hu 1 4 (by omega)]; exact w3
      · have w1 : (if u < A 0 0 1 then A (200 + u) else A1 (200 + u)) = A1 (200 + u) := if_neg hu
        refine ⟨?_, ?_, w.2.2⟩
        · show _ = A1 (200 + u) 1 1
          rw [← w1]; exact w.1
        · show _ = A1 (200 + u) 1 4
          rw [← w1]; exact w.2.1
    · rw [if_neg hz]
      exact y.off hz (by omega) (fun u q3 q4 => ⟨er u q3 q4 1 1 (by omega), er u q3 q4 1 4 (by omega)⟩)
  · rw [c0] at q1; rw [eo _ (by omega) (by omega) (by omega) (by omega)]; exact hB.1 i q1 q2
  · rw [c1] at q1; rw [eo _ (by omega) (by omega) (by omega) (by omega)]; exact hB.2.1 u (by omega) q2
  · rw [c2] at q1; rw [eo _ (by omega) (by omega) (by omega) (by omega)]; exact hB.2.2.1 l q1 q2
  · rw [c1] at q2; rw [c0]
    by_cases e : u = A 0 0 1
    · rw [e, en, z.1]; exact hB.2.2.2 t ht.1 ht.2
    · rw [er u q1 (by omega) 1 0 (by omega)]; exact hB.2.2.2 u q1 (by omega)

theorem stC_bestv {S F : Fn} {u : Int} (h : SB S) : Bst (fun v => (∃ k, (0 ≤ k ∧ k < S 2 0) ∧ F 0 k = v) ∧ (¬ v = -1 ∧ ¬ v = u) ∧ 0 < pG S F v) (tF S F) (fr (stS S F 1 u) 0 (S 2 0) (-1, 0)) := by
  refine fr_inv (σ := Int × Int) (f := stS S F 1 u) (hi := S 2 0) (P := fun i b => Bst (fun v => (∃ k, (0 ≤ k ∧ k < i) ∧ F 0 k = v) ∧ (¬ v = -1 ∧ ¬ v = u) ∧ 0 < pG S F v) (tF S F) b) (lo := 0) (s := (-1, 0)) h.c.1 (Or.inl ⟨⟨rfl, rfl⟩, fun c q => by obtain ⟨⟨k, a, _⟩, _⟩ := q; omega⟩) (fun i b q1 q2 hp => ?_)
  by_cases hx : (¬ F 0 i = -1 ∧ ¬ F 0 i = u) ∧ 0 < pG S F (F 0 i)
  · have := hp.add (x := F 0 i) (C' := fun v => (∃ k, (0 ≤ k ∧ k < i + 1) ∧ F 0 k = v) ∧ (¬ v = -1 ∧ ¬ v = u) ∧ 0 < pG S F v) (fun c => ⟨fun ⟨⟨k, a, e⟩, r⟩ => by
        by_cases ek : k = i
        · right; rw [← e, ek]
        · left; exact ⟨⟨k, by omega, e⟩, r⟩, fun q => by
        rcases q with ⟨⟨k, a, e⟩, r⟩ | q
        · exact ⟨⟨k, by omega, e⟩, r⟩
        · rw [q]; exact ⟨⟨i, by omega, rfl⟩, hx⟩⟩) (tF_pos h ⟨q1, q2⟩ rfl)
    have e : stS S F 1 u i b = if b.2 < tF S F (F 0 i) ∨ (tF S F (F 0 i) = b.2 ∧ F 0 i < b.1) then (F 0 i, tF S F (F 0 i)) else b := by
      unfold stS
      by_cases hc : b.2 < tF S F (F 0 i) ∨ (tF S F (F 0 i) = b.2 ∧ F 0 i < b.1)
      · rw [if_pos hc, if_pos ⟨hx.1.1, hx.1.2, hc, Or.inr hx.2⟩]
      · rw [if_neg hc, if_neg (fun q => hc q.2.2.1)]
    rw [e]; exact this
  · have e : stS S F 1 u i b = b := by
      unfold stS
      exact if_neg (fun q => hx ⟨⟨q.1, q.2.1⟩, q.2.2.2.resolve_left (by omega)⟩)
    rw [e]
    refine hp.ext fun c => ⟨fun ⟨⟨k, a, e⟩, r⟩ => ⟨⟨k, by omega, e⟩, r⟩, fun ⟨⟨k, a, e⟩, r⟩ => ⟨⟨k, ?_, e⟩, r⟩⟩
    by_cases ek : k = i
    · rw [ek] at e; rw [← e] at r; exact absurd r hx
    · omega
theorem tF_zero {S F : Fn} {v : Int} (h : SB S) (hz : tF S F v = 0) : tO S F v = 0 ∧ tN S F v = 0 ∧ tR S F v = 0 := by
  have hs : ∀ r, sR S F v r = 0 := fun r => by
    rcases (sR_sp (F := F) (v := v) (r := r) h).2 with q | ⟨k, q1, q2, -⟩
    · exact q
    · have := tF_pos h q1 q2.1; omega
  refine ⟨?_, ?_, ?_⟩
  · exact fr_id fun r q1 q2 => by (try dsimp only); rw [hs]; exact if_neg (by omega)
  · exact fr_id fun r q1 q2 => by (try dsimp only); rw [hs]; exact if_neg (by omega)
  · exact fr_id fun r q1 q2 => by (try dsimp only); rw [hs]; exact if_neg (by omega)
theorem fnd_congr {p q : Int → Prop} [DecidablePred p] [DecidablePred q] {lo hi : Int} (hl : lo ≤ hi) (h : ∀ i, lo ≤ i → i < hi → (p i ↔ q i)) : fnd p lo hi = fnd q lo hi := by
  have a := fnd_spec (p := p) hl
  have b := fnd_spec (p := q) hl
  rcases Int.lt_trichotomy (fnd p lo hi) (fnd q lo hi) with z | z | z
  · exact absurd ((h _ a.1 (by omega)).mp (a.2.2.2 (by omega))) (b.2.2.1 _ a.1 z)
  · exact z
  · exact absurd ((h _ b.1 (by omega)).mpr (b.2.2.2 (by omega))) (a.2.2.1 _ b.1 z)
theorem sn_3 {L : Fn} {m t g u : Int} (h : u ≠ t) : sn L m t g 3 u = L 3 u := by
  unfold sn
  split
  · rw [lup_n (by omega), lup_n (by omega), lup_n (by omega)]
  · rw [lup_n (by omega), lup_n (by omega)]
theorem sn_t {L : Fn} {m t g : Int} : sn L m t g 0 t = L 0 t - g ∧ sn L m t g 3 t = if L 0 t - g = 0 then m else L 3 t := by
  unfold sn
  by_cases hz : L 0 t - g = 0
  · rw [if_pos hz, if_pos hz, lup_n (by omega), lup_n (by omega), lup_s, lup_s]
    exact ⟨rfl, rfl⟩
  · rw [if_neg hz, if_neg hz, lup_n (by omega), lup_s, lup_n (by omega), lup_n (by omega)]
    exact ⟨rfl, rfl⟩
/-- a take's words and its minute behind a minute's steps -/
def St1 (L L' : Fn) (m t : Int) : Prop := (L 0 t ≤ 0 → L' 0 t = L 0 t ∧ L' 3 t = L 3 t) ∧ (0 < L 0 t → (0 < L' 0 t ∧ L' 3 t = L 3 t) ∨ (L' 0 t = 0 ∧ L' 3 t = m))
theorem St1.tr {L L' L2 : Fn} {m t : Int} (h : St1 L L' m t) (h' : St1 L' L2 m t) : St1 L L2 m t := by
  refine ⟨fun q => ?_, fun q => ?_⟩
  · have a := h.1 q
    have b := h'.1 (by omega)
    exact ⟨b.1.trans a.1, b.2.trans a.2⟩
  · rcases h.2 q with ⟨a1, a2⟩ | ⟨a1, a2⟩
    · rcases h'.2 a1 with ⟨b1, b2⟩ | b
      · exact Or.inl ⟨b1, b2.trans a2⟩
      · exact Or.inr b
    · have b := h'.1 (by omega)
      exact Or.inr ⟨b.1.trans a1, b.2.trans a2⟩
theorem rS_t {m t : Int} : ∀ (n : Nat) (L : Fn) (w s : Int), 0 ≤ L 4 4 → St1 L (rS (fun L => mU L m) m n L w s).1 m t := by
  intro n
  induction n with
  | zero => intro L w s _; exact ⟨fun _ => ⟨rfl, rfl⟩, fun q => Or.inl ⟨q, rfl⟩⟩
  | succ n ih =>
    intro L w s h4
    have e : rS (fun L => mU L m) m (n + 1) L w s = if w ≤ 0 then (L, s) else if mU L m = -1 then (L, s) else rS (fun L => mU L m) m n (sn L m (mU L m) (min w (L 0 (mU L m)))) (w - min w (L 0 (mU L m))) (if L 0 (mU L m) - min w (L 0 (mU L m)) = 0 then s + 1 else s) := rfl
    rw [e]
    by_cases hw : w ≤ 0
    · rw [if_pos hw]; exact ⟨fun _ => ⟨rfl, rfl⟩, fun q => Or.inl ⟨q, rfl⟩⟩
    · rw [if_neg hw]
      by_cases hu : mU L m = -1
      · rw [if_pos hu]; exact ⟨fun _ => ⟨rfl, rfl⟩, fun q => Or.inl ⟨q, rfl⟩⟩
      · rw [if_neg hu]
        have hs := (mU_spec (L := L) (minute := m) h4).resolve_left hu
        refine St1.tr (L' := sn L m (mU L m) (min w (L 0 (mU L m)))) ?_ (ih _ _ _ (by rw [sn_4 (by omega)]; exact h4))
        by_cases ht : t = mU L m
        · obtain ⟨a1, a2⟩ := sn_t (L := L) (m := m) (t := mU L m) (g := min w (L 0 (mU L m)))
          rw [ht]
          refine ⟨fun q => by omega, fun q => ?_⟩
          rw [a1, a2]
          by_cases hz : L 0 (mU L m) - min w (L 0 (mU L m)) = 0
          · rw [if_pos hz]; exact Or.inr ⟨hz, rfl⟩
          · rw [if_neg hz]; exact Or.inl ⟨by omega, rfl⟩
        · rw [St1, sn_0 ht, sn_3 ht]
          exact ⟨fun _ => ⟨rfl, rfl⟩, fun q => Or.inl ⟨q, rfl⟩⟩
theorem rM_t {L : Fn} {m t : Int} (h4 : 0 ≤ L 4 4) : St1 L (rM L m).1 m t := by
  unfold rM
  split
  · refine ⟨fun _ => ⟨?_, ?_⟩, fun q => Or.inl ⟨?_, ?_⟩⟩
    · show lup L 4 2 (L 4 2 - 1) 0 t = L 0 t
      exact lup_n (by omega)
    · show lup L 4 2 (L 4 2 - 1) 3 t = L 3 t
      exact lup_n (by omega)
    · show 0 < lup L 4 2 (L 4 2 - 1) 0 t
      rw [lup_n (by omega)]; exact q
    · show lup L 4 2 (L 4 2 - 1) 3 t = L 3 t
      exact lup_n (by omega)
  · exact rS_t _ _ _ _ h4
theorem rI_44 {L : Fn} {u i : Int} (hi : 0 ≤ i) : rI L u i 4 4 = L 4 4 ∧ rI L u i 4 1 = L 4 1 := by
  have key : ∀ n : Nat, rI L u (n : Int) 4 4 = L 4 4 ∧ rI L u (n : Int) 4 1 = L 4 1 := by
    intro n
    induction n with
    | zero => show rI L u 0 4 4 = L 4 4 ∧ rI L u 0 4 1 = L 4 1; rw [rI_0]; exact ⟨rfl, rfl⟩
    | succ n ih =>
      show rI L u ((n : Int) + 1) 4 4 = L 4 4 ∧ rI L u ((n : Int) + 1) 4 1 = L 4 1
      rw [rI_s (by omega), rM_44, rM_41]; exact ih
  have := key i.toNat
  rwa [show ((i.toNat : Nat) : Int) = i by omega] at this
/-- one that is sent stays so -/
theorem rI_sent {L : Fn} {u t i j : Int} (h4 : 0 ≤ L 4 4) (hi : 0 ≤ i) (hj : i ≤ j) (h0 : rI L u i 0 t = 0) : rI L u j 0 t = 0 ∧ rI L u j 3 t = rI L u i 3 t := by
  have key : ∀ n : Nat, rI L u (i + (n : Int)) 0 t = 0 ∧ rI L u (i + (n : Int)) 3 t = rI L u i 3 t := by
    intro n
    induction n with
    | zero => rw [show i + ((0 : Nat) : Int) = i by omega]; exact ⟨h0, rfl⟩
    | succ n ih =>
      rw [show i + ((n + 1 : Nat) : Int) = (i + (n : Int)) + 1 by omega, rI_s (by omega)]
      have z := (rM_t (L := rI L u (i + (n : Int))) (m := u + (i + (n : Int) + 1)) (t := t) (by rw [(rI_44 (by omega)).1]; exact h4)).1 (by omega)
      exact ⟨z.1.trans ih.1, z.2.trans ih.2⟩
  have := key (j - i).toNat
  rwa [show i + (((j - i).toNat : Nat) : Int) = j by omega] at this
/-- one that is not sent is as it was, but for its words -/
theorem rI_not {L : Fn} {u t i : Int} (h4 : 0 ≤ L 4 4) (h0 : 0 < L 0 t) (hi : 0 ≤ i) (hn : ∀ j, 1 ≤ j → j ≤ i → ¬ rI L u j 0 t = 0) : 0 < rI L u i 0 t ∧ rI L u i 3 t = L 3 t := by
  have key : ∀ n : Nat, (n : Int) ≤ i → 0 < rI L u (n : Int) 0 t ∧ rI L u (n : Int) 3 t = L 3 t := by
    intro n
    induction n with
    | zero => intro _; show 0 < rI L u 0 0 t ∧ rI L u 0 3 t = L 3 t; rw [rI_0]; exact ⟨h0, rfl⟩
    | succ n ih =>
      intro hle
      obtain ⟨a1, a2⟩ := ih (by omega)
      have hx := hn ((n : Int) + 1) (by omega) (by omega)
      show 0 < rI L u ((n : Int) + 1) 0 t ∧ rI L u ((n : Int) + 1) 3 t = L 3 t
      rw [rI_s (by omega)] at hx ⊢
      rcases (rM_t (L := rI L u (n : Int)) (m := u + ((n : Int) + 1)) (t := t) (by rw [(rI_44 (by omega)).1]; exact h4)).2 a1 with ⟨b1, b2⟩ | ⟨b1, -⟩
      · exact ⟨b1, b2.trans a2⟩
      · exact absurd b1 hx
  have := key i.toNat (by omega)
  rwa [show ((i.toNat : Nat) : Int) = i by omega] at this
theorem rI_at {L : Fn} {u t i : Int} (h4 : 0 ≤ L 4 4) (h0 : 0 < L 0 t) (hi : 1 ≤ i) (hn : ∀ j, 1 ≤ j → j < i → ¬ rI L u j 0 t = 0) (h : rI L u i 0 t = 0) : rI L u i 3 t = u + i := by
  obtain ⟨a1, a2⟩ := rI_not (u := u) h4 h0 (show 0 ≤ i - 1 by omega) (fun j q1 q2 => hn j q1 (by omega))
  have e : rI L u i = (rM (rI L u (i - 1)) (u + i)).1 := rI_1 (by omega)
  rw [e] at h ⊢
  rcases (rM_t (L := rI L u (i - 1)) (m := u + i) (t := t) (by rw [(rI_44 (by omega)).1]; exact h4)).2 a1 with ⟨b1, b2⟩ | ⟨b1, b2⟩
  · omega
  · exact b2
/-- what was sent was sent by now -/
def SN (A : An) : Prop := ∀ l t, 0 ≤ l → l < A 0 0 2 → 0 ≤ t → t < 61 → A (20 + l) 3 t ≤ A 0 0 3
theorem cn_sm {p : Int → Prop} [DecidablePred p] {lo hi : Int} (h : lo ≤ hi) : cn p lo hi = sm (fun i => if p i then 1 else 0) lo hi := by
  unfold cn sm
  exact fr_congr fun i c q1 q2 => by (try dsimp only); split <;> omega
theorem sm_le {f : Int → Int} {lo hi k : Int} (h : lo ≤ hi) (hf : ∀ i, lo ≤ i → i < hi → f i ≤ k) : sm f lo hi ≤ k * (hi - lo) := by
  have := fr_inv (σ := Int) (f := fun i c => c + f i) (hi := hi) (P := fun i c => c ≤ k * (i - lo)) (lo := lo) (s := 0) h (by rw [Int.sub_self, Int.mul_zero]; exact Int.le_refl _) (fun i c q1 q2 hp => by
    have := hf i q1 q2
    have e : k * (i + 1 - lo) = k * (i - lo) + k := by rw [show i + 1 - lo = (i - lo) + 1 by omega, Int.mul_add, Int.mul_one]
    show c + f i ≤ _
    rw [e]; omega)
  exact this
theorem sm_at {f : Int → Int} {x lo hi k : Int} (h : lo ≤ hi) (h0 : ∀ i, lo ≤ i → i < hi → i ≠ x → f i = 0) (hx : f x ≤ k) (hk : 0 ≤ k) : sm f lo hi ≤ k := by
  have := fr_inv (σ := Int) (f := fun i c => c + f i) (hi := hi) (P := fun i c => (i ≤ x ∧ c = 0) ∨ (x < i ∧ c ≤ k)) (lo := lo) (s := 0) h (by omega) (fun i c q1 q2 hp => by
    show (i + 1 ≤ x ∧ c + f i = 0) ∨ (x < i + 1 ∧ c + f i ≤ k)
    by_cases e : i = x
    · right; rw [e]; omega
    · have := h0 i q1 q2 e; omega)
  rcases this with ⟨_, z⟩ | ⟨_, z⟩
  · show sm f lo hi ≤ k
    unfold sm; omega
  · exact z
section SNk
variable {A A1 : An}
theorem SN.of (h : SN A) (c2 : A1 0 0 2 = A 0 0 2) (c3 : A 0 0 3 ≤ A1 0 0 3) (el : ∀ l t, 0 ≤ l → l < A 0 0 2 → 0 ≤ t → t < 61 → A1 (20 + l) 3 t = A (20 + l) 3 t) : SN A1 := fun l t q1 q2 q3 q4 => by
  rw [c2] at q2
  rw [el l t q1 q2 q3 q4]
  have := h l t q1 q2 q3 q4
  omega
theorem SN.src (h : SN A) {w o : Int} : SN (aSrc A w o) := by
  have en : ∀ j, j ≠ 10 → aSrc A w o j = A j := fun j hj => aup_n hj
  exact h.of (by rw [en 0 (by omega)]) (by rw [en 0 (by omega)]; exact Int.le_refl _) (fun l t q1 q2 q3 q4 => by
    by_cases e : 20 + l = 10
    · omega
    · rw [en _ e])
theorem SN.sty (h : SN A) : SN (aSty A) := by
  have en : ∀ j, j ≠ 0 → aSty A j = A j := fun j hj => aup_n hj
  have ec : ∀ s, s ≠ 0 → aSty A 0 0 s = A 0 0 s := fun s hs => by unfold aSty; rw [aup_s, lup_n (by omega)]
  exact h.of (ec 2 (by omega)) (by rw [ec 3 (by omega)]; exact Int.le_refl _) (fun l t q1 q2 q3 q4 => by rw [en _ (by omega)])
theorem SN.lin (h : SN A) (hA : AB A) (hB : BK A) (hc : A 0 0 2 < 4) {sp lg : Int} : SN (aLin A sp lg) := by
  have hn := hA.n
  have e0 : aLin A sp lg 0 = lup (A 0) 0 2 (A 0 0 2 + 1) := aup_s _ _ _
  have en : ∀ j, j ≠ 0 → j ≠ 20 + A 0 0 2 → aLin A sp lg j = A j := fun j hj hj2 => by unfold aLin; rw [aup_n hj, aup_n hj2]
  have el : aLin A sp lg (20 + A 0 0 2) = lup (lup (A (20 + A 0 0 2)) 4 0 sp) 4 1 lg := by unfold aLin; rw [aup_n (by omega), aup_s]
  intro l t q1 q2 q3 q4
  rw [e0, lup_s] at q2
  rw [e0, lup_n (by omega)]
  by_cases e : l = A 0 0 2
  · rw [e, el, lup_n (by omega), lup_n (by omega), ((hB.2.2.1 (A 0 0 2) (Int.le_refl _) hc).1 t q3 q4).2]; omega
  · rw [en _ (by omega) (by omega)]; exact h l t q1 (by omega) q3 q4
theorem SN.say (h : SN A) {so i v : Int} (hi : 0 ≤ i) (hA : AB A) : SN (aSay A so i v) := by
  have hn := hA.n
  have en : ∀ j, j ≠ 100 + i → aSay A so i v j = A j := fun j hj => aup_n hj
  exact h.of (by rw [en 0 (by omega)]) (by rw [en 0 (by omega)]; exact Int.le_refl _) (fun l t q1 q2 q3 q4 => by rw [en _ (by omega)])
theorem SN.riv (h : SN A) {i : Int} (hi : 0 ≤ i) (hA : AB A) : SN (aRiv A i) := by
  have hn := hA.n
  have en : ∀ j, j ≠ 100 + i → aRiv A i j = A j := fun j hj => aup_n hj
  exact h.of (by rw [en 0 (by omega)]) (by rw [en 0 (by omega)]; exact Int.le_refl _) (fun l t q1 q2 q3 q4 => by rw [en _ (by omega)])
theorem SN.dwn (h : SN A) {l m : Int} (hl : 0 ≤ l) : SN (aDwn A l m) := by
  have en : ∀ j, j ≠ 20 + l → aDwn A l m j = A j := fun j hj => aup_n hj
  refine h.of (by rw [en 0 (by omega)]) (by rw [en 0 (by omega)]; exact Int.le_refl _) (fun k t q1 q2 q3 q4 => ?_)
  by_cases e : k = l
  · rw [e]
    show aup A (20 + l) (lup (A (20 + l)) 4 2 m) (20 + l) 3 t = _
    rw [aup_s, lup_n (by omega)]
  · rw [en _ (by omega)]
theorem SN.take (h : SN A) (hA : AB A) {T : Fn} : SN (aRun (aT A T) (A 0 0 1)) := by
  have hn := hA.n
  have z0 := fun c => aT_0 (A := A) (T := T) (c := c) (by omega)
  have y2 := z0 2
  rw [if_neg (by omega)] at y2
  have eq1 : aRun (aT A T) (A 0 0 1) = onL (aT A T) (A 0 0 2) (fun L => enq L (A 0 0 1) (T 1 1) (T 1 3) (T 1 4)) := by
    unfold aRun runF; rw [y2, aT_t]
  rw [eq1]
  refine h.of (by rw [onL_n (by omega), y2]) (by rw [onL_n (by omega), z0, if_neg (by omega)]; exact Int.le_refl _) (fun l t q1 q2 q3 q4 => ?_)
  rw [onL_y (by omega), aT_o (by omega) (by omega)]
  unfold enq
  rw [lup_n (by omega), lup_n (by omega), lup_n (by omega), lup_n (by omega)]
theorem SN.kil (h : SN A) (hA : AB A) {t : Int} (ht : 0 ≤ t ∧ t < A 0 0 1) : SN (aKil A t) := by
  have hn := hA.n
  have kc : ∀ c, aKl0 A t 0 0 c = if c = 1 then A 0 0 1 + 1 else A 0 0 c := fun c => by unfold aKl0; rw [aup_n (by omega), aTk_0 (by omega)]
  have kl : ∀ l, 0 ≤ l → l < A 0 0 2 → aKl0 A t (20 + l) = A (20 + l) := fun l q1 q2 => by unfold aKl0; rw [aup_n (by omega), aTk_o (by omega) (by omega)]
  unfold aKil
  refine h.of (by rw [onL_n (by omega), kc, if_neg (by omega)]) (by rw [onL_n (by omega), kc, if_neg (by omega)]; exact Int.le_refl _) (fun l u q1 q2 q3 q4 => ?_)
  rw [onL_y (by omega), kl l q1 q2]
  unfold klF
  split
  · unfold enq
    rw [lup_n (by omega), lup_n (by omega), lup_n (by omega), lup_n (by omega)]
  · rw [lup_n (by omega)]
theorem SN.min (h : SN A) (hA : AB A) (hW : WF A) : SN (aMin A) := by
  have hn := hA.n
  intro l t q1 q2 q3 q4
  rw [aMin_0 (by omega), if_neg (by omega)] at q2
  rw [aMin_0 (by omega), if_pos rfl]
  have el : aMin A (20 + l) = (rM (A (20 + l)) (A 0 0 3 + 1)).1 := by unfold aMin; rw [onL_y (by omega), aup_n (by omega)]
  rw [el]
  have hL := hA.li l (by omega)
  have hs := h l t q1 q2 q3 q4
  have z := rM_t (L := A (20 + l)) (m := A 0 0 3 + 1) (t := t) hL.s4.1
  by_cases hp : 0 < A (20 + l) 0 t
  · rcases z.2 hp with ⟨_, y⟩ | ⟨_, y⟩
    · rw [y]; omega
    · rw [y]; omega
  · rw [(z.1 (by omega)).2]; omega
theorem SN.pas (h : SN A) (hi : Inv A) {m : Int} (hm : 0 ≤ m) (ht : A 0 0 3 + m ≤ 9999) : SN (aPas A m).1 := by
  have key : ∀ n : Nat, A 0 0 3 + (n : Int) ≤ 9999 → SN (aPas A (n : Int)).1 := by
    intro n
    induction n with
    | zero => intro _; show SN (aPas A 0).1; rw [aPas_0]; exact h
    | succ n ih =>
      intro q
      show SN (aPas A ((n : Int) + 1)).1
      rw [aPas_1 (by omega)]
      have z := (hi.pas (m := (n : Int)) (by omega) (by omega)).1
      exact (ih (by omega)).min z.1 z.2.1
  have z := key m.toNat (by omega)
  rwa [show ((m.toNat : Nat) : Int) = m by omega] at z
end SNk
theorem A00_Inv : Inv A00 := by
  refine ⟨A00_AB, A00_WF, fun i q1 q2 => ?_, fun t q1 q2 => ?_, fun l q1 q2 => ?_, fun t q1 q2 => ?_⟩
  · have e0 : A00 0 0 0 = 0 := rfl
    rw [A00_F (by omega)]
    exact ⟨fun k _ _ => rfl, rfl, rfl, rfl, rfl⟩
  · have e1 : A00 0 0 1 = 0 := rfl
    rw [A00_T (by omega)]; rfl
  · have e2 : A00 0 0 2 = 0 := rfl
    rw [A00_L (by omega)]
    exact ⟨fun t _ _ => ⟨rfl, rfl⟩, rfl, rfl, rfl⟩
  · have e1 : A00 0 0 1 = 0 := rfl
    omega
theorem A00_SN : SN A00 := fun l t q1 q2 => by
  have e2 : A00 0 0 2 = 0 := rfl
  omega
