/-! ===== of a fact, of all: the model's is the class's ===== -/
theorem WF.none {A : An} (hW : WF A) {i : Int} (h : 0 ≤ i ∧ i < A 0 0 0 * 4) : ∀ k, A 10 2 0 ≤ k → k < 10 → A (100 + i) 0 k = -1 := fun k q1 q2 => hW.b i k h.1 h.2 q1 q2
theorem mfc_0 {A : An} (hA : AB A) (hW : WF A) : mfc A 0 = cTr A := by
  have hn := hA.n
  unfold mfc cTr
  refine (fr_flat (g := fun i c => if 0 < cSay (A (100 + i)) ∧ (¬ mst (A 10) (A (100 + i)) 1 = -1 ↔ (0 : Int) = 0) then c + 1 else c) (by omega)).trans (fr_congr fun i c q1 q2 => ?_)
  have hw := hW.f i q1 q2
  have hs := hrd_some hA.so (hA.fa i (by omega)).f0 (hW.none ⟨q1, q2⟩)
  have hm : ¬ mst (A 10) (A (100 + i)) 1 = -1 → ¬ mhd (A 10) (A (100 + i)) = -1 := fun z => by unfold mhd; rw [if_neg z]; exact z
  (try dsimp only)
  rw [hw.1]
  by_cases hz : mst (A 10) (A (100 + i)) 1 = -1
  · rw [if_neg (fun q => q.2.mpr rfl hz), if_neg (fun q => q hz)]
  · rw [if_pos ⟨hs.mp (hm hz), fun _ => rfl, fun _ => hz⟩, if_pos hz]
theorem mfc_1 {A : An} (hA : AB A) (hW : WF A) : mfc A 1 = cUn A := by
  have hn := hA.n
  unfold mfc cUn
  refine (fr_flat (g := fun i c => if 0 < cSay (A (100 + i)) ∧ (¬ mst (A 10) (A (100 + i)) 1 = -1 ↔ (1 : Int) = 0) then c + 1 else c) (by omega)).trans (fr_congr fun i c q1 q2 => ?_)
  have hw := hW.f i q1 q2
  have hs := hrd_some hA.so (hA.fa i (by omega)).f0 (hW.none ⟨q1, q2⟩)
  (try dsimp only)
  rw [hw.1, hw.2.1]
  by_cases hz : mst (A 10) (A (100 + i)) 1 = -1
  · by_cases hy : 0 < cSay (A (100 + i))
    · rw [if_pos ⟨hy, fun q => absurd hz q, fun q => by omega⟩, if_pos ⟨hz, hs.mpr hy⟩]
    · rw [if_neg (fun q => hy q.1), if_neg (fun q => hy (hs.mp q.2))]
  · rw [if_neg (fun q => by have := q.2.mp hz; omega), if_neg (fun q => hz q.1)]
theorem moF_eq {A : An} {s f w : Int} (hA : AB A) (hW : WF A) (hs : 0 ≤ s ∧ s < A 0 0 0) (hf : 0 ≤ f ∧ f < 4) : moF A s f w = oFa A s f w := by
  have hn := hA.n
  have hw := hW.f (s * 4 + f) (by omega) (by omega)
  unfold moF oFa
  rw [← hw.1, ← hw.2.1, mvl_eq (hA.fa (s * 4 + f) (by omega)).f0]
theorem mnM_eq {A : An} {w : Int} (hA : AB A) (hW : WF A) : mnM A w = mny A w := by
  unfold mnM
  rw [mfc_0 hA hW, mfc_1 hA hW]
  by_cases h7 : w = 7
  · rw [if_pos h7, h7]; rfl
  · rw [if_neg h7]
    by_cases h8 : w = 8
    · rw [if_pos h8, h8]; rfl
    · rw [if_neg h8]
/-! sums -/
def sm (f : Int → Int) (lo hi : Int) : Int := fr (fun i c => c + f i) lo hi 0
theorem sm_last {f : Int → Int} {lo hi : Int} (h : lo ≤ hi) : sm f lo (hi + 1) = sm f lo hi + f hi := by unfold sm; rw [fr_last h]
theorem sm_0 {f : Int → Int} {lo hi : Int} (h : hi ≤ lo) : sm f lo hi = 0 := by unfold sm; rw [fr_end h]
theorem sm_sh {f : Int → Int} {lo hi c : Int} (h : lo ≤ hi) : fr (fun i c => c + f i) lo hi c = c + sm f lo hi :=
  fr_inv (σ := Int) (f := fun i c => c + f i) (hi := hi) (P := fun i x => x = c + sm f lo i) (lo := lo) (s := c) h (by rw [sm_0 (Int.le_refl _)]; omega) (fun i x q1 q2 e => by rw [sm_last q1, e]; omega)
theorem sm_add {f g : Int → Int} {lo hi : Int} (h : lo ≤ hi) : sm (fun i => f i + g i) lo hi = sm f lo hi + sm g lo hi :=
  fr_inv (σ := Int) (f := fun i c => c + (f i + g i)) (hi := hi) (P := fun i x => x = sm f lo i + sm g lo i) (lo := lo) (s := 0) h (by rw [sm_0 (Int.le_refl _), sm_0 (Int.le_refl _)]; rfl) (fun i x q1 q2 e => by rw [sm_last q1, sm_last q1, e]; omega)
theorem sm_swap {f : Int → Int → Int} {n m : Int} (hn : 0 ≤ n) (hm : 0 ≤ m) : sm (fun i => sm (fun j => f i j) 0 m) 0 n = sm (fun j => sm (fun i => f i j) 0 n) 0 m := by
  refine fr_inv (σ := Int) (f := fun i c => c + sm (fun j => f i j) 0 m) (hi := n) (P := fun i x => x = sm (fun j => sm (fun i => f i j) 0 i) 0 m) (lo := 0) (s := 0) hn ?_ (fun i x q1 q2 e => ?_)
  · unfold sm
    refine (fr_id (f := fun (i : Int) (c : Int) => c + fr (fun i_1 c => c + f i_1 i) 0 0 0) (fun j _ _ => ?_)).symm
    (try dsimp only)
    rw [fr_end (by omega)]; rfl
  · rw [e, ← sm_add hm]
    unfold sm
    refine fr_congr fun j c _ _ => ?_
    (try dsimp only)
    rw [fr_last q1]
theorem fr_pair {a b : Int → Int} {lo hi : Int} {s : Int × Int} (h : lo ≤ hi) : fr (fun i (s : Int × Int) => (s.1 + a i, s.2 + b i)) lo hi s = (s.1 + sm a lo hi, s.2 + sm b lo hi) :=
  fr_inv (σ := Int × Int) (f := fun i s => (s.1 + a i, s.2 + b i)) (hi := hi) (P := fun i x => x = (s.1 + sm a lo i, s.2 + sm b lo i)) (lo := lo) (s := s) h (by rw [sm_0 (Int.le_refl _), sm_0 (Int.le_refl _)]; ext <;> simp) (fun i x q1 q2 e => by rw [sm_last q1, sm_last q1, e]; ext <;> simp <;> omega)
theorem mdM_eq {A : An} (hA : AB A) : mdM A = mdS A := by
  have hn := hA.n
  have e1 : ∀ (l t : Int) (s : Int × Int), mdF A l t s = (s.1 + (if A (20 + l) 0 t = 0 then A (20 + l) 3 t - max (A (200 + t) 1 8) (A (200 + t) 1 4) else 0), s.2 + (if A (20 + l) 0 t = 0 then 1 else 0)) := fun l t s => by
    unfold mdF
    by_cases h : A (20 + l) 0 t = 0
    · rw [if_pos h, if_pos h, if_pos h]
    · rw [if_neg h, if_neg h, if_neg h]; ext <;> simp
  unfold mdM mdS
  rw [fr_congr (g := fun t (s : Int × Int) => (s.1 + sm (fun l => if A (20 + l) 0 t = 0 then A (20 + l) 3 t - max (A (200 + t) 1 8) (A (200 + t) 1 4) else 0) 0 (A 0 0 2), s.2 + sm (fun l => if A (20 + l) 0 t = 0 then 1 else 0) 0 (A 0 0 2))) (fun t s _ _ => by
    rw [← fr_pair (by omega)]
    exact fr_congr fun l s _ _ => e1 l t s)]
  rw [fr_congr (f := fun l s => fr (fun t s => mdF A l t s) 0 (A 0 0 1) s) (g := fun l (s : Int × Int) => (s.1 + sm (fun t => if A (20 + l) 0 t = 0 then A (20 + l) 3 t - max (A (200 + t) 1 8) (A (200 + t) 1 4) else 0) 0 (A 0 0 1), s.2 + sm (fun t => if A (20 + l) 0 t = 0 then 1 else 0) 0 (A 0 0 1))) (fun l s _ _ => by
    rw [← fr_pair (by omega)]
    exact fr_congr fun t s _ _ => e1 l t s)]
  rw [fr_pair (by omega), fr_pair (by omega)]
  rw [sm_swap (f := fun t l => if A (20 + l) 0 t = 0 then A (20 + l) 3 t - max (A (200 + t) 1 8) (A (200 + t) 1 4) else 0) (by omega) (by omega), sm_swap (f := fun t l => if A (20 + l) 0 t = 0 then (1 : Int) else 0) (by omega) (by omega)]
