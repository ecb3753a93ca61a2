/-! ===== what else holds in the law's houses: two stories, two lines, nothing is held; states go on ===== -/
def LX (A : An) : Prop := (A 0 0 0 = 2 ∧ A 0 0 2 = 2) ∧ (∀ l, 0 ≤ l → l < 2 → A (20 + l) 4 1 ≤ 4 ∧ 0 ≤ A (20 + l) 4 3 ∧ A (20 + l) 4 3 ≤ 60 * A 0 0 3) ∧ (∀ t, 0 ≤ t → t < A 0 0 1 → A (200 + t) 1 4 = 0 ∧ A (200 + t) 1 8 ≤ A 0 0 3) ∧
  (∀ l t, 0 ≤ l → l < 2 → 0 ≤ t → t < A 0 0 1 → A (20 + l) 0 t ≤ A (200 + t) 1 3 ∧ (A (20 + l) 0 t = 0 → A (200 + t) 1 8 ≤ A (20 + l) 3 t)) ∧ ∀ i, 0 ≤ i → i < 8 → A (100 + i) 1 3 ≤ A 0 0 3
/-- a take's state never goes back, but to 0, and from 0 it doesn't go -/
def Mo (A A1 : An) : Prop := ∀ l t, 0 ≤ l → l < 2 → 0 ≤ t → t < A 0 0 1 → stt A1 l t = 0 ∨ (¬ stt A l t = 0 ∧ stt A l t ≤ stt A1 l t)
theorem Mo.rf {A : An} : Mo A A := fun l t _ _ _ _ => by
  by_cases h : stt A l t = 0
  · exact Or.inl h
  · exact Or.inr ⟨h, Int.le_refl _⟩
theorem Mo.tr {A A1 A2 : An} (h : Mo A A1) (h' : Mo A1 A2) (hn : A 0 0 1 ≤ A1 0 0 1) : Mo A A2 := fun l t q1 q2 q3 q4 => by
  have a := h l t q1 q2 q3 q4
  have b := h' l t q1 q2 q3 (by omega)
  omega
theorem stt_bd {A : An} {l t : Int} : 0 ≤ stt A l t ∧ stt A l t ≤ 5 := by
  unfold stt
  (repeat' split) <;> omega
theorem hs_i {A A1 : An} {l k : Int} (e3 : A1 0 0 3 = A 0 0 3) (e0 : A1 (20 + l) 0 k = A (20 + l) 0 k) (es : A1 (20 + l) 3 k = A (20 + l) 3 k) (e4 : A1 (20 + l) 4 1 = A (20 + l) 4 1) : hs A1 l k ↔ hs A l k := by
  unfold hs
  rw [e3, e0, es, e4]
theorem stt_0 {A : An} {l t : Int} (h : A (20 + l) 0 t = -1) : stt A l t = 0 := if_pos h
theorem stt_1 {A : An} {l t : Int} (h : ¬ A (20 + l) 0 t = -1) (h0 : ¬ A (20 + l) 0 t = 0) (hw : A (20 + l) 0 t = A (200 + t) 1 3) : stt A l t = 1 := by
  unfold stt
  rw [if_neg h, if_pos h0, if_pos hw]
theorem stt_2 {A : An} {l t : Int} (h : ¬ A (20 + l) 0 t = -1) (h0 : ¬ A (20 + l) 0 t = 0) (hw : ¬ A (20 + l) 0 t = A (200 + t) 1 3) : stt A l t = 2 := by
  unfold stt
  rw [if_neg h, if_pos h0, if_neg hw]
theorem stt_3 {A : An} {l t : Int} (h0 : A (20 + l) 0 t = 0) (hh : ¬ hs A l t) : stt A l t = 3 := by
  unfold stt
  rw [if_neg (by omega), if_neg (fun q => q h0), if_pos hh]
theorem stt_4 {A : An} {l t : Int} (hh : hs A l t) (hd : ¬ dr A l t) : stt A l t = 4 := by
  have h0 := hh.1
  unfold stt
  rw [if_neg (by omega), if_neg (fun q => q h0), if_neg (fun q => q hh), if_neg hd]
theorem stt_5 {A : An} {l t : Int} (hh : hs A l t) (hd : dr A l t) : stt A l t = 5 := by
  have h0 := hh.1
  unfold stt
  rw [if_neg (by omega), if_neg (fun q => q h0), if_neg (fun q => q hh), if_pos hd]
theorem stt_i {A A1 : An} {l t : Int} (e0 : A1 (20 + l) 0 t = A (20 + l) 0 t) (e1 : A1 (200 + t) 1 3 = A (200 + t) 1 3) (hh : hs A1 l t ↔ hs A l t) (hd : dr A1 l t ↔ dr A l t) : stt A1 l t = stt A l t := by
  by_cases a : A (20 + l) 0 t = -1
  · rw [stt_0 a, stt_0 (e0.trans a)]
  · by_cases b : A (20 + l) 0 t = 0
    · by_cases c : hs A l t
      · by_cases d : dr A l t
        · rw [stt_5 c d, stt_5 (hh.mpr c) (hd.mpr d)]
        · rw [stt_4 c d, stt_4 (hh.mpr c) (fun q => d (hd.mp q))]
      · rw [stt_3 b c, stt_3 (e0.trans b) (fun q => c (hh.mp q))]
    · by_cases w : A (20 + l) 0 t = A (200 + t) 1 3
      · rw [stt_1 a b w, stt_1 (by rw [e0]; exact a) (by rw [e0]; exact b) (by rw [e0, e1]; exact w)]
      · rw [stt_2 a b w, stt_2 (by rw [e0]; exact a) (by rw [e0]; exact b) (by rw [e0, e1]; exact w)]
theorem Mo.eq {A A1 : An} (h : ∀ l t, 0 ≤ l → l < 2 → 0 ≤ t → t < A 0 0 1 → stt A1 l t = stt A l t) : Mo A A1 := fun l t q1 q2 q3 q4 => by
  have e := h l t q1 q2 q3 q4
  rw [e]
  exact Mo.rf l t q1 q2 q3 q4
section LXs
variable {A A1 : An}
theorem LX.of (h : LX A) (e0 : A1 0 = A 0) (el : ∀ l, 0 ≤ l → l < 2 → A1 (20 + l) 4 1 = A (20 + l) 4 1 ∧ A1 (20 + l) 4 3 = A (20 + l) 4 3 ∧ ∀ t, A1 (20 + l) 0 t = A (20 + l) 0 t ∧ A1 (20 + l) 3 t = A (20 + l) 3 t) (et : ∀ t, 0 ≤ t → A1 (200 + t) = A (200 + t)) (ef : ∀ i, 0 ≤ i → i < 8 → A1 (100 + i) 1 3 ≤ A 0 0 3) : LX A1 := by
  obtain ⟨h1, h2, h3, h4, h5⟩ := h
  refine ⟨by rw [e0]; exact h1, fun l q1 q2 => ?_, fun t q1 q2 => ?_, fun l t q1 q2 q3 q4 => ?_, fun i q1 q2 => by rw [e0]; exact ef i q1 q2⟩
  · rw [e0, (el l q1 q2).1, (el l q1 q2).2.1]; exact h2 l q1 q2
  · rw [e0] at q2 ⊢; rw [et t q1]; exact h3 t q1 q2
  · rw [e0] at q4; rw [((el l q1 q2).2.2 t).1, ((el l q1 q2).2.2 t).2, et t q3]; exact h4 l t q1 q2 q3 q4
theorem Mo.of (e0 : A1 0 = A 0) (el : ∀ l, 0 ≤ l → l < 2 → A1 (20 + l) 4 1 = A (20 + l) 4 1 ∧ ∀ t, A1 (20 + l) 0 t = A (20 + l) 0 t ∧ A1 (20 + l) 3 t = A (20 + l) 3 t) (et : ∀ t, 0 ≤ t → A1 (200 + t) = A (200 + t)) : Mo A A1 := Mo.eq fun l t q1 q2 q3 q4 => by
  have hh : ∀ k, hs A1 l k ↔ hs A l k := fun k => hs_i (by rw [e0]) ((el l q1 q2).2 k).1 ((el l q1 q2).2 k).2 (el l q1 q2).1
  refine stt_i ((el l q1 q2).2 t).1 (by rw [et t q3]) (hh t) ?_
  unfold dr
  rw [et t q3, hh]
end LXs
section LXo
variable {A : An}
theorem say_o {so i v j : Int} (hj : j ≠ 100 + i) : aSay A so i v j = A j := aup_n hj
theorem say_i {so i v : Int} : aSay A so i v (100 + i) = setl (A 10) (lup (A (100 + i)) 0 so v) := aup_s _ _ _
theorem setl_3 {S F : Fn} : setl S F 1 3 = F 1 3 := by
  unfold setl
  rw [lup_n (by omega), lup_n (by omega), lup_n (by omega)]
theorem LX.say (h : LX A) {so i v : Int} (hi : 0 ≤ i ∧ i < 24) : LX (aSay A so i v) := by
  refine h.of (say_o (by omega)) (fun l q1 q2 => ?_) (fun t q1 => say_o (by omega)) (fun k q1 q2 => ?_)
  · rw [say_o (by omega)]; exact ⟨rfl, rfl, fun t => ⟨rfl, rfl⟩⟩
  · by_cases e : k = i
    · rw [e, say_i, setl_3, lup_n (by omega)]
      exact h.2.2.2.2 i (by omega) (by omega)
    · rw [say_o (by omega)]; exact h.2.2.2.2 k q1 q2
theorem Mo.say {so i v : Int} (hi : 0 ≤ i ∧ i < 24) : Mo A (aSay A so i v) :=
  Mo.of (say_o (by omega)) (fun l q1 q2 => by rw [say_o (by omega)]; exact ⟨rfl, fun t => ⟨rfl, rfl⟩⟩) (fun t q1 => say_o (by omega))
theorem riv_o {i j : Int} (hj : j ≠ 100 + i) : aRiv A i j = A j := aup_n hj
theorem riv_i {i : Int} : aRiv A i (100 + i) = lup (A (100 + i)) 1 3 (A 0 0 3) := aup_s _ _ _
theorem LX.riv (h : LX A) {i : Int} (hi : 0 ≤ i ∧ i < 24) : LX (aRiv A i) := by
  refine h.of (riv_o (by omega)) (fun l q1 q2 => ?_) (fun t q1 => riv_o (by omega)) (fun k q1 q2 => ?_)
  · rw [riv_o (by omega)]; exact ⟨rfl, rfl, fun t => ⟨rfl, rfl⟩⟩
  · by_cases e : k = i
    · rw [e, riv_i, lup_s]; exact Int.le_refl _
    · rw [riv_o (by omega)]; exact h.2.2.2.2 k q1 q2
theorem Mo.riv {i : Int} (hi : 0 ≤ i ∧ i < 24) : Mo A (aRiv A i) :=
  Mo.of (riv_o (by omega)) (fun l q1 q2 => by rw [riv_o (by omega)]; exact ⟨rfl, fun t => ⟨rfl, rfl⟩⟩) (fun t q1 => riv_o (by omega))
theorem dwn_o {l m j : Int} (hj : j ≠ 20 + l) : aDwn A l m j = A j := aup_n hj
theorem dwn_l {l m : Int} : aDwn A l m (20 + l) = lup (A (20 + l)) 4 2 m := aup_s _ _ _
theorem dwn_r {l m k : Int} : (aDwn A l m (20 + k) 4 1 = A (20 + k) 4 1 ∧ aDwn A l m (20 + k) 4 3 = A (20 + k) 4 3) ∧ ∀ t, aDwn A l m (20 + k) 0 t = A (20 + k) 0 t ∧ aDwn A l m (20 + k) 3 t = A (20 + k) 3 t := by
  by_cases e : k = l
  · rw [e, dwn_l]
    exact ⟨⟨lup_n (by omega), lup_n (by omega)⟩, fun t => ⟨lup_n (by omega), lup_n (by omega)⟩⟩
  · rw [dwn_o (by omega)]; exact ⟨⟨rfl, rfl⟩, fun t => ⟨rfl, rfl⟩⟩
theorem LX.dwn (h : LX A) {l m : Int} (hl : 0 ≤ l ∧ l < 4) : LX (aDwn A l m) := by
  refine h.of (dwn_o (by omega)) (fun k q1 q2 => ?_) (fun t q1 => dwn_o (by omega)) (fun k q1 q2 => ?_)
  · have z := dwn_r (A := A) (l := l) (m := m) (k := k)
    exact ⟨z.1.1, z.1.2, z.2⟩
  · rw [dwn_o (by omega)]; exact h.2.2.2.2 k q1 q2
theorem Mo.dwn {l m : Int} (hl : 0 ≤ l ∧ l < 4) : Mo A (aDwn A l m) :=
  Mo.of (dwn_o (by omega)) (fun k q1 q2 => by
    have z := dwn_r (A := A) (l := l) (m := m) (k := k)
    exact ⟨z.1.1, z.2⟩) (fun t q1 => dwn_o (by omega))
/-! a new take -/
theorem enq_f {L : Fn} {n k x hd : Int} : (∀ t, enq L n k x hd 0 t = if t = n then x else L 0 t) ∧ (∀ t, enq L n k x hd 3 t = L 3 t) ∧ ∀ s, s ≠ 4 → enq L n k x hd 4 s = L 4 s := by
  refine ⟨fun t => ?_, fun t => ?_, fun s hs => ?_⟩
  · unfold enq
    rw [lup_n (by omega), lup_n (by omega), lup_n (by omega), lup_c]
    by_cases q : t = n
    · rw [if_pos ⟨rfl, q⟩, if_pos q]
    · rw [if_neg (by omega), if_neg q]
  · unfold enq
    rw [lup_n (by omega), lup_n (by omega), lup_n (by omega), lup_n (by omega)]
  · unfold enq
    rw [lup_n (by omega), lup_n (by omega), lup_n (by omega), lup_n (by omega)]
/-- the house behind a take T more -/
def TkF (A : An) (T : Fn) (A1 : An) : Prop := (∀ c, A1 0 0 c = if c = 1 then A 0 0 1 + 1 else A 0 0 c) ∧ (∀ j, j ≠ 0 → j ≠ 200 + A 0 0 1 → (j < 20 ∨ 20 + A 0 0 2 ≤ j) → A1 j = A j) ∧ A1 (200 + A 0 0 1) = T ∧ ∀ l, 0 ≤ l → l < A 0 0 2 → A1 (20 + l) = enq (A (20 + l)) (A 0 0 1) (T 1 1) (T 1 3) (T 1 4)
theorem tk_f {T : Fn} (hA : AB A) : TkF A T (aRun (aT A T) (A 0 0 1)) := by
  have hn := hA.n
  have z0 := fun c => aT_0 (A := A) (T := T) (c := c) (by omega)
  have y2 := z0 2
  rw [if_neg (by omega)] at y2
  have eq1 : aRun (aT A T) (A 0 0 1) = onL (aT A T) (A 0 0 2) (fun L => enq L (A 0 0 1) (T 1 1) (T 1 3) (T 1 4)) := by
    unfold aRun runF; rw [y2, aT_t]
  exact ⟨fun c => by rw [eq1, onL_n (by omega), z0], fun j q1 q2 q3 => by rw [eq1, onL_n q3, aT_o q2 q1], by rw [eq1, onL_n (by omega), aT_t], fun l q1 q2 => by rw [eq1, onL_y (by omega), aT_o (by omega) (by omega)]⟩
theorem fil_f {s k set g hd tg : Int} (hA : AB A) : TkF A (nT A s k set g hd tg) (aFil A s k set g hd tg) := tk_f (T := nT A s k set g hd tg) hA
theorem LX.take (h : LX A) (hA : AB A) (hW : WF A) {T : Fn} {A1 : An} (hn60 : A 0 0 1 < 60) (hT : TkF A T A1) (h3 : 0 < T 1 3) (h4 : T 1 4 = 0) (h8 : T 1 8 = A 0 0 3) : LX A1 := by
  obtain ⟨e0, eo, en, el⟩ := hT
  have hn := hA.n
  obtain ⟨h1, h2, h3', h4', h5⟩ := h
  have c1 := e0 1
  rw [if_pos rfl] at c1
  have c3 := e0 3
  rw [if_neg (by omega)] at c3
  refine ⟨by rw [e0, e0, if_neg (by omega), if_neg (by omega)]; exact h1, fun l q1 q2 => ?_, fun t q1 q2 => ?_, fun l t q1 q2 q3 q4 => ?_, fun i q1 q2 => ?_⟩
  · rw [c3, el l q1 (by omega), enq_f.2.2 1 (by omega), enq_f.2.2 3 (by omega)]; exact h2 l q1 q2
  · rw [c1] at q2
    rw [c3]
    by_cases e : t = A 0 0 1
    · rw [e, en, h4, h8]; exact ⟨rfl, Int.le_refl _⟩
    · rw [eo _ (by omega) (by omega) (by omega)]; exact h3' t q1 (by omega)
  · rw [c1] at q4
    rw [el l q1 (by omega), enq_f.1, enq_f.2.1]
    by_cases e : t = A 0 0 1
    · rw [if_pos e, e, en]
      exact ⟨Int.le_refl _, fun z => by omega⟩
    · rw [if_neg e, eo (200 + t) (by omega) (by omega) (by omega)]; exact h4' l t q1 q2 q3 (by omega)
  · rw [c3, eo _ (by omega) (by omega) (by omega)]; exact h5 i q1 q2
theorem Mo.take (h : LX A) (hA : AB A) (hW : WF A) {T : Fn} {A1 : An} (hT : TkF A T A1) : Mo A A1 :=
  Mo.eq fun l t q1 q2 q3 q4 => by
    obtain ⟨e0, eo, en, el⟩ := hT
    have hn := hA.n
    have h1 := h.1
    have c3 := e0 3
    rw [if_neg (by omega)] at c3
    have hh : ∀ k, k ≠ A 0 0 1 → (hs A1 l k ↔ hs A l k) := fun k hk => hs_i c3 (by rw [el l q1 (by omega), enq_f.1, if_neg hk]) (by rw [el l q1 (by omega), enq_f.2.1]) (by rw [el l q1 (by omega), enq_f.2.2 1 (by omega)])
    have et : A1 (200 + t) = A (200 + t) := eo _ (by omega) (by omega) (by omega)
    refine stt_i (by rw [el l q1 (by omega), enq_f.1, if_neg (by omega)]) (by rw [et]) (hh t (by omega)) ?_
    unfold dr
    rw [et]
    by_cases hk : A (200 + t) 1 7 = -1
    · exact ⟨fun q => absurd hk q.1, fun q => absurd hk q.1⟩
    · have w := hW.k t q3 q4 hk
      rw [hh _ (by omega)]
/-- the new take waits on both lines -/
theorem take_1 (h : LX A) {T : Fn} {A1 : An} (hn : 0 ≤ A 0 0 1) (hT : TkF A T A1) (h3 : 0 < T 1 3) {l : Int} (hl : 0 ≤ l ∧ l < 2) : stt A1 l (A 0 0 1) = 1 := by
  obtain ⟨e0, eo, en, el⟩ := hT
  have h1 := h.1
  have e1 : A1 (20 + l) 0 (A 0 0 1) = T 1 3 := by rw [el l hl.1 (by omega), enq_f.1, if_pos rfl]
  exact stt_1 (by omega) (by omega) (by rw [e1, en])
/-! a kill -/
def KlF (A : An) (t : Int) (A1 : An) : Prop := (∀ c, A1 0 0 c = if c = 1 then A 0 0 1 + 1 else A 0 0 c) ∧ (∀ j, j ≠ 0 → j ≠ 200 + t → j ≠ 200 + A 0 0 1 → (j < 20 ∨ 20 + A 0 0 2 ≤ j) → A1 j = A j) ∧ A1 (200 + A 0 0 1) = nT A (A (200 + t) 1 0) 1 0 0 0 t ∧ A1 (200 + t) = lup (A (200 + t)) 1 7 (A 0 0 1) ∧ ∀ l, 0 ≤ l → l < A 0 0 2 → A1 (20 + l) = if A (20 + l) 0 t = 0 then enq (A (20 + l)) (A 0 0 1) 1 5 0 else lup (A (20 + l)) 0 t (-1)
theorem kl_f (hA : AB A) {t : Int} (ht : 0 ≤ t ∧ t < A 0 0 1) : KlF A t (aKil A t) := by
  have hn := hA.n
  have z := nT_1 (A := A) (s := A (200 + t) 1 0) (k := 1) (set := 0) (g := 0) (hd := 0) (tg := t)
  have k0 : ∀ j, j ≠ 200 + t → aKl0 A t j = aTk A (A (200 + t) 1 0) 1 0 0 0 t j := fun j hj => aup_n hj
  have kt : aKl0 A t (200 + t) = lup (A (200 + t)) 1 7 (A 0 0 1) := aup_s _ _ _
  have kn : aKl0 A t (200 + A 0 0 1) = nT A (A (200 + t) 1 0) 1 0 0 0 t := by rw [k0 _ (by omega), aTk_t]
  have kc : ∀ c, aKl0 A t 0 0 c = if c = 1 then A 0 0 1 + 1 else A 0 0 c := fun c => by rw [k0 _ (by omega), aTk_0 (by omega)]
  have ko : ∀ j, j ≠ 0 → j ≠ 200 + t → j ≠ 200 + A 0 0 1 → aKl0 A t j = A j := fun j q1 q2 q3 => by rw [k0 _ q2, aTk_o q3 q1]
  have s5 : wdf 1 (bc 0) = 5 := rfl
  have kl : ∀ L, klF (aKl0 A t) t (A 0 0 1) L = if L 0 t = 0 then enq L (A 0 0 1) 1 5 0 else lup L 0 t (-1) := fun L => by
    unfold klF
    rw [kn, z.2.1, z.2.2.2.1, z.2.2.2.2.1, s5]
  exact ⟨fun c => by unfold aKil; rw [onL_n (by omega), kc], fun j q1 q2 q3 q4 => by unfold aKil; rw [onL_n q4, ko j q1 q2 q3], by unfold aKil; rw [onL_n (by omega), kn], by unfold aKil; rw [onL_n (by omega), kt], fun l q1 q2 => by unfold aKil; rw [onL_y (by omega), ko _ (by omega) (by omega) (by omega), kl]⟩
theorem kl_r {t : Int} {A1 : An} (hA : AB A) (h : LX A) (hT : KlF A t A1) (ht : 0 ≤ t ∧ t < A 0 0 1) {l : Int} (hl : 0 ≤ l ∧ l < 2) : (∀ u, u ≠ t → u ≠ A 0 0 1 → A1 (20 + l) 0 u = A (20 + l) 0 u) ∧ (A1 (20 + l) 0 t = if A (20 + l) 0 t = 0 then 0 else -1) ∧ (A1 (20 + l) 0 (A 0 0 1) = if A (20 + l) 0 t = 0 then 5 else A (20 + l) 0 (A 0 0 1)) ∧ (∀ u, A1 (20 + l) 3 u = A (20 + l) 3 u) ∧ ∀ s, s ≠ 4 → A1 (20 + l) 4 s = A (20 + l) 4 s := by
  obtain ⟨e0, eo, en, et, el⟩ := hT
  have h1 := h.1
  rw [el l hl.1 (by omega)]
  by_cases hz : A (20 + l) 0 t = 0
  · rw [if_pos hz, if_pos hz, if_pos hz]
    exact ⟨fun u q1 q2 => by rw [enq_f.1, if_neg q2], by rw [enq_f.1, if_neg (by omega)]; exact hz, by rw [enq_f.1, if_pos rfl], fun u => enq_f.2.1 u, fun s q => enq_f.2.2 s q⟩
  · rw [if_neg hz, if_neg hz, if_neg hz]
    exact ⟨fun u q1 q2 => lup_n (by omega), lup_s _ _ _ _, lup_n (by omega), fun u => lup_n (by omega), fun s q => lup_n (by omega)⟩
theorem LX.kil (h : LX A) (hA : AB A) (hW : WF A) {t : Int} {A1 : An} (hn60 : A 0 0 1 < 60) (ht : 0 ≤ t ∧ t < A 0 0 1) (hT : KlF A t A1) : LX A1 := by
  have hr := fun l (hl : 0 ≤ l ∧ l < 2) => kl_r hA h hT ht hl
  have z := nT_1 (A := A) (s := A (200 + t) 1 0) (k := 1) (set := 0) (g := 0) (hd := 0) (tg := t)
  have s5 : wdf 1 (bc 0) = 5 := rfl
  obtain ⟨e0, eo, en, et, el⟩ := hT
  have hn := hA.n
  obtain ⟨h1, h2, h3, h4, h5⟩ := h
  have c1 := e0 1
  rw [if_pos rfl] at c1
  have c3 := e0 3
  rw [if_neg (by omega)] at c3
  have er : ∀ u, 0 ≤ u → u < A 0 0 1 → ∀ i j, ¬ (i = 1 ∧ j = 7) → A1 (200 + u) i j = A (200 + u) i j := fun u q1 q2 i j q3 => by
    by_cases e : u = t
    · rw [e, et, lup_n q3]
    · rw [eo _ (by omega) (by omega) (by omega) (by omega)]
  refine ⟨by rw [e0, e0, if_neg (by omega), if_neg (by omega)]; exact h1, fun l q1 q2 => ?_, fun u q1 q2 => ?_, fun l u q1 q2 q3 q4 => ?_, fun i q1 q2 => ?_⟩
  · have r := hr l ⟨q1, q2⟩
    rw [c3, r.2.2.2.2 1 (by omega), r.2.2.2.2 3 (by omega)]; exact h2 l q1 q2
  · rw [c1] at q2
    rw [c3]
    by_cases e : u = A 0 0 1
    · rw [e, en, z.2.2.2.2.1, z.2.2.2.2.2.2.2.2]; exact ⟨rfl, Int.le_refl _⟩
    · rw [er u q1 (by omega) 1 4 (by omega), er u q1 (by omega) 1 8 (by omega)]; exact h3 u q1 (by omega)
  · rw [c1] at q4
    have r := hr l ⟨q1, q2⟩
    by_cases e : u = A 0 0 1
    · rw [e, r.2.2.1, en, z.2.2.2.1, s5]
      by_cases hz : A (20 + l) 0 t = 0
      · rw [if_pos hz]; exact ⟨Int.le_refl _, fun q => by omega⟩
      · rw [if_neg hz]
        have w := hW.n l (A 0 0 1) q1 (by omega) (Int.le_refl _) (by omega)
        rw [w]; exact ⟨by omega, fun q => by omega⟩
    · rw [er u q3 (by omega) 1 3 (by omega), er u q3 (by omega) 1 8 (by omega), r.2.2.2.1]
      have w := h4 l u q1 q2 q3 (by omega)
      by_cases e2 : u = t
      · rw [e2] at w ⊢
        rw [r.2.1]
        have b := (hA.ta t (by omega)).s3
        by_cases hz : A (20 + l) 0 t = 0
        · rw [if_pos hz]; exact ⟨by omega, fun _ => w.2 hz⟩
        · rw [if_neg hz]; exact ⟨by omega, fun q => by omega⟩
      · rw [r.1 u e2 e]; exact w
  · rw [c3, eo _ (by omega) (by omega) (by omega) (by omega)]; exact h5 i q1 q2
theorem Mo.kil (h : LX A) (hA : AB A) (hW : WF A) {t : Int} {A1 : An} (ht : 0 ≤ t ∧ t < A 0 0 1) (hk : ¬ A (200 + t) 1 1 = 1) (h7 : A (200 + t) 1 7 = -1) (hT : KlF A t A1) : Mo A A1 := fun l u q1 q2 q3 q4 => by
  have r := kl_r hA h hT ht ⟨q1, q2⟩
  obtain ⟨e0, eo, en, et, el⟩ := hT
  have hn := hA.n
  have h1 := h.1
  have c3 := e0 3
  rw [if_neg (by omega)] at c3
  have hh : ∀ k, k ≠ A 0 0 1 → k ≠ t → (hs A1 l k ↔ hs A l k) := fun k a b => hs_i c3 (r.1 k b a) (r.2.2.2.1 k) (r.2.2.2.2 1 (by omega))
  by_cases e : u = t
  · subst e
    by_cases hz : A (20 + l) 0 u = 0
    · have e1 : A1 (20 + l) 0 u = A (20 + l) 0 u := by rw [r.2.1, if_pos hz, hz]
      have hn5 : A1 (20 + l) 0 (A 0 0 1) = 5 := by rw [r.2.2.1, if_pos hz]
      rw [stt_i (A := A) (A1 := A1) e1 (by rw [et, lup_n (by omega)]) (hs_i c3 e1 (r.2.2.2.1 u) (r.2.2.2.2 1 (by omega))) ⟨fun q => by
        have q2 := q.2
        rw [et, lup_s] at q2
        have := q2.1
        omega, fun q => absurd h7 q.1⟩]
      exact Mo.rf l u q1 q2 q3 q4
    · left
      exact stt_0 (by rw [r.2.1, if_neg hz])
  · have eu : A1 (200 + u) = A (200 + u) := eo _ (by omega) (by omega) (by omega) (by omega)
    rw [stt_i (A := A) (A1 := A1) (r.1 u e (by omega)) (by rw [eu]) (hh u (by omega) e) (by
      unfold dr
      rw [eu]
      by_cases hq : A (200 + u) 1 7 = -1
      · exact ⟨fun q => absurd hq q.1, fun q => absurd hq q.1⟩
      · have w := hW.k u q3 q4 hq
        rw [hh _ (by omega) (by intro z; rw [z] at w; exact hk w.2.1)])]
    exact Mo.rf l u q1 q2 q3 q4
/-! a minute -/
theorem min_f (hA : AB A) : aMin A 0 = lup (A 0) 0 3 (A 0 0 3 + 1) ∧ (∀ j, j ≠ 0 → (j < 20 ∨ 20 + A 0 0 2 ≤ j) → aMin A j = A j) ∧ ∀ l, 0 ≤ l → l < A 0 0 2 → aMin A (20 + l) = (rM (A (20 + l)) (A 0 0 3 + 1)).1 := by
  have hn := hA.n
  exact ⟨by unfold aMin; rw [onL_n (by omega), aup_s], fun j q1 q2 => by unfold aMin; rw [onL_n q2, aup_n q1], fun l q1 q2 => by unfold aMin; rw [onL_y (by omega), aup_n (by omega)]⟩
theorem LX.min (h : LX A) (hA : AB A) : LX (aMin A) := by
  obtain ⟨e0, eo, el⟩ := min_f hA
  have hn := hA.n
  obtain ⟨h1, h2, h3, h4, h5⟩ := h
  have c : ∀ s, aMin A 0 0 s = if s = 3 then A 0 0 3 + 1 else A 0 0 s := fun s => aMin_0 (by omega)
  have c1 := c 1
  rw [if_neg (by omega)] at c1
  have c3 := c 3
  rw [if_pos rfl] at c3
  refine ⟨by rw [c, c, if_neg (by omega), if_neg (by omega)]; exact h1, fun l q1 q2 => ?_, fun t q1 q2 => ?_, fun l t q1 q2 q3 q4 => ?_, fun i q1 q2 => ?_⟩
  · have b := hA.li l (by omega)
    have f := rM_fx (m := A 0 0 3 + 1) b (by omega)
    have := h2 l q1 q2
    have := b.s0
    rw [el l q1 (by omega), c3, rM_41]
    omega
  · rw [c1] at q2
    rw [c3, eo _ (by omega) (by omega)]
    have := h3 t q1 q2
    omega
  · rw [c1] at q4
    have b := hA.li l (by omega)
    have f := rM_fx (m := A 0 0 3 + 1) b (by omega)
    have g := rM_t (m := A 0 0 3 + 1) (t := t) b.s4.1
    have w := h4 l t q1 q2 q3 q4
    have := f.2.2.2.2.2.1 t
    have y := h3 t q3 q4
    rw [el l q1 (by omega), eo _ (by omega) (by omega)]
    refine ⟨by omega, fun z => ?_⟩
    by_cases hp : 0 < A (20 + l) 0 t
    · rcases g.2 hp with ⟨a, _⟩ | ⟨_, a⟩
      · omega
      · rw [a]; omega
    · have a := g.1 (by omega)
      rw [a.2]; exact w.2 (by rw [← a.1]; exact z)
  · rw [c3, eo _ (by omega) (by omega)]; have := h5 i q1 q2; omega
theorem hs_min (h : LX A) (hA : AB A) {l k : Int} (hl : 0 ≤ l ∧ l < 2) (hh : hs A l k) : hs (aMin A) l k := by
  obtain ⟨e0, eo, el⟩ := min_f hA
  have hn := hA.n
  have h1 := h.1
  have c3 : aMin A 0 0 3 = A 0 0 3 + 1 := by rw [aMin_0 (by omega), if_pos rfl]
  have b := hA.li l (by omega)
  have g := (rM_t (m := A 0 0 3 + 1) (t := k) b.s4.1).1 (by have := hh.1; omega)
  have z := hh.2
  unfold hs
  rw [c3, el l hl.1 (by omega), g.1, g.2, rM_41]
  exact ⟨hh.1, by omega⟩
theorem Mo.min (h : LX A) (hA : AB A) : Mo A (aMin A) := fun l t q1 q2 q3 q4 => by
  obtain ⟨e0, eo, el⟩ := min_f hA
  have hn := hA.n
  have h1 := h.1
  have b := hA.li l (by omega)
  have f := (rM_fx (m := A 0 0 3 + 1) b (by omega)).2.2.2.2.2.1 t
  have g := rM_t (m := A 0 0 3 + 1) (t := t) b.s4.1
  have w := (h.2.2.2.1 l t q1 q2 q3 q4).1
  have b0 := b.v0 t q3 (by omega)
  have et : aMin A (200 + t) = A (200 + t) := eo _ (by omega) (by omega)
  by_cases a : A (20 + l) 0 t = -1
  · left
    exact stt_0 (by rw [el l q1 (by omega), (g.1 (by omega)).1]; exact a)
  · right
    by_cases c : A (20 + l) 0 t = 0
    · have y := g.1 (by omega)
      have e1 : aMin A (20 + l) 0 t = 0 := by rw [el l q1 (by omega), y.1, c]
      by_cases d : hs A l t
      · have d1 := hs_min h hA ⟨q1, q2⟩ d
        by_cases k : dr A l t
        · have k1 : dr (aMin A) l t := ⟨by rw [et]; exact k.1, by rw [et]; exact hs_min h hA ⟨q1, q2⟩ k.2⟩
          rw [stt_5 d k, stt_5 d1 k1]; omega
        · rw [stt_4 d k]
          by_cases k1 : dr (aMin A) l t
          · rw [stt_5 d1 k1]; omega
          · rw [stt_4 d1 k1]; omega
      · rw [stt_3 c d]
        by_cases d1 : hs (aMin A) l t
        · by_cases k1 : dr (aMin A) l t
          · rw [stt_5 d1 k1]; omega
          · rw [stt_4 d1 k1]; omega
        · rw [stt_3 e1 d1]; omega
    · by_cases e1 : aMin A (20 + l) 0 t = 0
      · have z : stt A l t = 1 ∨ stt A l t = 2 := by
          by_cases ww : A (20 + l) 0 t = A (200 + t) 1 3
          · exact Or.inl (stt_1 a c ww)
          · exact Or.inr (stt_2 a c ww)
        have z2 : 3 ≤ stt (aMin A) l t := by
          by_cases d1 : hs (aMin A) l t
          · by_cases k1 : dr (aMin A) l t
            · rw [stt_5 d1 k1]; omega
            · rw [stt_4 d1 k1]; omega
          · rw [stt_3 e1 d1]; omega
        omega
      · have e2 : 0 < aMin A (20 + l) 0 t ∧ aMin A (20 + l) 0 t ≤ A (20 + l) 0 t := by
          rw [el l q1 (by omega)] at e1 ⊢
          rcases g.2 (by omega) with z | z <;> omega
        by_cases ww : A (20 + l) 0 t = A (200 + t) 1 3
        · rw [stt_1 a c ww]
          by_cases w1 : aMin A (20 + l) 0 t = aMin A (200 + t) 1 3
          · rw [stt_1 (by omega) e1 w1]; omega
          · rw [stt_2 (by omega) e1 w1]; omega
        · rw [stt_2 a c ww, stt_2 (by omega) e1 (by rw [et]; omega)]; omega
end LXo
