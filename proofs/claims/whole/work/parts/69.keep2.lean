/-! ===== a take more, and its lines; a kill; a minute ===== -/
theorem LPr.nq {L : Fn} {T T1 : Int → Fn} {n k x hd : Int} (h : LPr L T n) (hn : 0 ≤ n ∧ n ≤ 60) (hx : 0 < x) (e : ∀ t, 0 ≤ t → t < n → T1 t = T t) (ek : T1 n 1 1 = k) (eh : T1 n 1 4 = hd) : LPr (enq L n k x hd) T1 (n + 1) := by
  have r0 : ∀ t, enq L n k x hd 0 t = if t = n then x else L 0 t := fun t => by
    unfold enq
    rw [lup_n (by omega), lup_n (by omega), lup_n (by omega), lup_c]
    by_cases q : t = n
    · rw [if_pos ⟨rfl, q⟩, if_pos q]
    · rw [if_neg (by omega), if_neg q]
  have r1 : ∀ t, enq L n k x hd 1 t = if t = n then k else L 1 t := fun t => by
    unfold enq
    rw [lup_n (by omega), lup_n (by omega), lup_c]
    by_cases q : t = n
    · rw [if_pos ⟨rfl, q⟩, if_pos q]
    · rw [if_neg (by omega), if_neg q, lup_n (by omega)]
  have r2 : ∀ t, enq L n k x hd 2 t = if t = n then hd else L 2 t := fun t => by
    unfold enq
    rw [lup_n (by omega), lup_c]
    by_cases q : t = n
    · rw [if_pos ⟨rfl, q⟩, if_pos q]
    · rw [if_neg (by omega), if_neg q, lup_n (by omega), lup_n (by omega)]
  have r3 : ∀ t, enq L n k x hd 3 t = L 3 t := fun t => by
    unfold enq
    rw [lup_n (by omega), lup_n (by omega), lup_n (by omega), lup_n (by omega)]
  have r4 : enq L n k x hd 4 4 = n + 1 := by unfold enq; rw [lup_s]
  refine ⟨fun t q1 q2 => ?_, by rw [r4]; omega, fun t q1 q2 => ?_⟩
  · rw [r0, r1, r2, r3, r4]
    by_cases q : t = n
    · rw [if_pos q, if_pos q, if_pos q]
      have z := h.2.2 n (Int.le_refl _) (by omega)
      have y := (h.1 n hn.1 (by omega)).1
      rw [q, ek, eh]
      exact ⟨by omega, fun _ => ⟨rfl, rfl, by omega⟩⟩
    · rw [if_neg q, if_neg q, if_neg q]
      have z := h.1 t q1 q2
      refine ⟨z.1, fun p => ?_⟩
      have y := z.2 p
      have := h.2.1
      rw [e t q1 (by omega)]
      exact ⟨y.1, y.2.1, by omega⟩
  · rw [r0, if_neg (by omega)]; exact h.2.2 t (by omega) q2
theorem LPr.off {L : Fn} {T T1 : Int → Fn} {n t : Int} (h : LPr L T n) (ht : ¬ L 0 t = 0) (h0 : 0 ≤ t ∧ t < 61) (e : ∀ t, 0 ≤ t → t < n → T1 t 1 1 = T t 1 1 ∧ T1 t 1 4 = T t 1 4) : LPr (lup L 0 t (-1)) T1 (n + 1) := by
  refine ⟨fun u q1 q2 => ?_, ?_, fun u q1 q2 => ?_⟩
  · rw [lup_n (i' := 3) (by omega), lup_n (i' := 1) (by omega), lup_n (i' := 2) (by omega), lup_n (i' := 4) (by omega), lup_c]
    have z := h.1 u q1 q2
    by_cases q : u = t
    · rw [if_pos ⟨rfl, q⟩, q]
      have y := (h.1 t h0.1 h0.2).1
      exact ⟨⟨fun _ => by omega, fun _ => y.mpr ht⟩, fun p => absurd p (by omega)⟩
    · rw [if_neg (by omega)]
      refine ⟨z.1, fun p => ?_⟩
      have y := z.2 p
      have := h.2.1
      have w := e u q1 (by omega)
      rw [w.1, w.2]; exact y
  · rw [lup_n (by omega)]; have := h.2.1; omega
  · rw [lup_c]
    split
    · rfl
    · exact h.2.2 u (by omega) q2
theorem LPr.lw {L : Fn} {T : Int → Fn} {n : Int} (h : LPr L T n) (hn : n ≤ 61) : LW L T n :=
  ⟨fun t q1 q2 => ⟨(h.1 t q1 q2).1, fun q3 => by have z := (h.1 t q1 q2).2 q3; have := h.2.1; exact ⟨by omega, z.1, z.2.1⟩⟩, h.2.1, hn⟩
theorem sn_0 {L : Fn} {m t g u : Int} (h : u ≠ t) : sn L m t g 0 u = L 0 u := by
  unfold sn
  split
  · rw [lup_n (by omega), lup_n (by omega), lup_n (by omega)]
  · rw [lup_n (by omega), lup_n (by omega)]
theorem rS_n {m u : Int} : ∀ (n : Nat) (L : Fn) (w s : Int), 0 ≤ L 4 4 → L 0 u = -1 → (rS (fun L => mU L m) m n L w s).1 0 u = -1 := by
  intro n
  induction n with
  | zero => intro L w s _ h; exact h
  | succ n ih =>
    intro L w s h4 h
    have e : rS (fun L => mU L m) m (n + 1) L w s = if w ≤ 0 then (L, s) else if mU L m = -1 then (L, s) else rS (fun L => mU L m) m n (sn L m (mU L m) (min w (L 0 (mU L m)))) (w - min w (L 0 (mU L m))) (if L 0 (mU L m) - min w (L 0 (mU L m)) = 0 then s + 1 else s) := rfl
    rw [e]
    by_cases hw : w ≤ 0
    · rw [if_pos hw]; exact h
    · rw [if_neg hw]
      by_cases hu : mU L m = -1
      · rw [if_pos hu]; exact h
      · rw [if_neg hu]
        have hs := (mU_spec (L := L) (minute := m) h4).resolve_left hu
        refine ih _ _ _ (by rw [sn_4 (by omega)]; exact h4) ?_
        rw [sn_0 (by intro q; rw [q] at h; omega)]; exact h
theorem rM_n {L : Fn} {m u : Int} (h4 : 0 ≤ L 4 4) (h : L 0 u = -1) : (rM L m).1 0 u = -1 := by
  unfold rM
  split
  · show lup L 4 2 (L 4 2 - 1) 0 u = -1
    rw [lup_n (by omega)]; exact h
  · exact rS_n _ _ _ _ h4 h
theorem rM_44 {L : Fn} {m : Int} : (rM L m).1 4 4 = L 4 4 := by
  unfold rM
  split
  · show lup L 4 2 (L 4 2 - 1) 4 4 = L 4 4
    exact lup_n (by omega)
  · exact rS_4 (by omega) _ _ _ _
theorem LPr.rMt {L : Fn} {T : Int → Fn} {n m : Int} (h : LPr L T n) (hB : LB L) (hn : n ≤ 61) (hm : 0 ≤ m ∧ m ≤ 20000) : LPr (rM L m).1 T n := by
  have z := (h.lw hn).rMt hB hm
  refine ⟨fun t q1 q2 => ⟨(z.1 t q1 q2).1, fun q3 => ?_⟩, z.2.1, fun t q1 q2 => rM_n hB.s4.1 (h.2.2 t q1 q2)⟩
  have y := (z.1 t q1 q2).2 q3
  exact ⟨y.2.1, y.2.2, y.1.2⟩
/-- lines 0 .. n - 1 are changed -/
theorem Wl.onL {A A1 : An} {f : Fn → Fn} (c1 : A1 0 0 1 = A 0 0 1) (c2 : A1 0 0 2 = A 0 0 2) (et : ∀ t, 0 ≤ t → A1 (200 + t) = A (200 + t)) (el : ∀ l, 0 ≤ l → l < A 0 0 2 → A1 (20 + l) = f (A (20 + l))) (hf : ∀ l, 0 ≤ l → l < A 0 0 2 → LPr (f (A (20 + l))) (fun t => A (200 + t)) (A 0 0 1)) : Wl A1 := fun l q1 q2 => by
  rw [c2] at q2; rw [c1, el l q1 q2]
  exact (hf l q1 q2).of (fun t q3 _ => et t q3)
theorem Inv.min {A : An} (h : Inv A) (hm : A 0 0 3 < 9999) : Inv (aMin A) := by
  obtain ⟨hA, hW, hB⟩ := h
  have hn := hA.n
  have e0 : aMin A 0 = lup (A 0) 0 3 (A 0 0 3 + 1) := by unfold aMin; rw [onL_n (by omega), aup_s]
  have eo : ∀ j, j ≠ 0 → (j < 20 ∨ 20 + A 0 0 2 ≤ j) → aMin A j = A j := fun j q1 q2 => by unfold aMin; rw [onL_n q2, aup_n q1]
  have el : ∀ l, 0 ≤ l → l < A 0 0 2 → aMin A (20 + l) = (rM (A (20 + l)) (A 0 0 3 + 1)).1 := fun l q1 q2 => by unfold aMin; rw [onL_y (by omega), aup_n (by omega)]
  have ec : ∀ s, s ≠ 3 → aMin A 0 0 s = A 0 0 s := fun s hs => by rw [e0, lup_n (by omega)]
  have hA1 : AB (aMin A) := (hA.un (by omega)).run (by omega) (fun L hL => rM_LB hL (by omega))
  refine ⟨hA1, WF.mk hA1 (hW.wt.of (ec 1 (by omega)) (fun t q => eo _ (by omega) (by omega))) (Wl.onL (f := fun L => (rM L (A 0 0 3 + 1)).1) (ec 1 (by omega)) (ec 2 (by omega)) (fun t q => eo _ (by omega) (by omega)) el (fun l q1 q2 => (hW.wl l q1 q2).rMt (hA.li l (by omega)) (by omega) (by omega))) ((hW.wf hA).of (ec 0 (by omega)) (eo _ (by omega) (by omega)) (fun i q1 q2 => eo _ (by omega) (by omega))), hB.of (ec 0 (by omega)) (ec 1 (by omega)) (ec 2 (by omega)) (fun i q1 q2 => eo _ (by omega) (by omega)) (fun t q1 q2 => by rw [eo _ (by omega) (by omega)]) (fun l q1 q2 => eo _ (by omega) (by omega)) (fun t q1 q2 => by rw [eo _ (by omega) (by omega)])⟩
theorem aPas_0 {A : An} : aPas A 0 = (A, 0) := fr_end (by omega)
theorem aPas_1 {A : An} {m : Int} (h : 0 ≤ m) : aPas A (m + 1) = (aMin (aPas A m).1, (aPas A m).2 + nMin (aPas A m).1) := by
  unfold aPas
  rw [fr_last h]
theorem aMin_0 {A : An} (h : 0 ≤ A 0 0 2) {s : Int} : aMin A 0 0 s = if s = 3 then A 0 0 3 + 1 else A 0 0 s := by
  unfold aMin
  rw [onL_n (by omega), aup_s, lup_c]
  by_cases e : s = 3
  · rw [if_pos ⟨rfl, e⟩, if_pos e]
  · rw [if_neg (by omega), if_neg e]
theorem Inv.pas {A : An} (h : Inv A) {m : Int} (hm : 0 ≤ m) (ht : A 0 0 3 + m ≤ 9999) : Inv (aPas A m).1 ∧ (∀ s, (aPas A m).1 0 0 s = if s = 3 then A 0 0 3 + m else A 0 0 s) := by
  have key : ∀ n : Nat, A 0 0 3 + (n : Int) ≤ 9999 → Inv (aPas A (n : Int)).1 ∧ (∀ s, (aPas A (n : Int)).1 0 0 s = if s = 3 then A 0 0 3 + (n : Int) else A 0 0 s) := by
    intro n
    induction n with
    | zero =>
      intro _
      show Inv (aPas A 0).1 ∧ (∀ s, (aPas A 0).1 0 0 s = if s = 3 then A 0 0 3 + 0 else A 0 0 s)
      rw [aPas_0]
      refine ⟨h, fun s => ?_⟩
      by_cases e : s = 3
      · rw [if_pos e, e]; show A 0 0 3 = A 0 0 3 + 0; omega
      · rw [if_neg e]
    | succ n ih =>
      intro q
      obtain ⟨i1, i2⟩ := ih (by omega)
      show Inv (aPas A ((n : Int) + 1)).1 ∧ (∀ s, (aPas A ((n : Int) + 1)).1 0 0 s = if s = 3 then A 0 0 3 + ((n : Int) + 1) else A 0 0 s)
      rw [aPas_1 (by omega)]
      have h3 := i2 3
      rw [if_pos rfl] at h3
      refine ⟨i1.min (by rw [h3]; omega), fun s => ?_⟩
      show aMin (aPas A (n : Int)).1 0 0 s = _
      rw [aMin_0 (by have := i1.1.n; omega)]
      by_cases e : s = 3
      · rw [if_pos e, if_pos e, h3]; omega
      · rw [if_neg e, if_neg e, i2 s, if_neg e]
  have z := key m.toNat (by omega)
  rwa [show ((m.toNat : Nat) : Int) = m by omega] at z
/-- a new take is filed -/
theorem Inv.take {A : An} (h : Inv A) {T : Fn} (hn60 : A 0 0 1 < 60) (hT : TB T 0) (hi : ∀ f, 0 ≤ f → f < 4 → (ins (T 1 2) f ↔ ¬ T 0 f = -1)) (h7 : T 1 7 = -1) (h1 : ¬ T 1 1 = 1) (h3 : 0 < T 1 3) (h00 : T 1 0 < A 0 0 0) : Inv (aRun (aT A T) (A 0 0 1)) := by
  obtain ⟨hA, hW, hB⟩ := h
  have hn := hA.n
  have z0 := fun c => aT_0 (A := A) (T := T) (c := c) (by omega)
  have y1 := z0 1
  have y2 := z0 2
  rw [if_pos rfl] at y1
  rw [if_neg (by omega)] at y2
  have eq1 : aRun (aT A T) (A 0 0 1) = onL (aT A T) (A 0 0 2) (fun L => enq L (A 0 0 1) (T 1 1) (T 1 3) (T 1 4)) := by
    unfold aRun runF; rw [y2, aT_t]
  have hA0 : AB (aT A T) := (hA.un (s := 1) (x := A 0 0 1 + 1) (by omega)).uT _ (by omega) hT
  have s1 := hT.s1
  have s3 := hT.s3
  have s4 := hT.s4
  have hA1 : AB (aRun (aT A T) (A 0 0 1)) := by
    rw [eq1]
    exact hA0.run (by omega) (fun L hL => enq_LB hL s1 (by omega) s4 (by omega))
  have e0 : ∀ c, aRun (aT A T) (A 0 0 1) 0 0 c = if c = 1 then A 0 0 1 + 1 else A 0 0 c := fun c => by rw [eq1, onL_n (by omega), z0]
  have eo : ∀ j, j ≠ 0 → j ≠ 200 + A 0 0 1 → (j < 20 ∨ 20 + A 0 0 2 ≤ j) → aRun (aT A T) (A 0 0 1) j = A j := fun j q1 q2 q3 => by rw [eq1, onL_n q3, aT_o q2 q1]
  have en : aRun (aT A T) (A 0 0 1) (200 + A 0 0 1) = T := by rw [eq1, onL_n (by omega), aT_t]
  have el : ∀ l, 0 ≤ l → l < A 0 0 2 → aRun (aT A T) (A 0 0 1) (20 + l) = enq (A (20 + l)) (A 0 0 1) (T 1 1) (T 1 3) (T 1 4) := fun l q1 q2 => by rw [eq1, onL_y (by omega), aT_o (by omega) (by omega)]
  have et : ∀ t, 0 ≤ t → t < A 0 0 1 → aRun (aT A T) (A 0 0 1) (200 + t) = A (200 + t) := fun t q1 q2 => eo _ (by omega) (by omega) (by omega)
  have c0 := e0 0
  have c1 := e0 1
  have c2 := e0 2
  rw [if_neg (by omega)] at c0 c2
  rw [if_pos rfl] at c1
  generalize aRun (aT A T) (A 0 0 1) = A1 at hA1 e0 eo en el et c0 c1 c2 ⊢
  refine ⟨hA1, WF.mk hA1 ⟨fun t f q1 q2 q3 q4 => ?_, fun t q1 q2 q3 => ?_, fun k t q1 q2 q3 q4 q5 q6 => ?_⟩ (fun l q1 q2 => ?_) ((hW.wf hA).of c0 (eo _ (by omega) (by omega) (by omega)) (fun i q1 q2 => eo _ (by omega) (by omega) (by omega))), ⟨fun i q1 q2 => ?_, fun t q1 q2 => ?_, fun l q1 q2 => ?_, fun t q1 q2 => ?_⟩⟩
  · rw [c1] at q2
    by_cases e : t = A 0 0 1
    · rw [e, en]; exact hi f q3 q4
    · rw [et t q1 (by omega)]; exact hW.i t f q1 (by omega) q3 q4
  · rw [c1] at q2 ⊢
    by_cases e : t = A 0 0 1
    · rw [e, en] at q3; exact absurd h7 q3
    · rw [et t q1 (by omega)] at q3 ⊢
      have z := hW.k t q1 (by omega) q3
      rw [et _ (by omega) (by omega)]
      exact ⟨by omega, z.2⟩
  · rw [c1] at q2
    by_cases e : k = A 0 0 1
    · rw [e, en] at q5; exact absurd q5 h1
    · rw [et k q1 (by omega)] at q5 q6
      rw [et t q3 (by omega)]
      exact hW.u k t q1 (by omega) q3 q4 q5 q6
  · rw [c2] at q2
    rw [c1, el l q1 q2]
    exact (hW.wl l q1 q2).nq (by omega) h3 (fun t q3 q4 => et t q3 q4) (by show A1 (200 + A 0 0 1) 1 1 = _; rw [en]) (by show A1 (200 + A 0 0 1) 1 4 = _; rw [en])
  · rw [c0] at q1; rw [eo _ (by omega) (by omega) (by omega)]; exact hB.1 i q1 q2
  · rw [c1] at q1; rw [eo _ (by omega) (by omega) (by omega)]; exact hB.2.1 t (by omega) q2
  · rw [c2] at q1; rw [eo _ (by omega) (by omega) (by omega)]; exact hB.2.2.1 l q1 q2
  · rw [c1] at q2; rw [c0]
    by_cases e : t = A 0 0 1
    · rw [e, en]; exact h00
    · rw [et t q1 (by omega)]; exact hB.2.2.2 t q1 (by omega)
/-- the new take's numbers -/
theorem nT_1 {A : An} {s k set g hd tg : Int} : nT A s k set g hd tg 1 0 = s ∧ nT A s k set g hd tg 1 1 = k ∧ nT A s k set g hd tg 1 2 = set ∧ nT A s k set g hd tg 1 3 = wdf k (bc set) ∧ nT A s k set g hd tg 1 4 = hd ∧ nT A s k set g hd tg 1 5 = g ∧ nT A s k set g hd tg 1 6 = tg ∧ nT A s k set g hd tg 1 7 = A (200 + A 0 0 1) 1 7 ∧ nT A s k set g hd tg 1 8 = A 0 0 3 := by
  unfold nT
  simp only [rup_n (show (1 : Int) ≠ 0 by omega), lup_c]
  simp
theorem nT_0 {A : An} {s k set g hd tg f : Int} : nT A s k set g hd tg 0 f = if ins set f then vtf A g (s * 4 + f) else -1 := by
  unfold nT
  rw [rup_s]
theorem wdf_pos {k n : Int} (hk : 0 ≤ k) (hn : 0 ≤ n) : 0 < wdf k n := by
  unfold wdf
  (repeat' split) <;> omega
theorem hv_4 {A : An} {s set g f : Int} (h : hv A s set g = 4) (hf : 0 ≤ f ∧ f < 4) (hi : ins set f) : ¬ vtf A g (s * 4 + f) = -1 := by
  have z := fnd_spec (p := fun f => ins set f ∧ vtf A g (s * 4 + f) = -1) (lo := 0) (hi := 4) (by omega)
  have e : fnd (fun f => ins set f ∧ vtf A g (s * 4 + f) = -1) 0 4 = 4 := h
  exact fun q => z.2.2.1 f hf.1 (by rw [e]; exact hf.2) ⟨hi, q⟩
theorem Inv.fil {A : An} (h : Inv A) {s k set g hd tg : Int} (hn60 : A 0 0 1 < 60) (hs : 0 ≤ s ∧ s < A 0 0 0) (hk : 0 ≤ k ∧ k ≤ 4) (hk1 : ¬ k = 1) (hset : 0 ≤ set ∧ set < 16) (hg : g = 0 ∨ g = 1) (hh : 0 ≤ hd ∧ hd ≤ 9999) (ht : -1 ≤ tg ∧ tg < 60) (hv4 : hv A s set g = 4) : Inv (aFil A s k set g hd tg) := by
  have hn := h.1.n
  have z := nT_1 (A := A) (s := s) (k := k) (set := set) (g := g) (hd := hd) (tg := tg)
  have hb := bc_bd set
  have e : aTk A s k set g hd tg = aT A (nT A s k set g hd tg) := rfl
  show Inv (aRun (aTk A s k set g hd tg) (A 0 0 1))
  rw [e]
  refine h.take hn60 (nT_TB h.1 hn60 (by omega) hk hset hg hh ht) (fun f q1 q2 => ?_) ?_ ?_ ?_ (by rw [z.1]; exact hs.2)
  · rw [z.2.2.1, nT_0]
    by_cases hi : ins set f
    · rw [if_pos hi]; exact ⟨fun _ => hv_4 hv4 ⟨q1, q2⟩ hi, fun _ => hi⟩
    · rw [if_neg hi]; exact ⟨fun q => absurd q hi, fun q => absurd rfl q⟩
  · rw [z.2.2.2.2.2.2.2.1]; exact h.2.2.2.1 _ (Int.le_refl _) hn60
  · rw [z.2.1]; exact hk1
  · rw [z.2.2.2.1]; exact wdf_pos hk.1 hb.1
theorem aKl0_t {A : An} {t : Int} (h : t ≠ A 0 0 1) (h0 : 0 ≤ t) : aKl0 A t (200 + t) = lup (A (200 + t)) 1 7 (A 0 0 1) := aup_s _ _ _
theorem Inv.kil {A : An} (h : Inv A) {t : Int} (hn60 : A 0 0 1 < 60) (ht : 0 ≤ t ∧ t < A 0 0 1) (h7 : A (200 + t) 1 7 = -1) : Inv (aKil A t) := by
  obtain ⟨hA, hW, hB⟩ := h
  have hn := hA.n
  have hs := (hA.ta t (by omega)).s0
  have z := nT_1 (A := A) (s := A (200 + t) 1 0) (k := 1) (set := 0) (g := 0) (hd := 0) (tg := t)
  have b7 := hB.2.1 (A 0 0 1) (Int.le_refl _) hn60
  have k0 : ∀ j, j ≠ 200 + t → aKl0 A t j = aTk A (A (200 + t) 1 0) 1 0 0 0 t j := fun j hj => aup_n hj
  have kt : aKl0 A t (200 + t) = lup (A (200 + t)) 1 7 (A 0 0 1) := aup_s _ _ _
  have kn : aKl0 A t (200 + A 0 0 1) = nT A (A (200 + t) 1 0) 1 0 0 0 t := by rw [k0 _ (by omega), aTk_t]
  have kc : ∀ c, aKl0 A t 0 0 c = if c = 1 then A 0 0 1 + 1 else A 0 0 c := fun c => by rw [k0 _ (by omega), aTk_0 (by omega)]
  have ko : ∀ j, j ≠ 0 → j ≠ 200 + t → j ≠ 200 + A 0 0 1 → aKl0 A t j = A j := fun j q1 q2 q3 => by rw [k0 _ q2, aTk_o q3 q1]
  have hA0 : AB (aKl0 A t) := (hA.tk hn60 hs (by omega) (by omega) (Or.inl rfl) (by omega) (by omega)).uT t (by omega) (tb_k (hA.ta t (by omega)) (by omega))
  have s5 : wdf 1 (bc 0) = 5 := rfl
  have hA1 : AB (aKil A t) := by
    refine hA0.run (by omega) (fun L hL => ?_)
    unfold klF
    rw [kn, z.2.1, z.2.2.2.1, z.2.2.2.2.1, s5]
    split
    · exact enq_LB hL (by omega) (by omega) (by omega) (by omega)
    · exact hL.u0 (by omega)
  have e0 : ∀ c, aKil A t 0 0 c = if c = 1 then A 0 0 1 + 1 else A 0 0 c := fun c => by unfold aKil; rw [onL_n (by omega), kc]
  have eo : ∀ j, j ≠ 0 → j ≠ 200 + t → j ≠ 200 + A 0 0 1 → (j < 20 ∨ 20 + A 0 0 2 ≤ j) → aKil A t j = A j := fun j q1 q2 q3 q4 => by unfold aKil; rw [onL_n q4, ko j q1 q2 q3]
  have en : aKil A t (200 + A 0 0 1) = nT A (A (200 + t) 1 0) 1 0 0 0 t := by unfold aKil; rw [onL_n (by omega), kn]
  have ett : aKil A t (200 + t) = lup (A (200 + t)) 1 7 (A 0 0 1) := by unfold aKil; rw [onL_n (by omega), kt]
  have el : ∀ l, 0 ≤ l → l < A 0 0 2 → aKil A t (20 + l) = klF (aKl0 A t) t (A 0 0 1) (A (20 + l)) := fun l q1 q2 => by unfold aKil; rw [onL_y (by omega), ko _ (by omega) (by omega) (by omega)]
  have eu : ∀ u, 0 ≤ u → u < A 0 0 1 → u ≠ t → aKil A t (200 + u) = A (200 + u) := fun u q1 q2 q3 => eo _ (by omega) (by omega) (by omega) (by omega)
  have er : ∀ u, 0 ≤ u → u < A 0 0 1 → ∀ i j, ¬ (i = 1 ∧ j = 7) → aKil A t (200 + u) i j = A (200 + u) i j := fun u q1 q2 i j q3 => by
    by_cases e : u = t
    · rw [e, ett, lup_n q3]
    · rw [eu u q1 q2 e]
  have c0 := e0 0
  have c1 := e0 1
  have c2 := e0 2
  rw [if_neg (by omega)] at c0 c2
  rw [if_pos rfl] at c1
  have kl : ∀ L, klF (aKl0 A t) t (A 0 0 1) L = if L 0 t = 0 then enq L (A 0 0 1) 1 5 0 else lup L 0 t (-1) := fun L => by
    unfold klF
    rw [kn, z.2.1, z.2.2.2.1, z.2.2.2.2.1, s5]
  generalize aKil A t = A1 at hA1 e0 eo en ett el eu er c0 c1 c2 ⊢
  refine ⟨hA1, WF.mk hA1 ⟨fun u f q1 q2 q3 q4 => ?_, fun u q1 q2 q3 => ?_, fun k u q1 q2 q3 q4 q5 q6 => ?_⟩ (fun l q1 q2 => ?_) ((hW.wf hA).of c0 (eo _ (by omega) (by omega) (by omega) (by omega)) (fun i q1 q2 => eo _ (by omega) (by omega) (by omega) (by omega))), ⟨fun i q1 q2 => ?_, fun u q1 q2 => ?_, fun l q1 q2 => ?_, fun u q1 q2 => ?_⟩⟩
  · rw [c1] at q2
    by_cases e : u = A 0 0 1
    · rw [e, en, z.2.2.1, nT_0, if_neg ins_0]
      exact ⟨fun q => absurd q ins_0, fun q => absurd rfl q⟩
    · rw [er u q1 (by omega) 1 2 (by omega), er u q1 (by omega) 0 f (by omega)]; exact hW.i u f q1 (by omega) q3 q4
  · rw [c1] at q2 ⊢
    by_cases e : u = A 0 0 1
    · rw [e, en, z.2.2.2.2.2.2.2.1] at q3; exact absurd b7 q3
    · by_cases e2 : u = t
      · rw [e2, ett, lup_s, en, z.2.1, z.2.2.2.2.2.2.1]
        exact ⟨by omega, rfl, rfl⟩
      · rw [eu u q1 (by omega) e2] at q3 ⊢
        have y := hW.k u q1 (by omega) q3
        rw [er _ (by omega) (by omega) 1 1 (by omega), er _ (by omega) (by omega) 1 6 (by omega)]
        exact ⟨by omega, y.2⟩
  · rw [c1] at q2
    by_cases e : k = A 0 0 1
    · rw [e, en, z.2.2.2.2.2.2.1] at q6
      rw [← q6, ett, lup_s, e]
    · rw [er k q1 (by omega) 1 1 (by omega)] at q5
      rw [er k q1 (by omega) 1 6 (by omega)] at q6
      have y := hW.u k u q1 (by omega) q3 q4 q5 q6
      by_cases e2 : u = t
      · rw [e2, h7] at y; omega
      · rw [eu u q3 (by omega) e2]; exact y
  · rw [c2] at q2
    rw [c1, el l q1 q2, kl]
    have y := hW.wl l q1 q2
    by_cases hz : A (20 + l) 0 t = 0
    · rw [if_pos hz]
      have y2 : LPr (enq (A (20 + l)) (A 0 0 1) 1 5 0) (fun u => if u < A 0 0 1 then A (200 + u) else A1 (200 + u)) (A 0 0 1 + 1) := y.nq (by omega) (by omega) (fun u q3 q4 => if_pos q4) (by show (if A 0 0 1 < A 0 0 1 then A (200 + A 0 0 1) else A1 (200 + A 0 0 1)) 1 1 = 1; rw [if_neg (by omega), en, z.2.1]) (by show (if A 0 0 1 < A 0 0 1 then A (200 + A 0 0 1) else A1 (200 + A 0 0 1)) 1 4 = 0; rw [if_neg (by omega), en, z.2.2.2.2.1])
      refine ⟨fun u q3 q4 => ⟨(y2.1 u q3 q4).1, fun q5 => ?_⟩, y2.2⟩
      have w := (y2.1 u q3 q4).2 q5
      have w4 := y2.2.1
      by_cases hu : u < A 0 0 1
      · have w1 : (if u < A 0 0 1 then A (200 + u) else A1 (200 + u)) = A (200 + u) := if_pos hu
        have w2 : enq (A (20 + l)) (A 0 0 1) 1 5 0 1 u = A (200 + u) 1 1 := by rw [← w1]; exact w.1
        have w3 : enq (A (20 + l)) (A 0 0 1) 1 5 0 2 u = A (200 + u) 1 4 := by rw [← w1]; exact w.2.1
        refine ⟨?_, ?_, w.2.2⟩
        · show _ = A1 (200 + u) 1 1
          rw [er u q3 hu 1 1 (by omega)]; exact w2
        · show _ = A1 (200 + u) 1 4
          rw [er u q3 hu 1 4 (by omega)]; exact w3
      · have w1 : (if u < A 0 0 1 then A (200 + u) else A1 (200 + u)) = A1 (200 + u) := if_neg hu
        refine ⟨?_, ?_, w.2.2⟩
        · show _ = A1 (200 + u) 1 1
          rw [← w1]; exact w.1
        · show _ = A1 (200 + u) 1 4
          rw [← w1]; exact w.2.1
    · rw [if_neg hz]
      exact y.off hz (by omega) (fun u q3 q4 => ⟨er u q3 q4 1 1 (by omega), er u q3 q4 1 4 (by omega)⟩)
  · rw [c0] at q1; rw [eo _ (by omega) (by omega) (by omega) (by omega)]; exact hB.1 i q1 q2
  · rw [c1] at q1; rw [eo _ (by omega) (by omega) (by omega) (by omega)]; exact hB.2.1 u (by omega) q2
  · rw [c2] at q1; rw [eo _ (by omega) (by omega) (by omega) (by omega)]; exact hB.2.2.1 l q1 q2
  · rw [c1] at q2; rw [c0]
    by_cases e : u = A 0 0 1
    · rw [e, en, z.1]; exact hB.2.2.2 t ht.1 ht.2
    · rw [er u q1 (by omega) 1 0 (by omega)]; exact hB.2.2.2 u q1 (by omega)
