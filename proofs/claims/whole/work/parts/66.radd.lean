/-! ===== sources, stories, lines and takes come to the model ===== -/
/-- what is not there yet is blank; a take's story is there -/
def BK (A : An) : Prop := (∀ i, A 0 0 0 * 4 ≤ i → i < 24 → (∀ k, 0 ≤ k → k < 10 → A (100 + i) 0 k = -1) ∧ A (100 + i) 1 0 = -1 ∧ A (100 + i) 1 1 = 0 ∧ A (100 + i) 1 2 = -1 ∧ A (100 + i) 1 3 = -1) ∧ (∀ t, A 0 0 1 ≤ t → t < 60 → A (200 + t) 1 7 = -1) ∧ (∀ l, A 0 0 2 ≤ l → l < 4 → (∀ t, 0 ≤ t → t < 61 → A (20 + l) 0 t = -1 ∧ A (20 + l) 3 t = -1) ∧ A (20 + l) 4 2 = 0 ∧ A (20 + l) 4 3 = 0 ∧ A (20 + l) 4 4 = 0) ∧ ∀ t, 0 ≤ t → t < A 0 0 1 → A (200 + t) 1 0 < A 0 0 0
theorem sAdd_2 {S : Fn} {w o : Int} : sAdd S w o 2 0 = S 2 0 + 1 := by
  unfold sAdd
  rw [lup_n (by omega), lup_n (by omega), lup_s]
theorem sAdd_0 {S : Fn} {w o i : Int} : sAdd S w o 0 i = if i = S 2 0 then w else S 0 i := by
  unfold sAdd
  rw [lup_n (by omega), lup_c]
  by_cases e : i = S 2 0
  · rw [if_pos (by omega), if_pos e]
  · rw [if_neg (by omega), if_neg e, lup_n (by omega)]
theorem sAdd_1 {S : Fn} {w o i : Int} : sAdd S w o 1 i = if i = S 2 0 then (if o = -1 then S 2 0 else S 1 o) else S 1 i := by
  unfold sAdd
  rw [lup_c]
  by_cases e : i = S 2 0
  · rw [if_pos (by omega), if_pos e]
  · rw [if_neg (by omega), if_neg e, lup_n (by omega), lup_n (by omega)]
section RMa
variable {G M G1 M1 G2 M2 : Mm} {Q : Int} {A : An} {D : Fn} {I : Int → Int}
theorem RM.addS (h : RM G M Q A D I) (hA : AB A) {x w o r : Int} (hx : G 4 0 0 = x) (hk : Kp G M G1 M1) (h4 : G1 4 0 0 = x + 1) (hs : MSo G1 M1 x w r) (hr : r = if o = -1 then A 10 2 0 else A 10 1 o) (hadd : ADD G1 M1 (Q + 1) (A 10 2 0) (D 0 1) x G2 M2) : ∃ D1 I1, RM G2 M2 Q (aSrc A w o) D1 I1 ∧ Fq Q G M G2 M2 := by
  have hn := hA.so.c
  have hq := h.q
  have e0 : aSrc A w o 10 = sAdd (A 10) w o := aup_s _ _ _
  have en : ∀ j, j ≠ 10 → aSrc A w o j = A j := fun j hj => aup_n hj
  have h1 : RM G M Q A D (fun b => if b < x then I b else if b = x then 1000 + A 10 2 0 else 1) := h.tg (fun b hb => if_pos (by omega))
  have h2 : RM G M Q A (lup D 1 (A 10 2 0) x) _ := h1.dd (fun j _ _ => lup_n (by omega)) (fun i _ _ => lup_n (by omega)) (fun i _ _ => lup_n (by omega)) (fun i _ _ => lup_n (by omega)) (fun i _ _ => lup_n (by omega)) (fun i _ _ => lup_n (by omega))
  have h3 := h2.kp hk
  have ed : lup D 1 (A 10 2 0) x 1 (A 10 2 0) = x := lup_s _ _ _ _
  have ee : lup D 1 (A 10 2 0) x 0 1 = D 0 1 := lup_n (by omega)
  obtain ⟨e1, z1, z2⟩ := h3.ad1 (A1 := aSrc A w o) (fun b hb => by show (if b < x then I b else if b = x then 1000 + A 10 2 0 else 1) = 1; rw [if_neg (by omega), if_neg (by omega)]) (by rw [ed, ee]; exact hadd) (by rw [ed, e0, sAdd_0, sAdd_1, if_pos rfl, if_pos rfl, ← hr]; exact hs) (by rw [ed]; refine ⟨by omega, ?_⟩; show (if x < x then I x else if x = x then 1000 + A 10 2 0 else 1) = _; rw [if_neg (by omega), if_pos rfl]) (by rw [e0, sAdd_2]) (by rw [en 0 (by omega)]) (by rw [en 0 (by omega)]) (by rw [en 0 (by omega)]) (by rw [en 0 (by omega)]) (fun i q1 q2 => by rw [e0, sAdd_0, sAdd_1, if_neg (by omega), if_neg (by omega)]; exact ⟨rfl, rfl⟩) (fun i _ _ => en _ (by omega)) (fun i _ _ => en _ (by omega)) (fun i _ _ => en _ (by omega))
  exact ⟨_, _, z1, (hk.fq (by omega)).tr z2⟩
def tgY (x n : Int) (I : Int → Int) : Int → Int := fun b => if b < x then I b else if b = x then 2000 + n else if b < x + 9 then (if (b - x) % 2 = 1 then 3000 + (n * 4 + (b - x - 1) / 2) else 4000 + (n * 4 + (b - x - 2) / 2)) else 2
def dY (x n : Int) (D : Fn) : Fn := fun i j => if i = 2 ∧ j = n then x else if i = 3 ∧ n * 4 ≤ j ∧ j < n * 4 + 4 then x + 1 + 2 * (j - n * 4) else D i j
theorem RM.addY (h : RM G M Q A D I) (hA : AB A) (hB : BK A) (hn6 : A 0 0 0 < 6) {x : Int} (hx : G 4 0 0 = x) (hk : Kp G M G1 M1) (h4 : G1 4 0 0 = x + 9) (hs : AR G1 6 x 4) (he : ∀ f, 0 ≤ f → f < 4 → G1 3 x f = x + 1 + 2 * f) (hf : ∀ f, 0 ≤ f → f < 4 → MFa G1 M1 (x + 1 + 2 * f) F00) (hadd : ADD G1 M1 (Q + 2) (A 0 0 0) (D 0 2) x G2 M2) : ∃ D1 I1, RM G2 M2 Q (aSty A) D1 I1 ∧ Fq Q G M G2 M2 := by
  have hn := hA.n
  have hq := h.q
  have e0 : aSty A 0 = lup (A 0) 0 0 (A 0 0 0 + 1) := aup_s _ _ _
  have en : ∀ j, j ≠ 0 → aSty A j = A j := fun j hj => aup_n hj
  have h1 : RM G M Q A D (tgY x (A 0 0 0) I) := h.tg (fun b hb => if_pos (by omega))
  have h2 : RM G M Q A (dY x (A 0 0 0) D) _ := h1.dd (fun j _ _ => by unfold dY; rw [if_neg (by omega), if_neg (by omega)]) (fun i _ _ => by unfold dY; rw [if_neg (by omega), if_neg (by omega)]) (fun i _ _ => by unfold dY; rw [if_neg (by omega), if_neg (by omega)]) (fun i _ _ => by unfold dY; rw [if_neg (by omega), if_neg (by omega)]) (fun i _ _ => by unfold dY; rw [if_neg (by omega), if_neg (by omega)]) (fun i _ _ => by unfold dY; rw [if_neg (by omega), if_neg (by omega)])
  have h3 := h2.kp hk
  have ed : dY x (A 0 0 0) D 2 (A 0 0 0) = x := by unfold dY; rw [if_pos (by omega)]
  have ee : dY x (A 0 0 0) D 0 2 = D 0 2 := by unfold dY; rw [if_neg (by omega), if_neg (by omega)]
  have e3 : ∀ f, 0 ≤ f → f < 4 → dY x (A 0 0 0) D 3 (A 0 0 0 * 4 + f) = x + 1 + 2 * f := fun f q1 q2 => by unfold dY; rw [if_neg (by omega), if_pos (by omega)]; omega
  obtain ⟨e1, z1, z2⟩ := h3.ad2 (A1 := aSty A) (fun b hb => by unfold tgY; rw [if_neg (by omega), if_neg (by omega), if_neg (by omega)]) (by rw [ed, ee]; exact hadd) (by rw [ed]; exact hs) (fun f q1 q2 => by rw [ed, e3 f q1 q2]; exact he f q1 q2) (fun f q1 q2 => by
      rw [e3 f q1 q2, en _ (by omega)]
      have z := hB.1 (A 0 0 0 * 4 + f) (by omega) (by omega)
      exact (hf f q1 q2).ext (fun k p1 p2 => ((z.1 k p1 p2).trans rfl).symm) (z.2.2.2.2.trans rfl).symm) (by rw [ed]; refine ⟨by omega, ?_⟩; unfold tgY; rw [if_neg (by omega), if_pos rfl]) (fun f q1 q2 => by
      rw [e3 f q1 q2]
      refine ⟨by omega, ?_, ?_⟩
      · unfold tgY; rw [if_neg (by omega), if_neg (by omega), if_pos (by omega), if_pos (by omega)]; omega
      · unfold tgY; rw [if_neg (by omega), if_neg (by omega), if_pos (by omega), if_neg (by omega)]; omega) (by rw [en 10 (by omega)]) (by rw [e0, lup_s]) (by rw [e0, lup_n (by omega)]) (by rw [e0, lup_n (by omega)]) (by rw [e0, lup_n (by omega)]) (fun i q1 q2 => by rw [en 10 (by omega)]; exact ⟨rfl, rfl⟩) (fun i _ _ => en _ (by omega)) (fun i _ _ => en _ (by omega)) (fun i _ _ => en _ (by omega))
  exact ⟨_, _, z1, (hk.fq (by omega)).tr z2⟩
def tgL (x n : Int) (I : Int → Int) : Int → Int := fun b => if b < x then I b else if b = x then 7000 + n else if b = x + 1 then 7100 + n else if b = x + 2 then 7200 + n else if b = x + 3 then 7300 + n else 4
theorem RM.addL (h : RM G M Q A D I) (hA : AB A) (hB : BK A) (hn4 : A 0 0 2 < 4) {x sp lg : Int} (hx : G 4 0 0 = x) (hk : Kp G M G1 M1) (h4 : G1 4 0 0 = x + 4) (hs : MLi G1 M1 x (Lmk sp lg 61)) (hadd : ADD G1 M1 (Q + 4) (A 0 0 2) (D 0 4) x G2 M2) : ∃ D1 I1, RM G2 M2 Q (aLin A sp lg) D1 I1 ∧ Fq Q G M G2 M2 := by
  have hn := hA.n
  have hq := h.q
  have e0 : aLin A sp lg 0 = lup (A 0) 0 2 (A 0 0 2 + 1) := aup_s _ _ _
  have e1 : aLin A sp lg (20 + A 0 0 2) = lup (lup (A (20 + A 0 0 2)) 4 0 sp) 4 1 lg := by unfold aLin; rw [aup_n (by omega), aup_s]
  have en : ∀ j, j ≠ 0 → j ≠ 20 + A 0 0 2 → aLin A sp lg j = A j := fun j hj hj2 => by unfold aLin; rw [aup_n hj, aup_n hj2]
  have h1 : RM G M Q A D (tgL x (A 0 0 2) I) := h.tg (fun b hb => if_pos (by omega))
  have h2 : RM G M Q A (lup D 5 (A 0 0 2) x) _ := h1.dd (fun j _ _ => lup_n (by omega)) (fun i _ _ => lup_n (by omega)) (fun i _ _ => lup_n (by omega)) (fun i _ _ => lup_n (by omega)) (fun i _ _ => lup_n (by omega)) (fun i _ _ => lup_n (by omega))
  have h3 := h2.kp hk
  have ed : lup D 5 (A 0 0 2) x 5 (A 0 0 2) = x := lup_s _ _ _ _
  have ee : lup D 5 (A 0 0 2) x 0 4 = D 0 4 := lup_n (by omega)
  obtain ⟨b1, b2, b3, b4⟩ := hB.2.2.1 (A 0 0 2) (by omega) hn4
  obtain ⟨e9, z1, z2⟩ := h3.ad4 (A1 := aLin A sp lg) (fun b hb => by unfold tgL; rw [if_neg (by omega), if_neg (by omega), if_neg (by omega), if_neg (by omega), if_neg (by omega)]) (by rw [ed, ee]; exact hadd) (by
      rw [ed, e1]
      refine hs.ext ⟨?_, ?_, ?_, ?_⟩ (fun t q1 q2 => ⟨?_, ?_⟩)
      · rw [lup_n (by omega), lup_s]; rfl
      · rw [lup_s]; rfl
      · rw [lup_n (by omega), lup_n (by omega), b2]; rfl
      · rw [lup_n (by omega), lup_n (by omega), b3]; rfl
      · rw [lup_n (by omega), lup_n (by omega), (b1 t q1 q2).1]; rfl
      · rw [lup_n (by omega), lup_n (by omega), (b1 t q1 q2).2]; exact if_pos q2) (by
      rw [ed]
      refine ⟨by omega, ?_, ?_, ?_, ?_⟩
      · unfold tgL; rw [if_neg (by omega), if_pos rfl]
      · unfold tgL; rw [if_neg (by omega), if_neg (by omega), if_pos rfl]
      · unfold tgL; rw [if_neg (by omega), if_neg (by omega), if_neg (by omega), if_pos rfl]
      · unfold tgL; rw [if_neg (by omega), if_neg (by omega), if_neg (by omega), if_neg (by omega), if_pos rfl]) (by rw [en 10 (by omega) (by omega)]) (by rw [e0, lup_n (by omega)]) (by rw [e0, lup_n (by omega)]) (by rw [e0, lup_s]) (by rw [e0, lup_n (by omega)]) (fun i q1 q2 => by rw [en 10 (by omega) (by omega)]; exact ⟨rfl, rfl⟩) (fun i _ _ => en _ (by omega) (by omega)) (fun i _ _ => en _ (by omega) (by omega)) (fun i _ _ => en _ (by omega) (by omega))
  exact ⟨_, _, z1, (hk.fq (by omega)).tr z2⟩
/-- a take T comes -/
def aT (A : An) (T : Fn) : An := aup (aup A 0 (lup (A 0) 0 1 (A 0 0 1 + 1))) (200 + A 0 0 1) T
theorem aT_0 {A : An} {T : Fn} (h : 0 ≤ A 0 0 1) {c : Int} : aT A T 0 0 c = if c = 1 then A 0 0 1 + 1 else A 0 0 c := by
  unfold aT
  rw [aup_n (by omega), aup_s, lup_c]
  by_cases e : c = 1
  · rw [if_pos (by omega), if_pos e]
  · rw [if_neg (by omega), if_neg e]
theorem aT_o {A : An} {T : Fn} {j : Int} (h : j ≠ 200 + A 0 0 1) (h0 : j ≠ 0) : aT A T j = A j := by
  unfold aT
  rw [aup_n h, aup_n h0]
theorem aT_t {A : An} {T : Fn} : aT A T (200 + A 0 0 1) = T := aup_s _ _ _
def tgT (s x n : Int) (I : Int → Int) : Int → Int := fun b => if b < s then I b else if b = x then 5000 + n else if b = x + 1 then 6000 + n else 3
theorem RM.addT (h : RM G M Q A D I) (hA : AB A) (hn60 : A 0 0 1 < 60) {x : Int} {T : Fn} (hx : G 4 0 0 ≤ x ∧ x + 1 < G1 4 0 0) (hk : Kp G M G1 M1) (hs : MTa G1 M1 x T) (hadd : ADD G1 M1 (Q + 3) (A 0 0 1) (D 0 3) x G2 M2) : ∃ D1 I1, RM G2 M2 Q (aT A T) D1 I1 ∧ Fq Q G M G2 M2 ∧ D1 4 (A 0 0 1) = x := by
  have hn := hA.n
  have hq := h.q
  have e0 := fun c => aT_0 (A := A) (T := T) (c := c) (by omega)
  have en : ∀ j, j ≠ 0 → j ≠ 200 + A 0 0 1 → aT A T j = A j := fun j hj hj2 => aT_o hj2 hj
  have h1 : RM G M Q A D (tgT (G 4 0 0) x (A 0 0 1) I) := h.tg (fun b hb => if_pos hb)
  have h2 : RM G M Q A (lup D 4 (A 0 0 1) x) _ := h1.dd (fun j _ _ => lup_n (by omega)) (fun i _ _ => lup_n (by omega)) (fun i _ _ => lup_n (by omega)) (fun i _ _ => lup_n (by omega)) (fun i _ _ => lup_n (by omega)) (fun i _ _ => lup_n (by omega))
  have h3 := h2.kp hk
  have ed : lup D 4 (A 0 0 1) x 4 (A 0 0 1) = x := lup_s _ _ _ _
  have ee : lup D 4 (A 0 0 1) x 0 3 = D 0 3 := lup_n (by omega)
  obtain ⟨e9, z1, z2⟩ := h3.ad3 (A1 := aT A T) (fun b hb => by unfold tgT; rw [if_neg (by omega), if_neg (by omega), if_neg (by omega)]) (by rw [ed, ee]; exact hadd) (by rw [ed, aT_t]; exact hs) (by
      rw [ed]
      refine ⟨by omega, ?_, ?_⟩
      · unfold tgT; rw [if_neg (by omega), if_pos rfl]
      · unfold tgT; rw [if_neg (by omega), if_neg (by omega), if_pos rfl]) (by rw [en 10 (by omega) (by omega)]) (by rw [e0, if_neg (by omega)]) (by rw [e0, if_pos rfl]) (by rw [e0, if_neg (by omega)]) (by rw [e0, if_neg (by omega)]) (fun i q1 q2 => by rw [en 10 (by omega) (by omega)]; exact ⟨rfl, rfl⟩) (fun i _ q2 => en _ (by omega) (by omega)) (fun i _ _ => en _ (by omega) (by omega)) (fun i _ _ => en _ (by omega) (by omega))
  exact ⟨_, _, z1, (hk.fq (by omega)).tr z2, by rw [lup_n (by omega)]; exact ed⟩
end RMa
theorem okS {G : Mm} {v : Int} (h1 : v < G 4 0 0) (h2 : G 0 v 0 = 11) : OkO G v := ⟨h1, Or.inl ⟨_, by rw [h2]; exact kc_11, List.mem_of_getElem? (i := 1514) (by decide +kernel)⟩⟩
theorem okL {G : Mm} {v : Int} (h1 : v < G 4 0 0) (h2 : G 0 v 0 = 10) : OkO G v := ⟨h1, Or.inl ⟨_, by rw [h2]; exact kc_10, List.mem_of_getElem? (i := 1515) (by decide +kernel)⟩⟩
theorem okY {G : Mm} {v : Int} (h1 : v < G 4 0 0) (h2 : G 0 v 0 = 106) : OkO G v := ⟨h1, Or.inr h2⟩
