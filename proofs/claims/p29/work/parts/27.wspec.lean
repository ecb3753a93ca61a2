/-! ===== what the writers make of A ===== -/
theorem aup_2 {A : An} {i : Int} {L L' : Fn} : aup (aup A i L) i L' = aup A i L' := by
  funext j
  unfold aup
  by_cases e : j = i
  · rw [if_pos e, if_pos e]
  · rw [if_neg e, if_neg e, if_neg e]
section RCu
variable {G M : Mm} {B : Int} {A : An} {j : Int} {L : Fn}
theorem RC.nU (h : RC G M B (aup A j L)) (hj : j ≠ 0) (s : Int) {f : Int} (hf : f = 146 + s ∧ 0 ≤ s ∧ s < 4) : M 0 f B = A 0 0 s := by
  have q := h.n s hf
  rwa [aup_n (by omega)] at q
theorem RC.faU (h : RC G M B (aup A j L)) (f : Int) (hj : j ≠ 100 + f) (h1 : 0 ≤ f ∧ f < 24) : FR G M (B + 7 + 2 * f) (A (100 + f)) := by
  have q := h.fa f h1
  rwa [aup_n (by omega)] at q
theorem RC.taU (h : RC G M B (aup A j L)) (t : Int) (hj : j ≠ 200 + t) (h1 : 0 ≤ t ∧ t < 60) : TR G M (B + 56 + 2 * t) (A (200 + t)) := by
  have q := h.ta t h1
  rwa [aup_n (by omega)] at q
end RCu
section ABu
variable {A : An}
theorem AB.un (h : AB A) {s x : Int} (hx : (s = 0 → 0 ≤ x ∧ x ≤ 6) ∧ (s = 1 → 0 ≤ x ∧ x ≤ 60) ∧ (s = 2 → 0 ≤ x ∧ x ≤ 4) ∧ (s = 3 → 0 ≤ x ∧ x ≤ 9999)) : AB (aup A 0 (lup (A 0) 0 s x)) := by
  have hn := h.n
  refine ⟨?_, by rw [aup_n (by omega)]; exact h.so, fun f q1 q2 => by rw [aup_n (by omega)]; exact h.fa f ⟨q1, q2⟩, fun t q1 q2 => by rw [aup_n (show 200 + t ≠ 0 by omega)]; exact h.ta t ⟨q1, q2⟩, fun l q1 q2 => by rw [aup_n (by omega)]; exact h.li l ⟨q1, q2⟩⟩
  rw [aup_s]
  simp only [lup_c]
  refine ⟨?_, ?_, ?_, ?_⟩ <;> (repeat' split) <;> omega
theorem AB.uS (h : AB A) {S : Fn} (hS : SB S) : AB (aup A 10 S) :=
  ⟨by rw [aup_n (by omega)]; exact h.n, by rw [aup_s]; exact hS, fun f q1 q2 => by rw [aup_n (by omega)]; exact h.fa f ⟨q1, q2⟩, fun t q1 q2 => by rw [aup_n (show 200 + t ≠ 10 by omega)]; exact h.ta t ⟨q1, q2⟩, fun l q1 q2 => by rw [aup_n (by omega)]; exact h.li l ⟨q1, q2⟩⟩
theorem AB.uF (h : AB A) {F : Fn} (i : Int) (hi : 0 ≤ i ∧ i < 24) (hF : FB F) : AB (aup A (100 + i) F) := by
  refine ⟨by rw [aup_n (by omega)]; exact h.n, by rw [aup_n (by omega)]; exact h.so, fun f q1 q2 => ?_, fun t q1 q2 => by rw [aup_n (show 200 + t ≠ 100 + i by omega)]; exact h.ta t ⟨q1, q2⟩, fun l q1 q2 => by rw [aup_n (by omega)]; exact h.li l ⟨q1, q2⟩⟩
  by_cases e : f = i
  · rw [e, aup_s]; exact hF
  · rw [aup_n (by omega)]; exact h.fa f ⟨q1, q2⟩
theorem AB.uT (h : AB A) {T : Fn} (i : Int) (hi : 0 ≤ i ∧ i < 60) (hT : TB T 0) : AB (aup A (200 + i) T) := by
  refine ⟨by rw [aup_n (by omega)]; exact h.n, by rw [aup_n (by omega)]; exact h.so, fun f q1 q2 => by rw [aup_n (by omega)]; exact h.fa f ⟨q1, q2⟩, fun t q1 q2 => ?_, fun l q1 q2 => by rw [aup_n (by omega)]; exact h.li l ⟨q1, q2⟩⟩
  by_cases e : t = i
  · rw [e, aup_s]; exact hT
  · rw [aup_n (show 200 + t ≠ 200 + i by omega)]; exact h.ta t ⟨q1, q2⟩
theorem AB.uL (h : AB A) {L : Fn} (i : Int) (hi : 0 ≤ i ∧ i < 4) (hL : LB L) : AB (aup A (20 + i) L) := by
  refine ⟨by rw [aup_n (by omega)]; exact h.n, by rw [aup_n (by omega)]; exact h.so, fun f q1 q2 => by rw [aup_n (by omega)]; exact h.fa f ⟨q1, q2⟩, fun t q1 q2 => by rw [aup_n (show 200 + t ≠ 20 + i by omega)]; exact h.ta t ⟨q1, q2⟩, fun l q1 q2 => ?_⟩
  by_cases e : l = i
  · rw [e, aup_s]; exact hL
  · rw [aup_n (by omega)]; exact h.li l ⟨q1, q2⟩
end ABu
def sAdd (S : Fn) (w o : Int) : Fn := lup (lup (lup S 2 0 (S 2 0 + 1)) 0 (S 2 0) w) 1 (S 2 0) (if o = -1 then S 2 0 else S 1 o)
def setl (S F : Fn) : Fn := lup (lup (lup F 1 0 (tru S F)) 1 1 (trf S F)) 1 2 (hrd S F)
def aSrc (A : An) (w o : Int) : An := aup A 10 (sAdd (A 10) w o)
def aSty (A : An) : An := aup A 0 (lup (A 0) 0 0 (A 0 0 0 + 1))
def aLin (A : An) (sp lg : Int) : An := aup (aup A (20 + A 0 0 2) (lup (lup (A (20 + A 0 0 2)) 4 0 sp) 4 1 lg)) 0 (lup (A 0) 0 2 (A 0 0 2 + 1))
def aSay (A : An) (so i v : Int) : An := aup A (100 + i) (setl (A 10) (lup (A (100 + i)) 0 so v))
def aRiv (A : An) (i : Int) : An := aup A (100 + i) (lup (A (100 + i)) 1 3 (A 0 0 3))
def aDwn (A : An) (l m : Int) : An := aup A (20 + l) (lup (A (20 + l)) 4 2 m)
/-- a new take -/
def nT (A : An) (s k set g hd tg : Int) : Fn := rup (lup (lup (lup (lup (lup (lup (lup (lup (A (200 + A 0 0 1)) 1 0 s) 1 1 k) 1 2 set) 1 3 (wdf k (bc set))) 1 5 g) 1 4 hd) 1 6 tg) 1 8 (A 0 0 3)) 0 (fun j => if ins set j then vtf A g (s * 4 + j) else -1)
def aTk (A : An) (s k set g hd tg : Int) : An := aup (aup A 0 (lup (A 0) 0 1 (A 0 0 1 + 1))) (200 + A 0 0 1) (nT A s k set g hd tg)
/-- on lines 0 .. n - 1 -/
def onL (A : An) (n : Int) (f : Fn → Fn) : An := fun j => if 20 ≤ j ∧ j < 20 + n then f (A j) else A j
theorem onL_0 {A : An} {f : Fn → Fn} : onL A 0 f = A := by
  funext j
  unfold onL
  rw [if_neg (by omega)]
theorem onL_1 {A : An} {n : Int} {f : Fn → Fn} (h : 0 ≤ n) : aup (onL A n f) (20 + n) (f (A (20 + n))) = onL A (n + 1) f := by
  funext j
  unfold aup onL
  by_cases e : j = 20 + n
  · rw [if_pos e, if_pos (by omega), e]
  · rw [if_neg e]
    by_cases h2 : 20 ≤ j ∧ j < 20 + n
    · rw [if_pos h2, if_pos (by omega)]
    · rw [if_neg h2, if_neg (by omega)]
theorem onL_n {A : An} {n j : Int} {f : Fn → Fn} (h : j < 20 ∨ 20 + n ≤ j) : onL A n f j = A j := by
  unfold onL
  rw [if_neg (by omega)]
theorem onL_y {A : An} {n j : Int} {f : Fn → Fn} (h : 20 ≤ j ∧ j < 20 + n) : onL A n f j = f (A j) := by
  unfold onL
  rw [if_pos h]
def runF (A : An) (t : Int) : Fn → Fn := fun L => enq L t (A (200 + t) 1 1) (A (200 + t) 1 3) (A (200 + t) 1 4)
def aRun (A : An) (t : Int) : An := onL A (A 0 0 2) (runF A t)
def aFil (A : An) (s k set g hd tg : Int) : An := aRun (aTk A s k set g hd tg) (A 0 0 1)
def aKl0 (A : An) (t : Int) : An := aup (aTk A (A (200 + t) 1 0) 1 0 0 0 t) (200 + t) (lup (A (200 + t)) 1 7 (A 0 0 1))
def klF (A : An) (t n : Int) : Fn → Fn := fun L => if L 0 t = 0 then enq L n (A (200 + n) 1 1) (A (200 + n) 1 3) (A (200 + n) 1 4) else lup L 0 t (-1)
def aKil (A : An) (t : Int) : An := onL (aKl0 A t) (A 0 0 2) (klF (aKl0 A t) t (A 0 0 1))
def nKil (A : An) (t : Int) : Int := fr (fun l c => if A (20 + l) 0 t = 0 then c + 1 else c) 0 (A 0 0 2) 0
/-- a minute of the house -/
def aMin (A : An) : An := onL (aup A 0 (lup (A 0) 0 3 (A 0 0 3 + 1))) (A 0 0 2) (fun L => (rM L (A 0 0 3 + 1)).1)
def nMin (A : An) : Int := fr (fun l c => c + (rM (A (20 + l)) (A 0 0 3 + 1)).2) 0 (A 0 0 2) 0
def aPas (A : An) (m : Int) : An × Int := fr (fun _ s => (aMin s.1, s.2 + nMin s.1)) 0 m (A, 0)
theorem setl_FB {S F : Fn} (hS : SB S) (hF : FB0 F) (h3 : -1 ≤ F 1 3 ∧ F 1 3 ≤ 9999) : FB (setl S F) := by
  have h1 := st_bd0 (z := 1) (lo := -1) hS hF
  have h2 := st_bd0 (z := 0) (lo := -1) hS hF
  have h4 := tF_bd (F := F) (v := tru S F) hS
  unfold setl
  refine ⟨fun j q1 q2 => by rw [lup_n (by omega), lup_n (by omega), lup_n (by omega)]; exact hF j q1 q2, ?_, ?_, ?_, ?_⟩
  · rw [lup_n (by omega), lup_n (by omega), lup_s]; exact h1
  · rw [lup_n (by omega), lup_s]; unfold trf; split <;> omega
  · rw [lup_s]; unfold hrd; split
    · exact h2
    · exact h1
  · rw [lup_n (by omega), lup_n (by omega), lup_n (by omega)]; exact h3
theorem sAdd_SB {S : Fn} (hS : SB S) {w o : Int} (hw : 1 ≤ w ∧ w ≤ 3) (hc : S 2 0 < 10) (ho : o = -1 ∨ (0 ≤ o ∧ o < S 2 0)) : SB (sAdd S w o) := by
  have h0 := hS.c
  have e2 : sAdd S w o 2 0 = S 2 0 + 1 := by
    unfold sAdd
    rw [lup_n (by omega), lup_n (by omega), lup_s]
  refine ⟨by rw [e2]; omega, fun i q1 q2 => ?_⟩
  rw [e2] at q2
  have e0 : sAdd S w o 0 i = if i = S 2 0 then w else S 0 i := by
    unfold sAdd
    rw [lup_n (by omega), lup_c]
    by_cases e : i = S 2 0
    · rw [if_pos (by omega), if_pos e]
    · rw [if_neg (by omega), if_neg e, lup_n (by omega)]
  have e1 : sAdd S w o 1 i = if i = S 2 0 then (if o = -1 then S 2 0 else S 1 o) else S 1 i := by
    unfold sAdd
    rw [lup_c]
    by_cases e : i = S 2 0
    · rw [if_pos (by omega), if_pos e]
    · rw [if_neg (by omega), if_neg e, lup_n (by omega), lup_n (by omega)]
  rw [e0, e1]
  by_cases e : i = S 2 0
  · rw [if_pos e, if_pos e]
    refine ⟨hw, ?_⟩
    by_cases e' : o = -1
    · rw [if_pos e']; omega
    · rw [if_neg e']
      have := hS.r o (by omega) (by omega)
      omega
  · rw [if_neg e, if_neg e]
    exact ⟨hS.w i q1 (by omega), hS.r i q1 (by omega)⟩
theorem wdf_bd {k set : Int} (hk : 0 ≤ k ∧ k ≤ 4) (hset : 0 ≤ set ∧ set < 16) : 0 ≤ wdf k (bc set) ∧ wdf k (bc set) ≤ 200 := by
  have h4 : bc set ≤ 4 := by
    have : ∀ n : Nat, n < 16 → bc (n : Int) ≤ 4 := by decide +kernel
    have := this set.toNat (by omega)
    rwa [Int.toNat_of_nonneg hset.1] at this
  have := bc_bd set
  unfold wdf
  (repeat' split) <;> omega
theorem nT_TB {A : An} {s k set g hd tg : Int} (hA : AB A) (h60 : A 0 0 1 < 60) (hs : 0 ≤ s ∧ s < 6) (hk : 0 ≤ k ∧ k ≤ 4) (hset : 0 ≤ set ∧ set < 16) (hg : g = 0 ∨ g = 1) (hh : 0 ≤ hd ∧ hd ≤ 9999) (ht : -1 ≤ tg ∧ tg < 60) : TB (nT A s k set g hd tg) 0 := by
  have hn := hA.n
  have h7 := (hA.ta (A 0 0 1) (by omega)).s7
  have hw := wdf_bd hk hset
  unfold nT
  refine ⟨fun f q1 q2 => ?_, ?_⟩
  · rw [rup_s]
    have := hA.fa (s * 4 + f) (by omega)
    have a := this.s0
    have b := this.s2
    by_cases hi : ins set f
    · rw [if_pos hi]; unfold vtf; split <;> omega
    · rw [if_neg hi]; omega
  · simp only [rup_n (show (1 : Int) ≠ 0 by omega), lup_c]
    simp
    omega
theorem AB.run {A : An} (h : AB A) {n : Int} (hz : 0 ≤ n ∧ n ≤ 4) {f : Fn → Fn} (hf : ∀ L, LB L → LB (f L)) : AB (onL A n f) := by
  refine ⟨by rw [onL_n (by omega)]; exact h.n, by rw [onL_n (by omega)]; exact h.so, fun i q1 q2 => ?_, fun t q1 q2 => ?_, fun l q1 q2 => ?_⟩
  · rw [onL_n (by omega)]; exact h.fa i ⟨q1, q2⟩
  · rw [onL_n (show 200 + t < 20 ∨ 20 + n ≤ 200 + t by omega)]; exact h.ta t ⟨q1, q2⟩
  · by_cases e : l < n
    · rw [onL_y (by omega)]; exact hf _ (h.li l ⟨q1, q2⟩)
    · rw [onL_n (by omega)]; exact h.li l ⟨q1, q2⟩
theorem AB.tk {A : An} {s k set g hd tg : Int} (hA : AB A) (h60 : A 0 0 1 < 60) (hs : 0 ≤ s ∧ s < 6) (hk : 0 ≤ k ∧ k ≤ 4) (hset : 0 ≤ set ∧ set < 16) (hg : g = 0 ∨ g = 1) (hh : 0 ≤ hd ∧ hd ≤ 9999) (ht : -1 ≤ tg ∧ tg < 60) : AB (aTk A s k set g hd tg) := by
  have hn := hA.n
  exact (hA.un (by omega)).uT _ (by omega) (nT_TB hA h60 hs hk hset hg hh ht)
