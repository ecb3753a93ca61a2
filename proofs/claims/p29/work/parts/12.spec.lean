/-! ===== a line in numbers ===== -/
/-- the most urgent take: n takes, left, hold, kind -/
def mUs (lf hd kd : Int → Int) (minute : Int) : Int → Int → Int := fun t b => if (0 < lf t ∧ hd t ≤ minute) ∧ (b = -1 ∨ kd t < kd b) then t else b
def mU (L : Fn) (minute : Int) : Int := fr (mUs (L 0) (L 2) (L 1) minute) 0 (L 4 4) (-1)
theorem mUs_spec (lf hd kd : Int → Int) (minute n : Int) (h : 0 ≤ n) : let b := fr (mUs lf hd kd minute) 0 n (-1); (b = -1 ∨ (0 ≤ b ∧ b < n ∧ 0 < lf b ∧ hd b ≤ minute)) := by
  refine fr_inv (hi := n) (P := fun i b => b = -1 ∨ (0 ≤ b ∧ b < i ∧ 0 < lf b ∧ hd b ≤ minute)) h (Or.inl rfl) ?_
  intro i b h1 h2 hp
  show (mUs lf hd kd minute i b = -1 ∨ _)
  unfold mUs
  split
  · next hc => exact Or.inr ⟨h1, by omega, hc.1.1, hc.1.2⟩
  · rcases hp with h | ⟨q1, q2, q3, q4⟩
    · exact Or.inl h
    · exact Or.inr ⟨q1, by omega, q3, q4⟩
theorem mU_spec {L : Fn} {minute : Int} (h : 0 ≤ L 4 4) : mU L minute = -1 ∨ (0 ≤ mU L minute ∧ mU L minute < L 4 4 ∧ 0 < L 0 (mU L minute) ∧ L 2 (mU L minute) ≤ minute) :=
  mUs_spec (L 0) (L 2) (L 1) minute (L 4 4) h
/-- one take's words go: at most w -/
def sn (L : Fn) (minute t g : Int) : Fn := if L 0 t - g = 0 then lup (lup (lup L 0 t (L 0 t - g)) 4 3 (L 4 3 + g)) 3 t minute else lup (lup L 0 t (L 0 t - g)) 4 3 (L 4 3 + g)
/-- at most n steps with w words: the line behind it, and how many were sent -/
def rS (mu : Fn → Int) (minute : Int) : Nat → Fn → Int → Int → Fn × Int
  | 0, L, _, s => (L, s)
  | n + 1, L, w, s => if w ≤ 0 then (L, s) else if mu L = -1 then (L, s) else rS mu minute n (sn L minute (mu L) (min w (L 0 (mu L)))) (w - min w (L 0 (mu L))) (if L 0 (mu L) - min w (L 0 (mu L)) = 0 then s + 1 else s)
/-- a minute of a line -/
def rM (L : Fn) (minute : Int) : Fn × Int := if 0 < L 4 2 then (lup L 4 2 (L 4 2 - 1), 0) else rS (fun L => mU L minute) minute (L 4 0).toNat L (L 4 0) 0
/-- takes that wait, their words -/
def cW (L : Fn) : Int := fr (fun t c => if 0 < L 0 t then c + 1 else c) 0 (L 4 4) 0
def cL (L : Fn) : Int := fr (fun t c => if 0 < L 0 t then c + L 0 t else c) 0 (L 4 4) 0
/-- the line behind i minutes from start on -/
def rI (L : Fn) (start : Int) : Int → Fn := fun i => fr (fun j L => (rM L (start + j)).1) 1 (i + 1) L
theorem rS_0 {mu : Fn → Int} {m w s : Int} {L : Fn} {n : Nat} (h : n = 0 ∨ w ≤ 0 ∨ mu L = -1) : rS mu m n L w s = (L, s) := by
  cases n with
  | zero => rfl
  | succ n =>
    unfold rS
    by_cases hw : w ≤ 0
    · rw [if_pos hw]
    · rw [if_neg hw, if_pos (by omega)]
theorem rS_go {mu : Fn → Int} {m w s : Int} {L : Fn} {n n' : Nat} {R : Fn × Int} (hn : n = n' + 1) (hw : 0 < w) (hm : mu L ≠ -1) (h : rS mu m n L w s = R) : rS mu m n' (sn L m (mu L) (min w (L 0 (mu L)))) (w - min w (L 0 (mu L))) (if L 0 (mu L) - min w (L 0 (mu L)) = 0 then s + 1 else s) = R := by
  subst hn
  rw [← h]
  have hw' : ¬ w ≤ 0 := by omega
  have e : rS mu m (n' + 1) L w s = if w ≤ 0 then (L, s) else if mu L = -1 then (L, s) else rS mu m n' (sn L m (mu L) (min w (L 0 (mu L)))) (w - min w (L 0 (mu L))) (if L 0 (mu L) - min w (L 0 (mu L)) = 0 then s + 1 else s) := rfl
  rw [e, if_neg hw', if_neg hm]
theorem LB.u0 {L : Fn} (h : LB L) {t x : Int} (hx : -1 ≤ x ∧ x ≤ 200) : LB (lup L 0 t x) := by
  refine ⟨fun t' q1 q2 => ?_, ?_⟩
  · have := h.1 t' q1 q2
    simp only [lup_c]
    refine ⟨?_, ?_, ?_, ?_⟩ <;> repeat' split
    all_goals omega
  · have := h.2
    simp only [lup_c]
    repeat' split
    all_goals omega
theorem LB.u1 {L : Fn} (h : LB L) {t x : Int} (hx : 0 ≤ x ∧ x ≤ 4) : LB (lup L 1 t x) := by
  refine ⟨fun t' q1 q2 => ?_, ?_⟩
  · have := h.1 t' q1 q2
    simp only [lup_c]
    refine ⟨?_, ?_, ?_, ?_⟩ <;> repeat' split
    all_goals omega
  · have := h.2
    simp only [lup_c]
    repeat' split
    all_goals omega
theorem LB.u2 {L : Fn} (h : LB L) {t x : Int} (hx : 0 ≤ x ∧ x ≤ 9999) : LB (lup L 2 t x) := by
  refine ⟨fun t' q1 q2 => ?_, ?_⟩
  · have := h.1 t' q1 q2
    simp only [lup_c]
    refine ⟨?_, ?_, ?_, ?_⟩ <;> repeat' split
    all_goals omega
  · have := h.2
    simp only [lup_c]
    repeat' split
    all_goals omega
theorem LB.u3 {L : Fn} (h : LB L) {t x : Int} (hx : -1 ≤ x ∧ x ≤ 20000) : LB (lup L 3 t x) := by
  refine ⟨fun t' q1 q2 => ?_, ?_⟩
  · have := h.1 t' q1 q2
    simp only [lup_c]
    refine ⟨?_, ?_, ?_, ?_⟩ <;> repeat' split
    all_goals omega
  · have := h.2
    simp only [lup_c]
    repeat' split
    all_goals omega
theorem LB.u4 {L : Fn} (h : LB L) {s x : Int} (hx : (s = 0 → 0 ≤ x ∧ x ≤ 60) ∧ (s = 1 → 0 ≤ x ∧ x ≤ 9) ∧ (s = 2 → 0 ≤ x ∧ x ≤ 99) ∧ (s = 4 → 0 ≤ x ∧ x ≤ 61)) : LB (lup L 4 s x) := by
  refine ⟨fun t' q1 q2 => ?_, ?_⟩
  · have := h.1 t' q1 q2
    simp only [lup_c]
    refine ⟨?_, ?_, ?_, ?_⟩ <;> repeat' split
    all_goals omega
  · have := h.2
    simp only [lup_c]
    refine ⟨?_, ?_, ?_, ?_⟩ <;> repeat' split
    all_goals omega
theorem sn_LB {L : Fn} {m t g : Int} (h : LB L) (ht : 0 ≤ t ∧ t < 61) (hg : 0 ≤ g ∧ g ≤ L 0 t) (hm : 0 ≤ m ∧ m ≤ 20000) : LB (sn L m t g) := by
  have h1 := (h.1 t ht.1 ht.2).1
  have key : LB (lup (lup L 0 t (L 0 t - g)) 4 3 (L 4 3 + g)) := (h.u0 (by omega)).u4 (by omega)
  unfold sn
  split
  · exact key.u3 (by omega)
  · exact key
theorem sn_4 {L : Fn} {m t g s : Int} (h : s ≠ 3) : sn L m t g 4 s = L 4 s := by
  unfold sn
  split
  · rw [lup_n (by omega), lup_n (by omega), lup_n (by omega)]
  · rw [lup_n (by omega), lup_n (by omega)]
theorem rI_0 {L : Fn} {st : Int} : rI L st 0 = L := fr_end (by omega)
theorem rI_1 {L : Fn} {st i : Int} (h : 0 < i) : rI L st i = (rM (rI L st (i - 1)) (st + i)).1 := by
  unfold rI
  rw [fr_last (by omega)]
  rw [show i - 1 + 1 = i by omega]
/-- a take comes to a line -/
def enq (L : Fn) (t kd wd hd : Int) : Fn := lup (lup (lup (lup L 0 t wd) 1 t kd) 2 t hd) 4 4 (t + 1)
/-- in how many minutes a take is at the desk, or -1 -/
def rU (L : Fn) (t u : Int) : Int := if fnd (fun i => rI L u i 0 t = 0) 1 (100 - L 4 1) < 100 - L 4 1 then fnd (fun i => rI L u i 0 t = 0) 1 (100 - L 4 1) + L 4 1 else -1
theorem rS_4 {mu : Fn → Int} {m s : Int} (hs : s ≠ 3) : ∀ (n : Nat) (L : Fn) (w c : Int), (rS mu m n L w c).1 4 s = L 4 s := by
  intro n
  induction n with
  | zero => intro L w c; rfl
  | succ n ih =>
    intro L w c
    unfold rS
    split
    · rfl
    · split
      · rfl
      · rw [ih, sn_4 hs]
theorem rM_41 {L : Fn} {m : Int} : (rM L m).1 4 1 = L 4 1 := by
  unfold rM
  split
  · show lup L 4 2 (L 4 2 - 1) 4 1 = L 4 1
    exact lup_n (by omega)
  · exact rS_4 (by omega) _ _ _ _
theorem enq_LB {L : Fn} {t kd wd hd : Int} (h : LB L) (h1 : 0 ≤ kd ∧ kd ≤ 4) (h2 : 0 ≤ wd ∧ wd ≤ 200) (h3 : 0 ≤ hd ∧ hd ≤ 9999) (h4 : 0 ≤ t ∧ t ≤ 60) : LB (enq L t kd wd hd) :=
  (((h.u0 (by omega)).u1 h1).u2 h3).u4 (by omega)
