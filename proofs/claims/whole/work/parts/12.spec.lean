/-! ===== a line in numbers ===== -/
/-- the most urgent take: n takes, left, hold, kind -/
def mUs (lf hd kd : Int → Int) (minute : Int) : Int → Int → Int := fun t b => if (0 < lf t ∧ hd t ≤ minute) ∧ (b = -1 ∨ kd t < kd b) then t else b
def mU (L : Fn) (minute : Int) : Int := fr (mUs (L 0) (L 2) (L 1) minute) 0 (L 4 4) (-1)
theorem mUs_spec (lf hd kd : Int → Int) (minute n : Int) (h : 0 ≤ n) : let b := fr (mUs lf hd kd minute) 0 n (-1); (b = -1 ∨ (0 ≤ b ∧ b < n ∧ 0 < lf b ∧ hd b ≤ minute)) := by
  refine fr_inv (hi := n) (P := fun i b => b = -1 ∨ (0 ≤ b ∧ b < i ∧ 0 < lf b ∧ hd b ≤ minute)) h (Or.inl rfl) ?_
  intro i b h1 h2 hp
  show (mUs lf hd kd minute i b = -1 ∨ _)
  unfold mUs
  split
  · next hc => exact Or.inr ⟨h1, by omega, hc.1.1, hc.1.2⟩
  · rcases hp with h | ⟨q1, q2, q3, q4⟩
    · exact Or.inl h
    · exact Or.inr ⟨q1, by omega, q3, q4⟩
theorem mU_spec {L : Fn} {minute : Int} (h : 0 ≤ L 4 4) : mU L minute = -1 ∨ (0 ≤ mU L minute ∧ mU L minute < L 4 4 ∧ 0 < L 0 (mU L minute) ∧ L 2 (mU L minute) ≤ minute) :=
  mUs_spec (L 0) (L 2) (L 1) minute (L 4 4) h
/-- one take's words go: at most w -/
def sn (L : Fn) (minute t g : Int) : Fn := if L 0 t - g = 0 then lup (lup (lup L 0 t (L 0 t - g)) 4 3 (L 4 3 + g)) 3 t minute else lup (lup L 0 t (L 0 t - g)) 4 3 (L 4 3 + g)
/-- at most n steps with w words: the line behind it, and how many were sent -/
def rS (mu : Fn → Int) (minute : Int) : Nat → Fn → Int → Int → Fn × Int
  | 0, L, _, s => (L, s)
  | n + 1, L, w, s => if w ≤ 0 then (L, s) else if mu L = -1 then (L, s) else rS mu minute n (sn L minute (mu L) (min w (L 0 (mu L)))) (w - min w (L 0 (mu L))) (if L 0 (mu L) - min w (L 0 (mu L)) = 0 then s + 1 else s)
/-- a minute of a line -/
def rM (L : Fn) (minute : Int) : Fn × Int := if 0 < L 4 2 then (lup L 4 2 (L 4 2 - 1), 0) else rS (fun L => mU L minute) minute (L 4 0).toNat L (L 4 0) 0
/-- takes that wait, their words -/
def cW (L : Fn) : Int := fr (fun t c => if 0 < L 0 t then c + 1 else c) 0 (L 4 4) 0
def cL (L : Fn) : Int := fr (fun t c => if 0 < L 0 t then c + L 0 t else c) 0 (L 4 4) 0
/-- the line behind i minutes from start on -/
def rI (L : Fn) (start : Int) : Int → Fn := fun i => fr (fun j L => (rM L (start + j)).1) 1 (i + 1) L
