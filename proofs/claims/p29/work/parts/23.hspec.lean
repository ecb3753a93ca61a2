/-! ===== what the house answers, in numbers ===== -/
/-- the desk of line l has take t -/
abbrev hs (A : An) (l t : Int) : Prop := A (20 + l) 0 t = 0 ∧ A (20 + l) 3 t + A (20 + l) 4 1 ≤ A 0 0 3
def fhS (A : An) (t : Int) : Int → Int → Int := fun l first => if hs A l t ∧ (first = -1 ∨ A (20 + l) 3 t + A (20 + l) 4 1 < first) then A (20 + l) 3 t + A (20 + l) 4 1 else first
def fhT (A : An) (t : Int) : Int := fr (fhS A t) 0 (A 0 0 2) (-1)
abbrev wth (A : An) (s f t : Int) : Prop := A (200 + t) 1 0 = s ∧ ¬ A (200 + t) 0 f = -1
def fhF (A : An) (s f : Int) : Int → Int → Int := fun t first => if wth A s f t ∧ ¬ fhT A t = -1 ∧ (first = -1 ∨ fhT A t < first) then fhT A t else first
def fh (A : An) (s f : Int) : Int := fr (fhF A s f) 0 (A 0 0 1) (-1)
abbrev isF (A : An) (s f : Int) : Prop := ¬ fh A s f = -1 ∧ (A (100 + (s * 4 + f)) 1 3 = -1 ∨ fh A s f < A (100 + (s * 4 + f)) 1 3)
def cTr (A : An) : Int := fr (fun i c => if ¬ A (100 + i) 1 0 = -1 then c + 1 else c) 0 (A 0 0 0 * 4) 0
def cUn (A : An) : Int := fr (fun i c => if A (100 + i) 1 0 = -1 ∧ ¬ A (100 + i) 1 2 = -1 then c + 1 else c) 0 (A 0 0 0 * 4) 0
def cFi (A : An) : Int := fr (fun s c => fr (fun f c => if isF A s f then c + 1 else c) 0 4 c) 0 (A 0 0 0) 0
def cKi (A : An) : Int := fr (fun t c => if ¬ A (200 + t) 1 7 = -1 then c + 1 else c) 0 (A 0 0 1) 0
def cCo (A : An) : Int := fr (fun t c => if A (200 + t) 1 1 = 2 then c + 1 else c) 0 (A 0 0 1) 0
/-- what a fact gives to file: 0 its truth, 1 what is heard -/
abbrev vtf (A : An) (z i : Int) : Int := if z = 0 then A (100 + i) 1 0 else A (100 + i) 1 2
def hv (A : An) (s set z : Int) : Int := fnd (fun f => ins set f ∧ vtf A z (s * 4 + f) = -1) 0 4
def fo (A : An) (s set : Int) : Int := fr (fun f c => if ins set f then c + A (100 + (s * 4 + f)) 1 1 else c) 0 4 0
def wdf (k n : Int) : Int := if k = 0 then 8 else if k = 1 then 5 else if k = 2 then 15 else if k = 3 then 20 + 15 * n else 60 + 30 * n
abbrev dr (A : An) (l t : Int) : Prop := ¬ A (200 + t) 1 7 = -1 ∧ hs A l (A (200 + t) 1 7)
abbrev tp (A : An) (l s f t : Int) : Prop := wth A s f t ∧ hs A l t ∧ ¬ dr A l t
def tlI (A : An) (l s f : Int) : Int := fnd (fun j => tp A l s f (A 0 0 1 - 1 - j)) 0 (A 0 0 1)
def tld (A : An) (l s f : Int) : Int := if tlI A l s f < A 0 0 1 then A (200 + (A 0 0 1 - 1 - tlI A l s f)) 0 f else -1
def cTo (A : An) (l : Int) : Int := fr (fun s c => fr (fun f c => if ¬ tld A l s f = -1 then c + 1 else c) 0 4 c) 0 (A 0 0 0) 0
abbrev wrg (A : An) (l s f : Int) : Prop := ¬ tld A l s f = -1 ∧ ¬ A (100 + (s * 4 + f)) 1 0 = -1 ∧ ¬ tld A l s f = A (100 + (s * 4 + f)) 1 0
def cWr (A : An) (l : Int) : Int := fr (fun s c => fr (fun f c => if wrg A l s f then c + 1 else c) 0 4 c) 0 (A 0 0 0) 0
def cWA (A : An) : Int := fr (fun l c => c + cWr A l) 0 (A 0 0 2) 0
theorem fhT_bd {A : An} {t : Int} (hA : AB A) (ht : 0 ≤ t ∧ t < 60) : -1 ≤ fhT A t ∧ fhT A t ≤ 9999 := by
  have hn := hA.n
  refine fr_inv (σ := Int) (f := fhS A t) (hi := A 0 0 2) (P := fun i c => -1 ≤ c ∧ c ≤ 9999) (lo := 0) (s := -1) (by omega) (by omega) ?_
  intro l c h1 h2 hp
  have hL := hA.li l ⟨h1, by omega⟩
  have h3 := hL.1 t ht.1 (by omega)
  have h4 := hL.2.2.1
  unfold fhS
  split
  · next h => have := h.1.2; omega
  · exact hp
theorem fh_bd {A : An} {s f : Int} (hA : AB A) : -1 ≤ fh A s f ∧ fh A s f ≤ 9999 := by
  have hn := hA.n
  refine fr_inv (σ := Int) (f := fhF A s f) (hi := A 0 0 1) (P := fun i c => -1 ≤ c ∧ c ≤ 9999) (lo := 0) (s := -1) (by omega) (by omega) ?_
  intro t c h1 h2 hp
  have := fhT_bd (t := t) hA ⟨h1, by omega⟩
  unfold fhF
  split
  · omega
  · exact hp
theorem tld_bd {A : An} {l s f : Int} (hA : AB A) (hf : 0 ≤ f ∧ f < 4) : -1 ≤ tld A l s f ∧ tld A l s f ≤ 99 := by
  have hn := hA.n
  have hq := fnd_spec (p := fun j => tp A l s f (A 0 0 1 - 1 - j)) (lo := 0) (hi := A 0 0 1) (by omega)
  unfold tld
  split
  · exact (hA.ta _ (by unfold tlI at *; omega)).v0 f hf.1 hf.2
  · omega
/-! ===== the asked ===== -/
def oFa (A : An) (s f w : Int) : Int := if w = 0 then A (100 + (s * 4 + f)) 1 0 else if w = 1 then A (100 + (s * 4 + f)) 1 2 else if w = 2 then cSay (A (100 + (s * 4 + f))) else if w = 3 then cVal (A (100 + (s * 4 + f))) else if w = 4 then A (100 + (s * 4 + f)) 1 3 else if w = 5 then fh A s f else bI (isF A s f)
def oTa (A : An) (t w : Int) : Int := if w = 0 then A (200 + t) 1 0 else if w = 1 then A (200 + t) 1 1 else if w = 2 then A (200 + t) 1 2 else if w = 3 then A (200 + t) 1 3 else if w = 4 then A (200 + t) 1 4 else if w = 5 then (if A (200 + t) 1 5 = 0 then 0 else 1) else if w = 6 then (if A (200 + t) 1 7 = -1 then 0 else 1) else if w = 7 then A (200 + t) 1 6 else A (200 + t) 1 8
def stt (A : An) (l t : Int) : Int := if A (20 + l) 0 t = -1 then 0 else if ¬ A (20 + l) 0 t = 0 then (if A (20 + l) 0 t = A (200 + t) 1 3 then 1 else 2) else if ¬ hs A l t then 3 else if dr A l t then 5 else 4
def oLi (A : An) (l w : Int) : Int := if w = 0 then A (20 + l) 4 0 else if w = 1 then A (20 + l) 4 1 else if w = 2 then A (20 + l) 4 2 else if w = 3 then cW (A (20 + l)) else if w = 4 then cL (A (20 + l)) else if w = 5 then A (20 + l) 4 3 else if w = 6 then cTo A l else cWr A l
def mny (A : An) (w : Int) : Int := if w = 0 then A 0 0 3 else if w = 1 then A 10 2 0 else if w = 2 then A 0 0 0 else if w = 3 then A 0 0 2 else if w = 4 then A 0 0 1 else if w = 5 then cKi A else if w = 6 then cCo A else if w = 7 then cTr A else if w = 8 then cUn A else if w = 9 then cFi A else cWA A
abbrev grd (o n r : Int) : Int := if 0 < o then 3 else if 2 ≤ n then 2 else if 3 ≤ r then 1 else 0
/-- value v is the truth with k new ones of weight w -/
abbrev neP (S F : Fn) (v w k : Int) : Prop := ((if stC S F 1 v = -1 then 0 else tF S F (stC S F 1 v)) < tF S F v + w * k ∨ (tF S F v + w * k = (if stC S F 1 v = -1 then 0 else tF S F (stC S F 1 v)) ∧ v < stC S F 1 v)) ∧ 0 < grd (tO S F v + (if w = 3 then k else 0)) (tN S F v + (if w = 2 then k else 0)) (tR S F v + k)
def nee (S F : Fn) (v w : Int) : Int := if fnd (neP S F v w) 0 11 < 11 then fnd (neP S F v w) 0 11 else -1
def leS (A : An) (s wd : Int) : Int → Int × Int → Int × Int := fun set b => if hv A s set 0 = 4 ∧ wdf 3 (bc set) ≤ wd ∧ b.2 < fo A s set then (set, fo A s set) else b
def lea (A : An) (s wd : Int) : Int := (fr (leS A s wd) 1 16 (0, 0)).1
def arr (A : An) (l t : Int) : Int := if A (20 + l) 0 t = -1 then -1 else if A (20 + l) 0 t = 0 then max 0 (A (20 + l) 3 t + A (20 + l) 4 1 - A 0 0 3) else rU (A (20 + l)) t (A 0 0 3)
def wou (A : An) (l k w : Int) : Int := rU (enq (A (20 + l)) (A 0 0 1) k w 0) (A 0 0 1) (A 0 0 3)
theorem fo_bd {A : An} {s set : Int} (hA : AB A) (hs : 0 ≤ s ∧ s < 6) : 0 ≤ fo A s set ∧ fo A s set ≤ 120 := by
  have : 0 ≤ fo A s set ∧ fo A s set ≤ 30 * 4 := by
    refine fr_inv (σ := Int) (f := fun f c => if ins set f then c + A (100 + (s * 4 + f)) 1 1 else c) (hi := 4) (P := fun i c => 0 ≤ c ∧ c ≤ 30 * i) (lo := 0) (s := 0) (by omega) (by omega) ?_
    intro f c h1 h2 hp
    have := (hA.fa (s * 4 + f) (by omega)).s1
    split <;> omega
  omega
theorem hv_bd {A : An} {s set z : Int} : 0 ≤ hv A s set z ∧ hv A s set z ≤ 4 := by
  have := fnd_spec (p := fun f => ins set f ∧ vtf A z (s * 4 + f) = -1) (lo := 0) (hi := 4) (by omega)
  unfold hv; omega
