/-! ===== sources and facts in numbers: S 0 weight, S 1 root, S 2 0 count; F 0 said, F 1 truth, its force, heard, rival ===== -/
def SB (S : Fn) : Prop := (0 ≤ S 2 0 ∧ S 2 0 ≤ 10) ∧ ∀ i, 0 ≤ i → i < S 2 0 → (1 ≤ S 0 i ∧ S 0 i ≤ 3) ∧ (0 ≤ S 1 i ∧ S 1 i ≤ i)
def FB (F : Fn) : Prop := (∀ j, 0 ≤ j → j < 10 → -1 ≤ F 0 j ∧ F 0 j ≤ 99) ∧ (-1 ≤ F 1 0 ∧ F 1 0 ≤ 99) ∧ (0 ≤ F 1 1 ∧ F 1 1 ≤ 30) ∧ (-1 ≤ F 1 2 ∧ F 1 2 ≤ 99) ∧ (-1 ≤ F 1 3 ∧ F 1 3 ≤ 9999)
/-- what a source says is -1 .. 99 -/
def FB0 (F : Fn) : Prop := ∀ j, 0 ≤ j → j < 10 → -1 ≤ F 0 j ∧ F 0 j ≤ 99
theorem FB0.v0 {F : Fn} (h : FB0 F) (j : Int) (h1 : 0 ≤ j) (h2 : j < 10) : -1 ≤ F 0 j ∧ F 0 j ≤ 99 := h j h1 h2
theorem FB.f0 {F : Fn} (h : FB F) : FB0 F := h.1
theorem SB.c {S : Fn} (h : SB S) : 0 ≤ S 2 0 ∧ S 2 0 ≤ 10 := h.1
theorem SB.w {S : Fn} (h : SB S) (i : Int) (h1 : 0 ≤ i) (h2 : i < S 2 0) : 1 ≤ S 0 i ∧ S 0 i ≤ 3 := (h.2 i h1 h2).1
theorem SB.r {S : Fn} (h : SB S) (i : Int) (h1 : 0 ≤ i) (h2 : i < S 2 0) : 0 ≤ S 1 i ∧ S 1 i ≤ i := (h.2 i h1 h2).2
theorem FB.v0 {F : Fn} (h : FB F) (j : Int) (h1 : 0 ≤ j) (h2 : j < 10) : -1 ≤ F 0 j ∧ F 0 j ≤ 99 := h.1 j h1 h2
theorem FB.s0 {F : Fn} (h : FB F) : -1 ≤ F 1 0 ∧ F 1 0 ≤ 99 := h.2.1
theorem FB.s1 {F : Fn} (h : FB F) : 0 ≤ F 1 1 ∧ F 1 1 ≤ 30 := h.2.2.1
theorem FB.s2 {F : Fn} (h : FB F) : -1 ≤ F 1 2 ∧ F 1 2 ≤ 99 := h.2.2.2.1
theorem FB.s3 {F : Fn} (h : FB F) : -1 ≤ F 1 3 ∧ F 1 3 ≤ 9999 := h.2.2.2.2
def wgS (S F : Fn) (v : Int) : Int → (Int → Int) → (Int → Int) := fun s f => if F 0 s = v then (fun r => if r = S 1 s then max (f (S 1 s)) (S 0 s) else f r) else f
/-- the greatest weight of a root's sources that say v, or 0 -/
def sR (S F : Fn) (v : Int) : Int → Int := fr (wgS S F v) 0 (S 2 0) (fun _ => 0)
def tR (S F : Fn) (v : Int) : Int := fr (fun r c => if 0 < sR S F v r then c + 1 else c) 0 (S 2 0) 0
def tN (S F : Fn) (v : Int) : Int := fr (fun r c => if sR S F v r = 2 then c + 1 else c) 0 (S 2 0) 0
def tO (S F : Fn) (v : Int) : Int := fr (fun r c => if sR S F v r = 3 then c + 1 else c) 0 (S 2 0) 0
/-- FORCE -/
def tF (S F : Fn) (v : Int) : Int := fr (fun r c => if 0 < sR S F v r then c + sR S F v r else c) 0 (S 2 0) 0
/-- PROOF -/
def pG (S F : Fn) (v : Int) : Int := if 0 < tO S F v then 3 else if 2 ≤ tN S F v then 2 else if 3 ≤ tR S F v then 1 else 0
/-- by the sources: (best, its force) -/
def stS (S F : Fn) (z lo : Int) : Int → Int × Int → Int × Int := fun s b => if ¬ F 0 s = -1 ∧ ¬ F 0 s = lo ∧ (b.2 < tF S F (F 0 s) ∨ (tF S F (F 0 s) = b.2 ∧ F 0 s < b.1)) ∧ (z = 0 ∨ 0 < pG S F (F 0 s)) then (F 0 s, tF S F (F 0 s)) else b
def stC (S F : Fn) (z lo : Int) : Int := (fr (stS S F z lo) 0 (S 2 0) (-1, 0)).1
def tru (S F : Fn) : Int := stC S F 1 (-1)
def trf (S F : Fn) : Int := if tru S F = -1 then 0 else tF S F (tru S F)
def hrd (S F : Fn) : Int := if tru S F = -1 then stC S F 0 (-1) else tru S F
def cSay (F : Fn) : Int := fr (fun s c => if ¬ F 0 s = -1 then c + 1 else c) 0 10 0
def cVal (F : Fn) : Int := fr (fun s c => if ¬ F 0 s = -1 ∧ ¬ fnd (fun j => F 0 j = F 0 s) 0 s < s then c + 1 else c) 0 10 0
theorem sR_bd {S F : Fn} {v : Int} (h : SB S) : ∀ r, 0 ≤ sR S F v r ∧ sR S F v r ≤ 3 := by
  refine fr_inv (σ := Int → Int) (f := wgS S F v) (hi := S 2 0) (P := fun _ f => ∀ r, 0 ≤ f r ∧ f r ≤ 3) (lo := 0) (s := fun _ => 0) h.1.1 (fun r => by omega) ?_
  intro i f h1 h2 hp r
  have := h.w i h1 h2
  unfold wgS
  split
  · dsimp only
    split
    · have := hp (S 1 i); omega
    · exact hp r
  · exact hp r
theorem cnt_bd {p : Int → Prop} [DecidablePred p] {n : Int} (h : 0 ≤ n) : 0 ≤ fr (fun r (c : Int) => if p r then c + 1 else c) 0 n 0 ∧ fr (fun r (c : Int) => if p r then c + 1 else c) 0 n 0 ≤ n := by
  refine fr_inv (σ := Int) (f := fun r (c : Int) => if p r then c + 1 else c) (hi := n) (P := fun i c => 0 ≤ c ∧ c ≤ i) (lo := 0) (s := 0) h (by omega) ?_
  intro i c h1 h2 hp
  try dsimp only
  split <;> omega
theorem tF_bd {S F : Fn} {v : Int} (h : SB S) : 0 ≤ tF S F v ∧ tF S F v ≤ 30 := by
  have h10 := h.c
  have : 0 ≤ tF S F v ∧ tF S F v ≤ 3 * S 2 0 := by
    refine fr_inv (σ := Int) (f := fun r c => if 0 < sR S F v r then c + sR S F v r else c) (hi := S 2 0) (P := fun i c => 0 ≤ c ∧ c ≤ 3 * i) (lo := 0) (s := 0) h.1.1 (by omega) ?_
    intro i c h1 h2 hp
    have := sR_bd (F := F) (v := v) h i
    try dsimp only
    split <;> omega
  omega
theorem t_bd {S F : Fn} {v : Int} (h : SB S) : (0 ≤ tR S F v ∧ tR S F v ≤ 10) ∧ (0 ≤ tN S F v ∧ tN S F v ≤ 10) ∧ (0 ≤ tO S F v ∧ tO S F v ≤ 10) ∧ (0 ≤ tF S F v ∧ tF S F v ≤ 30) := by
  have h10 := h.c
  have a := cnt_bd (p := fun r => 0 < sR S F v r) h.1.1
  have b := cnt_bd (p := fun r => sR S F v r = 2) h.1.1
  have c := cnt_bd (p := fun r => sR S F v r = 3) h.1.1
  refine ⟨?_, ?_, ?_, tF_bd h⟩
  · unfold tR; omega
  · unfold tN; omega
  · unfold tO; omega
theorem pG_bd {S F : Fn} {v : Int} : 0 ≤ pG S F v ∧ pG S F v ≤ 3 := by
  unfold pG
  repeat' split
  all_goals omega
theorem st_bd0 {S F : Fn} {z lo : Int} (h : SB S) (hF : FB0 F) : (-1 ≤ stC S F z lo ∧ stC S F z lo ≤ 99) := by
  have h10 := h.c
  refine fr_inv (σ := Int × Int) (f := stS S F z lo) (hi := S 2 0) (P := fun i b => -1 ≤ b.1 ∧ b.1 ≤ 99) (lo := 0) (s := (-1, 0)) h.1.1 (by dsimp only; omega) ?_
  intro i b h1 h2 hp
  have := hF.v0 i h1 (by omega)
  unfold stS
  split
  · exact this
  · exact hp
theorem st_bd {S F : Fn} {z lo : Int} (h : SB S) (hF : FB F) : (-1 ≤ stC S F z lo ∧ stC S F z lo ≤ 99) := st_bd0 h hF.f0
theorem sR_up {S F F' : Fn} {v : Int} (h : ∀ t, F' 0 t = F 0 t) : sR S F' v = sR S F v := by
  unfold sR
  exact fr_congr fun i s _ _ => by unfold wgS; rw [h]
theorem tF_up {S F F' : Fn} {v : Int} (h : ∀ t, F' 0 t = F 0 t) : tF S F' v = tF S F v := by
  unfold tF; rw [sR_up h]
theorem pG_up {S F F' : Fn} {v : Int} (h : ∀ t, F' 0 t = F 0 t) : pG S F' v = pG S F v := by
  unfold pG tO tN tR; rw [sR_up h]
theorem stC_up {S F F' : Fn} {z lo : Int} (h : ∀ t, F' 0 t = F 0 t) : stC S F' z lo = stC S F z lo := by
  unfold stC
  rw [fr_congr (g := stS S F z lo) (fun i s _ _ => by unfold stS; rw [h, tF_up h, pG_up h])]
theorem cSay_bd {F : Fn} : 0 ≤ cSay F ∧ cSay F ≤ 10 := cnt_bd (p := fun s => ¬ F 0 s = -1) (by omega)
/-- outside two stretches no number has changed -/
def Ot2 (lo hi lo2 hi2 : Int) (M M' : Mm) : Prop := ∀ b, (b < lo ∨ hi < b) → (b < lo2 ∨ hi2 < b) → (∀ f, M' 0 f b = M 0 f b) ∧ ∀ j, M' 1 b j = M 1 b j
theorem Ot2.rf {lo hi lo2 hi2 : Int} {M : Mm} : Ot2 lo hi lo2 hi2 M M := fun _ _ _ => ⟨fun _ => rfl, fun _ => rfl⟩
theorem Ot2.u0 {lo hi lo2 hi2 f a x : Int} {M M' : Mm} (h : Ot2 lo hi lo2 hi2 M M') (ha : (lo ≤ a ∧ a ≤ hi) ∨ (lo2 ≤ a ∧ a ≤ hi2)) : Ot2 lo hi lo2 hi2 M (mup M' 0 f a x) := fun b hb hb2 =>
  ⟨fun f' => (mup_n (by omega)).trans ((h b hb hb2).1 f'), fun j => (mup_n (by omega)).trans ((h b hb hb2).2 j)⟩
theorem Ot2.u1 {lo hi lo2 hi2 a j x : Int} {M M' : Mm} (h : Ot2 lo hi lo2 hi2 M M') (ha : (lo ≤ a ∧ a ≤ hi) ∨ (lo2 ≤ a ∧ a ≤ hi2)) : Ot2 lo hi lo2 hi2 M (mup M' 1 a j x) := fun b hb hb2 =>
  ⟨fun f' => (mup_n (by omega)).trans ((h b hb hb2).1 f'), fun j => (mup_n (by omega)).trans ((h b hb hb2).2 j)⟩
theorem Ot2.t1 {lo hi lo2 hi2 lo' hi' : Int} {M M' M2 : Mm} (h : Ot2 lo hi lo2 hi2 M M') (h' : Ot lo' hi' M' M2) (hc : (lo ≤ lo' ∧ hi' ≤ hi) ∨ (lo2 ≤ lo' ∧ hi' ≤ hi2)) : Ot2 lo hi lo2 hi2 M M2 := fun b hb hb2 =>
  have q := h' b (by omega)
  ⟨fun f' => (q.1 f').trans ((h b hb hb2).1 f'), fun j => (q.2 j).trans ((h b hb hb2).2 j)⟩
theorem OR.oM2 {K na ns len : Int} {G M : Mm} {a : Int} {L : Fn} (h : OR K na ns len G M a L) {M1 : Mm} {lo hi lo2 hi2 : Int} (hO : Ot2 lo hi lo2 hi2 M M1) (hr : 0 ≤ na ∧ (hi < a ∨ a + na < lo) ∧ (hi2 < a ∨ a + na < lo2)) : OR K na ns len G M1 a L :=
  h.o hr.1 fun b h1 h2 => ⟨rfl, rfl, fun _ => rfl, fun _ => rfl, fun f => (hO b (by omega) (by omega)).1 f, fun j => (hO b (by omega) (by omega)).2 j⟩
