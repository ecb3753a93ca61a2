abbrev p2 (f : Int) : Int := 2 ^ f.toNat
theorem shl_k : ∀ n : Nat, n < 10 → Int32.ofInt 1 <<< (Int32.ofInt (n : Int) &&& 31) = Int32.ofInt (p2 (n : Int)) := by decide +kernel
theorem shl_eq {f : Int} (h : 0 ≤ f ∧ f < 10) : Int32.ofInt 1 <<< (Int32.ofInt f &&& 31) = Int32.ofInt (p2 f) := by
  have := shl_k f.toNat (by omega)
  rwa [Int.toNat_of_nonneg h.1] at this
theorem p2_bd {f : Int} (h : 0 ≤ f ∧ f < 4) : 1 ≤ p2 f ∧ p2 f < 16 := by
  rcases (show f = 0 ∨ f = 1 ∨ f = 2 ∨ f = 3 by omega) with rfl | rfl | rfl | rfl <;> decide
theorem RC.xT {G M : Mm} {B t : Int} {A : An} {T T' : Fn} (h : RC G M B (aup A (200 + t) T)) (ht : 0 ≤ t ∧ t < 60) (h0 : ∀ j, 0 ≤ j → j < 4 → T 0 j = T' 0 j) (h1 : ∀ s, 0 ≤ s → s < 9 → T 1 s = T' 1 s) : RC G M B (aup A (200 + t) T') := by
  refine ⟨h.1, fun s q1 q2 => ?_, ?_, h.ty, fun f q1 q2 => ?_, fun u q1 q2 => ?_, fun l q1 q2 => ?_, h.tr⟩
  · have q := h.2.1 s q1 q2
    rw [aup_n (by omega)] at q ⊢
    exact q
  · have q := h.so
    rw [aup_n (by omega)] at q ⊢
    exact q
  · have q := h.fa f ⟨q1, q2⟩
    rw [aup_n (by omega)] at q ⊢
    exact q
  · have q := h.ta u ⟨q1, q2⟩
    by_cases e : u = t
    · subst e
      rw [aup_s] at q ⊢
      exact q.ext (fun i j p1 p2 p3 p4 => by rw [show i = 0 by omega]; exact h0 j p3 p4) (fun s p1 p2 => h1 s p1 p2)
    · rw [aup_n (show 200 + u ≠ 200 + t by omega)] at q ⊢
      exact q
  · have q := h.li l ⟨q1, q2⟩
    rw [aup_n (show 20 + l ≠ 200 + t by omega)] at q ⊢
    exact q
theorem aTk_0 {A : An} {s k set g hd tg : Int} (h : 0 ≤ A 0 0 1) {c : Int} : aTk A s k set g hd tg 0 0 c = if c = 1 then A 0 0 1 + 1 else A 0 0 c := by
  unfold aTk
  rw [aup_n (by omega), aup_s, lup_c]
  by_cases e : c = 1
  · rw [if_pos (by omega), if_pos e]
  · rw [if_neg (by omega), if_neg e]
theorem aTk_o {A : An} {s k set g hd tg j : Int} (h : j ≠ 200 + A 0 0 1) (h0 : j ≠ 0) : aTk A s k set g hd tg j = A j := by
  unfold aTk
  rw [aup_n h, aup_n h0]
theorem aTk_t {A : An} {s k set g hd tg : Int} : aTk A s k set g hd tg (200 + A 0 0 1) = nT A s k set g hd tg := aup_s _ _ _
theorem rS_LB {m : Int} (hm : 0 ≤ m ∧ m ≤ 20000) : ∀ (n : Nat) (L : Fn) (w s : Int), LB L → LB (rS (fun L => mU L m) m n L w s).1 := by
  intro n
  induction n with
  | zero => intro L w s h; exact h
  | succ n ih =>
    intro L w s h
    have e : rS (fun L => mU L m) m (n + 1) L w s = if w ≤ 0 then (L, s) else if mU L m = -1 then (L, s) else rS (fun L => mU L m) m n (sn L m (mU L m) (min w (L 0 (mU L m)))) (w - min w (L 0 (mU L m))) (if L 0 (mU L m) - min w (L 0 (mU L m)) = 0 then s + 1 else s) := rfl
    rw [e]
    have h4 := h.s4
    have hsp := mU_spec (L := L) (minute := m) h4.1
    split
    · exact h
    · split
      · exact h
      · exact ih _ _ _ (sn_LB h (by omega) (by omega) hm)
theorem rM_LB {L : Fn} {m : Int} (h : LB L) (hm : 0 ≤ m ∧ m ≤ 20000) : LB (rM L m).1 := by
  unfold rM
  split
  · have := h.s2
    exact h.u4 (by omega)
  · exact rS_LB hm _ _ _ _ h
theorem tb_k {T : Fn} {tk x : Int} (h : TB T tk) (hx : -1 ≤ x ∧ x < 60) : TB (lup T 1 7 x) 0 := by
  obtain ⟨h0, h1, h2, h3, h4, h5, h6, h7, h8, h9⟩ := h
  refine ⟨fun f q1 q2 => by rw [lup_n (by omega)]; exact h0 f q1 q2, ?_⟩
  simp only [lup_c]
  simp
  omega
theorem fr_sh {g : Int → Int} {lo hi c d : Int} : fr (fun l x => x + g l) lo hi (c + d) = c + fr (fun l x => x + g l) lo hi d := by
  by_cases h : lo ≤ hi
  · have key : ∀ (n : Nat) (i c d : Int), i + n = hi → fr (fun l x => x + g l) i hi (c + d) = c + fr (fun l x => x + g l) i hi d := by
      intro n
      induction n with
      | zero => intro i c d e; rw [fr_end (by omega), fr_end (by omega)]
      | succ n ih =>
        intro i c d e
        rw [fr_step (by omega), fr_step (lo := i) (by omega), show c + d + g i = c + (d + g i) by omega]
        exact ih (i + 1) c (d + g i) (by omega)
    exact key (hi - lo).toNat lo c d (by omega)
  · rw [fr_end (by omega), fr_end (by omega)]
theorem nM_eq {A : An} {c : Int} : fr (fun l c => c + (rM (A (20 + l)) (A 0 0 3 + 1)).2) 0 (A 0 0 2) c = c + nMin A := by
  unfold nMin
  have := fr_sh (g := fun l => (rM (A (20 + l)) (A 0 0 3 + 1)).2) (lo := 0) (hi := A 0 0 2) (c := c) (d := 0)
  rw [show c + 0 = c by omega] at this
  exact this
