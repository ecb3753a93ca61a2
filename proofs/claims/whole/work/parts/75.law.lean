/-! ===== the law: its script, what holds at each call, its room ===== -/
section RMo5
variable {G M G1 M1 : Mm} {Q : Int} {A : An} {D : Fn} {I : Int → Int}
theorem RM.o5 (h : RM G M Q A D I) (hb : ∀ b, (Q ≤ b ∧ b ≠ Q + 5) → b < G 4 0 0 → agr G M G1 M1 b) (he : ∀ b, (G 0 b 0 = 98 ∨ G 0 b 0 = 99) → b < G 4 0 0 → G1 0 b 0 = G 0 b 0) (h4 : G 4 0 0 ≤ G1 4 0 0) : RM G1 M1 Q A D I := by
  have hq := h.q
  have hQ := hb Q (by omega) (by omega)
  have hee : ∀ j, 1 ≤ j → j ≤ 4 → D 0 j < G 4 0 0 → agr G M G1 M1 (D 0 j) ∨ (G 0 (D 0 j) 0 = 98 ∨ G 0 (D 0 j) 0 = 99) ∧ G1 0 (D 0 j) 0 = G 0 (D 0 j) 0 := fun j q1 q2 q3 => by
    rcases h.p.e j q1 q2 with ⟨z1, z2, -⟩ | z
    · exact Or.inl (hb _ (by omega) z2)
    · exact Or.inr ⟨z, he _ z q3⟩
  have hel : ∀ j n, 1 ≤ j → j ≤ 4 → ∀ i, 0 ≤ i → i < n → AL G M (Q + j) n (D 0 j) → G1 3 (D 0 j) i = G 3 (D 0 j) i := fun j n q1 q2 i q3 q4 hl => by
    have hk := (hl.ar (by omega)).1.1
    rcases h.p.e j q1 q2 with ⟨z1, z2, -⟩ | z
    · exact (hb _ (by omega) z2).2.2.2.1 i
    · omega
  refine ⟨⟨hq.1, by omega⟩, hQ.1.trans h.k, fun j q1 q2 => (hQ.2.2.1 _).trans (h.r j q1 q2), (hQ.2.2.2.2.1 _).trans h.w,
    h.l1.o' (hb _ (by omega) (by omega)) (hee 1 (by omega) (by omega) h.l1.2.1.2) h4, h.l2.o' (hb _ (by omega) (by omega)) (hee 2 (by omega) (by omega) h.l2.2.1.2) h4, h.l3.o' (hb _ (by omega) (by omega)) (hee 3 (by omega) (by omega) h.l3.2.1.2) h4, h.l4.o' (hb _ (by omega) (by omega)) (hee 4 (by omega) (by omega) h.l4.2.1.2) h4,
    fun i q1 q2 => (hel 1 _ (by omega) (by omega) i q1 q2 h.l1).trans (h.e1 i q1 q2), fun i q1 q2 => (hel 2 _ (by omega) (by omega) i q1 q2 h.l2).trans (h.e2 i q1 q2), fun i q1 q2 => (hel 3 _ (by omega) (by omega) i q1 q2 h.l3).trans (h.e3 i q1 q2), fun i q1 q2 => (hel 4 _ (by omega) (by omega) i q1 q2 h.l4).trans (h.e4 i q1 q2),
    fun i q1 q2 => ?_, fun i q1 q2 => ?_, fun i f q1 q2 q3 q4 => ?_, fun i q1 q2 => ?_, fun i q1 q2 => ?_, fun i q1 q2 => ?_, ?_⟩
  · have z := (h.p.s i q1 q2).1; exact (h.so i q1 q2).o (hb _ (by omega) z.2)
  · have z := (h.p.y i q1 q2).1; exact (h.ya i q1 q2).o (hb _ (by omega) z.2)
  · have z := (h.p.y i q1 q2).1; exact ((hb _ (by omega) z.2).2.2.2.1 f).trans (h.ye i f q1 q2 q3 q4)
  · have z := (h.p.f i q1 q2).1; exact (h.fa i q1 q2).o (hb _ (by omega) (by omega)) (hb _ (by omega) (by omega))
  · have z := (h.p.t i q1 q2).1; exact (h.ta i q1 q2).o (hb _ (by omega) (by omega)) (hb _ (by omega) (by omega))
  · have z := (h.p.l i q1 q2).1; exact (h.li i q1 q2).o (hb _ (by omega) (by omega)) (hb _ (by omega) (by omega)) (hb _ (by omega) (by omega)) (hb _ (by omega) (by omega))
  · refine ⟨fun j q1 q2 => ?_, fun i q1 q2 => ?_, fun i q1 q2 => ?_, fun i q1 q2 => ?_, fun i q1 q2 => ?_, fun i q1 q2 => ?_⟩
    · rcases h.p.e j q1 q2 with ⟨z1, z2, z3⟩ | z
      · exact Or.inl ⟨z1, by omega, z3⟩
      · right
        have hD : D 0 j < G 4 0 0 := by
          rcases (show j = 1 ∨ j = 2 ∨ j = 3 ∨ j = 4 by omega) with rfl | rfl | rfl | rfl
          · exact h.l1.2.1.2
          · exact h.l2.2.1.2
          · exact h.l3.2.1.2
          · exact h.l4.2.1.2
        rw [he _ z hD]; exact z
    · have z := h.p.s i q1 q2; exact ⟨by omega, z.2⟩
    · have z := h.p.y i q1 q2; exact ⟨by omega, z.2⟩
    · have z := h.p.f i q1 q2; exact ⟨by omega, z.2⟩
    · have z := h.p.t i q1 q2; exact ⟨by omega, z.2⟩
    · have z := h.p.l i q1 q2; exact ⟨by omega, z.2⟩
end RMo5
theorem RC.og {G M G1 M1 : Mm} {B : Int} {A : An} (h : RC G M B A) (ag : ∀ b, B ≤ b → b ≤ B + 201 → agr G M G1 M1 b) : RC G1 M1 B A := by
  obtain ⟨⟨a1, a2, a3, a4, a5, a6, a7, a8⟩, b1, b2, b3, b4, b5, b6, b7⟩ := h
  have aB := ag B (by omega) (by omega)
  refine ⟨⟨aB.1.trans a1, by rw [aB.2.2.1, aB.2.2.1, aB.2.2.1, aB.2.2.1, aB.2.2.1, aB.2.2.1]; exact a2, AR.o a3 (ag _ (by omega) (by omega)), AR.o a4 (ag _ (by omega) (by omega)), AR.o a5 (ag _ (by omega) (by omega)), fun f q1 q2 => by rw [(ag _ (by omega) (by omega)).2.2.2.1]; exact a6 f q1 q2, fun f q1 q2 => by rw [(ag _ (by omega) (by omega)).2.2.2.1]; exact a7 f q1 q2, fun f q1 q2 => by rw [(ag _ (by omega) (by omega)).2.2.2.1]; exact a8 f q1 q2⟩, fun s q1 q2 => by rw [aB.2.2.2.2.1]; exact b1 s q1 q2, b2.o (by omega) (fun b _ _ => ag b (by omega) (by omega)), ?_, fun f q1 q2 => (b4 f q1 q2).o (by omega) (fun b _ _ => ag b (by omega) (by omega)), fun t q1 q2 => (b5 t q1 q2).o (by omega) (fun b _ _ => ag b (by omega) (by omega)), fun l q1 q2 => (b6 l q1 q2).o (by omega) (fun b _ _ => ag b (by omega) (by omega)), ?_⟩
  · obtain ⟨Y, hY⟩ := b3; exact ⟨Y, hY.o (by omega) (fun b _ _ => ag b (by omega) (by omega))⟩
  · obtain ⟨Z, hZ⟩ := b7; exact ⟨Z, hZ.o (by omega) (fun b _ _ => ag b (by omega) (by omega))⟩
/-- the script of L ints xs lies at the cell b, below ours -/
def SC (E : Ev) (b L : Nat) (xs : Nat → Int32) : Prop := match E with
  | ((_, _, _, B0), _, _, _, s, _, _, _, _, _, _) => va_X b L xs s s.heap ∧ b < s.heap.size ∧ ¬ B0 ≤ b
def sc (xs : Nat → Int32) (i : Int) : Int := (xs i.toNat).toInt
theorem sc_r {xs : Nat → Int32} (i : Int) : -2147483648 ≤ sc xs i ∧ sc xs i ≤ 2147483647 := by
  unfold sc
  have a := Int32.le_toInt (xs i.toNat)
  have b := Int32.toInt_lt (xs i.toNat)
  omega
theorem i32_nat (n : Nat) : Int32.ofNat n = Int32.ofInt (n : Int) := rfl
section RowsL
variable {E : Ev} {cc : ByteArray} {nL : Nat} {own : String} {tb : List ExceptionTableEntry} {R0 : Room} {G M : Mm} {k n pc : Nat} {ll : List LE} {st : List Value}
theorem pw_slen (C : Cx E cc nL own tb R0) {b L : Nat} {xs : Nat → Int32} (hS : SC E b L xs) {bb : Int} (hbb : bb = (b : Int)) (d : decode cc pc = .ok (.arraylength, 1)) (kk : PW E G M k n (pc + 1) ll (vI (L : Int) :: st)) : PW E G M k n pc ll (vR bb :: st) := by
  subst hbb
  obtain ⟨⟨l, D, cA, B0⟩, p, e, R, s, m, args, below, meth, c, Q⟩ := E
  obtain ⟨hx, hb, hml, hown, hlocks, htb, hR, hK⟩ := C
  obtain ⟨s1, s2, s3⟩ := hS
  intro H locs ls h1 h2 h3
  have q := kk H locs ls h1 h2 h3
  rw [vR_pos (by omega), Int.toNat_natCast]
  refine va_slen hx hb s1 s2 s3 h2 d ?_
  rw [i32_nat]
  exact q
theorem pw_sld (C : Cx E cc nL own tb R0) {b L : Nat} {xs : Nat → Int32} (hS : SC E b L xs) {bb : Int} (hbb : bb = (b : Int)) {i : Int} (d : decode cc pc = .ok (.iaload, 1)) (hi : 0 ≤ i ∧ i < (L : Int)) (hL : L ≤ 3072) (kk : PW E G M k n (pc + 1) ll (vI (sc xs i) :: st)) : PW E G M k n pc ll (vI i :: vR bb :: st) := by
  subst hbb
  obtain ⟨⟨l, D, cA, B0⟩, p, e, R, s, m, args, below, meth, c, Q⟩ := E
  obtain ⟨hx, hb, hml, hown, hlocks, htb, hR, hK⟩ := C
  obtain ⟨s1, s2, s3⟩ := hS
  intro H locs ls h1 h2 h3
  have q := kk H locs ls h1 h2 h3
  rw [vR_pos (by omega), Int.toNat_natCast]
  refine va_sld hx hb s1 s2 s3 h2 (i32_vin hi.1 hi.2 (by omega)) d ?_
  rw [i32_clamp hi.1 (by omega)]
  have e1 : vI (sc xs i) = .int (xs i.toNat) := congrArg Value.int (i32_of _)
  rw [e1] at q
  exact q
theorem lcmp_s (x : Int64) : lg_cmp x x = Int32.ofInt 0 := by
  unfold lg_cmp
  simp [Int64.lt_irrefl]
theorem pw_lcmpE (C : Cx E cc nL own tb R0) {x y : Int} (d : decode cc pc = .ok (.lcmp, 1)) (h : x = y) (kk : PW E G M k n (pc + 1) ll (vI 0 :: st)) : PW E G M k n pc ll (vL y :: vL x :: st) := by
  subst h
  refine pw_lcmp C d ?_
  rw [lcmp_s]
  exact kk
end RowsL
/-- the law's room: what a call may take where T takes are filed -/
def WT (T : Int) : Int := 44 + 21 * max T 3
theorem WT_bd (T : Int) : 107 ≤ WT T ∧ 44 + 21 * T ≤ WT T := by unfold WT; omega
theorem WT_1 {T : Int} : WT T ≤ WT (T + 1) := by unfold WT; omega
def KB (j T k : Int) : Prop := (0 ≤ T ∧ T ≤ j) ∧ k ≤ 300 + (j - T) * WT T + 21 * T
theorem KB.go {j T T2 k k' c : Int} (h : KB j T k) (hk : k' ≤ k + c) (h2 : (T2 = T ∧ c ≤ WT T) ∨ (T2 = T + 1 ∧ c ≤ 21)) : KB (j + 1) T2 k' := by
  obtain ⟨⟨h1, h3⟩, h4⟩ := h
  rcases h2 with ⟨rfl, hc⟩ | ⟨rfl, hc⟩
  · refine ⟨by omega, ?_⟩
    have e : (j + 1 - T2) * WT T2 = (j - T2) * WT T2 + WT T2 := by rw [show j + 1 - T2 = (j - T2) + 1 by omega, Int.add_mul, Int.one_mul]
    omega
  · refine ⟨by omega, ?_⟩
    have e : (j - T) * WT T ≤ (j + 1 - (T + 1)) * WT (T + 1) := by
      rw [show j + 1 - (T + 1) = j - T by omega]
      exact Int.mul_le_mul_of_nonneg_left WT_1 (by omega)
    omega
theorem KB_k : ∀ T : Nat, T < 61 → (512 - (T : Int)) * WT (T : Int) + 21 * (T : Int) ≤ 596700 := by decide +kernel
theorem KB.room {j T k : Int} (h : KB j T k) (hT : T ≤ 60) (hj : j < 512) : k + WT T ≤ 597000 := by
  obtain ⟨⟨h1, h3⟩, h4⟩ := h
  have a := KB_k T.toNat (by omega)
  rw [Int.toNat_of_nonneg h1] at a
  have e : (j + 1 - T) * WT T = (j - T) * WT T + WT T := by rw [show j + 1 - T = (j - T) + 1 by omega, Int.add_mul, Int.one_mul]
  have b : (j + 1 - T) * WT T ≤ (512 - T) * WT T := Int.mul_le_mul_of_nonneg_right (by omega) (by have := WT_bd T; omega)
  omega
theorem KB.end_ {j T k : Int} (h : KB j T k) (hT : T ≤ 60) (hj : j ≤ 512) : k ≤ 597000 := by
  obtain ⟨⟨h1, h3⟩, h4⟩ := h
  have a := KB_k T.toNat (by omega)
  rw [Int.toNat_of_nonneg h1] at a
  have b : (j - T) * WT T ≤ (512 - T) * WT T := Int.mul_le_mul_of_nonneg_right (by omega) (by have := WT_bd T; omega)
  omega
theorem cd1_bd {p : Prop} [Decidable p] : 0 ≤ cd1 p ∧ cd1 p ≤ 3 := by unfold cd1; split <;> omega
theorem cd2_bd {p q : Prop} [Decidable p] [Decidable q] : 0 ≤ cd2 p q ∧ cd2 p q ≤ 3 := by unfold cd2; (repeat' split) <;> omega
theorem cd3_bd {p q r : Prop} [Decidable p] [Decidable q] [Decidable r] : 0 ≤ cd3 p q r ∧ cd3 p q r ≤ 3 := by unfold cd3; (repeat' split) <;> omega
theorem cd1_0 {p : Prop} [Decidable p] (h : cd1 p = 0) : p := by
  unfold cd1 at h
  apply Classical.byContradiction
  intro hn
  rw [if_pos hn] at h; omega
theorem cd2_0 {p q : Prop} [Decidable p] [Decidable q] (h : cd2 p q = 0) : p ∧ q := by
  unfold cd2 at h
  by_cases hp : p
  · rw [if_neg (fun z => z hp)] at h
    by_cases hq : q
    · exact ⟨hp, hq⟩
    · rw [if_pos hq] at h; omega
  · rw [if_pos hp] at h; omega
theorem cd3_0 {p q r : Prop} [Decidable p] [Decidable q] [Decidable r] (h : cd3 p q r = 0) : p ∧ q ∧ r := by
  unfold cd3 at h
  by_cases hp : p
  · rw [if_neg (fun z => z hp)] at h
    by_cases hq : q
    · rw [if_neg (fun z => z hq)] at h
      by_cases hr : r
      · exact ⟨hp, hq, hr⟩
      · rw [if_pos hr] at h; omega
    · rw [if_pos hq] at h; omega
  · rw [if_pos hp] at h; omega
/-- what holds at the law's calls: the class's house at B, the model at B + 202, out at B + 207 -/
def LJ (X : Xv) (B : Int) (k n : Nat) (j : Int) (G M : Mm) (A : An) (D : Fn) (I : Int → Int) : Prop := RC G M B A ∧ RM G M (B + 202) A D I ∧ (Inv A ∧ SN A) ∧ EM X G ∧ (G 0 (B + 207) 0 = 102 ∧ G 1 (B + 207) 0 = 1) ∧ KB j (A 0 0 1) (k : Int) ∧ (n : Int) ≤ 3000 + 13000 * j
/-- behind a wrapper -/
theorem aftW {X : Xv} {B : Int} {G M G1 M1 : Mm} {A : An} {D : Fn} {I : Int → Int} (hM : RM G M (B + 202) A D I) (hE : EM X G) (ho : G 0 (B + 207) 0 = 102 ∧ G 1 (B + 207) 0 = 1) (hG : G1 = G ∨ ∃ z, G 4 0 0 ≤ z ∧ G1 = gZ G z) (hO : OW B (B + 207) M M1) : RM G1 M1 (B + 202) A D I ∧ EM X G1 ∧ (G1 0 (B + 207) 0 = 102 ∧ G1 1 (B + 207) 0 = 1) := by
  have hq := hM.q
  have key : ∀ b, agr G M G1 M b ∧ G 4 0 0 ≤ G1 4 0 0 := fun b => by
    rcases hG with rfl | ⟨z, hz, rfl⟩
    · exact ⟨agr.rf, Int.le_refl _⟩
    · exact ⟨agr_Z, by rw [gZ_4]; exact hz⟩
  have h4 := (key 0).2
  refine ⟨hM.o5 (fun b q1 q2 => ?_) (fun b _ _ => (key b).1.1) h4, ?_, ⟨(key _).1.1.trans ho.1, (key _).1.2.1.trans ho.2⟩⟩
  · have z := hO b (by omega) (by omega)
    exact (key b).1.tr ⟨rfl, rfl, fun _ => rfl, fun _ => rfl, z.1, z.2⟩
  · obtain ⟨⟨a1, a2⟩, a3, a4⟩ := hE
    exact ⟨⟨(key _).1.1.trans a1, by omega⟩, (key _).1.1.trans a3, by omega⟩
/-- behind the model's call -/
theorem aftM {X : Xv} {B cd : Int} {G1 M1 G2 M2 : Mm} {A2 A : An} {D : Fn} {I : Int → Int} (hR : RC G1 M1 B A2) (hM : RM G1 M1 (B + 202) A D I) (hE : EM X G1) (ho : G1 0 (B + 207) 0 = 102 ∧ G1 1 (B + 207) 0 = 1) (hB : 0 ≤ B) (hF : Fq (B + 202) G1 (mup M1 0 240 (B + 202) cd) G2 M2) : RC G2 M2 B A2 ∧ EM X G2 ∧ (G2 0 (B + 207) 0 = 102 ∧ G2 1 (B + 207) 0 = 1) ∧ M2 1 (B + 207) 0 = M1 1 (B + 207) 0 ∧ M2 0 240 (B + 202) = cd := by
  have hq := hM.q
  have o7 := hF.1 (B + 207) (by omega) (by omega)
  refine ⟨hR.og (fun b q1 q2 => ?_), hE.fq hF, ⟨o7.1.trans ho.1, o7.2.1.trans ho.2⟩, ?_, ?_⟩
  · exact (agr_M0 (f := 240) (x := cd) b (by omega)).tr (hF.1 b (by omega) (by omega))
  · rw [o7.2.2.2.2.2]; exact mup_n (by omega)
  · rw [hF.2.2.2]; exact mup_s _ _ _ _ _
theorem cn_le {p : Int → Prop} [DecidablePred p] {n : Int} (h : 0 ≤ n) : cn p 0 n ≤ n := by
  have := cnt_bd (p := p) h
  exact this.2
theorem nWt_bd {A : An} {s f : Int} (hA : AB A) : 0 ≤ nWt A s f ∧ nWt A s f ≤ A 0 0 1 := by
  have hn := hA.n
  exact ⟨nWt_nn hA, by rw [nWt_sm]; exact cn_le (by omega)⟩
theorem kWf_bd {A : An} {s f w : Int} (hA : AB A) : 0 ≤ kWf A s f w ∧ kWf A s f w ≤ A 0 0 1 := by
  have hn := hA.n
  have := nWt_bd (s := s) (f := f) hA
  unfold kWf
  split <;> omega
theorem kMn_bd {A : An} {w : Int} (hA : AB A) : 0 ≤ kMn A w ∧ kMn A w ≤ 1 + 4 * A 0 0 1 := by
  have hn := hA.n
  have := nWA_bd hA
  unfold kMn
  split
  · omega
  · split <;> omega
