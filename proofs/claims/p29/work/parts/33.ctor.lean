/-! ===== constructors ===== -/
section RowsN
variable {E : Ev} {cc : ByteArray} {nL : Nat} {own : String} {tb : List ExceptionTableEntry} {R0 : Room} {G M : Mm} {k n pc : Nat} {ll : List LE} {st : List Value}
theorem pw_newI (C : Cx E cc nL own tb R0) {len : Int} (d : decode cc pc = .ok (.newarray .int, 2)) (hl : 0 ≤ len ∧ len ≤ 100000) {ks : Nat} (hks' : len = (ks : Int)) (hkc : k + 1 ≤ R0.cells) (hks : n + ks ≤ R0.slots) (kk : PW E (nG G 100 len) (nM G M) (k + 1) (n + ks) (pc + 2) ll (vR (G 4 0 0) :: st)) : PW E G M k n pc ll (vI len :: st) :=
  pw_newa (t := 0) C d (List.mem_of_getElem? (i := 97) (by decide +kernel)) (by decide) (fun _ => rfl) (fun _ _ => rfl) rfl hl (by decide) hks' hkc hks kk
end RowsN
/-- all cells below a are as before -/
def Bel (a : Int) (G0 M0 G M : Mm) : Prop := ∀ b, b < a → agr G0 M0 G M b
theorem Bel.rf {a : Int} {G M : Mm} : Bel a G M G M := fun _ _ => agr.rf
theorem Bel.st {a : Int} {G0 M0 G M G1 M1 : Mm} {x : Int} (h : Bel a G0 M0 G M) (hx : a ≤ x) (hg : ∀ b, b ≠ x → agr G M G1 M1 b) : Bel a G0 M0 G1 M1 := fun b hb => (h b hb).tr (hg b (by omega))
theorem Bel.tr {a a' : Int} {G0 M0 G M G1 M1 : Mm} (h : Bel a G0 M0 G M) (h' : Bel a' G M G1 M1) (hx : a ≤ a') : Bel a G0 M0 G1 M1 := fun b hb => (h b hb).tr (h' b (by omega))
theorem agr_fl {G M : Mm} {a n x : Int} : ∀ b, b ≠ a → agr G M G (flM M a n x) b := fun b hb =>
  ⟨rfl, rfl, fun _ => rfl, fun _ => rfl, fun _ => flM_out (by omega), fun _ => flM_out (by omega)⟩
/-- an object under way: i of its arrays are there -/
def GOb (K len a i : Int) (G0 M0 G M : Mm) : Prop := G 0 a 0 = K ∧ G 4 0 0 = a + 1 + i ∧ (∀ j, 0 ≤ j → j < i → G 2 (20 * (K - 1) + j) a = a + 1 + j ∧ G 0 (a + 1 + j) 0 = 100 ∧ G 1 (a + 1 + j) 0 = len) ∧ (∀ j t, 0 ≤ j → j < i → M 1 (a + 1 + j) t = 0) ∧ (∀ f, M 0 f a = 0) ∧ Bel a G0 M0 G M
theorem GOb.z {K len a : Int} {G M : Mm} (hk : G 0 a 0 = K) (hx : G 4 0 0 = a + 1) (hz : ∀ f, M 0 f a = 0) : GOb K len a 0 G M G M :=
  ⟨hk, by omega, fun j _ _ => by omega, fun j _ _ _ => by omega, hz, Bel.rf⟩
theorem GOb.nk {K len a i : Int} {G0 M0 G M : Mm} (h : GOb K len a i G0 M0 G M) (hi : 0 ≤ i) {q r : Int} : nG G q r 0 a 0 = K := by
  have := h.2.1
  rw [nG_o0 (by omega)]; exact h.1
theorem GOb.new {K len a i : Int} {G0 M0 G M : Mm} (h : GOb K len a i G0 M0 G M) {f : Int} (hf : f = 20 * (K - 1) + i) (hi : 0 ≤ i) : GOb K len a (i + 1) G0 M0 (mup (nG G 100 len) 2 f a (G 4 0 0)) (nM G M) := by
  obtain ⟨h1, h2, h3, h4, h5, h6⟩ := h
  refine ⟨?_, ?_, fun j q1 q2 => ?_, fun j t q1 q2 => ?_, fun f' => ?_, ?_⟩
  · rw [mup_n (by omega), nG_o0 (by omega)]; exact h1
  · rw [mup_n (by omega), nG_next]; omega
  · by_cases e : j = i
    · subst e
      rw [← hf, mup_s, mup_n (by omega), mup_n (by omega), ← h2, nG_kind, nG_len]
      exact ⟨rfl, rfl, rfl⟩
    · have := h3 j q1 (by omega)
      rw [mup_n (by omega), mup_n (by omega), mup_n (by omega), nG_o2 (by omega), nG_o0 (by omega), nG_o1 (by omega)]
      exact this
  · by_cases e : j = i
    · subst e
      rw [← h2, nM_elt]
    · rw [nM_o1 (by omega)]; exact h4 j t q1 (by omega)
  · rw [nM_o0 (by omega)]; exact h5 f'
  · intro b hb
    exact ((h6 b hb).tr (agr_n b (by omega))).tr (agr_G2 b (by omega))
/-- nothing is in it -/
def z0 : Fn := fun _ _ => 0
theorem GOb.or {K len a na ns : Int} {G0 M0 G M : Mm} (h : GOb K len a na G0 M0 G M) : OR K na ns len G M a z0 :=
  ⟨h.1, h.2.2.1, fun i t q1 q2 _ _ => h.2.2.2.1 i t q1 q2, fun s _ _ => h.2.2.2.2.1 _⟩
/-- what a constructor leaves -/
def Mad (P : Mm → Mm → Prop) (a top : Int) (G0 M0 G M : Mm) : Prop := P G M ∧ G 4 0 0 = top ∧ Bel a G0 M0 G M
/-- a new fact, take and line -/
def F00 : Fn := rup (lup (lup (lup z0 1 0 (-1)) 1 2 (-1)) 1 3 (-1)) 0 (fun _ => -1)
def T00 : Fn := lup (lup z0 1 6 (-1)) 1 7 (-1)
def L00 : Fn := rup (rup z0 0 (fun _ => -1)) 3 (fun _ => -1)
set_option maxHeartbeats 4000000 in
set_option maxRecDepth 100000 in
theorem c_X2_init {X : Xv} {G M : Mm} {a : Int} (ha : 0 ≤ a) (hk : G 0 a 0 = 5) (hx : G 4 0 0 = a + 1) (hz : ∀ f, M 0 f a = 0) : CT X yX2_init prog_4_method_1_code 1 (none) 1 12 2 20 [vR a] G M (PU (Mad (fun G1 M1 => OR 5 2 1 10 G1 M1 a z0) a (a + 3) G M)) := by
  refine CT.by (by decide +kernel) [1] ⟨cat_vR _, trivial⟩ (Nat.le_of_ble_eq_true rfl) (fun E hX C hR hIni => ?_)
  have go0 := GOb.z (len := 10) hk hx hz
  refine pw_aload_n C dX2_init_0 rfl ?_
  refine pw_objInit C dX2_init_1 (List.mem_of_getElem? (i := 81) (by decide +kernel)) (List.mem_of_getElem? (i := 74) (by decide +kernel)) (List.mem_of_getElem? (i := 75) (by decide +kernel)) ha ⟨Nat.le_of_ble_eq_true rfl, Nat.le_of_ble_eq_true rfl⟩ ?_
  refine pw_aload_n C dX2_init_4 rfl ?_
  refine pw_bipush C dX2_init_5 rfl ?_
  refine pw_newI C dX2_init_7 (by omega) (ks := 10) rfl (Nat.le_of_ble_eq_true rfl) (Nat.le_of_ble_eq_true rfl) ?_
  refine pw_putR C dX2_init_9 fl_X2_9 (fun _ => hIni rfl) (Or.inr ⟨_, rfl⟩) (go0.nk (by omega)) rfl ?_
  have go1 := go0.new (f := 80) (by omega) (by omega)
  generalize mup (nG G 100 10) 2 80 a (G 4 0 0) = G2 at go1 ⊢
  generalize nM G M = M3 at go1 ⊢
  refine pw_aload_n C dX2_init_12 rfl ?_
  refine pw_bipush C dX2_init_13 rfl ?_
  refine pw_newI C dX2_init_15 (by omega) (ks := 10) rfl (Nat.le_of_ble_eq_true rfl) (Nat.le_of_ble_eq_true rfl) ?_
  refine pw_putR C dX2_init_17 fl_X2_15 (fun _ => hIni rfl) (Or.inr ⟨_, rfl⟩) (go1.nk (by omega)) rfl ?_
  have go4 := go1.new (f := 81) (by omega) (by omega)
  generalize mup (nG G2 100 10) 2 81 a (G2 4 0 0) = G5 at go4 ⊢
  generalize nM G2 M3 = M6 at go4 ⊢
  have hO : OR 5 2 1 10 G5 M6 a z0 := go4.or
  have hF := go4.2.2.2.2.2
  have hT : G5 4 0 0 = a + 1 + 2 := go4.2.1
  exact pw_vret C hR dX2_init_20 (⟨rfl, hO, by rw [hT]; omega, hF⟩) (by omega) (by omega)

set_option maxHeartbeats 4000000 in
set_option maxRecDepth 100000 in
theorem c_X4_init {X : Xv} {G M : Mm} {a : Int} (ha : 0 ≤ a) (hk : G 0 a 0 = 7) (hx : G 4 0 0 = a + 1) (hz : ∀ f, M 0 f a = 0) : CT X yX4_init prog_6_method_1_code 1 (none) 1 12 1 10 [vR a] G M (PU (Mad (fun G1 M1 => OR 7 1 4 10 G1 M1 a z0) a (a + 2) G M)) := by
  refine CT.by (by decide +kernel) [1] ⟨cat_vR _, trivial⟩ (Nat.le_of_ble_eq_true rfl) (fun E hX C hR hIni => ?_)
  have go0 := GOb.z (len := 10) hk hx hz
  refine pw_aload_n C dX4_init_0 rfl ?_
  refine pw_objInit C dX4_init_1 (List.mem_of_getElem? (i := 103) (by decide +kernel)) (List.mem_of_getElem? (i := 74) (by decide +kernel)) (List.mem_of_getElem? (i := 75) (by decide +kernel)) ha ⟨Nat.le_of_ble_eq_true rfl, Nat.le_of_ble_eq_true rfl⟩ ?_
  refine pw_aload_n C dX4_init_4 rfl ?_
  refine pw_bipush C dX4_init_5 rfl ?_
  refine pw_newI C dX4_init_7 (by omega) (ks := 10) rfl (Nat.le_of_ble_eq_true rfl) (Nat.le_of_ble_eq_true rfl) ?_
  refine pw_putR C dX4_init_9 fl_X4_9 (fun _ => hIni rfl) (Or.inr ⟨_, rfl⟩) (go0.nk (by omega)) rfl ?_
  have go1 := go0.new (f := 120) (by omega) (by omega)
  generalize mup (nG G 100 10) 2 120 a (G 4 0 0) = G2 at go1 ⊢
  generalize nM G M = M3 at go1 ⊢
  have hO : OR 7 1 4 10 G2 M3 a z0 := go1.or
  have hF := go1.2.2.2.2.2
  have hT : G2 4 0 0 = a + 1 + 1 := go1.2.1
  exact pw_vret C hR dX4_init_12 (⟨rfl, hO, by rw [hT]; omega, hF⟩) (by omega) (by omega)

set_option maxHeartbeats 4000000 in
set_option maxRecDepth 100000 in
theorem c_X0_init {X : Xv} {G M : Mm} {a : Int} (ha : 0 ≤ a) (hk : G 0 a 0 = 3) (hx : G 4 0 0 = a + 1) (hz : ∀ f, M 0 f a = 0) : CT X yX0_init prog_2_method_1_code 1 (none) 1 23 1 10 [vR a] G M (PU (Mad (fun G1 M1 => OR 3 1 4 10 G1 M1 a F00) a (a + 2) G M)) := by
  refine CT.by (by decide +kernel) [1] ⟨cat_vR _, trivial⟩ (Nat.le_of_ble_eq_true rfl) (fun E hX C hR hIni => ?_)
  have go0 := GOb.z (len := 10) hk hx hz
  refine pw_aload_n C dX0_init_0 rfl ?_
  refine pw_objInit C dX0_init_1 (List.mem_of_getElem? (i := 128) (by decide +kernel)) (List.mem_of_getElem? (i := 74) (by decide +kernel)) (List.mem_of_getElem? (i := 75) (by decide +kernel)) ha ⟨Nat.le_of_ble_eq_true rfl, Nat.le_of_ble_eq_true rfl⟩ ?_
  refine pw_aload_n C dX0_init_4 rfl ?_
  refine pw_bipush C dX0_init_5 rfl ?_
  refine pw_newI C dX0_init_7 (by omega) (ks := 10) rfl (Nat.le_of_ble_eq_true rfl) (Nat.le_of_ble_eq_true rfl) ?_
  refine pw_putR C dX0_init_9 fl_X0_9 (fun _ => hIni rfl) (Or.inr ⟨_, rfl⟩) (go0.nk (by omega)) rfl ?_
  have go1 := go0.new (f := 40) (by omega) (by omega)
  generalize mup (nG G 100 10) 2 40 a (G 4 0 0) = G2 at go1 ⊢
  generalize nM G M = M3 at go1 ⊢
  have hO : OR 3 1 4 10 G2 M3 a z0 := go1.or
  have hF := go1.2.2.2.2.2
  have hT : G2 4 0 0 = a + 1 + 1 := go1.2.1
  refine pw_aload_n C dX0_init_12 rfl ?_
  refine pw_iconst C dX0_init_13 ?_
  refine pw_putIG C dX0_init_14 fl_X0_15 (fun h => by cases h) rfl hO.k (fun M4 eM4 => ?_)
  have hO5 := hO.ws 0 (by omega) eM4
  have hF6 := hF.st (Int.le_refl a) (G1 := G2) (M1 := M4) (fun b hb => by rw [eM4]; exact agr_M0 b hb)
  clear eM4
  refine pw_aload_n C dX0_init_17 rfl ?_
  refine pw_iconst C dX0_init_18 ?_
  refine pw_putIG C dX0_init_19 fl_X0_19 (fun h => by cases h) rfl hO5.k (fun M7 eM7 => ?_)
  have hO8 := hO5.ws 2 (by omega) eM7
  have hF9 := hF6.st (Int.le_refl a) (G1 := G2) (M1 := M7) (fun b hb => by rw [eM7]; exact agr_M0 b hb)
  clear eM7
  refine pw_aload_n C dX0_init_22 rfl ?_
  refine pw_iconst C dX0_init_23 ?_
  refine pw_putIG C dX0_init_24 fl_X0_22 (fun h => by cases h) rfl hO8.k (fun M10 eM10 => ?_)
  have hO11 := hO8.ws 3 (by omega) eM10
  have hF12 := hF9.st (Int.le_refl a) (G1 := G2) (M1 := M10) (fun b hb => by rw [eM10]; exact agr_M0 b hb)
  clear eM10
  refine pw_aload_n C dX0_init_27 rfl ?_
  refine pw_getR C dX0_init_28 fl_X0_9 hO11.k rfl (hO11.r (b := (a + 1)) 0 (by omega)) ?_
  refine pw_iconst C dX0_init_31 ?_
  refine pw_cSU C hX dX0_init_32 ml_X0_25 mc_J7_fill_53178 (c_fill (x := (-1)) (hO11.ai 0 (by omega)) (by omega)) rfl rfl ⟨Nat.le_of_ble_eq_true rfl, Nat.le_of_ble_eq_true rfl⟩ (Nat.le_of_ble_eq_true rfl) ⟨Nat.le_of_ble_eq_true rfl, Nat.le_of_ble_eq_true rfl⟩ (fun G2 M13 hq_ => ?_)
  obtain ⟨rfl, eM13⟩ := hq_
  have hO14 := hO11.wf 0 (by omega) eM13
  have hF15 := hF12.st (show a ≤ (a + 1) by omega) (G1 := G2) (M1 := M13) (fun b hb => by rw [eM13]; exact agr_fl b hb)
  clear eM13
  exact pw_vret C hR dX0_init_35 (⟨rfl, hO14, by rw [hT]; omega, hF15⟩) (by omega) (by omega)

set_option maxHeartbeats 4000000 in
set_option maxRecDepth 100000 in
theorem c_X3_init {X : Xv} {G M : Mm} {a : Int} (ha : 0 ≤ a) (hk : G 0 a 0 = 6) (hx : G 4 0 0 = a + 1) (hz : ∀ f, M 0 f a = 0) : CT X yX3_init prog_5_method_1_code 1 (none) 1 12 1 4 [vR a] G M (PU (Mad (fun G1 M1 => OR 6 1 9 4 G1 M1 a T00) a (a + 2) G M)) := by
  refine CT.by (by decide +kernel) [1] ⟨cat_vR _, trivial⟩ (Nat.le_of_ble_eq_true rfl) (fun E hX C hR hIni => ?_)
  have go0 := GOb.z (len := 4) hk hx hz
  refine pw_aload_n C dX3_init_0 rfl ?_
  refine pw_objInit C dX3_init_1 (List.mem_of_getElem? (i := 159) (by decide +kernel)) (List.mem_of_getElem? (i := 74) (by decide +kernel)) (List.mem_of_getElem? (i := 75) (by decide +kernel)) ha ⟨Nat.le_of_ble_eq_true rfl, Nat.le_of_ble_eq_true rfl⟩ ?_
  refine pw_aload_n C dX3_init_4 rfl ?_
  refine pw_iconst C dX3_init_5 ?_
  refine pw_newI C dX3_init_6 (by omega) (ks := 4) rfl (Nat.le_of_ble_eq_true rfl) (Nat.le_of_ble_eq_true rfl) ?_
  refine pw_putR C dX3_init_8 fl_X3_9 (fun _ => hIni rfl) (Or.inr ⟨_, rfl⟩) (go0.nk (by omega)) rfl ?_
  have go1 := go0.new (f := 100) (by omega) (by omega)
  generalize mup (nG G 100 4) 2 100 a (G 4 0 0) = G2 at go1 ⊢
  generalize nM G M = M3 at go1 ⊢
  have hO : OR 6 1 9 4 G2 M3 a z0 := go1.or
  have hF := go1.2.2.2.2.2
  have hT : G2 4 0 0 = a + 1 + 1 := go1.2.1
  refine pw_aload_n C dX3_init_11 rfl ?_
  refine pw_iconst C dX3_init_12 ?_
  refine pw_putIG C dX3_init_13 fl_X3_15 (fun h => by cases h) rfl hO.k (fun M4 eM4 => ?_)
  have hO5 := hO.ws 6 (by omega) eM4
  have hF6 := hF.st (Int.le_refl a) (G1 := G2) (M1 := M4) (fun b hb => by rw [eM4]; exact agr_M0 b hb)
  clear eM4
  refine pw_aload_n C dX3_init_16 rfl ?_
  refine pw_iconst C dX3_init_17 ?_
  refine pw_putIG C dX3_init_18 fl_X3_19 (fun h => by cases h) rfl hO5.k (fun M7 eM7 => ?_)
  have hO8 := hO5.ws 7 (by omega) eM7
  have hF9 := hF6.st (Int.le_refl a) (G1 := G2) (M1 := M7) (fun b hb => by rw [eM7]; exact agr_M0 b hb)
  clear eM7
  exact pw_vret C hR dX3_init_21 (⟨rfl, hO8, by rw [hT]; omega, hF9⟩) (by omega) (by omega)

set_option maxHeartbeats 4000000 in
set_option maxRecDepth 100000 in
theorem c_X1_init {X : Xv} {G M : Mm} {a : Int} (ha : 0 ≤ a) (hk : G 0 a 0 = 4) (hx : G 4 0 0 = a + 1) (hz : ∀ f, M 0 f a = 0) : CT X yX1_init prog_3_method_1_code 1 (none) 1 23 4 244 [vR a] G M (PU (Mad (fun G1 M1 => OR 4 4 5 61 G1 M1 a L00) a (a + 5) G M)) := by
  refine CT.by (by decide +kernel) [1] ⟨cat_vR _, trivial⟩ (Nat.le_of_ble_eq_true rfl) (fun E hX C hR hIni => ?_)
  have go0 := GOb.z (len := 61) hk hx hz
  refine pw_aload_n C dX1_init_0 rfl ?_
  refine pw_objInit C dX1_init_1 (List.mem_of_getElem? (i := 203) (by decide +kernel)) (List.mem_of_getElem? (i := 74) (by decide +kernel)) (List.mem_of_getElem? (i := 75) (by decide +kernel)) ha ⟨Nat.le_of_ble_eq_true rfl, Nat.le_of_ble_eq_true rfl⟩ ?_
  refine pw_aload_n C dX1_init_4 rfl ?_
  refine pw_bipush C dX1_init_5 rfl ?_
  refine pw_newI C dX1_init_7 (by omega) (ks := 61) rfl (Nat.le_of_ble_eq_true rfl) (Nat.le_of_ble_eq_true rfl) ?_
  refine pw_putR C dX1_init_9 fl_X1_11 (fun _ => hIni rfl) (Or.inr ⟨_, rfl⟩) (go0.nk (by omega)) rfl ?_
  have go1 := go0.new (f := 60) (by omega) (by omega)
  generalize mup (nG G 100 61) 2 60 a (G 4 0 0) = G2 at go1 ⊢
  generalize nM G M = M3 at go1 ⊢
  refine pw_aload_n C dX1_init_12 rfl ?_
  refine pw_bipush C dX1_init_13 rfl ?_
  refine pw_newI C dX1_init_15 (by omega) (ks := 61) rfl (Nat.le_of_ble_eq_true rfl) (Nat.le_of_ble_eq_true rfl) ?_
  refine pw_putR C dX1_init_17 fl_X1_15 (fun _ => hIni rfl) (Or.inr ⟨_, rfl⟩) (go1.nk (by omega)) rfl ?_
  have go4 := go1.new (f := 61) (by omega) (by omega)
  generalize mup (nG G2 100 61) 2 61 a (G2 4 0 0) = G5 at go4 ⊢
  generalize nM G2 M3 = M6 at go4 ⊢
  refine pw_aload_n C dX1_init_20 rfl ?_
  refine pw_bipush C dX1_init_21 rfl ?_
  refine pw_newI C dX1_init_23 (by omega) (ks := 61) rfl (Nat.le_of_ble_eq_true rfl) (Nat.le_of_ble_eq_true rfl) ?_
  refine pw_putR C dX1_init_25 fl_X1_18 (fun _ => hIni rfl) (Or.inr ⟨_, rfl⟩) (go4.nk (by omega)) rfl ?_
  have go7 := go4.new (f := 62) (by omega) (by omega)
  generalize mup (nG G5 100 61) 2 62 a (G5 4 0 0) = G8 at go7 ⊢
  generalize nM G5 M6 = M9 at go7 ⊢
  refine pw_aload_n C dX1_init_28 rfl ?_
  refine pw_bipush C dX1_init_29 rfl ?_
  refine pw_newI C dX1_init_31 (by omega) (ks := 61) rfl (Nat.le_of_ble_eq_true rfl) (Nat.le_of_ble_eq_true rfl) ?_
  refine pw_putR C dX1_init_33 fl_X1_21 (fun _ => hIni rfl) (Or.inr ⟨_, rfl⟩) (go7.nk (by omega)) rfl ?_
  have go10 := go7.new (f := 63) (by omega) (by omega)
  generalize mup (nG G8 100 61) 2 63 a (G8 4 0 0) = G11 at go10 ⊢
  generalize nM G8 M9 = M12 at go10 ⊢
  have hO : OR 4 4 5 61 G11 M12 a z0 := go10.or
  have hF := go10.2.2.2.2.2
  have hT : G11 4 0 0 = a + 1 + 4 := go10.2.1
  refine pw_aload_n C dX1_init_36 rfl ?_
  refine pw_getR C dX1_init_37 fl_X1_11 hO.k rfl (hO.r (b := (a + 1)) 0 (by omega)) ?_
  refine pw_iconst C dX1_init_40 ?_
  refine pw_cSU C hX dX1_init_41 ml_X1_24 mc_J7_fill_53178 (c_fill (x := (-1)) (hO.ai 0 (by omega)) (by omega)) rfl rfl ⟨Nat.le_of_ble_eq_true rfl, Nat.le_of_ble_eq_true rfl⟩ (Nat.le_of_ble_eq_true rfl) ⟨Nat.le_of_ble_eq_true rfl, Nat.le_of_ble_eq_true rfl⟩ (fun G11 M13 hq_ => ?_)
  obtain ⟨rfl, eM13⟩ := hq_
  have hO14 := hO.wf 0 (by omega) eM13
  have hF15 := hF.st (show a ≤ (a + 1) by omega) (G1 := G11) (M1 := M13) (fun b hb => by rw [eM13]; exact agr_fl b hb)
  clear eM13
  refine pw_aload_n C dX1_init_44 rfl ?_
  refine pw_getR C dX1_init_45 fl_X1_21 hO14.k rfl (hO14.r (b := (a + 4)) 3 (by omega)) ?_
  refine pw_iconst C dX1_init_48 ?_
  refine pw_cSU C hX dX1_init_49 ml_X1_24 mc_J7_fill_53178 (c_fill (x := (-1)) (hO14.ai 3 (by omega)) (by omega)) rfl rfl ⟨Nat.le_of_ble_eq_true rfl, Nat.le_of_ble_eq_true rfl⟩ (Nat.le_of_ble_eq_true rfl) ⟨Nat.le_of_ble_eq_true rfl, Nat.le_of_ble_eq_true rfl⟩ (fun G11 M16 hq_ => ?_)
  obtain ⟨rfl, eM16⟩ := hq_
  have hO17 := hO14.wf 3 (by omega) eM16
  have hF18 := hF15.st (show a ≤ (a + 4) by omega) (G1 := G11) (M1 := M16) (fun b hb => by rw [eM16]; exact agr_fl b hb)
  clear eM16
  exact pw_vret C hR dX1_init_52 (⟨rfl, hO17, by rw [hT]; omega, hF18⟩) (by omega) (by omega)

