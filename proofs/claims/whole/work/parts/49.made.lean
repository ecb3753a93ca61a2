/-! ===== the model's objects made ===== -/
theorem pw_newZ {E : Ev} {cc : ByteArray} {nL : Nat} {own : String} {tb : List ExceptionTableEntry} {R0 : Room} {G M : Mm} {k n pc : Nat} {ll : List LE} {st : List Value} (C : Cx E cc nL own tb R0) {len : Int} (d : decode cc pc = .ok (.newarray .boolean, 2)) (hl : 0 ≤ len ∧ len ≤ 100000) {ks : Nat} (hks' : len = (ks : Int)) (hkc : k + 1 ≤ R0.cells) (hks : n + ks ≤ R0.slots) (kk : PW E (nG G 101 len) (nM G M) (k + 1) (n + ks) (pc + 2) ll (vR (G 4 0 0) :: st)) : PW E G M k n pc ll (vI len :: st) :=
  pw_newa (t := 1) C d (List.mem_of_getElem? (i := 1102) (by decide +kernel)) (by decide) (fun _ => rfl) (fun _ _ => rfl) rfl hl (by decide) hks' hkc hks kk
/-- an object under way: kind K, its reference fields from f0, its arrays of kinds kd -/
def GOk (K f0 len : Int) (kd : Int → Int) (a i : Int) (G0 M0 G M : Mm) : Prop := G 0 a 0 = K ∧ G 4 0 0 = a + 1 + i ∧ (∀ j, 0 ≤ j → j < i → G 2 (f0 + j) a = a + 1 + j ∧ G 0 (a + 1 + j) 0 = kd j ∧ G 1 (a + 1 + j) 0 = len) ∧ (∀ j t, 0 ≤ j → j < i → M 1 (a + 1 + j) t = 0) ∧ (∀ f, M 0 f a = 0) ∧ Bel a G0 M0 G M
theorem GOk.z {K f0 len a : Int} {kd : Int → Int} {G M : Mm} (hk : G 0 a 0 = K) (hx : G 4 0 0 = a + 1) (hz : ∀ f, M 0 f a = 0) : GOk K f0 len kd a 0 G M G M :=
  ⟨hk, by omega, fun j _ _ => by omega, fun j _ _ _ => by omega, hz, Bel.rf⟩
theorem GOk.nk {K f0 len a i : Int} {kd : Int → Int} {G0 M0 G M : Mm} (h : GOk K f0 len kd a i G0 M0 G M) (hi : 0 ≤ i) {q r : Int} : nG G q r 0 a 0 = K := by
  have := h.2.1
  rw [nG_o0 (by omega)]; exact h.1
theorem GOk.new {K f0 len a i : Int} {kd : Int → Int} {G0 M0 G M : Mm} (h : GOk K f0 len kd a i G0 M0 G M) {f q : Int} (hf : f = f0 + i ∧ q = kd i) (hi : 0 ≤ i) : GOk K f0 len kd a (i + 1) G0 M0 (mup (nG G q len) 2 f a (G 4 0 0)) (nM G M) := by
  obtain ⟨h1, h2, h3, h4, h5, h6⟩ := h
  refine ⟨?_, ?_, fun j q1 q2 => ?_, fun j t q1 q2 => ?_, fun f' => ?_, ?_⟩
  · rw [mup_n (by omega), nG_o0 (by omega)]; exact h1
  · rw [mup_n (by omega), nG_next]; omega
  · by_cases e : j = i
    · subst e
      rw [← hf.1, mup_s, mup_n (by omega), mup_n (by omega), ← h2, nG_kind, nG_len]
      exact ⟨rfl, hf.2, rfl⟩
    · have := h3 j q1 (by omega)
      rw [mup_n (by omega), mup_n (by omega), mup_n (by omega), nG_o2 (by omega), nG_o0 (by omega), nG_o1 (by omega)]
      exact this
  · by_cases e : j = i
    · subst e
      rw [← h2, nM_elt]
    · rw [nM_o1 (by omega)]; exact h4 j t q1 (by omega)
  · rw [nM_o0 (by omega)]; exact h5 f'
  · intro b hb
    exact ((h6 b hb).tr (agr_n b (by omega))).tr (agr_G2 b (by omega))
/-- a line in the making: sentAt is none below k -/
def Lmk (sp lg k : Int) : Fn := rup (lup (lup (rup z0 0 (fun _ => -1)) 4 0 sp) 4 1 lg) 3 (fun t => if t < k then -1 else 0)
theorem GOk.li {a : Int} {G0 M0 G M : Mm} (h : GOk 10 184 61 (fun j => if j = 0 then 101 else 100) a 3 G0 M0 G M) : MLi G M a (Lmk 0 0 0) := by
  obtain ⟨h1, h2, h3, h4, h5, h6⟩ := h
  have r0 := h3 0 (by omega) (by omega); have r1 := h3 1 (by omega) (by omega); have r2 := h3 2 (by omega) (by omega)
  refine ⟨h1, ⟨?_, ?_, ?_⟩, ⟨?_, ?_⟩, ⟨?_, ?_⟩, ⟨?_, ?_⟩, ⟨(h5 _).trans rfl, (h5 _).trans rfl, (h5 _).trans rfl, (h5 _).trans rfl⟩, fun t q1 q2 => ⟨?_, fun z => absurd rfl z, ?_⟩⟩
  · have := r0.1; rw [show a + 1 + 0 = a + 1 by omega] at this; exact this
  · have := r1.1; rw [show a + 1 + 1 = a + 2 by omega] at this; exact this
  · have := r2.1; rw [show a + 1 + 2 = a + 3 by omega] at this; exact this
  · have := r0.2.1; rw [show a + 1 + 0 = a + 1 by omega] at this; exact this
  · have := r0.2.2; rw [show a + 1 + 0 = a + 1 by omega] at this; exact this
  · have := r1.2.1; rw [show a + 1 + 1 = a + 2 by omega] at this; exact this
  · have := r1.2.2; rw [show a + 1 + 1 = a + 2 by omega] at this; exact this
  · have := r2.2.1; rw [show a + 1 + 2 = a + 3 by omega] at this; exact this
  · have := r2.2.2; rw [show a + 1 + 2 = a + 3 by omega] at this; exact this
  · have := h4 0 t (by omega) (by omega); rw [show a + 1 + 0 = a + 1 by omega] at this; rw [this]; exact (bI_f (fun z => z rfl)).symm
  · have := h4 2 t (by omega) (by omega); rw [show a + 1 + 2 = a + 3 by omega] at this; rw [this]
    show (0 : Int) = if t < 0 then -1 else 0
    rw [if_neg (by omega)]
theorem MLi.c0 {G M : Mm} {a x : Int} {L : Fn} (h : MLi G M a L) : MLi G (mup M 0 180 a x) a (lup L 4 0 x) := by
  obtain ⟨a1, a2, a3, a4, a5, a6, a7⟩ := h
  refine ⟨a1, a2, a3, a4, a5, ⟨?_, ?_, ?_, ?_⟩, fun t q1 q2 => ?_⟩
  · rw [mup_s, lup_s]
  · rw [mup_n (by omega), lup_n (by omega)]; exact a6.2.1
  · rw [mup_n (by omega), lup_n (by omega)]; exact a6.2.2.1
  · rw [mup_n (by omega), lup_n (by omega)]; exact a6.2.2.2
  · rw [mup_n (by omega), mup_n (by omega), mup_n (by omega), lup_n (by omega), lup_n (by omega)]; exact a7 t q1 q2
theorem MLi.c1 {G M : Mm} {a x : Int} {L : Fn} (h : MLi G M a L) : MLi G (mup M 0 181 a x) a (lup L 4 1 x) := by
  obtain ⟨a1, a2, a3, a4, a5, a6, a7⟩ := h
  refine ⟨a1, a2, a3, a4, a5, ⟨?_, ?_, ?_, ?_⟩, fun t q1 q2 => ?_⟩
  · rw [mup_n (by omega), lup_n (by omega)]; exact a6.1
  · rw [mup_s, lup_s]
  · rw [mup_n (by omega), lup_n (by omega)]; exact a6.2.2.1
  · rw [mup_n (by omega), lup_n (by omega)]; exact a6.2.2.2
  · rw [mup_n (by omega), mup_n (by omega), mup_n (by omega), lup_n (by omega), lup_n (by omega)]; exact a7 t q1 q2
set_option maxHeartbeats 4000000 in
set_option maxRecDepth 100000 in
theorem m_lineInit {X : Xv} {G M : Mm} {a sp lg : Int} (ha : 0 ≤ a) (hk : G 0 a 0 = 10) (hx : G 4 0 0 = a + 1) (hz : ∀ f, M 0 f a = 0) : CT X yX7_init prog_10_method_1_code 4 (none) 1 12 3 183 [vR a, vI sp, vI lg] G M (PU (Mad (fun G1 M1 => MLi G1 M1 a (Lmk sp lg 61)) a (a + 4) G M)) := by
  refine CT.by (by decide +kernel) [1, 1, 1] ⟨cat_vR _, cat_vI _, cat_vI _, trivial⟩ (Nat.le_of_ble_eq_true rfl) (fun E hX C hR hIni => ?_)
  have go0 : GOk 10 184 61 (fun j => if j = 0 then 101 else 100) a 0 G M G M := GOk.z hk hx hz
  refine pw_aload_n C dX7_init_0 rfl ?_
  refine pw_objInit C dX7_init_1 (List.mem_of_getElem? (i := 1072) (by decide +kernel)) (List.mem_of_getElem? (i := 126) (by decide +kernel)) (List.mem_of_getElem? (i := 127) (by decide +kernel)) ha ⟨Nat.le_of_ble_eq_true rfl, Nat.le_of_ble_eq_true rfl⟩ ?_
  refine pw_aload_n C dX7_init_4 rfl ?_
  refine pw_bipush C dX7_init_5 rfl ?_
  refine pw_newZ C dX7_init_7 (by omega) (ks := 61) rfl (Nat.le_of_ble_eq_true rfl) (Nat.le_of_ble_eq_true rfl) ?_
  refine pw_putR C dX7_init_9 fl_X7_9 (fun _ => hIni rfl) (Or.inr ⟨_, rfl⟩) (go0.nk (by omega)) rfl ?_
  have go1 := go0.new (f := 184) (q := 101) ⟨by omega, rfl⟩ (by omega)
  generalize mup (nG G 101 61) 2 184 a (G 4 0 0) = G2 at go1 ⊢
  generalize nM G M = M3 at go1 ⊢
  refine pw_aload_n C dX7_init_12 rfl ?_
  refine pw_bipush C dX7_init_13 rfl ?_
  refine pw_newI C dX7_init_15 (by omega) (ks := 61) rfl (Nat.le_of_ble_eq_true rfl) (Nat.le_of_ble_eq_true rfl) ?_
  refine pw_putR C dX7_init_17 fl_X7_15 (fun _ => hIni rfl) (Or.inr ⟨_, rfl⟩) (go1.nk (by omega)) rfl ?_
  have go4 := go1.new (f := 185) (q := 100) ⟨by omega, rfl⟩ (by omega)
  generalize mup (nG G2 100 61) 2 185 a (G2 4 0 0) = G5 at go4 ⊢
  generalize nM G2 M3 = M6 at go4 ⊢
  refine pw_aload_n C dX7_init_20 rfl ?_
  refine pw_bipush C dX7_init_21 rfl ?_
  refine pw_newI C dX7_init_23 (by omega) (ks := 61) rfl (Nat.le_of_ble_eq_true rfl) (Nat.le_of_ble_eq_true rfl) ?_
  refine pw_putR C dX7_init_25 fl_X7_19 (fun _ => hIni rfl) (Or.inr ⟨_, rfl⟩) (go4.nk (by omega)) rfl ?_
  have go7 := go4.new (f := 186) (q := 100) ⟨by omega, rfl⟩ (by omega)
  generalize mup (nG G5 100 61) 2 186 a (G5 4 0 0) = G8 at go7 ⊢
  generalize nM G5 M6 = M9 at go7 ⊢
  have hL0 := go7.li
  have hF0 := go7.2.2.2.2.2
  have hT0 : G8 4 0 0 = a + 4 := by have q := go7.2.1; omega
  refine pw_aload_n C dX7_init_28 rfl ?_
  refine pw_iload_n C dX7_init_29 rfl ?_
  refine pw_putIG C dX7_init_30 fl_X7_22 (fun _ => hIni rfl) rfl hL0.1 (fun M10 eM10 => ?_)
  have hL10 := hL0.c0 (x := sp)
  rw [← eM10] at hL10
  have hF10 := hF0.st (Int.le_refl a) (G1 := G8) (M1 := M10) (fun b hb => by rw [eM10]; exact agr_M0 b hb)
  clear eM10
  refine pw_aload_n C dX7_init_33 rfl ?_
  refine pw_iload_n C dX7_init_34 rfl ?_
  refine pw_putIG C dX7_init_35 fl_X7_26 (fun _ => hIni rfl) rfl hL10.1 (fun M11 eM11 => ?_)
  have hL11 := hL10.c1 (x := lg)
  rw [← eM11] at hL11
  have hF11 := hF10.st (Int.le_refl a) (G1 := G8) (M1 := M11) (fun b hb => by rw [eM11]; exact agr_M0 b hb)
  clear eM11
  refine pw_iconst C dX7_init_38 ?_
  refine pw_istore_n C dX7_init_39 (Nat.le_of_ble_eq_true rfl) rfl ?_
  suffices K_40 : ∀ (nn_40 : Nat) (k : Int) (Mc : Mm), (0 ≤ k ∧ k ≤ 61) → (MLi G8 Mc a (Lmk sp lg k)) → (Bel a G M G8 Mc) → 61 - k < (nn_40 : Int) → PW E G8 Mc (((0 + 1) + 1) + 1) (((0 + 61) + 61) + 61) 40 [(0, 1, vR a), (1, 1, vI sp), (2, 1, vI lg), (3, 1, vI k)] [] from pw_locs (by exact ⟨rfl, cat_vR _, rfl, rfl, rfl, rfl, rfl, rfl, trivial⟩) (K_40 (61 - 0 + 1 : Int).toNat 0 M11 (by omega) (by first | exact (hL11.ext ⟨rfl, rfl, rfl, rfl⟩ (fun t _ _ => ⟨rfl, rfl⟩)) | omega) (by first | exact hF11 | omega) (by omega))
  intro nn_40
  induction nn_40 with
  | zero => intro k Mc h1 hLc hFc h_m40; exact absurd h_m40 (by omega)
  | succ nn_40 ih_40 =>
    intro k Mc h1 hLc hFc h_m40
    refine pw_iload_n C dX7_init_40 rfl ?_
    refine pw_bipush C dX7_init_41 rfl ?_
    refine pw_icmp_gt (tgt := 59) C dX7_init_43 (by decide) (by omega) (fun c_43 => ?_) (fun c_43 => ?_)
    · skip
      exact pw_vret C hR dX7_init_59 (⟨rfl, by rw [show (61 : Int) = k by omega]; exact hLc, hT0, hFc⟩) (Nat.le_of_ble_eq_true rfl) (Nat.le_of_ble_eq_true rfl)
    · skip
      refine pw_aload_n C dX7_init_46 rfl ?_
      refine pw_getR C dX7_init_47 fl_X7_19 hLc.1 rfl hLc.2.1.2.2 ?_
      refine pw_iload_n C dX7_init_50 rfl ?_
      refine pw_iconst C dX7_init_51 ?_
      refine pw_iastG C dX7_init_52 hLc.2.2.2.2.1 (by omega) (fun M12 eM12 => ?_)
      have hL12 := hLc.at (t := k) (x := -1)
      rw [← eM12] at hL12
      have hF12 := hFc.st (show a ≤ a + 3 by omega) (G1 := G8) (M1 := M12) (fun b hb => by rw [eM12]; exact agr_M1 b hb)
      clear eM12
      refine pw_iinc C dX7_init_53 rfl (Nat.le_of_ble_eq_true rfl) rfl ?_
      refine pw_goto (tgt := 40) C dX7_init_56 (by decide) ?_
      exact pw_locs (by exact ⟨rfl, cat_vR _, rfl, rfl, rfl, rfl, rfl, rfl, trivial⟩) (ih_40 (k + 1) M12 (by omega) (hL12.ext ⟨by rw [lup_n (by omega)]; rfl, by rw [lup_n (by omega)]; rfl, by rw [lup_n (by omega)]; rfl, by rw [lup_n (by omega)]; rfl⟩ (fun t _ _ => ⟨by rw [lup_n (by omega)]; rfl, by rw [lup_c]; show (if 3 = 3 ∧ t = k then (-1 : Int) else if t < k then -1 else 0) = if t < k + 1 then -1 else 0; by_cases e : t < k; (rw [if_neg (by omega), if_pos e, if_pos (by omega)]); (by_cases e2 : t = k; (rw [if_pos ⟨rfl, e2⟩, if_pos (by omega)]); (rw [if_neg (by omega), if_neg e, if_neg (by omega)]))⟩)) (hF12) (by omega))

