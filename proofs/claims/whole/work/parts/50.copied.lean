/-! ===== sources, facts, takes made; a line copied ===== -/
def Tmk (s k set g wd hd of fd : Int) : Fn := fun i j => if i = 0 then -1 else if j = 0 then s else if j = 1 then k else if j = 2 then set else if j = 3 then wd else if j = 4 then hd else if j = 5 then g else if j = 6 then of else if j = 8 then fd else -1
theorem MTa.v {G M : Mm} {a f x : Int} {T : Fn} (h : MTa G M a T) : MTa G (mup M 1 (a + 1) f x) a (lup T 0 f x) := by
  obtain ⟨a1, a2, a3, a4, a5⟩ := h
  refine ⟨a1, a2, a3, ?_, fun f' q1 q2 q3 => ?_⟩
  · repeat rw [lup_n (by omega)]
    repeat rw [mup_n (by omega)]
    exact a4
  · by_cases e : f' = f
    · rw [e, mup_s, lup_s]
    · rw [lup_n (by omega)] at q3 ⊢
      rw [mup_n (by omega)]; exact a5 f' q1 q2 q3
/-- the copy of a line -/
theorem ML.copy {G M M1 : Mm} {a b : Int} {L Lb : Fn} (ha : MLi G M a L) (hb : MLi G M b Lb) (hM : ∀ f, M1 0 f b = M 0 f b ∨ f = 182) (h2 : M1 0 182 b = L 4 2) (hs : Lb 4 0 = L 4 0 ∧ Lb 4 1 = L 4 1 ∧ Lb 4 3 = 0) (hr : ∀ t, 0 ≤ t → t < 61 → M1 1 (b + 1) t = M 1 (a + 1) t ∧ M1 1 (b + 2) t = M 1 (a + 2) t ∧ M1 1 (b + 3) t = M 1 (a + 3) t) : MLi G M1 b (lup L 4 3 0) := by
  obtain ⟨b1, b2, b3, b4, b5, b6, b7⟩ := hb
  have z := fun f (hf : f ≠ 182) => (hM f).resolve_right hf
  refine ⟨b1, b2, b3, b4, b5, ⟨?_, ?_, ?_, ?_⟩, fun t q1 q2 => ?_⟩
  · rw [z 180 (by omega), b6.1, lup_n (by omega), hs.1]
  · rw [z 181 (by omega), b6.2.1, lup_n (by omega), hs.2.1]
  · rw [h2, lup_n (by omega)]
  · rw [z 183 (by omega), b6.2.2.2, lup_s, hs.2.2]
  · obtain ⟨r1, r2, r3⟩ := hr t q1 q2
    rw [r1, r2, r3, lup_n (by omega), lup_n (by omega)]
    exact ha.2.2.2.2.2.2 t q1 q2
set_option maxHeartbeats 4000000 in
set_option maxRecDepth 100000 in
theorem m_sourceInit {X : Xv} {G M : Mm} {a w of r : Int} (ha : 0 ≤ a) (hk : G 0 a 0 = 11) : CT X yX8_init prog_11_method_1_code 4 (none) 1 12 0 0 [vR a, vI w, vI of, vI r] G M (PU (fun G1 M1 => G1 = G ∧ MSo G M1 a w r ∧ ∀ b, b ≠ a → agr G M G M1 b)) := by
  refine CT.by (by decide +kernel) [1, 1, 1, 1] ⟨cat_vR _, cat_vI _, cat_vI _, cat_vI _, trivial⟩ (Nat.le_of_ble_eq_true rfl) (fun E hX C hR hIni => ?_)
  refine pw_aload_n C dX8_init_0 rfl ?_
  refine pw_objInit C dX8_init_1 (List.mem_of_getElem? (i := 973) (by decide +kernel)) (List.mem_of_getElem? (i := 126) (by decide +kernel)) (List.mem_of_getElem? (i := 127) (by decide +kernel)) ha ⟨Nat.le_of_ble_eq_true rfl, Nat.le_of_ble_eq_true rfl⟩ ?_
  refine pw_aload_n C dX8_init_4 rfl ?_
  refine pw_iload_n C dX8_init_5 rfl ?_
  refine pw_putIG C dX8_init_6 fl_X8_7 (fun _ => hIni rfl) rfl hk (fun M1 e1 => ?_)
  refine pw_aload_n C dX8_init_9 rfl ?_
  refine pw_iload_n C dX8_init_10 rfl ?_
  refine pw_putIG C dX8_init_11 fl_X8_13 (fun _ => hIni rfl) rfl hk (fun M2 e2 => ?_)
  refine pw_aload_n C dX8_init_14 rfl ?_
  refine pw_iload_n C dX8_init_15 rfl ?_
  refine pw_putIG C dX8_init_16 fl_X8_16 (fun _ => hIni rfl) rfl hk (fun M3 e3 => ?_)
  exact pw_vret C hR dX8_init_19 (⟨rfl, rfl, ⟨hk, by rw [e3, mup_n (by omega), e2, mup_n (by omega), e1, mup_s], by rw [e3, mup_s]⟩, fun b hb => by rw [e3, e2, e1]; exact ((agr_M0 b hb).tr (agr_M0 b hb)).tr (agr_M0 b hb)⟩) (by omega) (by omega)

set_option maxHeartbeats 4000000 in
set_option maxRecDepth 100000 in
theorem m_factInit {X : Xv} {G M : Mm} {a : Int} (ha : 0 ≤ a) (hk : G 0 a 0 = 9) (hx : G 4 0 0 = a + 1) (hz : ∀ f, M 0 f a = 0) : CT X yX6_init prog_9_method_1_code 2 (none) 1 12 1 10 [vR a] G M (PU (Mad (fun G1 M1 => MFa G1 M1 a F00) a (a + 2) G M)) := by
  refine CT.by (by decide +kernel) [1] ⟨cat_vR _, trivial⟩ (Nat.le_of_ble_eq_true rfl) (fun E hX C hR hIni => ?_)
  have go0 : GOk 9 160 10 (fun _ => 100) a 0 G M G M := GOk.z hk hx hz
  refine pw_aload_n C dX6_init_0 rfl ?_
  refine pw_objInit C dX6_init_1 (List.mem_of_getElem? (i := 1053) (by decide +kernel)) (List.mem_of_getElem? (i := 126) (by decide +kernel)) (List.mem_of_getElem? (i := 127) (by decide +kernel)) ha ⟨Nat.le_of_ble_eq_true rfl, Nat.le_of_ble_eq_true rfl⟩ ?_
  refine pw_aload_n C dX6_init_4 rfl ?_
  refine pw_bipush C dX6_init_5 rfl ?_
  refine pw_newI C dX6_init_7 (by omega) (ks := 10) rfl (Nat.le_of_ble_eq_true rfl) (Nat.le_of_ble_eq_true rfl) ?_
  refine pw_putR C dX6_init_9 fl_X6_9 (fun _ => hIni rfl) (Or.inr ⟨_, rfl⟩) (go0.nk (by omega)) rfl ?_
  have go1 := go0.new (f := 160) (q := 100) ⟨by omega, rfl⟩ (by omega)
  generalize mup (nG G 100 10) 2 160 a (G 4 0 0) = G2 at go1 ⊢
  generalize nM G M = M3 at go1 ⊢
  refine pw_aload_n C dX6_init_12 rfl ?_
  refine pw_iconst C dX6_init_13 ?_
  refine pw_putIG C dX6_init_14 fl_X6_15 (fun h => by cases h) rfl go1.1 (fun M4 eM4 => ?_)
  have hk1 := go1.1
  have hr1 := go1.2.2.1 0 (by omega) (by omega)
  rw [show (160 + 0 : Int) = 160 by omega, show a + 1 + 0 = a + 1 by omega] at hr1
  have hT1 : G2 4 0 0 = a + 2 := by have q := go1.2.1; omega
  have hv1 : M4 0 161 a = -1 := by rw [eM4, mup_s]
  have hF1 : Bel a G M G2 M4 := go1.2.2.2.2.2.st (Int.le_refl a) (fun b hb => by rw [eM4]; exact agr_M0 b hb)
  clear eM4
  refine pw_iconst C dX6_init_17 ?_
  refine pw_istore_n C dX6_init_18 (Nat.le_of_ble_eq_true rfl) rfl ?_
  suffices K_19 : ∀ (nn_19 : Nat) (k : Int) (Mc : Mm), (0 ≤ k ∧ k ≤ 10) → (Mc 0 161 a = -1) → (∀ j, 0 ≤ j → j < k → Mc 1 (a + 1) j = -1) → (Bel a G M G2 Mc) → 10 - k < (nn_19 : Int) → PW E G2 Mc (0 + 1) (0 + 10) 19 [(0, 1, vR a), (1, 1, vI k)] [] from pw_locs (by exact ⟨rfl, cat_vR _, rfl, rfl, trivial⟩) (K_19 (10 - 0 + 1 : Int).toNat 0 M4 (by omega) (by first | exact hv1 | omega) (by first | exact fun j q1 q2 => by omega | omega) (by first | exact hF1 | omega) (by omega))
  intro nn_19
  induction nn_19 with
  | zero => intro k Mc h1 hv hs hFc h_m19; exact absurd h_m19 (by omega)
  | succ nn_19 ih_19 =>
    intro k Mc h1 hv hs hFc h_m19
    refine pw_iload_n C dX6_init_19 rfl ?_
    refine pw_bipush C dX6_init_20 rfl ?_
    refine pw_icmp_ge (tgt := 38) C dX6_init_22 (by decide) (by omega) (fun c_22 => ?_) (fun c_22 => ?_)
    · skip
      exact pw_vret C hR dX6_init_38 (⟨rfl, ⟨hk1, hr1.1, ⟨hr1.2.1, hr1.2.2⟩, fun k q1 q2 => (hs k q1 (by omega)).trans rfl, hv.trans rfl⟩, hT1, hFc⟩) (Nat.le_of_ble_eq_true rfl) (Nat.le_of_ble_eq_true rfl)
    · skip
      refine pw_aload_n C dX6_init_25 rfl ?_
      refine pw_getR C dX6_init_26 fl_X6_9 hk1 rfl hr1.1 ?_
      refine pw_iload_n C dX6_init_29 rfl ?_
      refine pw_iconst C dX6_init_30 ?_
      refine pw_iastG C dX6_init_31 ⟨hr1.2.1, hr1.2.2⟩ (by omega) (fun M5 eM5 => ?_)
      refine pw_iinc C dX6_init_32 rfl (Nat.le_of_ble_eq_true rfl) rfl ?_
      refine pw_goto (tgt := 19) C dX6_init_35 (by decide) ?_
      exact pw_locs (by exact ⟨rfl, cat_vR _, rfl, rfl, trivial⟩) (ih_19 (k + 1) M5 (by omega) (by rw [eM5, mup_n (by omega)]; exact hv) (fun j q1 q2 => by rw [eM5]; by_cases e : j = k; (rw [e, mup_s]); (rw [mup_n (by omega)]; exact hs j q1 (by omega))) (hFc.st (show a ≤ a + 1 by omega) (fun b hb => by rw [eM5]; exact agr_M1 b hb)) (by omega))

set_option maxHeartbeats 4000000 in
set_option maxRecDepth 100000 in
theorem m_takeInit {X : Xv} {G M : Mm} {a s k set g wd hd of fd : Int} (ha : 0 ≤ a) (hk : G 0 a 0 = 12) (hx : G 4 0 0 = a + 1) (hz : ∀ f, M 0 f a = 0) (hg : g = 0 ∨ g = 1) : CT X yX9_init prog_12_method_1_code 9 (none) 1 12 1 4 [vR a, vI s, vI k, vI set, vI g, vI wd, vI hd, vI of, vI fd] G M (PU (Mad (fun G1 M1 => MTa G1 M1 a (Tmk s k set g wd hd of fd)) a (a + 2) G M)) := by
  refine CT.by (by decide +kernel) [1, 1, 1, 1, 1, 1, 1, 1, 1] ⟨cat_vR _, cat_vI _, cat_vI _, cat_vI _, cat_vI _, cat_vI _, cat_vI _, cat_vI _, cat_vI _, trivial⟩ (Nat.le_of_ble_eq_true rfl) (fun E hX C hR hIni => ?_)
  have go0 : GOk 12 223 4 (fun _ => 100) a 0 G M G M := GOk.z hk hx hz
  refine pw_aload_n C dX9_init_0 rfl ?_
  refine pw_objInit C dX9_init_1 (List.mem_of_getElem? (i := 1157) (by decide +kernel)) (List.mem_of_getElem? (i := 126) (by decide +kernel)) (List.mem_of_getElem? (i := 127) (by decide +kernel)) ha ⟨Nat.le_of_ble_eq_true rfl, Nat.le_of_ble_eq_true rfl⟩ ?_
  refine pw_aload_n C dX9_init_4 rfl ?_
  refine pw_iconst C dX9_init_5 ?_
  refine pw_newI C dX9_init_6 (by omega) (ks := 4) rfl (Nat.le_of_ble_eq_true rfl) (Nat.le_of_ble_eq_true rfl) ?_
  refine pw_putR C dX9_init_8 fl_X9_9 (fun _ => hIni rfl) (Or.inr ⟨_, rfl⟩) (go0.nk (by omega)) rfl ?_
  have go1 := go0.new (f := 223) (q := 100) ⟨by omega, rfl⟩ (by omega)
  generalize mup (nG G 100 4) 2 223 a (G 4 0 0) = G2 at go1 ⊢
  generalize nM G M = M3 at go1 ⊢
  have hk1 := go1.1
  have hr1 := go1.2.2.1 0 (by omega) (by omega)
  rw [show (223 + 0 : Int) = 223 by omega, show a + 1 + 0 = a + 1 by omega] at hr1
  have hT1 : G2 4 0 0 = a + 2 := by have q := go1.2.1; omega
  have hz1 := go1.2.2.2.2.1
  have hF1 := go1.2.2.2.2.2
  refine pw_aload_n C dX9_init_11 rfl ?_
  refine pw_iload_n C dX9_init_12 rfl ?_
  refine pw_putIG C dX9_init_13 fl_X9_15 (fun _ => hIni rfl) rfl hk1 (fun M4 e0 => ?_)
  refine pw_aload_n C dX9_init_16 rfl ?_
  refine pw_iload_n C dX9_init_17 rfl ?_
  refine pw_putIG C dX9_init_18 fl_X9_19 (fun _ => hIni rfl) rfl hk1 (fun M5 e1 => ?_)
  refine pw_aload_n C dX9_init_21 rfl ?_
  refine pw_iload_n C dX9_init_22 rfl ?_
  refine pw_putIG C dX9_init_23 fl_X9_22 (fun _ => hIni rfl) rfl hk1 (fun M6 e2 => ?_)
  refine pw_aload_n C dX9_init_26 rfl ?_
  refine pw_iload C dX9_init_27 rfl ?_
  refine pw_putZG C dX9_init_29 fl_X9_25 (fun _ => hIni rfl) rfl hg hk1 (fun M7 e3 => ?_)
  refine pw_aload_n C dX9_init_32 rfl ?_
  refine pw_iload C dX9_init_33 rfl ?_
  refine pw_putIG C dX9_init_35 fl_X9_29 (fun _ => hIni rfl) rfl hk1 (fun M8 e4 => ?_)
  refine pw_aload_n C dX9_init_38 rfl ?_
  refine pw_iload C dX9_init_39 rfl ?_
  refine pw_putIG C dX9_init_41 fl_X9_32 (fun _ => hIni rfl) rfl hk1 (fun M9 e5 => ?_)
  refine pw_aload_n C dX9_init_44 rfl ?_
  refine pw_iload C dX9_init_45 rfl ?_
  refine pw_putIG C dX9_init_47 fl_X9_35 (fun _ => hIni rfl) rfl hk1 (fun M10 e6 => ?_)
  refine pw_aload_n C dX9_init_50 rfl ?_
  refine pw_iload C dX9_init_51 rfl ?_
  refine pw_putIG C dX9_init_53 fl_X9_38 (fun _ => hIni rfl) rfl hk1 (fun M11 e7 => ?_)
  exact pw_vret C hR dX9_init_56 (⟨rfl, ⟨hk1, hr1.1, ⟨hr1.2.1, hr1.2.2⟩, ⟨by rw [e7, mup_n (by omega), e6, mup_n (by omega), e5, mup_n (by omega), e4, mup_n (by omega), e3, mup_n (by omega), e2, mup_n (by omega), e1, mup_n (by omega), e0, mup_s]; rfl, by rw [e7, mup_n (by omega), e6, mup_n (by omega), e5, mup_n (by omega), e4, mup_n (by omega), e3, mup_n (by omega), e2, mup_n (by omega), e1, mup_s]; rfl, by rw [e7, mup_n (by omega), e6, mup_n (by omega), e5, mup_n (by omega), e4, mup_n (by omega), e3, mup_n (by omega), e2, mup_s]; rfl, by rw [e7, mup_n (by omega), e6, mup_n (by omega), e5, mup_n (by omega), e4, mup_n (by omega), e3, mup_s]; rfl, by rw [e7, mup_n (by omega), e6, mup_n (by omega), e5, mup_n (by omega), e4, mup_s]; rfl, by rw [e7, mup_n (by omega), e6, mup_n (by omega), e5, mup_s]; rfl, by rw [e7, mup_n (by omega), e6, mup_s]; rfl, by rw [e7, mup_s]; rfl, (by rw [e7, mup_n (by omega), e6, mup_n (by omega), e5, mup_n (by omega), e4, mup_n (by omega), e3, mup_n (by omega), e2, mup_n (by omega), e1, mup_n (by omega), e0, mup_n (by omega)]; rw [hz1]; exact (bI_f (fun z => z rfl)).symm)⟩, fun f _ _ z => absurd rfl z⟩, hT1, (by rw [e7, e6, e5, e4, e3, e2, e1, e0]; exact fun b hb => ((((((((hF1 b hb).tr (agr_M0 b (by omega))).tr (agr_M0 b (by omega))).tr (agr_M0 b (by omega))).tr (agr_M0 b (by omega))).tr (agr_M0 b (by omega))).tr (agr_M0 b (by omega))).tr (agr_M0 b (by omega))).tr (agr_M0 b (by omega)))⟩) (Nat.le_of_ble_eq_true rfl) (Nat.le_of_ble_eq_true rfl)

set_option maxHeartbeats 4000000 in
set_option maxRecDepth 100000 in
theorem m_copy {X : Xv} {G M : Mm} {a : Int} {L : Fn} (hL : MLi G M a L) (ha : 0 ≤ a ∧ a + 3 < G 4 0 0) : CT X yX7_copy prog_10_method_2_code 2 (some (FieldType.object "SlugwireModel$Line")) 2 50 4 190 [vR a] G M (PQ (fun r G1 M1 => r = G 4 0 0 ∧ G1 4 0 0 = G 4 0 0 + 4 ∧ MLi G1 M1 r (lup L 4 3 0) ∧ Kp G M G1 M1)) := by
  refine CT.by (by decide +kernel) [1] ⟨cat_vR _, trivial⟩ (Nat.le_of_ble_eq_true rfl) (fun E hX C hR hIni => ?_)
  refine pw_new C dX7_copy_0 nl_X7_10 (Nat.le_of_ble_eq_true rfl) (Nat.le_of_ble_eq_true rfl) ?_
  have hKn : Kp G M (nG G 10 0) (nM G M) := Kp.rf.new
  have hn0 : nG G 10 0 0 (G 4 0 0) 0 = 10 := nG_kind
  have hn4 : nG G 10 0 4 0 0 = G 4 0 0 + 1 := nG_next
  have hnz : ∀ f, nM G M 0 f (G 4 0 0) = 0 := fun f => nM_fld
  have hLn : MLi (nG G 10 0) (nM G M) a L := hL.o (hKn.1 _ (by omega)) (hKn.1 _ (by omega)) (hKn.1 _ (by omega)) (hKn.1 _ (by omega))
  obtain ⟨b, eb⟩ : ∃ b, G 4 0 0 = b := ⟨_, rfl⟩
  rw [eb] at hn0 hn4 hnz ⊢
  generalize nG G 10 0 = G1 at hKn hn0 hn4 hLn ⊢
  generalize nM G M = M1 at hKn hnz hLn ⊢
  refine pw_dup C dX7_copy_3 (cat_vR _) ?_
  refine pw_aload_n C dX7_copy_4 rfl ?_
  refine pw_getE C dX7_copy_5 fl_X7_22 rfl hLn.1 hLn.2.2.2.2.2.1.1 ?_
  refine pw_aload_n C dX7_copy_8 rfl ?_
  refine pw_getE C dX7_copy_9 fl_X7_26 rfl hLn.1 hLn.2.2.2.2.2.1.2.1 ?_
  refine pw_cIU C hX dX7_copy_12 ml_X7_29 mc_X7_init (m_lineInit (a := b) (sp := L 4 0) (lg := L 4 1) (by omega) hn0 hn4 hnz) (by omega) rfl rfl ⟨Nat.le_of_ble_eq_true rfl, Nat.le_of_ble_eq_true rfl⟩ (Nat.le_of_ble_eq_true rfl) ⟨Nat.le_of_ble_eq_true rfl, Nat.le_of_ble_eq_true rfl⟩ (fun G2 M2 hq_ => ?_)
  obtain ⟨hLb, hT2, hF2⟩ := hq_
  have hLa : MLi G2 M2 a L := hLn.o (hF2 _ (by omega)) (hF2 _ (by omega)) (hF2 _ (by omega)) (hF2 _ (by omega))
  have hK2 : Kp G M G2 M2 := ⟨fun x hx => (hKn.1 x hx).tr (hF2 x (by omega)), by omega⟩
  refine pw_astore_n C dX7_copy_15 (Nat.le_of_ble_eq_true rfl) rfl ?_
  refine pw_aload_n C dX7_copy_16 rfl ?_
  refine pw_aload_n C dX7_copy_17 rfl ?_
  refine pw_getE C dX7_copy_18 fl_X7_32 rfl hLa.1 hLa.2.2.2.2.2.1.2.2.1 ?_
  refine pw_putIG C dX7_copy_21 fl_X7_32 (fun h => by cases h) rfl hLb.1 (fun M3 e3 => ?_)
  have hL3 : MLi G2 M3 a L := hLa.o (by rw [e3]; exact agr_M0 _ (by omega)) (by rw [e3]; exact agr_M0 _ (by omega)) (by rw [e3]; exact agr_M0 _ (by omega)) (by rw [e3]; exact agr_M0 _ (by omega))
  refine pw_aload_n C dX7_copy_24 rfl ?_
  refine pw_getR C dX7_copy_25 fl_X7_9 hL3.1 rfl hL3.2.1.1 ?_
  refine pw_iconst C dX7_copy_28 ?_
  refine pw_aload_n C dX7_copy_29 rfl ?_
  refine pw_getR C dX7_copy_30 fl_X7_9 hLb.1 rfl hLb.2.1.1 ?_
  refine pw_iconst C dX7_copy_33 ?_
  refine pw_aload_n C dX7_copy_34 rfl ?_
  refine pw_getR C dX7_copy_35 fl_X7_9 hL3.1 rfl hL3.2.1.1 ?_
  refine pw_alenZ C dX7_copy_38 hL3.2.2.1 ?_
  refine pw_copyI (a0 := a + 1) (a := b + 1) (z := 61) (t := 1) C dX7_copy_39 (List.mem_of_getElem? (i := 1434) (by decide +kernel)) (by omega) hL3.2.2.1.1 hLb.2.2.1.1 (by rw [hL3.2.2.1.2, hLb.2.2.1.2]; omega) (Or.inr (fun j q1 q2 => by rw [(hL3.2.2.2.2.2.2 j q1 (by omega)).1]; exact bI_01 _)) ⟨Nat.le_of_ble_eq_true rfl, Nat.le_of_ble_eq_true rfl⟩ (fun M4 e4 => ?_)
  have hL4 : MLi G2 M4 a L := hL3.o (by rw [e4]; exact agr_cp _ (by omega)) (by rw [e4]; exact agr_cp _ (by omega)) (by rw [e4]; exact agr_cp _ (by omega)) (by rw [e4]; exact agr_cp _ (by omega))
  refine pw_aload_n C dX7_copy_42 rfl ?_
  refine pw_getR C dX7_copy_43 fl_X7_15 hL4.1 rfl hL4.2.1.2.1 ?_
  refine pw_iconst C dX7_copy_46 ?_
  refine pw_aload_n C dX7_copy_47 rfl ?_
  refine pw_getR C dX7_copy_48 fl_X7_15 hLb.1 rfl hLb.2.1.2.1 ?_
  refine pw_iconst C dX7_copy_51 ?_
  refine pw_aload_n C dX7_copy_52 rfl ?_
  refine pw_getR C dX7_copy_53 fl_X7_15 hL4.1 rfl hL4.2.1.2.1 ?_
  refine pw_alenE C dX7_copy_56 hL4.2.2.2.1 ?_
  refine pw_copyI (a0 := a + 2) (a := b + 2) (z := 61) (t := 0) C dX7_copy_57 (List.mem_of_getElem? (i := 1434) (by decide +kernel)) (by omega) hL4.2.2.2.1.1 hLb.2.2.2.1.1 (by rw [hL4.2.2.2.1.2, hLb.2.2.2.1.2]; omega) (Or.inl rfl) ⟨Nat.le_of_ble_eq_true rfl, Nat.le_of_ble_eq_true rfl⟩ (fun M5 e5 => ?_)
  have hL5 : MLi G2 M5 a L := hL4.o (by rw [e5]; exact agr_cp _ (by omega)) (by rw [e5]; exact agr_cp _ (by omega)) (by rw [e5]; exact agr_cp _ (by omega)) (by rw [e5]; exact agr_cp _ (by omega))
  refine pw_aload_n C dX7_copy_60 rfl ?_
  refine pw_getR C dX7_copy_61 fl_X7_19 hL5.1 rfl hL5.2.1.2.2 ?_
  refine pw_iconst C dX7_copy_64 ?_
  refine pw_aload_n C dX7_copy_65 rfl ?_
  refine pw_getR C dX7_copy_66 fl_X7_19 hLb.1 rfl hLb.2.1.2.2 ?_
  refine pw_iconst C dX7_copy_69 ?_
  refine pw_aload_n C dX7_copy_70 rfl ?_
  refine pw_getR C dX7_copy_71 fl_X7_19 hL5.1 rfl hL5.2.1.2.2 ?_
  refine pw_alenE C dX7_copy_74 hL5.2.2.2.2.1 ?_
  refine pw_copyI (a0 := a + 3) (a := b + 3) (z := 61) (t := 0) C dX7_copy_75 (List.mem_of_getElem? (i := 1434) (by decide +kernel)) (by omega) hL5.2.2.2.2.1.1 hLb.2.2.2.2.1.1 (by rw [hL5.2.2.2.2.1.2, hLb.2.2.2.2.1.2]; omega) (Or.inl rfl) ⟨Nat.le_of_ble_eq_true rfl, Nat.le_of_ble_eq_true rfl⟩ (fun M6 e6 => ?_)
  have hL6 : MLi G2 M6 a L := hL5.o (by rw [e6]; exact agr_cp _ (by omega)) (by rw [e6]; exact agr_cp _ (by omega)) (by rw [e6]; exact agr_cp _ (by omega)) (by rw [e6]; exact agr_cp _ (by omega))
  refine pw_aload_n C dX7_copy_78 rfl ?_
  exact pw_aret C hR dX7_copy_79 (Or.inl ⟨_, rfl⟩) (⟨_, rfl, eb.symm, by omega, ML.copy hLa hLb (M1 := M6) (fun f => by by_cases e : f = 182; exact Or.inr e; exact Or.inl (by rw [e6, cpM_out (by omega), e5, cpM_out (by omega), e4, cpM_out (by omega), e3, mup_n (by omega)])) (by rw [e6, cpM_out (by omega), e5, cpM_out (by omega), e4, cpM_out (by omega), e3, mup_s]) ⟨rfl, rfl, rfl⟩ (fun t q1 q2 => ⟨by rw [e6, cpM_out (by omega), e5, cpM_out (by omega), e4, cpM_in ⟨q1, q2⟩, e3, mup_n (by omega)], by rw [e6, cpM_out (by omega), e5, cpM_in ⟨q1, q2⟩, e4, cpM_out (by omega), e3, mup_n (by omega)], by rw [e6, cpM_in ⟨q1, q2⟩, e5, cpM_out (by omega), e4, cpM_out (by omega), e3, mup_n (by omega)]⟩), ⟨fun x hx => by rw [e6, e5, e4, e3]; exact ((((hK2.1 x hx).tr (agr_M0 x (by omega))).tr (agr_cp x (by omega))).tr (agr_cp x (by omega))).tr (agr_cp x (by omega)), hK2.2⟩⟩) (Nat.le_of_ble_eq_true rfl) (Nat.le_of_ble_eq_true rfl)

