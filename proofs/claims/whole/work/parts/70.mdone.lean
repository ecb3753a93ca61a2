/-! ===== the model's writers: takes, corrections, kills, minutes ===== -/
theorem MLi.nq {G M : Mm} {a t k x hd : Int} {L : Fn} (h : MLi G M a L) (hx : ¬ x = -1) : MLi G (mup (mup M 1 (a + 1) t 1) 1 (a + 2) t x) a (enq L t k x hd) := by
  refine (h.on (t := t) (x := x) hx).ext ⟨?_, ?_, ?_, ?_⟩ (fun u q1 q2 => ⟨?_, ?_⟩)
  · unfold enq; rw [lup_n (by omega), lup_n (by omega), lup_n (by omega), lup_n (by omega), lup_n (by omega)]
  · unfold enq; rw [lup_n (by omega), lup_n (by omega), lup_n (by omega), lup_n (by omega), lup_n (by omega)]
  · unfold enq; rw [lup_n (by omega), lup_n (by omega), lup_n (by omega), lup_n (by omega), lup_n (by omega)]
  · unfold enq; rw [lup_n (by omega), lup_n (by omega), lup_n (by omega), lup_n (by omega), lup_n (by omega)]
  · unfold enq; rw [lup_n (i' := 0) (i := 4) (by omega), lup_n (i' := 0) (i := 2) (by omega), lup_n (i' := 0) (i := 1) (by omega)]
  · unfold enq; rw [lup_n (by omega), lup_n (by omega), lup_n (by omega), lup_n (by omega), lup_n (by omega)]
theorem MTa.kl {G M : Mm} {a x : Int} {T : Fn} (h : MTa G M a T) (hx : ¬ x = -1) : MTa G (mup M 0 229 a 1) a (lup T 1 7 x) := by
  obtain ⟨a1, a2, a3, ⟨b1, b2, b3, b4, b5, b6, b7, b8, b9⟩, a5⟩ := h
  refine ⟨a1, a2, a3, ⟨?_, ?_, ?_, ?_, ?_, ?_, ?_, ?_, ?_⟩, fun f q1 q2 q3 => ?_⟩
  · rw [mup_n (by omega), lup_n (by omega)]; exact b1
  · rw [mup_n (by omega), lup_n (by omega)]; exact b2
  · rw [mup_n (by omega), lup_n (by omega)]; exact b3
  · rw [mup_n (by omega), lup_n (by omega)]; exact b4
  · rw [mup_n (by omega), lup_n (by omega)]; exact b5
  · rw [mup_n (by omega), lup_n (by omega)]; exact b6
  · rw [mup_n (by omega), lup_n (by omega)]; exact b7
  · rw [mup_n (by omega), lup_n (by omega)]; exact b8
  · rw [mup_s, lup_s]; exact (bI_t hx).symm
  · rw [lup_n (by omega)] at q3 ⊢
    rw [mup_n (by omega)]; exact a5 f q1 q2 q3
theorem MTa.ext {G M : Mm} {a : Int} {T T' : Fn} (h : MTa G M a T) (h1 : T 1 0 = T' 1 0 ∧ T 1 1 = T' 1 1 ∧ T 1 2 = T' 1 2 ∧ T 1 5 = T' 1 5 ∧ T 1 3 = T' 1 3 ∧ T 1 4 = T' 1 4 ∧ T 1 6 = T' 1 6 ∧ T 1 8 = T' 1 8) (h7 : T 1 7 = T' 1 7) (h0 : ∀ f, 0 ≤ f → f < 4 → ¬ T' 0 f = -1 → T 0 f = T' 0 f) : MTa G M a T' := by
  obtain ⟨a1, a2, a3, ⟨b1, b2, b3, b4, b5, b6, b7, b8, b9⟩, a5⟩ := h
  obtain ⟨c1, c2, c3, c4, c5, c6, c7, c8⟩ := h1
  refine ⟨a1, a2, a3, ⟨b1.trans c1, b2.trans c2, b3.trans c3, b4.trans c4, b5.trans c5, b6.trans c6, b7.trans c7, b8.trans c8, by rw [b9, h7]⟩, fun f q1 q2 q3 => ?_⟩
  have z := h0 f q1 q2 q3
  rw [← z]
  exact a5 f q1 q2 (by rw [z]; exact q3)
section RMi
variable {G M G1 M1 : Mm} {Q : Int} {A : An} {D : Fn} {I : Int → Int}
theorem RM.its (h : RM G M Q A D I) {it : Int} (hi : it = G 4 0 0) (h4 : G1 4 0 0 = G 4 0 0 + 1) (hk : Kp G M G1 M1) : ∃ I1 : Int → Int, RM G1 M1 Q A D I1 ∧ (Q + 6 ≤ it ∧ I1 it = 9) := by
  have hq := h.q
  refine ⟨fun b => if b < it then I b else 9, (h.tg (fun b hb => if_pos (by omega))).kp hk, by omega, ?_⟩
  show (if it < it then I it else 9) = 9
  rw [if_neg (by omega)]
theorem RM.itl (h : RM G M Q A D I) {it l : Int} (hi : I it = 9) (hl : 0 ≤ l ∧ l < A 0 0 2) : it < D 5 l ∨ D 5 l + 3 < it := by
  have p := h.p.l l hl.1 hl.2
  apply Classical.byContradiction
  intro hc
  rcases (show it = D 5 l ∨ it = D 5 l + 1 ∨ it = D 5 l + 2 ∨ it = D 5 l + 3 by omega) with e | e | e | e <;> (rw [e] at hi; omega)
theorem RM.dj (h : RM G M Q A D I) {l : Int} (hl : 0 ≤ l ∧ l < A 0 0 2) : DJ (Q + 3) (A 0 0 1) (D 4) (D 5 l) := by
  have p := h.p.l l hl.1 hl.2
  have c3 := h.l3.2.2.2.2.2.2.1
  refine ⟨by omega, fun i q1 q2 => ?_⟩
  have z := h.p.t i q1 q2
  apply Classical.byContradiction
  intro hc
  rcases (show D 4 i = D 5 l - 1 ∨ D 4 i = D 5 l ∨ D 4 i = D 5 l + 1 ∨ D 4 i = D 5 l + 2 ∨ D 4 i = D 5 l + 3 by omega) with e | e | e | e | e
  · rw [e, show D 5 l - 1 + 1 = D 5 l by omega] at z; omega
  all_goals (rw [e] at z; omega)
end RMi
theorem IT.wr {G M M1 : Mm} {it q c lo hi : Int} (h : IT G M it q c) (hO : Ot lo hi M M1) (h1 : it < lo ∨ hi < it) (h2 : q < lo ∨ hi < q) : IT G M1 it q c :=
  h.o ⟨rfl, rfl, fun _ => rfl, fun _ => rfl, fun f => hO.f h1 f, fun j => hO.j h1 j⟩ (hO.f h2 _) (Int.le_refl _)
theorem aT_k {A : An} {t : Int} {T T' : Fn} (ht : t ≠ A 0 0 1) (h0 : 0 ≤ t) : aT (aup A (200 + t) T') T = aup (aT A T) (200 + t) T' := by
  funext j
  have e0 : aup A (200 + t) T' 0 = A 0 := aup_n (by omega)
  have r : aT (aup A (200 + t) T') T = aup (aup (aup A (200 + t) T') 0 (lup (A 0) 0 1 (A 0 0 1 + 1))) (200 + A 0 0 1) T := by unfold aT; rw [e0]
  rw [r]
  unfold aT
  by_cases e1 : j = 200 + A 0 0 1
  · rw [e1, aup_s, aup_n (by omega), aup_s]
  · rw [aup_n e1]
    by_cases e2 : j = 200 + t
    · rw [e2, aup_n (by omega), aup_s, aup_s]
    · by_cases e3 : j = 0
      · rw [e3, aup_s, aup_n (by omega), aup_n (by omega), aup_s]
      · rw [aup_n e3, aup_n e2, aup_n e2, aup_n e1, aup_n e3]
set_option maxHeartbeats 4000000 in
set_option maxRecDepth 100000 in
theorem m_add {X : Xv} {G M : Mm} {Q : Int} {A : An} {D : Fn} {I : Int → Int} (hM : RM G M Q A D I) (hA : AB A) {Ga Ma : Mm} (hK0 : Kp G M Ga Ma) {x : Int} {T : Fn} (hx9 : G 4 0 0 ≤ x ∧ x + 1 < Ga 4 0 0) (hT : MTa Ga Ma x T) (hn60 : A 0 0 1 < 60) (hw9 : 0 < T 1 3 ∧ T 1 3 ≤ 200) : CT X yX10_add prog_8_method_30_code 4 (none) 7 176 2 104 [vR Q, vR x] Ga Ma (PU (fun G1 M1 => Fq Q G M G1 M1 ∧ ∃ D1 I1, RM G1 M1 Q (aRun (aT A T) (A 0 0 1)) D1 I1)) := by
  refine CT.by (by decide +kernel) [1, 1] ⟨cat_vR _, cat_vR _, trivial⟩ (Nat.le_of_ble_eq_true rfl) (fun E hX C hR hIni => ?_)
  have hn := hA.n
  have hnS := hA.so.c
  have hq9 := hM.q
  have hMa := hM.kp hK0
  have hz9 := hK0.2
  refine pw_aload_n C dX10_add_0 rfl ?_
  refine pw_getR C dX10_add_1 fl_X10_19 hMa.k rfl hMa.r3 ?_
  refine pw_aload_n C dX10_add_4 rfl ?_
  refine pw_cVI C hX dX10_add_5 ml_X10_109 mc_Jx4a65c_add_9ea2d (c_add hMa.l3 (by omega) (fun j q1 q2 => by rw [hMa.e3 j q1 q2]; have z := (hMa.p.t j q1 q2).1; exact okT (by omega) (hMa.ta j q1 q2).1) (v := x) (okT (by omega) hT.1) (by omega)) kc_2 hMa.l3.k rfl rfl ⟨Nat.le_of_ble_eq_true rfl, Nat.le_of_ble_eq_true rfl⟩ (Nat.le_of_ble_eq_true rfl) (by show 0 + 1 ≤ 2 ∧ 0 + 100 ≤ 104; omega) (fun r_ G5 M5 hq_ => ?_)
  obtain ⟨rfl, hadd⟩ := hq_
  obtain ⟨D9, I9, hM9, hF9, hD9⟩ := hM.addT hA hn60 hx9 hK0 hT hadd
  clear hadd
  have hc2 : aT A T 0 0 2 = A 0 0 2 := by rw [aT_0 (by omega), if_neg (by omega)]
  have hc1 : aT A T 0 0 1 = A 0 0 1 + 1 := by rw [aT_0 (by omega), if_pos rfl]
  have ef : ∀ L, runF (aT A T) (A 0 0 1) L = enq L (A 0 0 1) (T 1 1) (T 1 3) (T 1 4) := fun L => by unfold runF; rw [aT_t]
  refine pw_pop C dX10_add_8 rfl ?_
  refine pw_aload_n C dX10_add_9 rfl ?_
  refine pw_getR C dX10_add_10 fl_X10_22 hM9.k rfl hM9.r4 ?_
  have hLi := hM9.l4
  have hqi := hM9.q
  refine pw_cVQ C hX dX10_add_13 ml_X10_139 mc_Jx4a65c_iterator_32c93 (c_iterator hLi) kc_2 hLi.k rfl rfl ⟨Nat.le_of_ble_eq_true rfl, Nat.le_of_ble_eq_true rfl⟩ (Nat.le_of_ble_eq_true rfl) (by show 1 + 1 ≤ 2 ∧ 100 + 4 ≤ 104; omega) (fun it G6 M6 hq_ => ?_)
  obtain ⟨hit_, hI6, hT6, hk6⟩ := hq_
  obtain ⟨Ii, hMi, hi9⟩ := hM9.its hit_ hT6 hk6
  have hF6 : Fq Q G M G6 M6 := hF9.tr (hk6.fq (by omega))
  clear hk6 hT6 hLi hit_
  refine pw_astore_n C dX10_add_16 (Nat.le_of_ble_eq_true rfl) rfl ?_
  suffices K_17 : ∀ (nn_17 : Nat) (Md : Mm) (c : Int), (0 ≤ c ∧ c ≤ A 0 0 2) → (IT G6 Md it (Q + 4) c) → (RM G6 Md Q (onL (aT A T) c (runF (aT A T) (A 0 0 1))) D9 Ii) → (Fq Q G M G6 Md) → A 0 0 2 - c < (nn_17 : Int) → PW E G6 Md (1 + 1) (100 + 4) 17 [(0, 1, vR Q), (1, 1, vR x), (2, 1, vR it)] [] from pw_locs (by exact ⟨rfl, cat_vR _, rfl, cat_vR _, rfl, cat_vR _, trivial⟩) (K_17 (A 0 0 2 - 0 + 1 : Int).toNat  M6 0 (by omega) (by first | exact hI6 | omega) (by first | exact (by rw [onL_0]; exact hMi) | omega) (by first | exact hF6 | omega) (by omega))
  intro nn_17
  induction nn_17 with
  | zero => intro Md c hc_ hI_ hRd hFd h_m17; exact absurd h_m17 (by omega)
  | succ nn_17 ih_17 =>
    intro Md c hc_ hI_ hRd hFd h_m17
    have hLd : AL G6 Md (Q + 4) (A 0 0 2) (D9 0 4) := by have q := hRd.l4; rw [onL_n (by omega), hc2] at q; exact q
    refine pw_aload_n C dX10_add_17 rfl ?_
    refine pw_cFE C hX dX10_add_18 (List.mem_of_getElem? (i := 1251) (by decide +kernel)) mf_Jx35411_hasNext_aae02 (c_hasNext hLd hI_ (by omega)) kc_1 hI_.k rfl rfl ⟨Nat.le_of_ble_eq_true rfl, Nat.le_of_ble_eq_true rfl⟩ (Nat.le_of_ble_eq_true rfl) (by show (1 + 1) + 0 ≤ 2 ∧ (100 + 4) + 0 ≤ 104; omega) ?_
    refine pw_ifB_eq (tgt := 56) C dX10_add_23 (by decide) (fun c_23 => ?_) (fun c_23 => ?_)
    · skip
      exact pw_vret C hR dX10_add_56 (⟨rfl, hFd, D9, Ii, by unfold aRun; rw [hc2, show A 0 0 2 = c by omega]; exact hRd⟩) (by show _ ≤ 2; omega) (by show _ ≤ 104; omega)
    · skip
      refine pw_aload_n C dX10_add_26 rfl ?_
      refine pw_cFQ C hX dX10_add_27 (List.mem_of_getElem? (i := 1261) (by decide +kernel)) mf_Jx35411_next_0502b (c_next hLd hI_ (by omega)) kc_1 hI_.k rfl rfl ⟨Nat.le_of_ble_eq_true rfl, Nat.le_of_ble_eq_true rfl⟩ (Nat.le_of_ble_eq_true rfl) (by show (1 + 1) + 0 ≤ 2 ∧ (100 + 4) + 0 ≤ 104; omega) (fun r_ G6 Mx hq_ => ?_)
      obtain ⟨rfl, rfl, hx_⟩ := hq_
      have hcn : c < (onL (aT A T) c (runF (aT A T) (A 0 0 1))) 0 0 2 := by rw [onL_n (by omega), hc2]; omega
      rw [hRd.e4 c (by omega) hcn]
      have hOx : Ot it it Md Mx := by rw [hx_]; exact (Ot.rf.u0 (by omega)).u0 (by omega)
      have hIx := hI_.nx (by omega)
      rw [← hx_] at hIx
      have hRx := hRd.uI hi9 hOx
      have hFx := hFd.wr hOx hi9.1
      clear hx_ hOx hI_
      have hLc : MLi G6 Mx (D9 5 c) (A (20 + c)) := by have q := hRx.li c (by omega) hcn; rw [onL_n (by omega), aT_o (by omega) (by omega)] at q; exact q
      have hlo := (hRx.p.l c (by omega) hcn).1.1
      have hit := hRx.itl hi9.2 (l := c) ⟨by omega, hcn⟩
      refine pw_cast (Cn := "SlugwireModel$Line") C dX10_add_32 (List.mem_of_getElem? (i := 1067) (by decide +kernel)) (by rw [hLc.1]; exact kc_10) ?_
      refine pw_astore_n C dX10_add_35 (Nat.le_of_ble_eq_true rfl) rfl ?_
      refine pw_aload_n C dX10_add_36 rfl ?_
      refine pw_aload_n C dX10_add_37 rfl ?_
      refine pw_getR C dX10_add_38 fl_X10_19 hRx.k rfl hRx.r3 ?_
      have hL3 : AL G6 Mx (Q + 3) (A 0 0 1 + 1) (D9 0 3) := by have q := hRx.l3; rw [onL_n (by omega), hc1] at q; exact q
      refine pw_cVE C hX dX10_add_41 ml_X10_33 mc_Jx4a65c_size_8abf5 (c_size hL3) kc_2 hL3.k rfl rfl ⟨Nat.le_of_ble_eq_true rfl, Nat.le_of_ble_eq_true rfl⟩ (Nat.le_of_ble_eq_true rfl) (by show (1 + 1) + 0 ≤ 2 ∧ (100 + 4) + 0 ≤ 104; omega) ?_
      refine pw_iconst C dX10_add_44 ?_
      refine pw_isub C dX10_add_45 ?_
      refine pw_aload_n C dX10_add_46 rfl ?_
      have hTx : MTa G6 Mx x T := by have q := hRx.ta (A 0 0 1) (by omega) (by rw [onL_n (by omega), hc1]; omega); rw [onL_n (by omega), aT_t, hD9] at q; exact q
      refine pw_getE C dX10_add_47 fl_X10_153 rfl hTx.1 hTx.2.2.2.1.2.2.2.2.1 ?_
      refine pw_cVU C hX dX10_add_50 ml_X10_158 mc_X7_run (m_run hLc (t := ((A 0 0 1 + 1) - 1)) (x := (T 1 3)) (by omega)) kc_10 hLc.1 rfl rfl ⟨Nat.le_of_ble_eq_true rfl, Nat.le_of_ble_eq_true rfl⟩ (Nat.le_of_ble_eq_true rfl) (by show (1 + 1) + 0 ≤ 2 ∧ (100 + 4) + 0 ≤ 104; omega) (fun G6 M2 hq_ => ?_)
      obtain ⟨rfl, e2⟩ := hq_
      rw [show ((A 0 0 1 + 1) - 1) = A 0 0 1 by omega] at e2
      have hO2 : Ot (D9 5 c) (D9 5 c + 3) Mx M2 := by rw [e2]; exact (Ot.rf.u1 (by omega)).u1 (by omega)
      have hL2 : MLi G6 M2 (D9 5 c) (runF (aT A T) (A 0 0 1) (aT A T (20 + c))) := by rw [e2, ef, aT_o (by omega) (by omega)]; exact hLc.nq (by omega)
      have hR2 : RM G6 M2 Q (onL (aT A T) (c + 1) (runF (aT A T) (A 0 0 1))) D9 Ii := by
        have q := hRx.uL (l := c) ⟨by omega, hcn, by omega⟩ hL2 hO2
        rw [onL_1 (by omega)] at q
        exact q
      have hI2 := hIx.wr hO2 hit (by omega)
      have hF2 := hFx.wr hO2 hlo
      clear hL2 hO2
      refine pw_goto (tgt := 17) C dX10_add_53 (by decide) ?_
      exact pw_locs (by exact ⟨rfl, cat_vR _, rfl, cat_vR _, rfl, cat_vR _, trivial⟩) (ih_17  M2 (c + 1) (by omega) (hI2) (hR2) (hF2) (by omega))

set_option maxHeartbeats 4000000 in
set_option maxRecDepth 100000 in
theorem m_file {X : Xv} {G M : Mm} {Q : Int} {A : An} {D : Fn} {I : Int → Int} (hM : RM G M Q A D I) (hA : AB A) (hW : WF A) (hB : BK A) {s k set g hd : Int} (r_s : -2147483648 ≤ s ∧ s ≤ 2147483647) (r_k : -2147483648 ≤ k ∧ k ≤ 2147483647) (r_set : -2147483648 ≤ set ∧ set ≤ 2147483647) (r_hd : -2147483648 ≤ hd ∧ hd ≤ 2147483647) (z_g : g = 0 ∨ g = 1) : CT X yX10_file prog_8_method_31_code 9 (some .int) 8 199 4 118 [vR Q, vI s, vI k, vI set, vI g, vI hd] G M (PI (fun r G1 M1 => Fq Q G (mup M 0 240 Q (cd3 (0 ≤ s ∧ s < A 0 0 0) ((k = 0 ∨ k = 3 ∨ k = 4) ∧ (1 ≤ set ∧ set ≤ 15) ∧ 0 ≤ hd ∧ hd ≤ 9999) (A 0 0 1 < 60))) G1 M1 ∧ (cd3 (0 ≤ s ∧ s < A 0 0 0) ((k = 0 ∨ k = 3 ∨ k = 4) ∧ (1 ≤ set ∧ set ≤ 15) ∧ 0 ≤ hd ∧ hd ≤ 9999) (A 0 0 1 < 60) = 0 → r = (if ¬ hv A s set g = 4 then -2 else if k = 0 ∧ ¬ bc set = 1 then -3 else A 0 0 1)) ∧ ∃ D1 I1, RM G1 M1 Q (if cd3 (0 ≤ s ∧ s < A 0 0 0) ((k = 0 ∨ k = 3 ∨ k = 4) ∧ (1 ≤ set ∧ set ≤ 15) ∧ 0 ≤ hd ∧ hd ≤ 9999) (A 0 0 1 < 60) = 0 then (if ¬ hv A s set g = 4 then A else if k = 0 ∧ ¬ bc set = 1 then A else aFil A s k set g hd (-1)) else A) D1 I1)) := by
  refine CT.by (by decide +kernel) [1, 1, 1, 1, 1, 1] ⟨cat_vR _, cat_vI _, cat_vI _, cat_vI _, cat_vI _, cat_vI _, trivial⟩ (Nat.le_of_ble_eq_true rfl) (fun E hX C hR hIni => ?_)
  have hn := hA.n
  have hnS := hA.so.c
  refine pw_aload_n C dX10_file_0 rfl ?_
  refine pw_aload_n C dX10_file_1 rfl ?_
  refine pw_iload_n C dX10_file_2 rfl ?_
  refine pw_cVE C hX dX10_file_3 ml_X10_41 mc_X10_isNoStory (m_isNoStory hM hA (i := s) (by omega)) kc_13 hM.k rfl rfl ⟨Nat.le_of_ble_eq_true rfl, Nat.le_of_ble_eq_true rfl⟩ (Nat.le_of_ble_eq_true rfl) (by show 0 + 0 ≤ 4 ∧ 0 + 0 ≤ 118; omega) ?_
  refine pw_iconst C dX10_file_6 ?_
  by_cases cz_7 : ¬ (0 ≤ s ∧ s < A 0 0 0)
  · skip
    rw [bI_t cz_7]
    refine pw_cVI C hX dX10_file_7 ml_X10_103 mc_X10_start (m_start hM hA (z := 1) (w := 1) (by omega) (by omega)) kc_13 hM.k rfl rfl ⟨Nat.le_of_ble_eq_true rfl, Nat.le_of_ble_eq_true rfl⟩ (Nat.le_of_ble_eq_true rfl) (by show 0 + 0 ≤ 4 ∧ 0 + 0 ≤ 118; omega) (fun r_ G M1 hq_ => ?_)
    obtain ⟨rfl, rfl, e1⟩ := hq_
    rw [if_neg (by decide)] at e1
    have hMn : RM G M1 Q A D I := by rw [e1]; exact hM.th
    clear hM
    have hM := hMn
    clear hMn
    have hK1 : Kp G M1 G M1 := Kp.rf
    refine pw_ifL_ne (tgt := 87) C dX10_file_10 (by decide) rfl ?_
    refine pw_iconst C dX10_file_87 ?_
    exact pw_iret C hR dX10_file_88 ((by have hcd : cd3 (0 ≤ s ∧ s < A 0 0 0) ((k = 0 ∨ k = 3 ∨ k = 4) ∧ (1 ≤ set ∧ set ≤ 15) ∧ 0 ≤ hd ∧ hd ≤ 9999) (A 0 0 1 < 60) = 1 := (by unfold cd3; first | (exfalso; omega) | rw [if_pos (by omega)] | rw [if_neg (by omega), if_pos (by omega)] | rw [if_neg (by omega), if_neg (by omega), if_pos (by omega)] | rw [if_neg (by omega), if_neg (by omega), if_neg (by omega)]); exact ⟨_, rfl, by rw [hcd, ← e1]; exact Fq.rf, fun h => absurd (hcd.symm.trans h) (by decide), D, I, by rw [if_neg (fun h => absurd (hcd.symm.trans h) (by decide))]; exact hM⟩)) (by show _ ≤ 4; omega) (by show _ ≤ 118; omega)
  · skip
    rw [bI_f cz_7]
    refine pw_cVI C hX dX10_file_7 ml_X10_103 mc_X10_start (m_start hM hA (z := 0) (w := 1) (by omega) (by omega)) kc_13 hM.k rfl rfl ⟨Nat.le_of_ble_eq_true rfl, Nat.le_of_ble_eq_true rfl⟩ (Nat.le_of_ble_eq_true rfl) (by show 0 + 0 ≤ 4 ∧ 0 + 0 ≤ 118; omega) (fun r_ G M2 hq_ => ?_)
    obtain ⟨rfl, rfl, e2⟩ := hq_
    rw [if_pos rfl] at e2
    have hMn : RM G M2 Q A D I := by rw [e2]; exact hM.th
    clear hM
    have hM := hMn
    clear hMn
    have hK2 : Kp G M2 G M2 := Kp.rf
    refine pw_ifL_nen (tgt := 87) C dX10_file_10 (by decide) rfl ?_
    refine pw_aload_n C dX10_file_13 rfl ?_
    refine pw_iload_n C dX10_file_14 rfl ?_
    refine pw_if_eq (tgt := 28) C dX10_file_15 (by decide) (by omega) (fun c_15 => ?_) (fun c_15 => ?_)
    · skip
      refine pw_iload_n C dX10_file_28 rfl ?_
      refine pw_iconst C dX10_file_29 ?_
      refine pw_bipush C dX10_file_30 rfl ?_
      refine pw_cSE C hX dX10_file_32 ml_X10_37 mc_X10_isIn (m_isIn (v := set) (lo := 1) (hi := 15) (by omega) (by omega) (by omega)) rfl rfl ⟨Nat.le_of_ble_eq_true rfl, Nat.le_of_ble_eq_true rfl⟩ (Nat.le_of_ble_eq_true rfl) (by show 0 + 0 ≤ 4 ∧ 0 + 0 ≤ 118; omega) ?_
      refine pw_ifB_eq (tgt := 50) C dX10_file_35 (by decide) (fun c_35 => ?_) (fun c_35 => ?_)
      · skip
        refine pw_iconst C dX10_file_50 ?_
        refine pw_goto (tgt := 55) C dX10_file_51 (by decide) ?_
        refine pw_iconst C dX10_file_55 ?_
        refine pw_cVI C hX dX10_file_56 ml_X10_29 mc_X10_refuse (m_refuse hM hA (z := 1) (w := 2) (by omega) (by omega) (by rw [e2, mup_s])) kc_13 hM.k rfl rfl ⟨Nat.le_of_ble_eq_true rfl, Nat.le_of_ble_eq_true rfl⟩ (Nat.le_of_ble_eq_true rfl) (by show 0 + 0 ≤ 4 ∧ 0 + 0 ≤ 118; omega) (fun r_ G M3 hq_ => ?_)
        obtain ⟨rfl, rfl, e3⟩ := hq_
        rw [if_neg (by decide)] at e3
        have hMn : RM G M3 Q A D I := by rw [e3]; exact hM.th
        rw [e2, mup_mup] at e3
        clear hM
        have hM := hMn
        clear hMn
        have hK3 : Kp G M3 G M3 := Kp.rf
        refine pw_ifL_ne (tgt := 87) C dX10_file_59 (by decide) rfl ?_
        refine pw_iconst C dX10_file_87 ?_
        exact pw_iret C hR dX10_file_88 ((by have hcd : cd3 (0 ≤ s ∧ s < A 0 0 0) ((k = 0 ∨ k = 3 ∨ k = 4) ∧ (1 ≤ set ∧ set ≤ 15) ∧ 0 ≤ hd ∧ hd ≤ 9999) (A 0 0 1 < 60) = 2 := (by unfold cd3; first | (exfalso; omega) | rw [if_pos (by omega)] | rw [if_neg (by omega), if_pos (by omega)] | rw [if_neg (by omega), if_neg (by omega), if_pos (by omega)] | rw [if_neg (by omega), if_neg (by omega), if_neg (by omega)]); exact ⟨_, rfl, by rw [hcd, ← e3]; exact Fq.rf, fun h => absurd (hcd.symm.trans h) (by decide), D, I, by rw [if_neg (fun h => absurd (hcd.symm.trans h) (by decide))]; exact hM⟩)) (by show _ ≤ 4; omega) (by show _ ≤ 118; omega)
      · skip
        refine pw_iload C dX10_file_38 rfl ?_
        refine pw_iconst C dX10_file_40 ?_
        refine pw_sipush C dX10_file_41 rfl ?_
        refine pw_cSE C hX dX10_file_44 ml_X10_37 mc_X10_isIn (m_isIn (v := hd) (lo := 0) (hi := 9999) (by omega) (by omega) (by omega)) rfl rfl ⟨Nat.le_of_ble_eq_true rfl, Nat.le_of_ble_eq_true rfl⟩ (Nat.le_of_ble_eq_true rfl) (by show 0 + 0 ≤ 4 ∧ 0 + 0 ≤ 118; omega) ?_
        refine pw_ifB_ne (tgt := 54) C dX10_file_47 (by decide) (fun c_47 => ?_) (fun c_47 => ?_)
        · skip
          refine pw_iconst C dX10_file_54 ?_
          refine pw_iconst C dX10_file_55 ?_
          refine pw_cVI C hX dX10_file_56 ml_X10_29 mc_X10_refuse (m_refuse hM hA (z := 0) (w := 2) (by omega) (by omega) (by rw [e2, mup_s])) kc_13 hM.k rfl rfl ⟨Nat.le_of_ble_eq_true rfl, Nat.le_of_ble_eq_true rfl⟩ (Nat.le_of_ble_eq_true rfl) (by show 0 + 0 ≤ 4 ∧ 0 + 0 ≤ 118; omega) (fun r_ G M4 hq_ => ?_)
          obtain ⟨rfl, rfl, e4⟩ := hq_
          rw [if_pos rfl] at e4
          have hMn : RM G M4 Q A D I := by rw [e4]; exact hM.th
          rw [e2, mup_mup] at e4
          clear hM
          have hM := hMn
          clear hMn
          have hK4 : Kp G M4 G M4 := Kp.rf
          refine pw_ifL_nen (tgt := 87) C dX10_file_59 (by decide) rfl ?_
          refine pw_aload_n C dX10_file_62 rfl ?_
          refine pw_aload_n C dX10_file_63 rfl ?_
          refine pw_getR C dX10_file_64 fl_X10_19 hM.k rfl hM.r3 ?_
          refine pw_cVE C hX dX10_file_67 ml_X10_33 mc_Jx4a65c_size_8abf5 (c_size hM.l3) kc_2 hM.l3.k rfl rfl ⟨Nat.le_of_ble_eq_true rfl, Nat.le_of_ble_eq_true rfl⟩ (Nat.le_of_ble_eq_true rfl) (by show 0 + 0 ≤ 4 ∧ 0 + 0 ≤ 118; omega) ?_
          refine pw_bipush C dX10_file_70 rfl ?_
          refine pw_icmp_ne (tgt := 79) C dX10_file_72 (by decide) (by omega) (fun c_72 => ?_) (fun c_72 => ?_)
          · skip
            refine pw_iconst C dX10_file_79 ?_
            refine pw_iconst C dX10_file_80 ?_
            refine pw_cVI C hX dX10_file_81 ml_X10_29 mc_X10_refuse (m_refuse hM hA (z := 0) (w := 3) (by omega) (by omega) (by rw [e4, mup_s])) kc_13 hM.k rfl rfl ⟨Nat.le_of_ble_eq_true rfl, Nat.le_of_ble_eq_true rfl⟩ (Nat.le_of_ble_eq_true rfl) (by show 0 + 0 ≤ 4 ∧ 0 + 0 ≤ 118; omega) (fun r_ G M5 hq_ => ?_)
            obtain ⟨rfl, rfl, e5⟩ := hq_
            rw [if_pos rfl] at e5
            have hMn : RM G M5 Q A D I := by rw [e5]; exact hM.th
            rw [e4, mup_mup] at e5
            clear hM
            have hM := hMn
            clear hMn
            have hK5 : Kp G M5 G M5 := Kp.rf
            refine pw_ifL_eq (tgt := 89) C dX10_file_84 (by decide) rfl ?_
            refine pw_iload_n C dX10_file_89 rfl ?_
            refine pw_cSE C hX dX10_file_90 ml_X10_65 mc_J6_bitCount_0f7a4 (c_bitCount (x := set) (by omega)) rfl rfl ⟨Nat.le_of_ble_eq_true rfl, Nat.le_of_ble_eq_true rfl⟩ (Nat.le_of_ble_eq_true rfl) (by show 0 + 0 ≤ 4 ∧ 0 + 0 ≤ 118; omega) ?_
            refine pw_istore C dX10_file_93 (Nat.le_of_ble_eq_true rfl) rfl ?_
            have bbc := bc_bd set
            refine pw_new C dX10_file_95 nl_X10_154 (Nat.le_of_ble_eq_true rfl) (Nat.le_of_ble_eq_true rfl) ?_
            have hKn : Kp G M5 (nG G 12 0) (nM G M5) := Kp.rf.new
            have hn0 : nG G 12 0 0 (G 4 0 0) 0 = 12 := nG_kind
            have hn4 : nG G 12 0 4 0 0 = G 4 0 0 + 1 := nG_next
            have hnz : ∀ f, nM G M5 0 f (G 4 0 0) = 0 := fun f => nM_fld
            have hq9 := hM.q
            obtain ⟨x, ex⟩ : ∃ x, G 4 0 0 = x := ⟨_, rfl⟩
            rw [ex] at hn0 hn4 hnz hq9 ⊢
            generalize nG G 12 0 = Gn at hKn hn0 hn4 ⊢
            generalize nM G M5 = Mn at hKn hnz ⊢
            have hMn := hM.kp hKn
            refine pw_dup C dX10_file_98 (cat_vR _) ?_
            refine pw_iload_n C dX10_file_99 rfl ?_
            refine pw_iload_n C dX10_file_100 rfl ?_
            refine pw_iload_n C dX10_file_101 rfl ?_
            refine pw_iload C dX10_file_102 rfl ?_
            refine pw_iload_n C dX10_file_104 rfl ?_
            refine pw_iload C dX10_file_105 rfl ?_
            refine pw_cSEw C hX dX10_file_107 ml_X10_161 mc_X10_words (m_words (k := k) (n := (bc set)) (by omega) (by omega)) rfl rfl ⟨Nat.le_of_ble_eq_true rfl, Nat.le_of_ble_eq_true rfl⟩ (cat6 rfl rfl rfl rfl (cat_vR _) (cat_vR _)) (by show 1 + 0 ≤ 4 ∧ 10 + 0 ≤ 118; omega) ?_
            refine pw_iload C dX10_file_110 rfl ?_
            refine pw_iconst C dX10_file_112 ?_
            refine pw_aload_n C dX10_file_113 rfl ?_
            refine pw_getE C dX10_file_114 fl_X10_130 rfl hMn.k hMn.w ?_
            refine pw_cIU C hX dX10_file_117 ml_X10_163 mc_X9_init (m_takeInit (a := x) (s := s) (k := k) (set := set) (g := g) (wd := (if k = 0 then 8 else if k = 3 then 20 + 15 * (bc set) else 60 + 30 * (bc set))) (hd := hd) (of := (-1)) (fd := A 0 0 3) (by omega) hn0 hn4 hnz (by omega)) (by omega) rfl rfl ⟨Nat.le_of_ble_eq_true rfl, Nat.le_of_ble_eq_true rfl⟩ (Nat.le_of_ble_eq_true rfl) (by show 1 + 1 ≤ 4 ∧ 10 + 4 ≤ 118; omega) (fun G2 M2 hq_ => ?_)
            obtain ⟨hTm, h24, ho2⟩ := hq_
            have hK2 : Kp G M5 G2 M2 := ⟨fun b hb => (hKn.1 b hb).tr (ho2 b (by omega)), by omega⟩
            have hM2 := hM.kp hK2
            clear ho2 hKn hn0 hn4 hnz hMn
            refine pw_astore C dX10_file_120 (Nat.le_of_ble_eq_true rfl) rfl ?_
            refine pw_iconst C dX10_file_122 ?_
            refine pw_istore C dX10_file_123 (Nat.le_of_ble_eq_true rfl) rfl ?_
            suffices K_125 : ∀ (nn_125 : Nat) (f : Int) (Mc : Mm) (Tc : Fn), (0 ≤ f ∧ f ≤ 4) → (Kp G M5 G2 Mc) → (MTa G2 Mc x Tc) → (∀ j, Tc 1 j = (Tmk s k set g (if k = 0 then 8 else if k = 3 then 20 + 15 * (bc set) else 60 + 30 * (bc set)) hd (-1) (A 0 0 3)) 1 j) → (∀ j, 0 ≤ j → j < f → ins set j → Tc 0 j = vtf A g (s * 4 + j)) → (fnd (fun f => ins set f ∧ vtf A g (s * 4 + f) = -1) f 4 = hv A s set g) → 4 - f < (nn_125 : Int) → PW E G2 Mc 2 14 125 [(0, 1, vR Q), (1, 1, vI s), (2, 1, vI k), (3, 1, vI set), (4, 1, vI g), (5, 1, vI hd), (6, 1, vI (bc set)), (7, 1, vR x), (8, 1, vI f)] [] from pw_locs (by exact ⟨rfl, cat_vR _, rfl, rfl, rfl, rfl, rfl, rfl, rfl, rfl, rfl, rfl, rfl, rfl, rfl, cat_vR _, rfl, rfl, trivial⟩) (K_125 (4 - 0 + 1 : Int).toNat 0 M2 (Tmk s k set g (if k = 0 then 8 else if k = 3 then 20 + 15 * (bc set) else 60 + 30 * (bc set)) hd (-1) (A 0 0 3)) (by omega) (by first | exact hK2 | omega) (by first | exact hTm | omega) (by first | exact fun j => rfl | omega) (by first | exact fun j q1 q2 => by omega | omega) (by first | exact rfl | omega) (by omega))
            intro nn_125
            induction nn_125 with
            | zero => intro f Mc Tc h1 hKc hTc ht1 htv hf h_m125; exact absurd h_m125 (by omega)
            | succ nn_125 ih_125 =>
              intro f Mc Tc h1 hKc hTc ht1 htv hf h_m125
              have hMc := hM.kp hKc
              refine pw_iload C dX10_file_125 rfl ?_
              refine pw_iconst C dX10_file_127 ?_
              refine pw_icmp_ge (tgt := 202) C dX10_file_128 (by decide) (by omega) (fun c_128 => ?_) (fun c_128 => ?_)
              · skip
                have hv4 : hv A s set g = 4 := by rw [← fnd_no (by omega) hf]; omega
                refine pw_iload_n C dX10_file_202 rfl ?_
                refine pw_if_ne (tgt := 215) C dX10_file_203 (by decide) (by omega) (fun c_203 => ?_) (fun c_203 => ?_)
                · skip
                  refine pw_aload_n C dX10_file_215 rfl ?_
                  refine pw_aload C dX10_file_216 rfl ?_
                  have hno : ¬ (k = 0 ∧ ¬ bc set = 1) := by omega
                  have zT := nT_1 (A := A) (s := s) (k := k) (set := set) (g := g) (hd := hd) (tg := -1)
                  have b7 := hB.2.1 (A 0 0 1) (Int.le_refl _) (by omega)
                  have hwd : (if k = 0 then 8 else if k = 3 then 20 + 15 * (bc set) else 60 + 30 * (bc set)) = wdf k (bc set) := by unfold wdf; rcases (show k = 0 ∨ k = 3 ∨ k = 4 by omega) with e | e | e <;> (subst e; rfl)
                  have bwd := wdf_bd (k := k) (set := set) (by omega) (by omega)
                  have bwp := wdf_pos (k := k) (n := bc set) (by omega) (by omega)
                  have hTn : MTa G2 Mc x (nT A s k set g hd (-1)) := by
                    refine hTc.ext ⟨?_, ?_, ?_, ?_, ?_, ?_, ?_, ?_⟩ ?_ (fun j q1 q2 q3 => ?_)
                    · rw [ht1, zT.1]; rfl
                    · rw [ht1, zT.2.1]; rfl
                    · rw [ht1, zT.2.2.1]; rfl
                    · rw [ht1, zT.2.2.2.2.2.1]; rfl
                    · rw [ht1, zT.2.2.2.1]; exact hwd
                    · rw [ht1, zT.2.2.2.2.1]; rfl
                    · rw [ht1, zT.2.2.2.2.2.2.1]; rfl
                    · rw [ht1, zT.2.2.2.2.2.2.2.2]; rfl
                    · rw [ht1, zT.2.2.2.2.2.2.2.1, b7]; rfl
                    · rw [nT_0] at q3 ⊢
                      by_cases hj : ins set j
                      · rw [if_pos hj]; exact htv j q1 (by omega) hj
                      · rw [if_neg hj] at q3; exact absurd rfl q3
                  refine pw_cVU C hX dX10_file_218 ml_X10_175 mc_X10_add (m_add hM hA hKc (by omega) hTn (by omega) (by rw [zT.2.2.2.1]; omega)) kc_13 hMc.k rfl rfl ⟨Nat.le_of_ble_eq_true rfl, Nat.le_of_ble_eq_true rfl⟩ (Nat.le_of_ble_eq_true rfl) (by show 2 + 2 ≤ 4 ∧ 14 + 104 ≤ 118; omega) (fun G9 M9 hq_ => ?_)
                  obtain ⟨hFa, D9, I9, hMa⟩ := hq_
                  have hc9 : aRun (aT A (nT A s k set g hd (-1))) (A 0 0 1) 0 0 1 = A 0 0 1 + 1 := by unfold aRun; rw [onL_n (by rw [aT_0 (by omega), if_neg (by omega)]; omega), aT_0 (by omega), if_pos rfl]
                  refine pw_aload_n C dX10_file_221 rfl ?_
                  refine pw_getR C dX10_file_222 fl_X10_19 hMa.k rfl hMa.r3 ?_
                  have hLz := hMa.l3
                  rw [hc9] at hLz
                  refine pw_cVE C hX dX10_file_225 ml_X10_33 mc_Jx4a65c_size_8abf5 (c_size hLz) kc_2 hMa.l3.k rfl rfl ⟨Nat.le_of_ble_eq_true rfl, Nat.le_of_ble_eq_true rfl⟩ (Nat.le_of_ble_eq_true rfl) (by show 4 + 0 ≤ 4 ∧ 118 + 0 ≤ 118; omega) ?_
                  refine pw_iconst C dX10_file_228 ?_
                  refine pw_isub C dX10_file_229 ?_
                  exact pw_iret C hR dX10_file_230 ((by have hcd : cd3 (0 ≤ s ∧ s < A 0 0 0) ((k = 0 ∨ k = 3 ∨ k = 4) ∧ (1 ≤ set ∧ set ≤ 15) ∧ 0 ≤ hd ∧ hd ≤ 9999) (A 0 0 1 < 60) = 0 := (by unfold cd3; first | (exfalso; omega) | rw [if_pos (by omega)] | rw [if_neg (by omega), if_pos (by omega)] | rw [if_neg (by omega), if_neg (by omega), if_pos (by omega)] | rw [if_neg (by omega), if_neg (by omega), if_neg (by omega)]); exact ⟨_, rfl, by rw [hcd, ← e5]; exact hFa, fun _ => by rw [if_neg (fun q => q hv4), if_neg hno]; omega, _, _, by rw [if_pos hcd]; exact (by rw [if_neg (fun q => q hv4), if_neg hno]; exact hMa)⟩)) (by omega) (by omega)
                · skip
                  refine pw_iload C dX10_file_206 rfl ?_
                  refine pw_iconst C dX10_file_208 ?_
                  refine pw_icmp_eq (tgt := 215) C dX10_file_209 (by decide) (by omega) (fun c_209 => ?_) (fun c_209 => ?_)
                  · skip
                    refine pw_aload_n C dX10_file_215 rfl ?_
                    refine pw_aload C dX10_file_216 rfl ?_
                    have hno : ¬ (k = 0 ∧ ¬ bc set = 1) := by omega
                    have zT := nT_1 (A := A) (s := s) (k := k) (set := set) (g := g) (hd := hd) (tg := -1)
                    have b7 := hB.2.1 (A 0 0 1) (Int.le_refl _) (by omega)
                    have hwd : (if k = 0 then 8 else if k = 3 then 20 + 15 * (bc set) else 60 + 30 * (bc set)) = wdf k (bc set) := by unfold wdf; rcases (show k = 0 ∨ k = 3 ∨ k = 4 by omega) with e | e | e <;> (subst e; rfl)
                    have bwd := wdf_bd (k := k) (set := set) (by omega) (by omega)
                    have bwp := wdf_pos (k := k) (n := bc set) (by omega) (by omega)
                    have hTn : MTa G2 Mc x (nT A s k set g hd (-1)) := by
                      refine hTc.ext ⟨?_, ?_, ?_, ?_, ?_, ?_, ?_, ?_⟩ ?_ (fun j q1 q2 q3 => ?_)
                      · rw [ht1, zT.1]; rfl
                      · rw [ht1, zT.2.1]; rfl
                      · rw [ht1, zT.2.2.1]; rfl
                      · rw [ht1, zT.2.2.2.2.2.1]; rfl
                      · rw [ht1, zT.2.2.2.1]; exact hwd
                      · rw [ht1, zT.2.2.2.2.1]; rfl
                      · rw [ht1, zT.2.2.2.2.2.2.1]; rfl
                      · rw [ht1, zT.2.2.2.2.2.2.2.2]; rfl
                      · rw [ht1, zT.2.2.2.2.2.2.2.1, b7]; rfl
                      · rw [nT_0] at q3 ⊢
                        by_cases hj : ins set j
                        · rw [if_pos hj]; exact htv j q1 (by omega) hj
                        · rw [if_neg hj] at q3; exact absurd rfl q3
                    refine pw_cVU C hX dX10_file_218 ml_X10_175 mc_X10_add (m_add hM hA hKc (by omega) hTn (by omega) (by rw [zT.2.2.2.1]; omega)) kc_13 hMc.k rfl rfl ⟨Nat.le_of_ble_eq_true rfl, Nat.le_of_ble_eq_true rfl⟩ (Nat.le_of_ble_eq_true rfl) (by show 2 + 2 ≤ 4 ∧ 14 + 104 ≤ 118; omega) (fun G9 M9 hq_ => ?_)
                    obtain ⟨hFa, D9, I9, hMa⟩ := hq_
                    have hc9 : aRun (aT A (nT A s k set g hd (-1))) (A 0 0 1) 0 0 1 = A 0 0 1 + 1 := by unfold aRun; rw [onL_n (by rw [aT_0 (by omega), if_neg (by omega)]; omega), aT_0 (by omega), if_pos rfl]
                    refine pw_aload_n C dX10_file_221 rfl ?_
                    refine pw_getR C dX10_file_222 fl_X10_19 hMa.k rfl hMa.r3 ?_
                    have hLz := hMa.l3
                    rw [hc9] at hLz
                    refine pw_cVE C hX dX10_file_225 ml_X10_33 mc_Jx4a65c_size_8abf5 (c_size hLz) kc_2 hMa.l3.k rfl rfl ⟨Nat.le_of_ble_eq_true rfl, Nat.le_of_ble_eq_true rfl⟩ (Nat.le_of_ble_eq_true rfl) (by show 4 + 0 ≤ 4 ∧ 118 + 0 ≤ 118; omega) ?_
                    refine pw_iconst C dX10_file_228 ?_
                    refine pw_isub C dX10_file_229 ?_
                    exact pw_iret C hR dX10_file_230 ((by have hcd : cd3 (0 ≤ s ∧ s < A 0 0 0) ((k = 0 ∨ k = 3 ∨ k = 4) ∧ (1 ≤ set ∧ set ≤ 15) ∧ 0 ≤ hd ∧ hd ≤ 9999) (A 0 0 1 < 60) = 0 := (by unfold cd3; first | (exfalso; omega) | rw [if_pos (by omega)] | rw [if_neg (by omega), if_pos (by omega)] | rw [if_neg (by omega), if_neg (by omega), if_pos (by omega)] | rw [if_neg (by omega), if_neg (by omega), if_neg (by omega)]); exact ⟨_, rfl, by rw [hcd, ← e5]; exact hFa, fun _ => by rw [if_neg (fun q => q hv4), if_neg hno]; omega, _, _, by rw [if_pos hcd]; exact (by rw [if_neg (fun q => q hv4), if_neg hno]; exact hMa)⟩)) (by omega) (by omega)
                  · skip
                    refine pw_bipush C dX10_file_212 rfl ?_
                    exact pw_iret C hR dX10_file_214 ((by have hcd : cd3 (0 ≤ s ∧ s < A 0 0 0) ((k = 0 ∨ k = 3 ∨ k = 4) ∧ (1 ≤ set ∧ set ≤ 15) ∧ 0 ≤ hd ∧ hd ≤ 9999) (A 0 0 1 < 60) = 0 := (by unfold cd3; first | (exfalso; omega) | rw [if_pos (by omega)] | rw [if_neg (by omega), if_pos (by omega)] | rw [if_neg (by omega), if_neg (by omega), if_pos (by omega)] | rw [if_neg (by omega), if_neg (by omega), if_neg (by omega)]); exact ⟨_, rfl, by rw [hcd, ← e5]; exact (hKc.fq (by omega)), fun _ => by rw [if_neg (fun q => q hv4), if_pos ⟨by omega, by omega⟩], _, _, by rw [if_pos hcd]; exact (by rw [if_neg (fun q => q hv4), if_pos ⟨by omega, by omega⟩]; exact hM.kp hKc)⟩)) (by omega) (by omega)
              · skip
                refine pw_iload_n C dX10_file_131 rfl ?_
                refine pw_iload C dX10_file_132 rfl ?_
                refine pw_cSE C hX dX10_file_134 ml_X10_166 mc_X10_has (m_has (set := set) (f := f) (by omega) (by omega)) rfl rfl ⟨Nat.le_of_ble_eq_true rfl, Nat.le_of_ble_eq_true rfl⟩ (Nat.le_of_ble_eq_true rfl) (by show 2 + 0 ≤ 4 ∧ 14 + 0 ≤ 118; omega) ?_
                refine pw_ifB_ne (tgt := 143) C dX10_file_137 (by decide) (fun c_137 => ?_) (fun c_137 => ?_)
                · skip
                  refine pw_aload C dX10_file_143 rfl ?_
                  refine pw_getR C dX10_file_145 fl_X10_169 hTc.1 rfl hTc.2.1 ?_
                  refine pw_iload C dX10_file_148 rfl ?_
                  refine pw_iload C dX10_file_150 rfl ?_
                  refine pw_if_eq (tgt := 169) C dX10_file_152 (by decide) (by omega) (fun c_152 => ?_) (fun c_152 => ?_)
                  · skip
                    refine pw_aload_n C dX10_file_169 rfl ?_
                    refine pw_aload_n C dX10_file_170 rfl ?_
                    refine pw_iload_n C dX10_file_171 rfl ?_
                    refine pw_iload C dX10_file_172 rfl ?_
                    refine pw_cVR C hX dX10_file_174 ml_X10_123 mc_X10_fact (m_fact hMc hA (s := s) (f := f) (by omega) (by omega)) kc_13 hMc.k rfl rfl ⟨Nat.le_of_ble_eq_true rfl, Nat.le_of_ble_eq_true rfl⟩ (Nat.le_of_ble_eq_true rfl) (by show 2 + 0 ≤ 4 ∧ 14 + 0 ≤ 118; omega) ?_
                    refine pw_cVE C hX dX10_file_177 ml_X10_96 mc_X10_truth (m_truth hMc hA (hMc.fa (s * 4 + f) (by omega) (by omega)) (hA.fa (s * 4 + f) (by omega)).f0) kc_13 hMc.k rfl rfl ⟨Nat.le_of_ble_eq_true rfl, Nat.le_of_ble_eq_true rfl⟩ (Nat.le_of_ble_eq_true rfl) (by show 2 + 0 ≤ 4 ∧ 14 + 0 ≤ 118; omega) ?_
                    have b_mst57 := mst_bd (S := A 10) (F := A (100 + (s * 4 + f))) (z := 1)
                    have hvt : mst (A 10) (A (100 + (s * 4 + f))) 1 = vtf A g (s * 4 + f) := by have q := hW.f (s * 4 + f) (by omega) (by omega); show _ = (if g = 0 then _ else _); rw [if_pos c_152]; exact q.1.symm
                    have bv9 := hA.fa (s * 4 + f) (by omega)
                    have bv8 := bv9.s0
                    have bv7 := bv9.s2
                    have bv : -1 ≤ vtf A g (s * 4 + f) ∧ vtf A g (s * 4 + f) ≤ 99 := by rw [← hvt]; omega
                    obtain ⟨v, ev⟩ : ∃ v, vtf A g (s * 4 + f) = v := ⟨_, rfl⟩
                    rw [ev] at hvt bv
                    rw [hvt]
                    clear hvt bv9 bv8 bv7
                    refine pw_iastG C dX10_file_180 hTc.2.2.1 (by omega) (fun M9 e9 => ?_)
                    have hT9 : MTa G2 M9 x (lup Tc 0 f v) := by rw [e9]; exact hTc.v
                    have hK9 : Kp G M5 G2 M9 := by rw [e9]; exact hKc.w (x := x + 1) (by omega) agr_M1 rfl
                    have hv9 : M9 1 (x + 1) f = v := by rw [e9, mup_s]
                    clear e9
                    refine pw_aload C dX10_file_181 rfl ?_
                    refine pw_getR C dX10_file_183 fl_X10_169 hT9.1 rfl hT9.2.1 ?_
                    refine pw_iload C dX10_file_186 rfl ?_
                    refine pw_ialdE C dX10_file_188 hT9.2.2.1 (by omega) hv9 ?_
                    refine pw_iconst C dX10_file_189 ?_
                    refine pw_icmp_ne (tgt := 196) C dX10_file_190 (by decide) (by omega) (fun c_190 => ?_) (fun c_190 => ?_)
                    · skip
                      refine pw_iinc C dX10_file_196 rfl (Nat.le_of_ble_eq_true rfl) rfl ?_
                      refine pw_goto (tgt := 125) C dX10_file_199 (by decide) ?_
                      exact pw_locs (by exact ⟨rfl, cat_vR _, rfl, rfl, rfl, rfl, rfl, rfl, rfl, rfl, rfl, rfl, rfl, rfl, rfl, cat_vR _, rfl, rfl, trivial⟩) (ih_125 (f + 1) M9 (lup Tc 0 f v) (by omega) (hK9) (hT9) (fun j => by rw [lup_n (by omega)]; exact ht1 j) (fun j q1 q2 q3 => by by_cases e : j = f; (rw [e, lup_s, ev]); (rw [lup_n (by omega)]; exact htv j q1 (by omega) q3)) (fnd_go (by omega) hf (fun q => c_190 (by rw [← ev]; exact q.2))) (by omega))
                    · skip
                      refine pw_bipush C dX10_file_193 rfl ?_
                      have hv3 : ¬ hv A s set g = 4 := by rw [← fnd_at (by omega) hf ⟨c_137, by rw [ev]; exact c_190⟩]; omega
                      exact pw_iret C hR dX10_file_195 ((by have hcd : cd3 (0 ≤ s ∧ s < A 0 0 0) ((k = 0 ∨ k = 3 ∨ k = 4) ∧ (1 ≤ set ∧ set ≤ 15) ∧ 0 ≤ hd ∧ hd ≤ 9999) (A 0 0 1 < 60) = 0 := (by unfold cd3; first | (exfalso; omega) | rw [if_pos (by omega)] | rw [if_neg (by omega), if_pos (by omega)] | rw [if_neg (by omega), if_neg (by omega), if_pos (by omega)] | rw [if_neg (by omega), if_neg (by omega), if_neg (by omega)]); exact ⟨_, rfl, by rw [hcd, ← e5]; exact (hK9.fq (by omega)), fun _ => by rw [if_pos hv3], _, _, by rw [if_pos hcd]; exact (by rw [if_pos hv3]; exact hM.kp hK9)⟩)) (by omega) (by omega)
                  · skip
                    refine pw_aload_n C dX10_file_155 rfl ?_
                    refine pw_aload_n C dX10_file_156 rfl ?_
                    refine pw_iload_n C dX10_file_157 rfl ?_
                    refine pw_iload C dX10_file_158 rfl ?_
                    refine pw_cVR C hX dX10_file_160 ml_X10_123 mc_X10_fact (m_fact hMc hA (s := s) (f := f) (by omega) (by omega)) kc_13 hMc.k rfl rfl ⟨Nat.le_of_ble_eq_true rfl, Nat.le_of_ble_eq_true rfl⟩ (Nat.le_of_ble_eq_true rfl) (by show 2 + 0 ≤ 4 ∧ 14 + 0 ≤ 118; omega) ?_
                    refine pw_cVE C hX dX10_file_163 ml_X10_172 mc_X10_heard (m_heard hMc hA (hMc.fa (s * 4 + f) (by omega) (by omega)) (hA.fa (s * 4 + f) (by omega)).f0) kc_13 hMc.k rfl rfl ⟨Nat.le_of_ble_eq_true rfl, Nat.le_of_ble_eq_true rfl⟩ (Nat.le_of_ble_eq_true rfl) (by show 2 + 0 ≤ 4 ∧ 14 + 0 ≤ 118; omega) ?_
                    have b_mhd58 : -1 ≤ mhd (A 10) (A (100 + (s * 4 + f))) ∧ mhd (A 10) (A (100 + (s * 4 + f))) ≤ 99 := by have := mst_bd (S := A 10) (F := A (100 + (s * 4 + f))) (z := 1); have := mst_bd (S := A 10) (F := A (100 + (s * 4 + f))) (z := 0); unfold mhd; omega
                    have hvt : mhd (A 10) (A (100 + (s * 4 + f))) = vtf A g (s * 4 + f) := by have q := hW.f (s * 4 + f) (by omega) (by omega); show _ = (if g = 0 then _ else _); rw [if_neg c_152]; exact q.2.1.symm
                    have bv9 := hA.fa (s * 4 + f) (by omega)
                    have bv8 := bv9.s0
                    have bv7 := bv9.s2
                    have bv : -1 ≤ vtf A g (s * 4 + f) ∧ vtf A g (s * 4 + f) ≤ 99 := by rw [← hvt]; omega
                    obtain ⟨v, ev⟩ : ∃ v, vtf A g (s * 4 + f) = v := ⟨_, rfl⟩
                    rw [ev] at hvt bv
                    rw [hvt]
                    clear hvt bv9 bv8 bv7
                    refine pw_goto (tgt := 180) C dX10_file_166 (by decide) ?_
                    refine pw_iastG C dX10_file_180 hTc.2.2.1 (by omega) (fun M9 e9 => ?_)
                    have hT9 : MTa G2 M9 x (lup Tc 0 f v) := by rw [e9]; exact hTc.v
                    have hK9 : Kp G M5 G2 M9 := by rw [e9]; exact hKc.w (x := x + 1) (by omega) agr_M1 rfl
                    have hv9 : M9 1 (x + 1) f = v := by rw [e9, mup_s]
                    clear e9
                    refine pw_aload C dX10_file_181 rfl ?_
                    refine pw_getR C dX10_file_183 fl_X10_169 hT9.1 rfl hT9.2.1 ?_
                    refine pw_iload C dX10_file_186 rfl ?_
                    refine pw_ialdE C dX10_file_188 hT9.2.2.1 (by omega) hv9 ?_
                    refine pw_iconst C dX10_file_189 ?_
                    refine pw_icmp_ne (tgt := 196) C dX10_file_190 (by decide) (by omega) (fun c_190 => ?_) (fun c_190 => ?_)
                    · skip
                      refine pw_iinc C dX10_file_196 rfl (Nat.le_of_ble_eq_true rfl) rfl ?_
                      refine pw_goto (tgt := 125) C dX10_file_199 (by decide) ?_
                      exact pw_locs (by exact ⟨rfl, cat_vR _, rfl, rfl, rfl, rfl, rfl, rfl, rfl, rfl, rfl, rfl, rfl, rfl, rfl, cat_vR _, rfl, rfl, trivial⟩) (ih_125 (f + 1) M9 (lup Tc 0 f v) (by omega) (hK9) (hT9) (fun j => by rw [lup_n (by omega)]; exact ht1 j) (fun j q1 q2 q3 => by by_cases e : j = f; (rw [e, lup_s, ev]); (rw [lup_n (by omega)]; exact htv j q1 (by omega) q3)) (fnd_go (by omega) hf (fun q => c_190 (by rw [← ev]; exact q.2))) (by omega))
                    · skip
                      refine pw_bipush C dX10_file_193 rfl ?_
                      have hv3 : ¬ hv A s set g = 4 := by rw [← fnd_at (by omega) hf ⟨c_137, by rw [ev]; exact c_190⟩]; omega
                      exact pw_iret C hR dX10_file_195 ((by have hcd : cd3 (0 ≤ s ∧ s < A 0 0 0) ((k = 0 ∨ k = 3 ∨ k = 4) ∧ (1 ≤ set ∧ set ≤ 15) ∧ 0 ≤ hd ∧ hd ≤ 9999) (A 0 0 1 < 60) = 0 := (by unfold cd3; first | (exfalso; omega) | rw [if_pos (by omega)] | rw [if_neg (by omega), if_pos (by omega)] | rw [if_neg (by omega), if_neg (by omega), if_pos (by omega)] | rw [if_neg (by omega), if_neg (by omega), if_neg (by omega)]); exact ⟨_, rfl, by rw [hcd, ← e5]; exact (hK9.fq (by omega)), fun _ => by rw [if_pos hv3], _, _, by rw [if_pos hcd]; exact (by rw [if_pos hv3]; exact hM.kp hK9)⟩)) (by omega) (by omega)
                · skip
                  refine pw_goto (tgt := 196) C dX10_file_140 (by decide) ?_
                  refine pw_iinc C dX10_file_196 rfl (Nat.le_of_ble_eq_true rfl) rfl ?_
                  refine pw_goto (tgt := 125) C dX10_file_199 (by decide) ?_
                  exact pw_locs (by exact ⟨rfl, cat_vR _, rfl, rfl, rfl, rfl, rfl, rfl, rfl, rfl, rfl, rfl, rfl, rfl, rfl, cat_vR _, rfl, rfl, trivial⟩) (ih_125 (f + 1) Mc Tc (by omega) (hKc) (hTc) (ht1) (fun j q1 q2 q3 => by by_cases e : j = f; (rw [e] at q3; exact absurd q3 c_137); (exact htv j q1 (by omega) q3)) (fnd_go (by omega) hf (fun q => c_137 q.1)) (by omega))
          · skip
            refine pw_iconst C dX10_file_75 ?_
            refine pw_goto (tgt := 80) C dX10_file_76 (by decide) ?_
            refine pw_iconst C dX10_file_80 ?_
            refine pw_cVI C hX dX10_file_81 ml_X10_29 mc_X10_refuse (m_refuse hM hA (z := 1) (w := 3) (by omega) (by omega) (by rw [e4, mup_s])) kc_13 hM.k rfl rfl ⟨Nat.le_of_ble_eq_true rfl, Nat.le_of_ble_eq_true rfl⟩ (Nat.le_of_ble_eq_true rfl) (by show 0 + 0 ≤ 4 ∧ 0 + 0 ≤ 118; omega) (fun r_ G M6 hq_ => ?_)
            obtain ⟨rfl, rfl, e6⟩ := hq_
            rw [if_neg (by decide)] at e6
            have hMn : RM G M6 Q A D I := by rw [e6]; exact hM.th
            rw [e4, mup_mup] at e6
            clear hM
            have hM := hMn
            clear hMn
            have hK6 : Kp G M6 G M6 := Kp.rf
            refine pw_ifL_eqn (tgt := 89) C dX10_file_84 (by decide) rfl ?_
            refine pw_iconst C dX10_file_87 ?_
            exact pw_iret C hR dX10_file_88 ((by have hcd : cd3 (0 ≤ s ∧ s < A 0 0 0) ((k = 0 ∨ k = 3 ∨ k = 4) ∧ (1 ≤ set ∧ set ≤ 15) ∧ 0 ≤ hd ∧ hd ≤ 9999) (A 0 0 1 < 60) = 3 := (by unfold cd3; first | (exfalso; omega) | rw [if_pos (by omega)] | rw [if_neg (by omega), if_pos (by omega)] | rw [if_neg (by omega), if_neg (by omega), if_pos (by omega)] | rw [if_neg (by omega), if_neg (by omega), if_neg (by omega)]); exact ⟨_, rfl, by rw [hcd, ← e6]; exact Fq.rf, fun h => absurd (hcd.symm.trans h) (by decide), D, I, by rw [if_neg (fun h => absurd (hcd.symm.trans h) (by decide))]; exact hM⟩)) (by show _ ≤ 4; omega) (by show _ ≤ 118; omega)
        · skip
          refine pw_iconst C dX10_file_50 ?_
          refine pw_goto (tgt := 55) C dX10_file_51 (by decide) ?_
          refine pw_iconst C dX10_file_55 ?_
          refine pw_cVI C hX dX10_file_56 ml_X10_29 mc_X10_refuse (m_refuse hM hA (z := 1) (w := 2) (by omega) (by omega) (by rw [e2, mup_s])) kc_13 hM.k rfl rfl ⟨Nat.le_of_ble_eq_true rfl, Nat.le_of_ble_eq_true rfl⟩ (Nat.le_of_ble_eq_true rfl) (by show 0 + 0 ≤ 4 ∧ 0 + 0 ≤ 118; omega) (fun r_ G M7 hq_ => ?_)
          obtain ⟨rfl, rfl, e7⟩ := hq_
          rw [if_neg (by decide)] at e7
          have hMn : RM G M7 Q A D I := by rw [e7]; exact hM.th
          rw [e2, mup_mup] at e7
          clear hM
          have hM := hMn
          clear hMn
          have hK7 : Kp G M7 G M7 := Kp.rf
          refine pw_ifL_ne (tgt := 87) C dX10_file_59 (by decide) rfl ?_
          refine pw_iconst C dX10_file_87 ?_
          exact pw_iret C hR dX10_file_88 ((by have hcd : cd3 (0 ≤ s ∧ s < A 0 0 0) ((k = 0 ∨ k = 3 ∨ k = 4) ∧ (1 ≤ set ∧ set ≤ 15) ∧ 0 ≤ hd ∧ hd ≤ 9999) (A 0 0 1 < 60) = 2 := (by unfold cd3; first | (exfalso; omega) | rw [if_pos (by omega)] | rw [if_neg (by omega), if_pos (by omega)] | rw [if_neg (by omega), if_neg (by omega), if_pos (by omega)] | rw [if_neg (by omega), if_neg (by omega), if_neg (by omega)]); exact ⟨_, rfl, by rw [hcd, ← e7]; exact Fq.rf, fun h => absurd (hcd.symm.trans h) (by decide), D, I, by rw [if_neg (fun h => absurd (hcd.symm.trans h) (by decide))]; exact hM⟩)) (by show _ ≤ 4; omega) (by show _ ≤ 118; omega)
    · skip
      refine pw_iload_n C dX10_file_18 rfl ?_
      refine pw_iconst C dX10_file_19 ?_
      refine pw_icmp_eq (tgt := 28) C dX10_file_20 (by decide) (by omega) (fun c_20 => ?_) (fun c_20 => ?_)
      · skip
        refine pw_iload_n C dX10_file_28 rfl ?_
        refine pw_iconst C dX10_file_29 ?_
        refine pw_bipush C dX10_file_30 rfl ?_
        refine pw_cSE C hX dX10_file_32 ml_X10_37 mc_X10_isIn (m_isIn (v := set) (lo := 1) (hi := 15) (by omega) (by omega) (by omega)) rfl rfl ⟨Nat.le_of_ble_eq_true rfl, Nat.le_of_ble_eq_true rfl⟩ (Nat.le_of_ble_eq_true rfl) (by show 0 + 0 ≤ 4 ∧ 0 + 0 ≤ 118; omega) ?_
        refine pw_ifB_eq (tgt := 50) C dX10_file_35 (by decide) (fun c_35 => ?_) (fun c_35 => ?_)
        · skip
          refine pw_iconst C dX10_file_50 ?_
          refine pw_goto (tgt := 55) C dX10_file_51 (by decide) ?_
          refine pw_iconst C dX10_file_55 ?_
          refine pw_cVI C hX dX10_file_56 ml_X10_29 mc_X10_refuse (m_refuse hM hA (z := 1) (w := 2) (by omega) (by omega) (by rw [e2, mup_s])) kc_13 hM.k rfl rfl ⟨Nat.le_of_ble_eq_true rfl, Nat.le_of_ble_eq_true rfl⟩ (Nat.le_of_ble_eq_true rfl) (by show 0 + 0 ≤ 4 ∧ 0 + 0 ≤ 118; omega) (fun r_ G M8 hq_ => ?_)
          obtain ⟨rfl, rfl, e8⟩ := hq_
          rw [if_neg (by decide)] at e8
          have hMn : RM G M8 Q A D I := by rw [e8]; exact hM.th
          rw [e2, mup_mup] at e8
          clear hM
          have hM := hMn
          clear hMn
          have hK8 : Kp G M8 G M8 := Kp.rf
          refine pw_ifL_ne (tgt := 87) C dX10_file_59 (by decide) rfl ?_
          refine pw_iconst C dX10_file_87 ?_
          exact pw_iret C hR dX10_file_88 ((by have hcd : cd3 (0 ≤ s ∧ s < A 0 0 0) ((k = 0 ∨ k = 3 ∨ k = 4) ∧ (1 ≤ set ∧ set ≤ 15) ∧ 0 ≤ hd ∧ hd ≤ 9999) (A 0 0 1 < 60) = 2 := (by unfold cd3; first | (exfalso; omega) | rw [if_pos (by omega)] | rw [if_neg (by omega), if_pos (by omega)] | rw [if_neg (by omega), if_neg (by omega), if_pos (by omega)] | rw [if_neg (by omega), if_neg (by omega), if_neg (by omega)]); exact ⟨_, rfl, by rw [hcd, ← e8]; exact Fq.rf, fun h => absurd (hcd.symm.trans h) (by decide), D, I, by rw [if_neg (fun h => absurd (hcd.symm.trans h) (by decide))]; exact hM⟩)) (by show _ ≤ 4; omega) (by show _ ≤ 118; omega)
        · skip
          refine pw_iload C dX10_file_38 rfl ?_
          refine pw_iconst C dX10_file_40 ?_
          refine pw_sipush C dX10_file_41 rfl ?_
          refine pw_cSE C hX dX10_file_44 ml_X10_37 mc_X10_isIn (m_isIn (v := hd) (lo := 0) (hi := 9999) (by omega) (by omega) (by omega)) rfl rfl ⟨Nat.le_of_ble_eq_true rfl, Nat.le_of_ble_eq_true rfl⟩ (Nat.le_of_ble_eq_true rfl) (by show 0 + 0 ≤ 4 ∧ 0 + 0 ≤ 118; omega) ?_
          refine pw_ifB_ne (tgt := 54) C dX10_file_47 (by decide) (fun c_47 => ?_) (fun c_47 => ?_)
          · skip
            refine pw_iconst C dX10_file_54 ?_
            refine pw_iconst C dX10_file_55 ?_
            refine pw_cVI C hX dX10_file_56 ml_X10_29 mc_X10_refuse (m_refuse hM hA (z := 0) (w := 2) (by omega) (by omega) (by rw [e2, mup_s])) kc_13 hM.k rfl rfl ⟨Nat.le_of_ble_eq_true rfl, Nat.le_of_ble_eq_true rfl⟩ (Nat.le_of_ble_eq_true rfl) (by show 0 + 0 ≤ 4 ∧ 0 + 0 ≤ 118; omega) (fun r_ G M9 hq_ => ?_)
            obtain ⟨rfl, rfl, e9⟩ := hq_
            rw [if_pos rfl] at e9
            have hMn : RM G M9 Q A D I := by rw [e9]; exact hM.th
            rw [e2, mup_mup] at e9
            clear hM
            have hM := hMn
            clear hMn
            have hK9 : Kp G M9 G M9 := Kp.rf
            refine pw_ifL_nen (tgt := 87) C dX10_file_59 (by decide) rfl ?_
            refine pw_aload_n C dX10_file_62 rfl ?_
            refine pw_aload_n C dX10_file_63 rfl ?_
            refine pw_getR C dX10_file_64 fl_X10_19 hM.k rfl hM.r3 ?_
            refine pw_cVE C hX dX10_file_67 ml_X10_33 mc_Jx4a65c_size_8abf5 (c_size hM.l3) kc_2 hM.l3.k rfl rfl ⟨Nat.le_of_ble_eq_true rfl, Nat.le_of_ble_eq_true rfl⟩ (Nat.le_of_ble_eq_true rfl) (by show 0 + 0 ≤ 4 ∧ 0 + 0 ≤ 118; omega) ?_
            refine pw_bipush C dX10_file_70 rfl ?_
            refine pw_icmp_ne (tgt := 79) C dX10_file_72 (by decide) (by omega) (fun c_72 => ?_) (fun c_72 => ?_)
            · skip
              refine pw_iconst C dX10_file_79 ?_
              refine pw_iconst C dX10_file_80 ?_
              refine pw_cVI C hX dX10_file_81 ml_X10_29 mc_X10_refuse (m_refuse hM hA (z := 0) (w := 3) (by omega) (by omega) (by rw [e9, mup_s])) kc_13 hM.k rfl rfl ⟨Nat.le_of_ble_eq_true rfl, Nat.le_of_ble_eq_true rfl⟩ (Nat.le_of_ble_eq_true rfl) (by show 0 + 0 ≤ 4 ∧ 0 + 0 ≤ 118; omega) (fun r_ G M10 hq_ => ?_)
              obtain ⟨rfl, rfl, e10⟩ := hq_
              rw [if_pos rfl] at e10
              have hMn : RM G M10 Q A D I := by rw [e10]; exact hM.th
              rw [e9, mup_mup] at e10
              clear hM
              have hM := hMn
              clear hMn
              have hK10 : Kp G M10 G M10 := Kp.rf
              refine pw_ifL_eq (tgt := 89) C dX10_file_84 (by decide) rfl ?_
              refine pw_iload_n C dX10_file_89 rfl ?_
              refine pw_cSE C hX dX10_file_90 ml_X10_65 mc_J6_bitCount_0f7a4 (c_bitCount (x := set) (by omega)) rfl rfl ⟨Nat.le_of_ble_eq_true rfl, Nat.le_of_ble_eq_true rfl⟩ (Nat.le_of_ble_eq_true rfl) (by show 0 + 0 ≤ 4 ∧ 0 + 0 ≤ 118; omega) ?_
              refine pw_istore C dX10_file_93 (Nat.le_of_ble_eq_true rfl) rfl ?_
              have bbc := bc_bd set
              refine pw_new C dX10_file_95 nl_X10_154 (Nat.le_of_ble_eq_true rfl) (Nat.le_of_ble_eq_true rfl) ?_
              have hKn : Kp G M10 (nG G 12 0) (nM G M10) := Kp.rf.new
              have hn0 : nG G 12 0 0 (G 4 0 0) 0 = 12 := nG_kind
              have hn4 : nG G 12 0 4 0 0 = G 4 0 0 + 1 := nG_next
              have hnz : ∀ f, nM G M10 0 f (G 4 0 0) = 0 := fun f => nM_fld
              have hq9 := hM.q
              obtain ⟨x, ex⟩ : ∃ x, G 4 0 0 = x := ⟨_, rfl⟩
              rw [ex] at hn0 hn4 hnz hq9 ⊢
              generalize nG G 12 0 = Gn at hKn hn0 hn4 ⊢
              generalize nM G M10 = Mn at hKn hnz ⊢
              have hMn := hM.kp hKn
              refine pw_dup C dX10_file_98 (cat_vR _) ?_
              refine pw_iload_n C dX10_file_99 rfl ?_
              refine pw_iload_n C dX10_file_100 rfl ?_
              refine pw_iload_n C dX10_file_101 rfl ?_
              refine pw_iload C dX10_file_102 rfl ?_
              refine pw_iload_n C dX10_file_104 rfl ?_
              refine pw_iload C dX10_file_105 rfl ?_
              refine pw_cSEw C hX dX10_file_107 ml_X10_161 mc_X10_words (m_words (k := k) (n := (bc set)) (by omega) (by omega)) rfl rfl ⟨Nat.le_of_ble_eq_true rfl, Nat.le_of_ble_eq_true rfl⟩ (cat6 rfl rfl rfl rfl (cat_vR _) (cat_vR _)) (by show 1 + 0 ≤ 4 ∧ 10 + 0 ≤ 118; omega) ?_
              refine pw_iload C dX10_file_110 rfl ?_
              refine pw_iconst C dX10_file_112 ?_
              refine pw_aload_n C dX10_file_113 rfl ?_
              refine pw_getE C dX10_file_114 fl_X10_130 rfl hMn.k hMn.w ?_
              refine pw_cIU C hX dX10_file_117 ml_X10_163 mc_X9_init (m_takeInit (a := x) (s := s) (k := k) (set := set) (g := g) (wd := (if k = 0 then 8 else if k = 3 then 20 + 15 * (bc set) else 60 + 30 * (bc set))) (hd := hd) (of := (-1)) (fd := A 0 0 3) (by omega) hn0 hn4 hnz (by omega)) (by omega) rfl rfl ⟨Nat.le_of_ble_eq_true rfl, Nat.le_of_ble_eq_true rfl⟩ (Nat.le_of_ble_eq_true rfl) (by show 1 + 1 ≤ 4 ∧ 10 + 4 ≤ 118; omega) (fun G2 M2 hq_ => ?_)
              obtain ⟨hTm, h24, ho2⟩ := hq_
              have hK2 : Kp G M10 G2 M2 := ⟨fun b hb => (hKn.1 b hb).tr (ho2 b (by omega)), by omega⟩
              have hM2 := hM.kp hK2
              clear ho2 hKn hn0 hn4 hnz hMn
              refine pw_astore C dX10_file_120 (Nat.le_of_ble_eq_true rfl) rfl ?_
              refine pw_iconst C dX10_file_122 ?_
              refine pw_istore C dX10_file_123 (Nat.le_of_ble_eq_true rfl) rfl ?_
              suffices K_125 : ∀ (nn_125 : Nat) (f : Int) (Mc : Mm) (Tc : Fn), (0 ≤ f ∧ f ≤ 4) → (Kp G M10 G2 Mc) → (MTa G2 Mc x Tc) → (∀ j, Tc 1 j = (Tmk s k set g (if k = 0 then 8 else if k = 3 then 20 + 15 * (bc set) else 60 + 30 * (bc set)) hd (-1) (A 0 0 3)) 1 j) → (∀ j, 0 ≤ j → j < f → ins set j → Tc 0 j = vtf A g (s * 4 + j)) → (fnd (fun f => ins set f ∧ vtf A g (s * 4 + f) = -1) f 4 = hv A s set g) → 4 - f < (nn_125 : Int) → PW E G2 Mc 2 14 125 [(0, 1, vR Q), (1, 1, vI s), (2, 1, vI k), (3, 1, vI set), (4, 1, vI g), (5, 1, vI hd), (6, 1, vI (bc set)), (7, 1, vR x), (8, 1, vI f)] [] from pw_locs (by exact ⟨rfl, cat_vR _, rfl, rfl, rfl, rfl, rfl, rfl, rfl, rfl, rfl, rfl, rfl, rfl, rfl, cat_vR _, rfl, rfl, trivial⟩) (K_125 (4 - 0 + 1 : Int).toNat 0 M2 (Tmk s k set g (if k = 0 then 8 else if k = 3 then 20 + 15 * (bc set) else 60 + 30 * (bc set)) hd (-1) (A 0 0 3)) (by omega) (by first | exact hK2 | omega) (by first | exact hTm | omega) (by first | exact fun j => rfl | omega) (by first | exact fun j q1 q2 => by omega | omega) (by first | exact rfl | omega) (by omega))
              intro nn_125
              induction nn_125 with
              | zero => intro f Mc Tc h1 hKc hTc ht1 htv hf h_m125; exact absurd h_m125 (by omega)
              | succ nn_125 ih_125 =>
                intro f Mc Tc h1 hKc hTc ht1 htv hf h_m125
                have hMc := hM.kp hKc
                refine pw_iload C dX10_file_125 rfl ?_
                refine pw_iconst C dX10_file_127 ?_
                refine pw_icmp_ge (tgt := 202) C dX10_file_128 (by decide) (by omega) (fun c_128 => ?_) (fun c_128 => ?_)
                · skip
                  have hv4 : hv A s set g = 4 := by rw [← fnd_no (by omega) hf]; omega
                  refine pw_iload_n C dX10_file_202 rfl ?_
                  refine pw_if_ne (tgt := 215) C dX10_file_203 (by decide) (by omega) (fun c_203 => ?_) (fun c_203 => ?_)
                  · skip
                    refine pw_aload_n C dX10_file_215 rfl ?_
                    refine pw_aload C dX10_file_216 rfl ?_
                    have hno : ¬ (k = 0 ∧ ¬ bc set = 1) := by omega
                    have zT := nT_1 (A := A) (s := s) (k := k) (set := set) (g := g) (hd := hd) (tg := -1)
                    have b7 := hB.2.1 (A 0 0 1) (Int.le_refl _) (by omega)
                    have hwd : (if k = 0 then 8 else if k = 3 then 20 + 15 * (bc set) else 60 + 30 * (bc set)) = wdf k (bc set) := by unfold wdf; rcases (show k = 0 ∨ k = 3 ∨ k = 4 by omega) with e | e | e <;> (subst e; rfl)
                    have bwd := wdf_bd (k := k) (set := set) (by omega) (by omega)
                    have bwp := wdf_pos (k := k) (n := bc set) (by omega) (by omega)
                    have hTn : MTa G2 Mc x (nT A s k set g hd (-1)) := by
                      refine hTc.ext ⟨?_, ?_, ?_, ?_, ?_, ?_, ?_, ?_⟩ ?_ (fun j q1 q2 q3 => ?_)
                      · rw [ht1, zT.1]; rfl
                      · rw [ht1, zT.2.1]; rfl
                      · rw [ht1, zT.2.2.1]; rfl
                      · rw [ht1, zT.2.2.2.2.2.1]; rfl
                      · rw [ht1, zT.2.2.2.1]; exact hwd
                      · rw [ht1, zT.2.2.2.2.1]; rfl
                      · rw [ht1, zT.2.2.2.2.2.2.1]; rfl
                      · rw [ht1, zT.2.2.2.2.2.2.2.2]; rfl
                      · rw [ht1, zT.2.2.2.2.2.2.2.1, b7]; rfl
                      · rw [nT_0] at q3 ⊢
                        by_cases hj : ins set j
                        · rw [if_pos hj]; exact htv j q1 (by omega) hj
                        · rw [if_neg hj] at q3; exact absurd rfl q3
                    refine pw_cVU C hX dX10_file_218 ml_X10_175 mc_X10_add (m_add hM hA hKc (by omega) hTn (by omega) (by rw [zT.2.2.2.1]; omega)) kc_13 hMc.k rfl rfl ⟨Nat.le_of_ble_eq_true rfl, Nat.le_of_ble_eq_true rfl⟩ (Nat.le_of_ble_eq_true rfl) (by show 2 + 2 ≤ 4 ∧ 14 + 104 ≤ 118; omega) (fun G9 M9 hq_ => ?_)
                    obtain ⟨hFa, D9, I9, hMa⟩ := hq_
                    have hc9 : aRun (aT A (nT A s k set g hd (-1))) (A 0 0 1) 0 0 1 = A 0 0 1 + 1 := by unfold aRun; rw [onL_n (by rw [aT_0 (by omega), if_neg (by omega)]; omega), aT_0 (by omega), if_pos rfl]
                    refine pw_aload_n C dX10_file_221 rfl ?_
                    refine pw_getR C dX10_file_222 fl_X10_19 hMa.k rfl hMa.r3 ?_
                    have hLz := hMa.l3
                    rw [hc9] at hLz
                    refine pw_cVE C hX dX10_file_225 ml_X10_33 mc_Jx4a65c_size_8abf5 (c_size hLz) kc_2 hMa.l3.k rfl rfl ⟨Nat.le_of_ble_eq_true rfl, Nat.le_of_ble_eq_true rfl⟩ (Nat.le_of_ble_eq_true rfl) (by show 4 + 0 ≤ 4 ∧ 118 + 0 ≤ 118; omega) ?_
                    refine pw_iconst C dX10_file_228 ?_
                    refine pw_isub C dX10_file_229 ?_
                    exact pw_iret C hR dX10_file_230 ((by have hcd : cd3 (0 ≤ s ∧ s < A 0 0 0) ((k = 0 ∨ k = 3 ∨ k = 4) ∧ (1 ≤ set ∧ set ≤ 15) ∧ 0 ≤ hd ∧ hd ≤ 9999) (A 0 0 1 < 60) = 0 := (by unfold cd3; first | (exfalso; omega) | rw [if_pos (by omega)] | rw [if_neg (by omega), if_pos (by omega)] | rw [if_neg (by omega), if_neg (by omega), if_pos (by omega)] | rw [if_neg (by omega), if_neg (by omega), if_neg (by omega)]); exact ⟨_, rfl, by rw [hcd, ← e10]; exact hFa, fun _ => by rw [if_neg (fun q => q hv4), if_neg hno]; omega, _, _, by rw [if_pos hcd]; exact (by rw [if_neg (fun q => q hv4), if_neg hno]; exact hMa)⟩)) (by omega) (by omega)
                  · skip
                    refine pw_iload C dX10_file_206 rfl ?_
                    refine pw_iconst C dX10_file_208 ?_
                    refine pw_icmp_eq (tgt := 215) C dX10_file_209 (by decide) (by omega) (fun c_209 => ?_) (fun c_209 => ?_)
                    · skip
                      refine pw_aload_n C dX10_file_215 rfl ?_
                      refine pw_aload C dX10_file_216 rfl ?_
                      have hno : ¬ (k = 0 ∧ ¬ bc set = 1) := by omega
                      have zT := nT_1 (A := A) (s := s) (k := k) (set := set) (g := g) (hd := hd) (tg := -1)
                      have b7 := hB.2.1 (A 0 0 1) (Int.le_refl _) (by omega)
                      have hwd : (if k = 0 then 8 else if k = 3 then 20 + 15 * (bc set) else 60 + 30 * (bc set)) = wdf k (bc set) := by unfold wdf; rcases (show k = 0 ∨ k = 3 ∨ k = 4 by omega) with e | e | e <;> (subst e; rfl)
                      have bwd := wdf_bd (k := k) (set := set) (by omega) (by omega)
                      have bwp := wdf_pos (k := k) (n := bc set) (by omega) (by omega)
                      have hTn : MTa G2 Mc x (nT A s k set g hd (-1)) := by
                        refine hTc.ext ⟨?_, ?_, ?_, ?_, ?_, ?_, ?_, ?_⟩ ?_ (fun j q1 q2 q3 => ?_)
                        · rw [ht1, zT.1]; rfl
                        · rw [ht1, zT.2.1]; rfl
                        · rw [ht1, zT.2.2.1]; rfl
                        · rw [ht1, zT.2.2.2.2.2.1]; rfl
                        · rw [ht1, zT.2.2.2.1]; exact hwd
                        · rw [ht1, zT.2.2.2.2.1]; rfl
                        · rw [ht1, zT.2.2.2.2.2.2.1]; rfl
                        · rw [ht1, zT.2.2.2.2.2.2.2.2]; rfl
                        · rw [ht1, zT.2.2.2.2.2.2.2.1, b7]; rfl
                        · rw [nT_0] at q3 ⊢
                          by_cases hj : ins set j
                          · rw [if_pos hj]; exact htv j q1 (by omega) hj
                          · rw [if_neg hj] at q3; exact absurd rfl q3
                      refine pw_cVU C hX dX10_file_218 ml_X10_175 mc_X10_add (m_add hM hA hKc (by omega) hTn (by omega) (by rw [zT.2.2.2.1]; omega)) kc_13 hMc.k rfl rfl ⟨Nat.le_of_ble_eq_true rfl, Nat.le_of_ble_eq_true rfl⟩ (Nat.le_of_ble_eq_true rfl) (by show 2 + 2 ≤ 4 ∧ 14 + 104 ≤ 118; omega) (fun G9 M9 hq_ => ?_)
                      obtain ⟨hFa, D9, I9, hMa⟩ := hq_
                      have hc9 : aRun (aT A (nT A s k set g hd (-1))) (A 0 0 1) 0 0 1 = A 0 0 1 + 1 := by unfold aRun; rw [onL_n (by rw [aT_0 (by omega), if_neg (by omega)]; omega), aT_0 (by omega), if_pos rfl]
                      refine pw_aload_n C dX10_file_221 rfl ?_
                      refine pw_getR C dX10_file_222 fl_X10_19 hMa.k rfl hMa.r3 ?_
                      have hLz := hMa.l3
                      rw [hc9] at hLz
                      refine pw_cVE C hX dX10_file_225 ml_X10_33 mc_Jx4a65c_size_8abf5 (c_size hLz) kc_2 hMa.l3.k rfl rfl ⟨Nat.le_of_ble_eq_true rfl, Nat.le_of_ble_eq_true rfl⟩ (Nat.le_of_ble_eq_true rfl) (by show 4 + 0 ≤ 4 ∧ 118 + 0 ≤ 118; omega) ?_
                      refine pw_iconst C dX10_file_228 ?_
                      refine pw_isub C dX10_file_229 ?_
                      exact pw_iret C hR dX10_file_230 ((by have hcd : cd3 (0 ≤ s ∧ s < A 0 0 0) ((k = 0 ∨ k = 3 ∨ k = 4) ∧ (1 ≤ set ∧ set ≤ 15) ∧ 0 ≤ hd ∧ hd ≤ 9999) (A 0 0 1 < 60) = 0 := (by unfold cd3; first | (exfalso; omega) | rw [if_pos (by omega)] | rw [if_neg (by omega), if_pos (by omega)] | rw [if_neg (by omega), if_neg (by omega), if_pos (by omega)] | rw [if_neg (by omega), if_neg (by omega), if_neg (by omega)]); exact ⟨_, rfl, by rw [hcd, ← e10]; exact hFa, fun _ => by rw [if_neg (fun q => q hv4), if_neg hno]; omega, _, _, by rw [if_pos hcd]; exact (by rw [if_neg (fun q => q hv4), if_neg hno]; exact hMa)⟩)) (by omega) (by omega)
                    · skip
                      refine pw_bipush C dX10_file_212 rfl ?_
                      exact pw_iret C hR dX10_file_214 ((by have hcd : cd3 (0 ≤ s ∧ s < A 0 0 0) ((k = 0 ∨ k = 3 ∨ k = 4) ∧ (1 ≤ set ∧ set ≤ 15) ∧ 0 ≤ hd ∧ hd ≤ 9999) (A 0 0 1 < 60) = 0 := (by unfold cd3; first | (exfalso; omega) | rw [if_pos (by omega)] | rw [if_neg (by omega), if_pos (by omega)] | rw [if_neg (by omega), if_neg (by omega), if_pos (by omega)] | rw [if_neg (by omega), if_neg (by omega), if_neg (by omega)]); exact ⟨_, rfl, by rw [hcd, ← e10]; exact (hKc.fq (by omega)), fun _ => by rw [if_neg (fun q => q hv4), if_pos ⟨by omega, by omega⟩], _, _, by rw [if_pos hcd]; exact (by rw [if_neg (fun q => q hv4), if_pos ⟨by omega, by omega⟩]; exact hM.kp hKc)⟩)) (by omega) (by omega)
                · skip
                  refine pw_iload_n C dX10_file_131 rfl ?_
                  refine pw_iload C dX10_file_132 rfl ?_
                  refine pw_cSE C hX dX10_file_134 ml_X10_166 mc_X10_has (m_has (set := set) (f := f) (by omega) (by omega)) rfl rfl ⟨Nat.le_of_ble_eq_true rfl, Nat.le_of_ble_eq_true rfl⟩ (Nat.le_of_ble_eq_true rfl) (by show 2 + 0 ≤ 4 ∧ 14 + 0 ≤ 118; omega) ?_
                  refine pw_ifB_ne (tgt := 143) C dX10_file_137 (by decide) (fun c_137 => ?_) (fun c_137 => ?_)
                  · skip
                    refine pw_aload C dX10_file_143 rfl ?_
                    refine pw_getR C dX10_file_145 fl_X10_169 hTc.1 rfl hTc.2.1 ?_
                    refine pw_iload C dX10_file_148 rfl ?_
                    refine pw_iload C dX10_file_150 rfl ?_
                    refine pw_if_eq (tgt := 169) C dX10_file_152 (by decide) (by omega) (fun c_152 => ?_) (fun c_152 => ?_)
                    · skip
                      refine pw_aload_n C dX10_file_169 rfl ?_
                      refine pw_aload_n C dX10_file_170 rfl ?_
                      refine pw_iload_n C dX10_file_171 rfl ?_
                      refine pw_iload C dX10_file_172 rfl ?_
                      refine pw_cVR C hX dX10_file_174 ml_X10_123 mc_X10_fact (m_fact hMc hA (s := s) (f := f) (by omega) (by omega)) kc_13 hMc.k rfl rfl ⟨Nat.le_of_ble_eq_true rfl, Nat.le_of_ble_eq_true rfl⟩ (Nat.le_of_ble_eq_true rfl) (by show 2 + 0 ≤ 4 ∧ 14 + 0 ≤ 118; omega) ?_
                      refine pw_cVE C hX dX10_file_177 ml_X10_96 mc_X10_truth (m_truth hMc hA (hMc.fa (s * 4 + f) (by omega) (by omega)) (hA.fa (s * 4 + f) (by omega)).f0) kc_13 hMc.k rfl rfl ⟨Nat.le_of_ble_eq_true rfl, Nat.le_of_ble_eq_true rfl⟩ (Nat.le_of_ble_eq_true rfl) (by show 2 + 0 ≤ 4 ∧ 14 + 0 ≤ 118; omega) ?_
                      have b_mst59 := mst_bd (S := A 10) (F := A (100 + (s * 4 + f))) (z := 1)
                      have hvt : mst (A 10) (A (100 + (s * 4 + f))) 1 = vtf A g (s * 4 + f) := by have q := hW.f (s * 4 + f) (by omega) (by omega); show _ = (if g = 0 then _ else _); rw [if_pos c_152]; exact q.1.symm
                      have bv9 := hA.fa (s * 4 + f) (by omega)
                      have bv8 := bv9.s0
                      have bv7 := bv9.s2
                      have bv : -1 ≤ vtf A g (s * 4 + f) ∧ vtf A g (s * 4 + f) ≤ 99 := by rw [← hvt]; omega
                      obtain ⟨v, ev⟩ : ∃ v, vtf A g (s * 4 + f) = v := ⟨_, rfl⟩
                      rw [ev] at hvt bv
                      rw [hvt]
                      clear hvt bv9 bv8 bv7
                      refine pw_iastG C dX10_file_180 hTc.2.2.1 (by omega) (fun M9 e9 => ?_)
                      have hT9 : MTa G2 M9 x (lup Tc 0 f v) := by rw [e9]; exact hTc.v
                      have hK9 : Kp G M10 G2 M9 := by rw [e9]; exact hKc.w (x := x + 1) (by omega) agr_M1 rfl
                      have hv9 : M9 1 (x + 1) f = v := by rw [e9, mup_s]
                      clear e9
                      refine pw_aload C dX10_file_181 rfl ?_
                      refine pw_getR C dX10_file_183 fl_X10_169 hT9.1 rfl hT9.2.1 ?_
                      refine pw_iload C dX10_file_186 rfl ?_
                      refine pw_ialdE C dX10_file_188 hT9.2.2.1 (by omega) hv9 ?_
                      refine pw_iconst C dX10_file_189 ?_
                      refine pw_icmp_ne (tgt := 196) C dX10_file_190 (by decide) (by omega) (fun c_190 => ?_) (fun c_190 => ?_)
                      · skip
                        refine pw_iinc C dX10_file_196 rfl (Nat.le_of_ble_eq_true rfl) rfl ?_
                        refine pw_goto (tgt := 125) C dX10_file_199 (by decide) ?_
                        exact pw_locs (by exact ⟨rfl, cat_vR _, rfl, rfl, rfl, rfl, rfl, rfl, rfl, rfl, rfl, rfl, rfl, rfl, rfl, cat_vR _, rfl, rfl, trivial⟩) (ih_125 (f + 1) M9 (lup Tc 0 f v) (by omega) (hK9) (hT9) (fun j => by rw [lup_n (by omega)]; exact ht1 j) (fun j q1 q2 q3 => by by_cases e : j = f; (rw [e, lup_s, ev]); (rw [lup_n (by omega)]; exact htv j q1 (by omega) q3)) (fnd_go (by omega) hf (fun q => c_190 (by rw [← ev]; exact q.2))) (by omega))
                      · skip
                        refine pw_bipush C dX10_file_193 rfl ?_
                        have hv3 : ¬ hv A s set g = 4 := by rw [← fnd_at (by omega) hf ⟨c_137, by rw [ev]; exact c_190⟩]; omega
                        exact pw_iret C hR dX10_file_195 ((by have hcd : cd3 (0 ≤ s ∧ s < A 0 0 0) ((k = 0 ∨ k = 3 ∨ k = 4) ∧ (1 ≤ set ∧ set ≤ 15) ∧ 0 ≤ hd ∧ hd ≤ 9999) (A 0 0 1 < 60) = 0 := (by unfold cd3; first | (exfalso; omega) | rw [if_pos (by omega)] | rw [if_neg (by omega), if_pos (by omega)] | rw [if_neg (by omega), if_neg (by omega), if_pos (by omega)] | rw [if_neg (by omega), if_neg (by omega), if_neg (by omega)]); exact ⟨_, rfl, by rw [hcd, ← e10]; exact (hK9.fq (by omega)), fun _ => by rw [if_pos hv3], _, _, by rw [if_pos hcd]; exact (by rw [if_pos hv3]; exact hM.kp hK9)⟩)) (by omega) (by omega)
                    · skip
                      refine pw_aload_n C dX10_file_155 rfl ?_
                      refine pw_aload_n C dX10_file_156 rfl ?_
                      refine pw_iload_n C dX10_file_157 rfl ?_
                      refine pw_iload C dX10_file_158 rfl ?_
                      refine pw_cVR C hX dX10_file_160 ml_X10_123 mc_X10_fact (m_fact hMc hA (s := s) (f := f) (by omega) (by omega)) kc_13 hMc.k rfl rfl ⟨Nat.le_of_ble_eq_true rfl, Nat.le_of_ble_eq_true rfl⟩ (Nat.le_of_ble_eq_true rfl) (by show 2 + 0 ≤ 4 ∧ 14 + 0 ≤ 118; omega) ?_
                      refine pw_cVE C hX dX10_file_163 ml_X10_172 mc_X10_heard (m_heard hMc hA (hMc.fa (s * 4 + f) (by omega) (by omega)) (hA.fa (s * 4 + f) (by omega)).f0) kc_13 hMc.k rfl rfl ⟨Nat.le_of_ble_eq_true rfl, Nat.le_of_ble_eq_true rfl⟩ (Nat.le_of_ble_eq_true rfl) (by show 2 + 0 ≤ 4 ∧ 14 + 0 ≤ 118; omega) ?_
                      have b_mhd60 : -1 ≤ mhd (A 10) (A (100 + (s * 4 + f))) ∧ mhd (A 10) (A (100 + (s * 4 + f))) ≤ 99 := by have := mst_bd (S := A 10) (F := A (100 + (s * 4 + f))) (z := 1); have := mst_bd (S := A 10) (F := A (100 + (s * 4 + f))) (z := 0); unfold mhd; omega
                      have hvt : mhd (A 10) (A (100 + (s * 4 + f))) = vtf A g (s * 4 + f) := by have q := hW.f (s * 4 + f) (by omega) (by omega); show _ = (if g = 0 then _ else _); rw [if_neg c_152]; exact q.2.1.symm
                      have bv9 := hA.fa (s * 4 + f) (by omega)
                      have bv8 := bv9.s0
                      have bv7 := bv9.s2
                      have bv : -1 ≤ vtf A g (s * 4 + f) ∧ vtf A g (s * 4 + f) ≤ 99 := by rw [← hvt]; omega
                      obtain ⟨v, ev⟩ : ∃ v, vtf A g (s * 4 + f) = v := ⟨_, rfl⟩
                      rw [ev] at hvt bv
                      rw [hvt]
                      clear hvt bv9 bv8 bv7
                      refine pw_goto (tgt := 180) C dX10_file_166 (by decide) ?_
                      refine pw_iastG C dX10_file_180 hTc.2.2.1 (by omega) (fun M9 e9 => ?_)
                      have hT9 : MTa G2 M9 x (lup Tc 0 f v) := by rw [e9]; exact hTc.v
                      have hK9 : Kp G M10 G2 M9 := by rw [e9]; exact hKc.w (x := x + 1) (by omega) agr_M1 rfl
                      have hv9 : M9 1 (x + 1) f = v := by rw [e9, mup_s]
                      clear e9
                      refine pw_aload C dX10_file_181 rfl ?_
                      refine pw_getR C dX10_file_183 fl_X10_169 hT9.1 rfl hT9.2.1 ?_
                      refine pw_iload C dX10_file_186 rfl ?_
                      refine pw_ialdE C dX10_file_188 hT9.2.2.1 (by omega) hv9 ?_
                      refine pw_iconst C dX10_file_189 ?_
                      refine pw_icmp_ne (tgt := 196) C dX10_file_190 (by decide) (by omega) (fun c_190 => ?_) (fun c_190 => ?_)
                      · skip
                        refine pw_iinc C dX10_file_196 rfl (Nat.le_of_ble_eq_true rfl) rfl ?_
                        refine pw_goto (tgt := 125) C dX10_file_199 (by decide) ?_
                        exact pw_locs (by exact ⟨rfl, cat_vR _, rfl, rfl, rfl, rfl, rfl, rfl, rfl, rfl, rfl, rfl, rfl, rfl, rfl, cat_vR _, rfl, rfl, trivial⟩) (ih_125 (f + 1) M9 (lup Tc 0 f v) (by omega) (hK9) (hT9) (fun j => by rw [lup_n (by omega)]; exact ht1 j) (fun j q1 q2 q3 => by by_cases e : j = f; (rw [e, lup_s, ev]); (rw [lup_n (by omega)]; exact htv j q1 (by omega) q3)) (fnd_go (by omega) hf (fun q => c_190 (by rw [← ev]; exact q.2))) (by omega))
                      · skip
                        refine pw_bipush C dX10_file_193 rfl ?_
                        have hv3 : ¬ hv A s set g = 4 := by rw [← fnd_at (by omega) hf ⟨c_137, by rw [ev]; exact c_190⟩]; omega
                        exact pw_iret C hR dX10_file_195 ((by have hcd : cd3 (0 ≤ s ∧ s < A 0 0 0) ((k = 0 ∨ k = 3 ∨ k = 4) ∧ (1 ≤ set ∧ set ≤ 15) ∧ 0 ≤ hd ∧ hd ≤ 9999) (A 0 0 1 < 60) = 0 := (by unfold cd3; first | (exfalso; omega) | rw [if_pos (by omega)] | rw [if_neg (by omega), if_pos (by omega)] | rw [if_neg (by omega), if_neg (by omega), if_pos (by omega)] | rw [if_neg (by omega), if_neg (by omega), if_neg (by omega)]); exact ⟨_, rfl, by rw [hcd, ← e10]; exact (hK9.fq (by omega)), fun _ => by rw [if_pos hv3], _, _, by rw [if_pos hcd]; exact (by rw [if_pos hv3]; exact hM.kp hK9)⟩)) (by omega) (by omega)
                  · skip
                    refine pw_goto (tgt := 196) C dX10_file_140 (by decide) ?_
                    refine pw_iinc C dX10_file_196 rfl (Nat.le_of_ble_eq_true rfl) rfl ?_
                    refine pw_goto (tgt := 125) C dX10_file_199 (by decide) ?_
                    exact pw_locs (by exact ⟨rfl, cat_vR _, rfl, rfl, rfl, rfl, rfl, rfl, rfl, rfl, rfl, rfl, rfl, rfl, rfl, cat_vR _, rfl, rfl, trivial⟩) (ih_125 (f + 1) Mc Tc (by omega) (hKc) (hTc) (ht1) (fun j q1 q2 q3 => by by_cases e : j = f; (rw [e] at q3; exact absurd q3 c_137); (exact htv j q1 (by omega) q3)) (fnd_go (by omega) hf (fun q => c_137 q.1)) (by omega))
            · skip
              refine pw_iconst C dX10_file_75 ?_
              refine pw_goto (tgt := 80) C dX10_file_76 (by decide) ?_
              refine pw_iconst C dX10_file_80 ?_
              refine pw_cVI C hX dX10_file_81 ml_X10_29 mc_X10_refuse (m_refuse hM hA (z := 1) (w := 3) (by omega) (by omega) (by rw [e9, mup_s])) kc_13 hM.k rfl rfl ⟨Nat.le_of_ble_eq_true rfl, Nat.le_of_ble_eq_true rfl⟩ (Nat.le_of_ble_eq_true rfl) (by show 0 + 0 ≤ 4 ∧ 0 + 0 ≤ 118; omega) (fun r_ G M11 hq_ => ?_)
              obtain ⟨rfl, rfl, e11⟩ := hq_
              rw [if_neg (by decide)] at e11
              have hMn : RM G M11 Q A D I := by rw [e11]; exact hM.th
              rw [e9, mup_mup] at e11
              clear hM
              have hM := hMn
              clear hMn
              have hK11 : Kp G M11 G M11 := Kp.rf
              refine pw_ifL_eqn (tgt := 89) C dX10_file_84 (by decide) rfl ?_
              refine pw_iconst C dX10_file_87 ?_
              exact pw_iret C hR dX10_file_88 ((by have hcd : cd3 (0 ≤ s ∧ s < A 0 0 0) ((k = 0 ∨ k = 3 ∨ k = 4) ∧ (1 ≤ set ∧ set ≤ 15) ∧ 0 ≤ hd ∧ hd ≤ 9999) (A 0 0 1 < 60) = 3 := (by unfold cd3; first | (exfalso; omega) | rw [if_pos (by omega)] | rw [if_neg (by omega), if_pos (by omega)] | rw [if_neg (by omega), if_neg (by omega), if_pos (by omega)] | rw [if_neg (by omega), if_neg (by omega), if_neg (by omega)]); exact ⟨_, rfl, by rw [hcd, ← e11]; exact Fq.rf, fun h => absurd (hcd.symm.trans h) (by decide), D, I, by rw [if_neg (fun h => absurd (hcd.symm.trans h) (by decide))]; exact hM⟩)) (by show _ ≤ 4; omega) (by show _ ≤ 118; omega)
          · skip
            refine pw_iconst C dX10_file_50 ?_
            refine pw_goto (tgt := 55) C dX10_file_51 (by decide) ?_
            refine pw_iconst C dX10_file_55 ?_
            refine pw_cVI C hX dX10_file_56 ml_X10_29 mc_X10_refuse (m_refuse hM hA (z := 1) (w := 2) (by omega) (by omega) (by rw [e2, mup_s])) kc_13 hM.k rfl rfl ⟨Nat.le_of_ble_eq_true rfl, Nat.le_of_ble_eq_true rfl⟩ (Nat.le_of_ble_eq_true rfl) (by show 0 + 0 ≤ 4 ∧ 0 + 0 ≤ 118; omega) (fun r_ G M12 hq_ => ?_)
            obtain ⟨rfl, rfl, e12⟩ := hq_
            rw [if_neg (by decide)] at e12
            have hMn : RM G M12 Q A D I := by rw [e12]; exact hM.th
            rw [e2, mup_mup] at e12
            clear hM
            have hM := hMn
            clear hMn
            have hK12 : Kp G M12 G M12 := Kp.rf
            refine pw_ifL_ne (tgt := 87) C dX10_file_59 (by decide) rfl ?_
            refine pw_iconst C dX10_file_87 ?_
            exact pw_iret C hR dX10_file_88 ((by have hcd : cd3 (0 ≤ s ∧ s < A 0 0 0) ((k = 0 ∨ k = 3 ∨ k = 4) ∧ (1 ≤ set ∧ set ≤ 15) ∧ 0 ≤ hd ∧ hd ≤ 9999) (A 0 0 1 < 60) = 2 := (by unfold cd3; first | (exfalso; omega) | rw [if_pos (by omega)] | rw [if_neg (by omega), if_pos (by omega)] | rw [if_neg (by omega), if_neg (by omega), if_pos (by omega)] | rw [if_neg (by omega), if_neg (by omega), if_neg (by omega)]); exact ⟨_, rfl, by rw [hcd, ← e12]; exact Fq.rf, fun h => absurd (hcd.symm.trans h) (by decide), D, I, by rw [if_neg (fun h => absurd (hcd.symm.trans h) (by decide))]; exact hM⟩)) (by show _ ≤ 4; omega) (by show _ ≤ 118; omega)
      · skip
        refine pw_iload_n C dX10_file_23 rfl ?_
        refine pw_iconst C dX10_file_24 ?_
        refine pw_icmp_ne (tgt := 50) C dX10_file_25 (by decide) (by omega) (fun c_25 => ?_) (fun c_25 => ?_)
        · skip
          refine pw_iconst C dX10_file_50 ?_
          refine pw_goto (tgt := 55) C dX10_file_51 (by decide) ?_
          refine pw_iconst C dX10_file_55 ?_
          refine pw_cVI C hX dX10_file_56 ml_X10_29 mc_X10_refuse (m_refuse hM hA (z := 1) (w := 2) (by omega) (by omega) (by rw [e2, mup_s])) kc_13 hM.k rfl rfl ⟨Nat.le_of_ble_eq_true rfl, Nat.le_of_ble_eq_true rfl⟩ (Nat.le_of_ble_eq_true rfl) (by show 0 + 0 ≤ 4 ∧ 0 + 0 ≤ 118; omega) (fun r_ G M13 hq_ => ?_)
          obtain ⟨rfl, rfl, e13⟩ := hq_
          rw [if_neg (by decide)] at e13
          have hMn : RM G M13 Q A D I := by rw [e13]; exact hM.th
          rw [e2, mup_mup] at e13
          clear hM
          have hM := hMn
          clear hMn
          have hK13 : Kp G M13 G M13 := Kp.rf
          refine pw_ifL_ne (tgt := 87) C dX10_file_59 (by decide) rfl ?_
          refine pw_iconst C dX10_file_87 ?_
          exact pw_iret C hR dX10_file_88 ((by have hcd : cd3 (0 ≤ s ∧ s < A 0 0 0) ((k = 0 ∨ k = 3 ∨ k = 4) ∧ (1 ≤ set ∧ set ≤ 15) ∧ 0 ≤ hd ∧ hd ≤ 9999) (A 0 0 1 < 60) = 2 := (by unfold cd3; first | (exfalso; omega) | rw [if_pos (by omega)] | rw [if_neg (by omega), if_pos (by omega)] | rw [if_neg (by omega), if_neg (by omega), if_pos (by omega)] | rw [if_neg (by omega), if_neg (by omega), if_neg (by omega)]); exact ⟨_, rfl, by rw [hcd, ← e13]; exact Fq.rf, fun h => absurd (hcd.symm.trans h) (by decide), D, I, by rw [if_neg (fun h => absurd (hcd.symm.trans h) (by decide))]; exact hM⟩)) (by show _ ≤ 4; omega) (by show _ ≤ 118; omega)
        · skip
          refine pw_iload_n C dX10_file_28 rfl ?_
          refine pw_iconst C dX10_file_29 ?_
          refine pw_bipush C dX10_file_30 rfl ?_
          refine pw_cSE C hX dX10_file_32 ml_X10_37 mc_X10_isIn (m_isIn (v := set) (lo := 1) (hi := 15) (by omega) (by omega) (by omega)) rfl rfl ⟨Nat.le_of_ble_eq_true rfl, Nat.le_of_ble_eq_true rfl⟩ (Nat.le_of_ble_eq_true rfl) (by show 0 + 0 ≤ 4 ∧ 0 + 0 ≤ 118; omega) ?_
          refine pw_ifB_eq (tgt := 50) C dX10_file_35 (by decide) (fun c_35 => ?_) (fun c_35 => ?_)
          · skip
            refine pw_iconst C dX10_file_50 ?_
            refine pw_goto (tgt := 55) C dX10_file_51 (by decide) ?_
            refine pw_iconst C dX10_file_55 ?_
            refine pw_cVI C hX dX10_file_56 ml_X10_29 mc_X10_refuse (m_refuse hM hA (z := 1) (w := 2) (by omega) (by omega) (by rw [e2, mup_s])) kc_13 hM.k rfl rfl ⟨Nat.le_of_ble_eq_true rfl, Nat.le_of_ble_eq_true rfl⟩ (Nat.le_of_ble_eq_true rfl) (by show 0 + 0 ≤ 4 ∧ 0 + 0 ≤ 118; omega) (fun r_ G M14 hq_ => ?_)
            obtain ⟨rfl, rfl, e14⟩ := hq_
            rw [if_neg (by decide)] at e14
            have hMn : RM G M14 Q A D I := by rw [e14]; exact hM.th
            rw [e2, mup_mup] at e14
            clear hM
            have hM := hMn
            clear hMn
            have hK14 : Kp G M14 G M14 := Kp.rf
            refine pw_ifL_ne (tgt := 87) C dX10_file_59 (by decide) rfl ?_
            refine pw_iconst C dX10_file_87 ?_
            exact pw_iret C hR dX10_file_88 ((by have hcd : cd3 (0 ≤ s ∧ s < A 0 0 0) ((k = 0 ∨ k = 3 ∨ k = 4) ∧ (1 ≤ set ∧ set ≤ 15) ∧ 0 ≤ hd ∧ hd ≤ 9999) (A 0 0 1 < 60) = 2 := (by unfold cd3; first | (exfalso; omega) | rw [if_pos (by omega)] | rw [if_neg (by omega), if_pos (by omega)] | rw [if_neg (by omega), if_neg (by omega), if_pos (by omega)] | rw [if_neg (by omega), if_neg (by omega), if_neg (by omega)]); exact ⟨_, rfl, by rw [hcd, ← e14]; exact Fq.rf, fun h => absurd (hcd.symm.trans h) (by decide), D, I, by rw [if_neg (fun h => absurd (hcd.symm.trans h) (by decide))]; exact hM⟩)) (by show _ ≤ 4; omega) (by show _ ≤ 118; omega)
          · skip
            refine pw_iload C dX10_file_38 rfl ?_
            refine pw_iconst C dX10_file_40 ?_
            refine pw_sipush C dX10_file_41 rfl ?_
            refine pw_cSE C hX dX10_file_44 ml_X10_37 mc_X10_isIn (m_isIn (v := hd) (lo := 0) (hi := 9999) (by omega) (by omega) (by omega)) rfl rfl ⟨Nat.le_of_ble_eq_true rfl, Nat.le_of_ble_eq_true rfl⟩ (Nat.le_of_ble_eq_true rfl) (by show 0 + 0 ≤ 4 ∧ 0 + 0 ≤ 118; omega) ?_
            refine pw_ifB_ne (tgt := 54) C dX10_file_47 (by decide) (fun c_47 => ?_) (fun c_47 => ?_)
            · skip
              refine pw_iconst C dX10_file_54 ?_
              refine pw_iconst C dX10_file_55 ?_
              refine pw_cVI C hX dX10_file_56 ml_X10_29 mc_X10_refuse (m_refuse hM hA (z := 0) (w := 2) (by omega) (by omega) (by rw [e2, mup_s])) kc_13 hM.k rfl rfl ⟨Nat.le_of_ble_eq_true rfl, Nat.le_of_ble_eq_true rfl⟩ (Nat.le_of_ble_eq_true rfl) (by show 0 + 0 ≤ 4 ∧ 0 + 0 ≤ 118; omega) (fun r_ G M15 hq_ => ?_)
              obtain ⟨rfl, rfl, e15⟩ := hq_
              rw [if_pos rfl] at e15
              have hMn : RM G M15 Q A D I := by rw [e15]; exact hM.th
              rw [e2, mup_mup] at e15
              clear hM
              have hM := hMn
              clear hMn
              have hK15 : Kp G M15 G M15 := Kp.rf
              refine pw_ifL_nen (tgt := 87) C dX10_file_59 (by decide) rfl ?_
              refine pw_aload_n C dX10_file_62 rfl ?_
              refine pw_aload_n C dX10_file_63 rfl ?_
              refine pw_getR C dX10_file_64 fl_X10_19 hM.k rfl hM.r3 ?_
              refine pw_cVE C hX dX10_file_67 ml_X10_33 mc_Jx4a65c_size_8abf5 (c_size hM.l3) kc_2 hM.l3.k rfl rfl ⟨Nat.le_of_ble_eq_true rfl, Nat.le_of_ble_eq_true rfl⟩ (Nat.le_of_ble_eq_true rfl) (by show 0 + 0 ≤ 4 ∧ 0 + 0 ≤ 118; omega) ?_
              refine pw_bipush C dX10_file_70 rfl ?_
              refine pw_icmp_ne (tgt := 79) C dX10_file_72 (by decide) (by omega) (fun c_72 => ?_) (fun c_72 => ?_)
              · skip
                refine pw_iconst C dX10_file_79 ?_
                refine pw_iconst C dX10_file_80 ?_
                refine pw_cVI C hX dX10_file_81 ml_X10_29 mc_X10_refuse (m_refuse hM hA (z := 0) (w := 3) (by omega) (by omega) (by rw [e15, mup_s])) kc_13 hM.k rfl rfl ⟨Nat.le_of_ble_eq_true rfl, Nat.le_of_ble_eq_true rfl⟩ (Nat.le_of_ble_eq_true rfl) (by show 0 + 0 ≤ 4 ∧ 0 + 0 ≤ 118; omega) (fun r_ G M16 hq_ => ?_)
                obtain ⟨rfl, rfl, e16⟩ := hq_
                rw [if_pos rfl] at e16
                have hMn : RM G M16 Q A D I := by rw [e16]; exact hM.th
                rw [e15, mup_mup] at e16
                clear hM
                have hM := hMn
                clear hMn
                have hK16 : Kp G M16 G M16 := Kp.rf
                refine pw_ifL_eq (tgt := 89) C dX10_file_84 (by decide) rfl ?_
                refine pw_iload_n C dX10_file_89 rfl ?_
                refine pw_cSE C hX dX10_file_90 ml_X10_65 mc_J6_bitCount_0f7a4 (c_bitCount (x := set) (by omega)) rfl rfl ⟨Nat.le_of_ble_eq_true rfl, Nat.le_of_ble_eq_true rfl⟩ (Nat.le_of_ble_eq_true rfl) (by show 0 + 0 ≤ 4 ∧ 0 + 0 ≤ 118; omega) ?_
                refine pw_istore C dX10_file_93 (Nat.le_of_ble_eq_true rfl) rfl ?_
                have bbc := bc_bd set
                refine pw_new C dX10_file_95 nl_X10_154 (Nat.le_of_ble_eq_true rfl) (Nat.le_of_ble_eq_true rfl) ?_
                have hKn : Kp G M16 (nG G 12 0) (nM G M16) := Kp.rf.new
                have hn0 : nG G 12 0 0 (G 4 0 0) 0 = 12 := nG_kind
                have hn4 : nG G 12 0 4 0 0 = G 4 0 0 + 1 := nG_next
                have hnz : ∀ f, nM G M16 0 f (G 4 0 0) = 0 := fun f => nM_fld
                have hq9 := hM.q
                obtain ⟨x, ex⟩ : ∃ x, G 4 0 0 = x := ⟨_, rfl⟩
                rw [ex] at hn0 hn4 hnz hq9 ⊢
                generalize nG G 12 0 = Gn at hKn hn0 hn4 ⊢
                generalize nM G M16 = Mn at hKn hnz ⊢
                have hMn := hM.kp hKn
                refine pw_dup C dX10_file_98 (cat_vR _) ?_
                refine pw_iload_n C dX10_file_99 rfl ?_
                refine pw_iload_n C dX10_file_100 rfl ?_
                refine pw_iload_n C dX10_file_101 rfl ?_
                refine pw_iload C dX10_file_102 rfl ?_
                refine pw_iload_n C dX10_file_104 rfl ?_
                refine pw_iload C dX10_file_105 rfl ?_
                refine pw_cSEw C hX dX10_file_107 ml_X10_161 mc_X10_words (m_words (k := k) (n := (bc set)) (by omega) (by omega)) rfl rfl ⟨Nat.le_of_ble_eq_true rfl, Nat.le_of_ble_eq_true rfl⟩ (cat6 rfl rfl rfl rfl (cat_vR _) (cat_vR _)) (by show 1 + 0 ≤ 4 ∧ 10 + 0 ≤ 118; omega) ?_
                refine pw_iload C dX10_file_110 rfl ?_
                refine pw_iconst C dX10_file_112 ?_
                refine pw_aload_n C dX10_file_113 rfl ?_
                refine pw_getE C dX10_file_114 fl_X10_130 rfl hMn.k hMn.w ?_
                refine pw_cIU C hX dX10_file_117 ml_X10_163 mc_X9_init (m_takeInit (a := x) (s := s) (k := k) (set := set) (g := g) (wd := (if k = 0 then 8 else if k = 3 then 20 + 15 * (bc set) else 60 + 30 * (bc set))) (hd := hd) (of := (-1)) (fd := A 0 0 3) (by omega) hn0 hn4 hnz (by omega)) (by omega) rfl rfl ⟨Nat.le_of_ble_eq_true rfl, Nat.le_of_ble_eq_true rfl⟩ (Nat.le_of_ble_eq_true rfl) (by show 1 + 1 ≤ 4 ∧ 10 + 4 ≤ 118; omega) (fun G2 M2 hq_ => ?_)
                obtain ⟨hTm, h24, ho2⟩ := hq_
                have hK2 : Kp G M16 G2 M2 := ⟨fun b hb => (hKn.1 b hb).tr (ho2 b (by omega)), by omega⟩
                have hM2 := hM.kp hK2
                clear ho2 hKn hn0 hn4 hnz hMn
                refine pw_astore C dX10_file_120 (Nat.le_of_ble_eq_true rfl) rfl ?_
                refine pw_iconst C dX10_file_122 ?_
                refine pw_istore C dX10_file_123 (Nat.le_of_ble_eq_true rfl) rfl ?_
                suffices K_125 : ∀ (nn_125 : Nat) (f : Int) (Mc : Mm) (Tc : Fn), (0 ≤ f ∧ f ≤ 4) → (Kp G M16 G2 Mc) → (MTa G2 Mc x Tc) → (∀ j, Tc 1 j = (Tmk s k set g (if k = 0 then 8 else if k = 3 then 20 + 15 * (bc set) else 60 + 30 * (bc set)) hd (-1) (A 0 0 3)) 1 j) → (∀ j, 0 ≤ j → j < f → ins set j → Tc 0 j = vtf A g (s * 4 + j)) → (fnd (fun f => ins set f ∧ vtf A g (s * 4 + f) = -1) f 4 = hv A s set g) → 4 - f < (nn_125 : Int) → PW E G2 Mc 2 14 125 [(0, 1, vR Q), (1, 1, vI s), (2, 1, vI k), (3, 1, vI set), (4, 1, vI g), (5, 1, vI hd), (6, 1, vI (bc set)), (7, 1, vR x), (8, 1, vI f)] [] from pw_locs (by exact ⟨rfl, cat_vR _, rfl, rfl, rfl, rfl, rfl, rfl, rfl, rfl, rfl, rfl, rfl, rfl, rfl, cat_vR _, rfl, rfl, trivial⟩) (K_125 (4 - 0 + 1 : Int).toNat 0 M2 (Tmk s k set g (if k = 0 then 8 else if k = 3 then 20 + 15 * (bc set) else 60 + 30 * (bc set)) hd (-1) (A 0 0 3)) (by omega) (by first | exact hK2 | omega) (by first | exact hTm | omega) (by first | exact fun j => rfl | omega) (by first | exact fun j q1 q2 => by omega | omega) (by first | exact rfl | omega) (by omega))
                intro nn_125
                induction nn_125 with
                | zero => intro f Mc Tc h1 hKc hTc ht1 htv hf h_m125; exact absurd h_m125 (by omega)
                | succ nn_125 ih_125 =>
                  intro f Mc Tc h1 hKc hTc ht1 htv hf h_m125
                  have hMc := hM.kp hKc
                  refine pw_iload C dX10_file_125 rfl ?_
                  refine pw_iconst C dX10_file_127 ?_
                  refine pw_icmp_ge (tgt := 202) C dX10_file_128 (by decide) (by omega) (fun c_128 => ?_) (fun c_128 => ?_)
                  · skip
                    have hv4 : hv A s set g = 4 := by rw [← fnd_no (by omega) hf]; omega
                    refine pw_iload_n C dX10_file_202 rfl ?_
                    refine pw_if_ne (tgt := 215) C dX10_file_203 (by decide) (by omega) (fun c_203 => ?_) (fun c_203 => ?_)
                    · skip
                      refine pw_aload_n C dX10_file_215 rfl ?_
                      refine pw_aload C dX10_file_216 rfl ?_
                      have hno : ¬ (k = 0 ∧ ¬ bc set = 1) := by omega
                      have zT := nT_1 (A := A) (s := s) (k := k) (set := set) (g := g) (hd := hd) (tg := -1)
                      have b7 := hB.2.1 (A 0 0 1) (Int.le_refl _) (by omega)
                      have hwd : (if k = 0 then 8 else if k = 3 then 20 + 15 * (bc set) else 60 + 30 * (bc set)) = wdf k (bc set) := by unfold wdf; rcases (show k = 0 ∨ k = 3 ∨ k = 4 by omega) with e | e | e <;> (subst e; rfl)
                      have bwd := wdf_bd (k := k) (set := set) (by omega) (by omega)
                      have bwp := wdf_pos (k := k) (n := bc set) (by omega) (by omega)
                      have hTn : MTa G2 Mc x (nT A s k set g hd (-1)) := by
                        refine hTc.ext ⟨?_, ?_, ?_, ?_, ?_, ?_, ?_, ?_⟩ ?_ (fun j q1 q2 q3 => ?_)
                        · rw [ht1, zT.1]; rfl
                        · rw [ht1, zT.2.1]; rfl
                        · rw [ht1, zT.2.2.1]; rfl
                        · rw [ht1, zT.2.2.2.2.2.1]; rfl
                        · rw [ht1, zT.2.2.2.1]; exact hwd
                        · rw [ht1, zT.2.2.2.2.1]; rfl
                        · rw [ht1, zT.2.2.2.2.2.2.1]; rfl
                        · rw [ht1, zT.2.2.2.2.2.2.2.2]; rfl
                        · rw [ht1, zT.2.2.2.2.2.2.2.1, b7]; rfl
                        · rw [nT_0] at q3 ⊢
                          by_cases hj : ins set j
                          · rw [if_pos hj]; exact htv j q1 (by omega) hj
                          · rw [if_neg hj] at q3; exact absurd rfl q3
                      refine pw_cVU C hX dX10_file_218 ml_X10_175 mc_X10_add (m_add hM hA hKc (by omega) hTn (by omega) (by rw [zT.2.2.2.1]; omega)) kc_13 hMc.k rfl rfl ⟨Nat.le_of_ble_eq_true rfl, Nat.le_of_ble_eq_true rfl⟩ (Nat.le_of_ble_eq_true rfl) (by show 2 + 2 ≤ 4 ∧ 14 + 104 ≤ 118; omega) (fun G9 M9 hq_ => ?_)
                      obtain ⟨hFa, D9, I9, hMa⟩ := hq_
                      have hc9 : aRun (aT A (nT A s k set g hd (-1))) (A 0 0 1) 0 0 1 = A 0 0 1 + 1 := by unfold aRun; rw [onL_n (by rw [aT_0 (by omega), if_neg (by omega)]; omega), aT_0 (by omega), if_pos rfl]
                      refine pw_aload_n C dX10_file_221 rfl ?_
                      refine pw_getR C dX10_file_222 fl_X10_19 hMa.k rfl hMa.r3 ?_
                      have hLz := hMa.l3
                      rw [hc9] at hLz
                      refine pw_cVE C hX dX10_file_225 ml_X10_33 mc_Jx4a65c_size_8abf5 (c_size hLz) kc_2 hMa.l3.k rfl rfl ⟨Nat.le_of_ble_eq_true rfl, Nat.le_of_ble_eq_true rfl⟩ (Nat.le_of_ble_eq_true rfl) (by show 4 + 0 ≤ 4 ∧ 118 + 0 ≤ 118; omega) ?_
                      refine pw_iconst C dX10_file_228 ?_
                      refine pw_isub C dX10_file_229 ?_
                      exact pw_iret C hR dX10_file_230 ((by have hcd : cd3 (0 ≤ s ∧ s < A 0 0 0) ((k = 0 ∨ k = 3 ∨ k = 4) ∧ (1 ≤ set ∧ set ≤ 15) ∧ 0 ≤ hd ∧ hd ≤ 9999) (A 0 0 1 < 60) = 0 := (by unfold cd3; first | (exfalso; omega) | rw [if_pos (by omega)] | rw [if_neg (by omega), if_pos (by omega)] | rw [if_neg (by omega), if_neg (by omega), if_pos (by omega)] | rw [if_neg (by omega), if_neg (by omega), if_neg (by omega)]); exact ⟨_, rfl, by rw [hcd, ← e16]; exact hFa, fun _ => by rw [if_neg (fun q => q hv4), if_neg hno]; omega, _, _, by rw [if_pos hcd]; exact (by rw [if_neg (fun q => q hv4), if_neg hno]; exact hMa)⟩)) (by omega) (by omega)
                    · skip
                      refine pw_iload C dX10_file_206 rfl ?_
                      refine pw_iconst C dX10_file_208 ?_
                      refine pw_icmp_eq (tgt := 215) C dX10_file_209 (by decide) (by omega) (fun c_209 => ?_) (fun c_209 => ?_)
                      · skip
                        refine pw_aload_n C dX10_file_215 rfl ?_
                        refine pw_aload C dX10_file_216 rfl ?_
                        have hno : ¬ (k = 0 ∧ ¬ bc set = 1) := by omega
                        have zT := nT_1 (A := A) (s := s) (k := k) (set := set) (g := g) (hd := hd) (tg := -1)
                        have b7 := hB.2.1 (A 0 0 1) (Int.le_refl _) (by omega)
                        have hwd : (if k = 0 then 8 else if k = 3 then 20 + 15 * (bc set) else 60 + 30 * (bc set)) = wdf k (bc set) := by unfold wdf; rcases (show k = 0 ∨ k = 3 ∨ k = 4 by omega) with e | e | e <;> (subst e; rfl)
                        have bwd := wdf_bd (k := k) (set := set) (by omega) (by omega)
                        have bwp := wdf_pos (k := k) (n := bc set) (by omega) (by omega)
                        have hTn : MTa G2 Mc x (nT A s k set g hd (-1)) := by
                          refine hTc.ext ⟨?_, ?_, ?_, ?_, ?_, ?_, ?_, ?_⟩ ?_ (fun j q1 q2 q3 => ?_)
                          · rw [ht1, zT.1]; rfl
                          · rw [ht1, zT.2.1]; rfl
                          · rw [ht1, zT.2.2.1]; rfl
                          · rw [ht1, zT.2.2.2.2.2.1]; rfl
                          · rw [ht1, zT.2.2.2.1]; exact hwd
                          · rw [ht1, zT.2.2.2.2.1]; rfl
                          · rw [ht1, zT.2.2.2.2.2.2.1]; rfl
                          · rw [ht1, zT.2.2.2.2.2.2.2.2]; rfl
                          · rw [ht1, zT.2.2.2.2.2.2.2.1, b7]; rfl
                          · rw [nT_0] at q3 ⊢
                            by_cases hj : ins set j
                            · rw [if_pos hj]; exact htv j q1 (by omega) hj
                            · rw [if_neg hj] at q3; exact absurd rfl q3
                        refine pw_cVU C hX dX10_file_218 ml_X10_175 mc_X10_add (m_add hM hA hKc (by omega) hTn (by omega) (by rw [zT.2.2.2.1]; omega)) kc_13 hMc.k rfl rfl ⟨Nat.le_of_ble_eq_true rfl, Nat.le_of_ble_eq_true rfl⟩ (Nat.le_of_ble_eq_true rfl) (by show 2 + 2 ≤ 4 ∧ 14 + 104 ≤ 118; omega) (fun G9 M9 hq_ => ?_)
                        obtain ⟨hFa, D9, I9, hMa⟩ := hq_
                        have hc9 : aRun (aT A (nT A s k set g hd (-1))) (A 0 0 1) 0 0 1 = A 0 0 1 + 1 := by unfold aRun; rw [onL_n (by rw [aT_0 (by omega), if_neg (by omega)]; omega), aT_0 (by omega), if_pos rfl]
                        refine pw_aload_n C dX10_file_221 rfl ?_
                        refine pw_getR C dX10_file_222 fl_X10_19 hMa.k rfl hMa.r3 ?_
                        have hLz := hMa.l3
                        rw [hc9] at hLz
                        refine pw_cVE C hX dX10_file_225 ml_X10_33 mc_Jx4a65c_size_8abf5 (c_size hLz) kc_2 hMa.l3.k rfl rfl ⟨Nat.le_of_ble_eq_true rfl, Nat.le_of_ble_eq_true rfl⟩ (Nat.le_of_ble_eq_true rfl) (by show 4 + 0 ≤ 4 ∧ 118 + 0 ≤ 118; omega) ?_
                        refine pw_iconst C dX10_file_228 ?_
                        refine pw_isub C dX10_file_229 ?_
                        exact pw_iret C hR dX10_file_230 ((by have hcd : cd3 (0 ≤ s ∧ s < A 0 0 0) ((k = 0 ∨ k = 3 ∨ k = 4) ∧ (1 ≤ set ∧ set ≤ 15) ∧ 0 ≤ hd ∧ hd ≤ 9999) (A 0 0 1 < 60) = 0 := (by unfold cd3; first | (exfalso; omega) | rw [if_pos (by omega)] | rw [if_neg (by omega), if_pos (by omega)] | rw [if_neg (by omega), if_neg (by omega), if_pos (by omega)] | rw [if_neg (by omega), if_neg (by omega), if_neg (by omega)]); exact ⟨_, rfl, by rw [hcd, ← e16]; exact hFa, fun _ => by rw [if_neg (fun q => q hv4), if_neg hno]; omega, _, _, by rw [if_pos hcd]; exact (by rw [if_neg (fun q => q hv4), if_neg hno]; exact hMa)⟩)) (by omega) (by omega)
                      · skip
                        refine pw_bipush C dX10_file_212 rfl ?_
                        exact pw_iret C hR dX10_file_214 ((by have hcd : cd3 (0 ≤ s ∧ s < A 0 0 0) ((k = 0 ∨ k = 3 ∨ k = 4) ∧ (1 ≤ set ∧ set ≤ 15) ∧ 0 ≤ hd ∧ hd ≤ 9999) (A 0 0 1 < 60) = 0 := (by unfold cd3; first | (exfalso; omega) | rw [if_pos (by omega)] | rw [if_neg (by omega), if_pos (by omega)] | rw [if_neg (by omega), if_neg (by omega), if_pos (by omega)] | rw [if_neg (by omega), if_neg (by omega), if_neg (by omega)]); exact ⟨_, rfl, by rw [hcd, ← e16]; exact (hKc.fq (by omega)), fun _ => by rw [if_neg (fun q => q hv4), if_pos ⟨by omega, by omega⟩], _, _, by rw [if_pos hcd]; exact (by rw [if_neg (fun q => q hv4), if_pos ⟨by omega, by omega⟩]; exact hM.kp hKc)⟩)) (by omega) (by omega)
                  · skip
                    refine pw_iload_n C dX10_file_131 rfl ?_
                    refine pw_iload C dX10_file_132 rfl ?_
                    refine pw_cSE C hX dX10_file_134 ml_X10_166 mc_X10_has (m_has (set := set) (f := f) (by omega) (by omega)) rfl rfl ⟨Nat.le_of_ble_eq_true rfl, Nat.le_of_ble_eq_true rfl⟩ (Nat.le_of_ble_eq_true rfl) (by show 2 + 0 ≤ 4 ∧ 14 + 0 ≤ 118; omega) ?_
                    refine pw_ifB_ne (tgt := 143) C dX10_file_137 (by decide) (fun c_137 => ?_) (fun c_137 => ?_)
                    · skip
                      refine pw_aload C dX10_file_143 rfl ?_
                      refine pw_getR C dX10_file_145 fl_X10_169 hTc.1 rfl hTc.2.1 ?_
                      refine pw_iload C dX10_file_148 rfl ?_
                      refine pw_iload C dX10_file_150 rfl ?_
                      refine pw_if_eq (tgt := 169) C dX10_file_152 (by decide) (by omega) (fun c_152 => ?_) (fun c_152 => ?_)
                      · skip
                        refine pw_aload_n C dX10_file_169 rfl ?_
                        refine pw_aload_n C dX10_file_170 rfl ?_
                        refine pw_iload_n C dX10_file_171 rfl ?_
                        refine pw_iload C dX10_file_172 rfl ?_
                        refine pw_cVR C hX dX10_file_174 ml_X10_123 mc_X10_fact (m_fact hMc hA (s := s) (f := f) (by omega) (by omega)) kc_13 hMc.k rfl rfl ⟨Nat.le_of_ble_eq_true rfl, Nat.le_of_ble_eq_true rfl⟩ (Nat.le_of_ble_eq_true rfl) (by show 2 + 0 ≤ 4 ∧ 14 + 0 ≤ 118; omega) ?_
                        refine pw_cVE C hX dX10_file_177 ml_X10_96 mc_X10_truth (m_truth hMc hA (hMc.fa (s * 4 + f) (by omega) (by omega)) (hA.fa (s * 4 + f) (by omega)).f0) kc_13 hMc.k rfl rfl ⟨Nat.le_of_ble_eq_true rfl, Nat.le_of_ble_eq_true rfl⟩ (Nat.le_of_ble_eq_true rfl) (by show 2 + 0 ≤ 4 ∧ 14 + 0 ≤ 118; omega) ?_
                        have b_mst61 := mst_bd (S := A 10) (F := A (100 + (s * 4 + f))) (z := 1)
                        have hvt : mst (A 10) (A (100 + (s * 4 + f))) 1 = vtf A g (s * 4 + f) := by have q := hW.f (s * 4 + f) (by omega) (by omega); show _ = (if g = 0 then _ else _); rw [if_pos c_152]; exact q.1.symm
                        have bv9 := hA.fa (s * 4 + f) (by omega)
                        have bv8 := bv9.s0
                        have bv7 := bv9.s2
                        have bv : -1 ≤ vtf A g (s * 4 + f) ∧ vtf A g (s * 4 + f) ≤ 99 := by rw [← hvt]; omega
                        obtain ⟨v, ev⟩ : ∃ v, vtf A g (s * 4 + f) = v := ⟨_, rfl⟩
                        rw [ev] at hvt bv
                        rw [hvt]
                        clear hvt bv9 bv8 bv7
                        refine pw_iastG C dX10_file_180 hTc.2.2.1 (by omega) (fun M9 e9 => ?_)
                        have hT9 : MTa G2 M9 x (lup Tc 0 f v) := by rw [e9]; exact hTc.v
                        have hK9 : Kp G M16 G2 M9 := by rw [e9]; exact hKc.w (x := x + 1) (by omega) agr_M1 rfl
                        have hv9 : M9 1 (x + 1) f = v := by rw [e9, mup_s]
                        clear e9
                        refine pw_aload C dX10_file_181 rfl ?_
                        refine pw_getR C dX10_file_183 fl_X10_169 hT9.1 rfl hT9.2.1 ?_
                        refine pw_iload C dX10_file_186 rfl ?_
                        refine pw_ialdE C dX10_file_188 hT9.2.2.1 (by omega) hv9 ?_
                        refine pw_iconst C dX10_file_189 ?_
                        refine pw_icmp_ne (tgt := 196) C dX10_file_190 (by decide) (by omega) (fun c_190 => ?_) (fun c_190 => ?_)
                        · skip
                          refine pw_iinc C dX10_file_196 rfl (Nat.le_of_ble_eq_true rfl) rfl ?_
                          refine pw_goto (tgt := 125) C dX10_file_199 (by decide) ?_
                          exact pw_locs (by exact ⟨rfl, cat_vR _, rfl, rfl, rfl, rfl, rfl, rfl, rfl, rfl, rfl, rfl, rfl, rfl, rfl, cat_vR _, rfl, rfl, trivial⟩) (ih_125 (f + 1) M9 (lup Tc 0 f v) (by omega) (hK9) (hT9) (fun j => by rw [lup_n (by omega)]; exact ht1 j) (fun j q1 q2 q3 => by by_cases e : j = f; (rw [e, lup_s, ev]); (rw [lup_n (by omega)]; exact htv j q1 (by omega) q3)) (fnd_go (by omega) hf (fun q => c_190 (by rw [← ev]; exact q.2))) (by omega))
                        · skip
                          refine pw_bipush C dX10_file_193 rfl ?_
                          have hv3 : ¬ hv A s set g = 4 := by rw [← fnd_at (by omega) hf ⟨c_137, by rw [ev]; exact c_190⟩]; omega
                          exact pw_iret C hR dX10_file_195 ((by have hcd : cd3 (0 ≤ s ∧ s < A 0 0 0) ((k = 0 ∨ k = 3 ∨ k = 4) ∧ (1 ≤ set ∧ set ≤ 15) ∧ 0 ≤ hd ∧ hd ≤ 9999) (A 0 0 1 < 60) = 0 := (by unfold cd3; first | (exfalso; omega) | rw [if_pos (by omega)] | rw [if_neg (by omega), if_pos (by omega)] | rw [if_neg (by omega), if_neg (by omega), if_pos (by omega)] | rw [if_neg (by omega), if_neg (by omega), if_neg (by omega)]); exact ⟨_, rfl, by rw [hcd, ← e16]; exact (hK9.fq (by omega)), fun _ => by rw [if_pos hv3], _, _, by rw [if_pos hcd]; exact (by rw [if_pos hv3]; exact hM.kp hK9)⟩)) (by omega) (by omega)
                      · skip
                        refine pw_aload_n C dX10_file_155 rfl ?_
                        refine pw_aload_n C dX10_file_156 rfl ?_
                        refine pw_iload_n C dX10_file_157 rfl ?_
                        refine pw_iload C dX10_file_158 rfl ?_
                        refine pw_cVR C hX dX10_file_160 ml_X10_123 mc_X10_fact (m_fact hMc hA (s := s) (f := f) (by omega) (by omega)) kc_13 hMc.k rfl rfl ⟨Nat.le_of_ble_eq_true rfl, Nat.le_of_ble_eq_true rfl⟩ (Nat.le_of_ble_eq_true rfl) (by show 2 + 0 ≤ 4 ∧ 14 + 0 ≤ 118; omega) ?_
                        refine pw_cVE C hX dX10_file_163 ml_X10_172 mc_X10_heard (m_heard hMc hA (hMc.fa (s * 4 + f) (by omega) (by omega)) (hA.fa (s * 4 + f) (by omega)).f0) kc_13 hMc.k rfl rfl ⟨Nat.le_of_ble_eq_true rfl, Nat.le_of_ble_eq_true rfl⟩ (Nat.le_of_ble_eq_true rfl) (by show 2 + 0 ≤ 4 ∧ 14 + 0 ≤ 118; omega) ?_
                        have b_mhd62 : -1 ≤ mhd (A 10) (A (100 + (s * 4 + f))) ∧ mhd (A 10) (A (100 + (s * 4 + f))) ≤ 99 := by have := mst_bd (S := A 10) (F := A (100 + (s * 4 + f))) (z := 1); have := mst_bd (S := A 10) (F := A (100 + (s * 4 + f))) (z := 0); unfold mhd; omega
                        have hvt : mhd (A 10) (A (100 + (s * 4 + f))) = vtf A g (s * 4 + f) := by have q := hW.f (s * 4 + f) (by omega) (by omega); show _ = (if g = 0 then _ else _); rw [if_neg c_152]; exact q.2.1.symm
                        have bv9 := hA.fa (s * 4 + f) (by omega)
                        have bv8 := bv9.s0
                        have bv7 := bv9.s2
                        have bv : -1 ≤ vtf A g (s * 4 + f) ∧ vtf A g (s * 4 + f) ≤ 99 := by rw [← hvt]; omega
                        obtain ⟨v, ev⟩ : ∃ v, vtf A g (s * 4 + f) = v := ⟨_, rfl⟩
                        rw [ev] at hvt bv
                        rw [hvt]
                        clear hvt bv9 bv8 bv7
                        refine pw_goto (tgt := 180) C dX10_file_166 (by decide) ?_
                        refine pw_iastG C dX10_file_180 hTc.2.2.1 (by omega) (fun M9 e9 => ?_)
                        have hT9 : MTa G2 M9 x (lup Tc 0 f v) := by rw [e9]; exact hTc.v
                        have hK9 : Kp G M16 G2 M9 := by rw [e9]; exact hKc.w (x := x + 1) (by omega) agr_M1 rfl
                        have hv9 : M9 1 (x + 1) f = v := by rw [e9, mup_s]
                        clear e9
                        refine pw_aload C dX10_file_181 rfl ?_
                        refine pw_getR C dX10_file_183 fl_X10_169 hT9.1 rfl hT9.2.1 ?_
                        refine pw_iload C dX10_file_186 rfl ?_
                        refine pw_ialdE C dX10_file_188 hT9.2.2.1 (by omega) hv9 ?_
                        refine pw_iconst C dX10_file_189 ?_
                        refine pw_icmp_ne (tgt := 196) C dX10_file_190 (by decide) (by omega) (fun c_190 => ?_) (fun c_190 => ?_)
                        · skip
                          refine pw_iinc C dX10_file_196 rfl (Nat.le_of_ble_eq_true rfl) rfl ?_
                          refine pw_goto (tgt := 125) C dX10_file_199 (by decide) ?_
                          exact pw_locs (by exact ⟨rfl, cat_vR _, rfl, rfl, rfl, rfl, rfl, rfl, rfl, rfl, rfl, rfl, rfl, rfl, rfl, cat_vR _, rfl, rfl, trivial⟩) (ih_125 (f + 1) M9 (lup Tc 0 f v) (by omega) (hK9) (hT9) (fun j => by rw [lup_n (by omega)]; exact ht1 j) (fun j q1 q2 q3 => by by_cases e : j = f; (rw [e, lup_s, ev]); (rw [lup_n (by omega)]; exact htv j q1 (by omega) q3)) (fnd_go (by omega) hf (fun q => c_190 (by rw [← ev]; exact q.2))) (by omega))
                        · skip
                          refine pw_bipush C dX10_file_193 rfl ?_
                          have hv3 : ¬ hv A s set g = 4 := by rw [← fnd_at (by omega) hf ⟨c_137, by rw [ev]; exact c_190⟩]; omega
                          exact pw_iret C hR dX10_file_195 ((by have hcd : cd3 (0 ≤ s ∧ s < A 0 0 0) ((k = 0 ∨ k = 3 ∨ k = 4) ∧ (1 ≤ set ∧ set ≤ 15) ∧ 0 ≤ hd ∧ hd ≤ 9999) (A 0 0 1 < 60) = 0 := (by unfold cd3; first | (exfalso; omega) | rw [if_pos (by omega)] | rw [if_neg (by omega), if_pos (by omega)] | rw [if_neg (by omega), if_neg (by omega), if_pos (by omega)] | rw [if_neg (by omega), if_neg (by omega), if_neg (by omega)]); exact ⟨_, rfl, by rw [hcd, ← e16]; exact (hK9.fq (by omega)), fun _ => by rw [if_pos hv3], _, _, by rw [if_pos hcd]; exact (by rw [if_pos hv3]; exact hM.kp hK9)⟩)) (by omega) (by omega)
                    · skip
                      refine pw_goto (tgt := 196) C dX10_file_140 (by decide) ?_
                      refine pw_iinc C dX10_file_196 rfl (Nat.le_of_ble_eq_true rfl) rfl ?_
                      refine pw_goto (tgt := 125) C dX10_file_199 (by decide) ?_
                      exact pw_locs (by exact ⟨rfl, cat_vR _, rfl, rfl, rfl, rfl, rfl, rfl, rfl, rfl, rfl, rfl, rfl, rfl, rfl, cat_vR _, rfl, rfl, trivial⟩) (ih_125 (f + 1) Mc Tc (by omega) (hKc) (hTc) (ht1) (fun j q1 q2 q3 => by by_cases e : j = f; (rw [e] at q3; exact absurd q3 c_137); (exact htv j q1 (by omega) q3)) (fnd_go (by omega) hf (fun q => c_137 q.1)) (by omega))
              · skip
                refine pw_iconst C dX10_file_75 ?_
                refine pw_goto (tgt := 80) C dX10_file_76 (by decide) ?_
                refine pw_iconst C dX10_file_80 ?_
                refine pw_cVI C hX dX10_file_81 ml_X10_29 mc_X10_refuse (m_refuse hM hA (z := 1) (w := 3) (by omega) (by omega) (by rw [e15, mup_s])) kc_13 hM.k rfl rfl ⟨Nat.le_of_ble_eq_true rfl, Nat.le_of_ble_eq_true rfl⟩ (Nat.le_of_ble_eq_true rfl) (by show 0 + 0 ≤ 4 ∧ 0 + 0 ≤ 118; omega) (fun r_ G M17 hq_ => ?_)
                obtain ⟨rfl, rfl, e17⟩ := hq_
                rw [if_neg (by decide)] at e17
                have hMn : RM G M17 Q A D I := by rw [e17]; exact hM.th
                rw [e15, mup_mup] at e17
                clear hM
                have hM := hMn
                clear hMn
                have hK17 : Kp G M17 G M17 := Kp.rf
                refine pw_ifL_eqn (tgt := 89) C dX10_file_84 (by decide) rfl ?_
                refine pw_iconst C dX10_file_87 ?_
                exact pw_iret C hR dX10_file_88 ((by have hcd : cd3 (0 ≤ s ∧ s < A 0 0 0) ((k = 0 ∨ k = 3 ∨ k = 4) ∧ (1 ≤ set ∧ set ≤ 15) ∧ 0 ≤ hd ∧ hd ≤ 9999) (A 0 0 1 < 60) = 3 := (by unfold cd3; first | (exfalso; omega) | rw [if_pos (by omega)] | rw [if_neg (by omega), if_pos (by omega)] | rw [if_neg (by omega), if_neg (by omega), if_pos (by omega)] | rw [if_neg (by omega), if_neg (by omega), if_neg (by omega)]); exact ⟨_, rfl, by rw [hcd, ← e17]; exact Fq.rf, fun h => absurd (hcd.symm.trans h) (by decide), D, I, by rw [if_neg (fun h => absurd (hcd.symm.trans h) (by decide))]; exact hM⟩)) (by show _ ≤ 4; omega) (by show _ ≤ 118; omega)
            · skip
              refine pw_iconst C dX10_file_50 ?_
              refine pw_goto (tgt := 55) C dX10_file_51 (by decide) ?_
              refine pw_iconst C dX10_file_55 ?_
              refine pw_cVI C hX dX10_file_56 ml_X10_29 mc_X10_refuse (m_refuse hM hA (z := 1) (w := 2) (by omega) (by omega) (by rw [e2, mup_s])) kc_13 hM.k rfl rfl ⟨Nat.le_of_ble_eq_true rfl, Nat.le_of_ble_eq_true rfl⟩ (Nat.le_of_ble_eq_true rfl) (by show 0 + 0 ≤ 4 ∧ 0 + 0 ≤ 118; omega) (fun r_ G M18 hq_ => ?_)
              obtain ⟨rfl, rfl, e18⟩ := hq_
              rw [if_neg (by decide)] at e18
              have hMn : RM G M18 Q A D I := by rw [e18]; exact hM.th
              rw [e2, mup_mup] at e18
              clear hM
              have hM := hMn
              clear hMn
              have hK18 : Kp G M18 G M18 := Kp.rf
              refine pw_ifL_ne (tgt := 87) C dX10_file_59 (by decide) rfl ?_
              refine pw_iconst C dX10_file_87 ?_
              exact pw_iret C hR dX10_file_88 ((by have hcd : cd3 (0 ≤ s ∧ s < A 0 0 0) ((k = 0 ∨ k = 3 ∨ k = 4) ∧ (1 ≤ set ∧ set ≤ 15) ∧ 0 ≤ hd ∧ hd ≤ 9999) (A 0 0 1 < 60) = 2 := (by unfold cd3; first | (exfalso; omega) | rw [if_pos (by omega)] | rw [if_neg (by omega), if_pos (by omega)] | rw [if_neg (by omega), if_neg (by omega), if_pos (by omega)] | rw [if_neg (by omega), if_neg (by omega), if_neg (by omega)]); exact ⟨_, rfl, by rw [hcd, ← e18]; exact Fq.rf, fun h => absurd (hcd.symm.trans h) (by decide), D, I, by rw [if_neg (fun h => absurd (hcd.symm.trans h) (by decide))]; exact hM⟩)) (by show _ ≤ 4; omega) (by show _ ≤ 118; omega)

