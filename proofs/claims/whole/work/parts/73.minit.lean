/-! ===== what was sent was sent by now: kept; a new house ===== -/
section SNk
variable {A A1 : An}
theorem SN.of (h : SN A) (c2 : A1 0 0 2 = A 0 0 2) (c3 : A 0 0 3 ≤ A1 0 0 3) (el : ∀ l t, 0 ≤ l → l < A 0 0 2 → 0 ≤ t → t < 61 → A1 (20 + l) 3 t = A (20 + l) 3 t) : SN A1 := fun l t q1 q2 q3 q4 => by
  rw [c2] at q2
  rw [el l t q1 q2 q3 q4]
  have := h l t q1 q2 q3 q4
  omega
theorem SN.src (h : SN A) {w o : Int} : SN (aSrc A w o) := by
  have en : ∀ j, j ≠ 10 → aSrc A w o j = A j := fun j hj => aup_n hj
  exact h.of (by rw [en 0 (by omega)]) (by rw [en 0 (by omega)]; exact Int.le_refl _) (fun l t q1 q2 q3 q4 => by
    by_cases e : 20 + l = 10
    · omega
    · rw [en _ e])
theorem SN.sty (h : SN A) : SN (aSty A) := by
  have en : ∀ j, j ≠ 0 → aSty A j = A j := fun j hj => aup_n hj
  have ec : ∀ s, s ≠ 0 → aSty A 0 0 s = A 0 0 s := fun s hs => by unfold aSty; rw [aup_s, lup_n (by omega)]
  exact h.of (ec 2 (by omega)) (by rw [ec 3 (by omega)]; exact Int.le_refl _) (fun l t q1 q2 q3 q4 => by rw [en _ (by omega)])
theorem SN.lin (h : SN A) (hA : AB A) (hB : BK A) (hc : A 0 0 2 < 4) {sp lg : Int} : SN (aLin A sp lg) := by
  have hn := hA.n
  have e0 : aLin A sp lg 0 = lup (A 0) 0 2 (A 0 0 2 + 1) := aup_s _ _ _
  have en : ∀ j, j ≠ 0 → j ≠ 20 + A 0 0 2 → aLin A sp lg j = A j := fun j hj hj2 => by unfold aLin; rw [aup_n hj, aup_n hj2]
  have el : aLin A sp lg (20 + A 0 0 2) = lup (lup (A (20 + A 0 0 2)) 4 0 sp) 4 1 lg := by unfold aLin; rw [aup_n (by omega), aup_s]
  intro l t q1 q2 q3 q4
  rw [e0, lup_s] at q2
  rw [e0, lup_n (by omega)]
  by_cases e : l = A 0 0 2
  · rw [e, el, lup_n (by omega), lup_n (by omega), ((hB.2.2.1 (A 0 0 2) (Int.le_refl _) hc).1 t q3 q4).2]; omega
  · rw [en _ (by omega) (by omega)]; exact h l t q1 (by omega) q3 q4
theorem SN.say (h : SN A) {so i v : Int} (hi : 0 ≤ i) (hA : AB A) : SN (aSay A so i v) := by
  have hn := hA.n
  have en : ∀ j, j ≠ 100 + i → aSay A so i v j = A j := fun j hj => aup_n hj
  exact h.of (by rw [en 0 (by omega)]) (by rw [en 0 (by omega)]; exact Int.le_refl _) (fun l t q1 q2 q3 q4 => by rw [en _ (by omega)])
theorem SN.riv (h : SN A) {i : Int} (hi : 0 ≤ i) (hA : AB A) : SN (aRiv A i) := by
  have hn := hA.n
  have en : ∀ j, j ≠ 100 + i → aRiv A i j = A j := fun j hj => aup_n hj
  exact h.of (by rw [en 0 (by omega)]) (by rw [en 0 (by omega)]; exact Int.le_refl _) (fun l t q1 q2 q3 q4 => by rw [en _ (by omega)])
theorem SN.dwn (h : SN A) {l m : Int} (hl : 0 ≤ l) : SN (aDwn A l m) := by
  have en : ∀ j, j ≠ 20 + l → aDwn A l m j = A j := fun j hj => aup_n hj
  refine h.of (by rw [en 0 (by omega)]) (by rw [en 0 (by omega)]; exact Int.le_refl _) (fun k t q1 q2 q3 q4 => ?_)
  by_cases e : k = l
  · rw [e]
    show aup A (20 + l) (lup (A (20 + l)) 4 2 m) (20 + l) 3 t = _
    rw [aup_s, lup_n (by omega)]
  · rw [en _ (by omega)]
theorem SN.take (h : SN A) (hA : AB A) {T : Fn} : SN (aRun (aT A T) (A 0 0 1)) := by
  have hn := hA.n
  have z0 := fun c => aT_0 (A := A) (T := T) (c := c) (by omega)
  have y2 := z0 2
  rw [if_neg (by omega)] at y2
  have eq1 : aRun (aT A T) (A 0 0 1) = onL (aT A T) (A 0 0 2) (fun L => enq L (A 0 0 1) (T 1 1) (T 1 3) (T 1 4)) := by
    unfold aRun runF; rw [y2, aT_t]
  rw [eq1]
  refine h.of (by rw [onL_n (by omega), y2]) (by rw [onL_n (by omega), z0, if_neg (by omega)]; exact Int.le_refl _) (fun l t q1 q2 q3 q4 => ?_)
  rw [onL_y (by omega), aT_o (by omega) (by omega)]
  unfold enq
  rw [lup_n (by omega), lup_n (by omega), lup_n (by omega), lup_n (by omega)]
theorem SN.kil (h : SN A) (hA : AB A) {t : Int} (ht : 0 ≤ t ∧ t < A 0 0 1) : SN (aKil A t) := by
  have hn := hA.n
  have kc : ∀ c, aKl0 A t 0 0 c = if c = 1 then A 0 0 1 + 1 else A 0 0 c := fun c => by unfold aKl0; rw [aup_n (by omega), aTk_0 (by omega)]
  have kl : ∀ l, 0 ≤ l → l < A 0 0 2 → aKl0 A t (20 + l) = A (20 + l) := fun l q1 q2 => by unfold aKl0; rw [aup_n (by omega), aTk_o (by omega) (by omega)]
  unfold aKil
  refine h.of (by rw [onL_n (by omega), kc, if_neg (by omega)]) (by rw [onL_n (by omega), kc, if_neg (by omega)]; exact Int.le_refl _) (fun l u q1 q2 q3 q4 => ?_)
  rw [onL_y (by omega), kl l q1 q2]
  unfold klF
  split
  · unfold enq
    rw [lup_n (by omega), lup_n (by omega), lup_n (by omega), lup_n (by omega)]
  · rw [lup_n (by omega)]
theorem SN.min (h : SN A) (hA : AB A) (hW : WF A) : SN (aMin A) := by
  have hn := hA.n
  intro l t q1 q2 q3 q4
  rw [aMin_0 (by omega), if_neg (by omega)] at q2
  rw [aMin_0 (by omega), if_pos rfl]
  have el : aMin A (20 + l) = (rM (A (20 + l)) (A 0 0 3 + 1)).1 := by unfold aMin; rw [onL_y (by omega), aup_n (by omega)]
  rw [el]
  have hL := hA.li l (by omega)
  have hs := h l t q1 q2 q3 q4
  have z := rM_t (L := A (20 + l)) (m := A 0 0 3 + 1) (t := t) hL.s4.1
  by_cases hp : 0 < A (20 + l) 0 t
  · rcases z.2 hp with ⟨_, y⟩ | ⟨_, y⟩
    · rw [y]; omega
    · rw [y]; omega
  · rw [(z.1 (by omega)).2]; omega
theorem SN.pas (h : SN A) (hi : Inv A) {m : Int} (hm : 0 ≤ m) (ht : A 0 0 3 + m ≤ 9999) : SN (aPas A m).1 := by
  have key : ∀ n : Nat, A 0 0 3 + (n : Int) ≤ 9999 → SN (aPas A (n : Int)).1 := by
    intro n
    induction n with
    | zero => intro _; show SN (aPas A 0).1; rw [aPas_0]; exact h
    | succ n ih =>
      intro q
      show SN (aPas A ((n : Int) + 1)).1
      rw [aPas_1 (by omega)]
      have z := (hi.pas (m := (n : Int)) (by omega) (by omega)).1
      exact (ih (by omega)).min z.1 z.2.1
  have z := key m.toNat (by omega)
  rwa [show ((m.toNat : Nat) : Int) = m by omega] at z
end SNk
theorem A00_Inv : Inv A00 := by
  refine ⟨A00_AB, A00_WF, fun i q1 q2 => ?_, fun t q1 q2 => ?_, fun l q1 q2 => ?_, fun t q1 q2 => ?_⟩
  · have e0 : A00 0 0 0 = 0 := rfl
    rw [A00_F (by omega)]
    exact ⟨fun k _ _ => rfl, rfl, rfl, rfl, rfl⟩
  · have e1 : A00 0 0 1 = 0 := rfl
    rw [A00_T (by omega)]; rfl
  · have e2 : A00 0 0 2 = 0 := rfl
    rw [A00_L (by omega)]
    exact ⟨fun t _ _ => ⟨rfl, rfl⟩, rfl, rfl, rfl⟩
  · have e1 : A00 0 0 1 = 0 := rfl
    omega
theorem A00_SN : SN A00 := fun l t q1 q2 => by
  have e2 : A00 0 0 2 = 0 := rfl
  omega
/-! ===== the model's own constructor ===== -/
def NM (Q n c0 : Int) (G0 M0 G M : Mm) : Prop := G 0 Q 0 = 13 ∧ (∀ f, M 0 f Q = 0) ∧ G 4 0 0 = Q + 1 + n ∧ Bel Q G0 M0 G M ∧ (∀ j, 1 ≤ j → j ≤ n → G 2 (241 + j) Q = Q + j ∧ AL G M (Q + j) 0 c0) ∧ (G 0 c0 0 = 98 ∧ c0 < Q)
theorem NM.em {X : Xv} {Q n c0 : Int} {G0 M0 G M : Mm} (h : NM Q n c0 G0 M0 G M) (hE : EM X G0) (h4 : G0 4 0 0 = Q + 1) (hk : G0 0 Q 0 = 13) (hn : 0 ≤ n) : EM X G := by
  obtain ⟨⟨a1, a2⟩, a3, a4⟩ := hE
  obtain ⟨b1, b2, b3, b4, b5, b6⟩ := h
  have c1 : emX X 0 ≠ Q := fun e => by rw [e, hk] at a1; omega
  have c2 : emX X 1 ≠ Q := fun e => by rw [e, hk] at a3; omega
  exact ⟨⟨(b4 _ (by omega)).1.trans a1, by omega⟩, (b4 _ (by omega)).1.trans a3, by omega⟩
theorem NM.st {Q n c0 : Int} {G0 M0 G M G1 M1 : Mm} (h : NM Q n c0 G0 M0 G M) (hn : 0 ≤ n ∧ n < 4) {q : Int} (hq : q = Q + 1 + n) (hal : AL G1 M1 q 0 c0) (h4 : G1 4 0 0 = nG G 2 0 4 0 0) (hag : ∀ b, b ≠ q → agr (nG G 2 0) (nM G M) G1 M1 b) : NM Q (n + 1) c0 G0 M0 (mup G1 2 (242 + n) Q q) M1 := by
  obtain ⟨b1, b2, b3, b4, b5, b6⟩ := h
  rw [nG_next] at h4
  have ag : ∀ b, b < q → agr G M G1 M1 b := fun b hb => (agr_n b (by omega)).tr (hag b (by omega))
  have ah : ∀ b, b ≠ Q → agr G1 M1 (mup G1 2 (242 + n) Q q) M1 b := fun b hb => agr_G2 b hb
  refine ⟨?_, fun f => ?_, ?_, fun b hb => ?_, fun j q1 q2 => ?_, ?_, b6.2⟩
  · rw [mup_n (by omega), (ag Q (by omega)).1]; exact b1
  · rw [(ag Q (by omega)).2.2.2.2.1]; exact b2 f
  · rw [mup_n (by omega)]; omega
  · exact (b4 b hb).tr ((ag b (by omega)).tr (ah b (by omega)))
  · by_cases e : j = n + 1
    · rw [e]
      refine ⟨?_, ?_⟩
      · rw [show (241 + (n + 1) : Int) = 242 + n by omega, mup_s]; omega
      · rw [show Q + (n + 1) = q by omega]
        exact hal.o (ah q (by omega)) (ah c0 (by omega)) (by rw [mup_n (by omega)]; exact Int.le_refl _)
    · have z := b5 j q1 (by omega)
      refine ⟨?_, ?_⟩
      · rw [mup_n (by omega), (ag Q (by omega)).2.2.1]; exact z.1
      · exact z.2.o ((ag _ (by omega)).tr (ah _ (by omega))) ((ag _ (by omega)).tr (ah _ (by omega))) (by rw [mup_n (by omega)]; omega)
  · rw [mup_n (by omega), (ag c0 (by omega)).1]; exact b6.1
theorem NM.rm {Q c0 : Int} {G0 M0 G M G1 M1 : Mm} (h : NM Q 4 c0 G0 M0 G M) (hQ : 0 ≤ Q) (hk : Kp G M G1 M1) (h4 : Q + 5 < G1 4 0 0) : RM G1 M1 Q A00 (fun _ _ => c0) (fun _ => 0) := by
  obtain ⟨b1, b2, b3, b4, b5, b6⟩ := h
  have aQ := hk.1 Q (by omega)
  have al : ∀ j, 1 ≤ j → j ≤ 4 → AL G1 M1 (Q + j) 0 c0 := fun j q1 q2 => (b5 j q1 q2).2.kp hk
  have z0 : A00 10 2 0 = 0 := rfl
  have z1 : A00 0 0 0 = 0 := rfl
  have z2 : A00 0 0 1 = 0 := rfl
  have z3 : A00 0 0 2 = 0 := rfl
  have z4 : A00 0 0 3 = 0 := rfl
  refine ⟨⟨hQ, h4⟩, aQ.1.trans b1, fun j q1 q2 => (aQ.2.2.1 _).trans (b5 j q1 q2).1, by rw [z4, aQ.2.2.2.2.1]; exact b2 241, by rw [z0]; exact al 1 (by omega) (by omega), by rw [z1]; exact al 2 (by omega) (by omega), by rw [z2]; exact al 3 (by omega) (by omega), by rw [z3]; exact al 4 (by omega) (by omega), fun i _ _ => by omega, fun i _ _ => by omega, fun i _ _ => by omega, fun i _ _ => by omega, fun i _ _ => by omega, fun i _ _ => by omega, fun i f _ _ => by omega, fun i _ _ => by omega, fun i _ _ => by omega, fun i _ _ => by omega, fun j _ _ => Or.inr (Or.inl ?_), fun i _ _ => by omega, fun i _ _ => by omega, fun i _ _ => by omega, fun i _ _ => by omega, fun i _ _ => by omega⟩
  show G1 0 c0 0 = 98
  rw [(hk.1 c0 (by omega)).1]; exact b6.1
set_option maxHeartbeats 4000000 in
set_option maxRecDepth 100000 in
theorem m_init {X : Xv} {G M : Mm} {Q : Int} (hE : EM X G) (ha : 0 ≤ Q) (hk : G 0 Q 0 = 13) (hx : G 4 0 0 = Q + 1) (hz : ∀ f, M 0 f Q = 0) : CT X yX10_init prog_8_method_3_code 1 (none) 4 72 4 12 [vR Q] G M (PU (fun G1 M1 => NM Q 4 (emX X 0) G M G1 M1)) := by
  refine CT.by (by decide +kernel) [1] ⟨cat_vR _, trivial⟩ (Nat.le_of_ble_eq_true rfl) (fun E hX C hR hIni => ?_)
  have hc0 : emX X 0 < Q := by have a := hE.1; have c : emX X 0 ≠ Q := fun e => (by rw [e, hk] at a; omega); omega
  have hN : NM Q 0 (emX X 0) G M G M := ⟨hk, hz, by omega, Bel.rf, fun j _ _ => by omega, hE.1.1, hc0⟩
  refine pw_aload_n C dX10_init_0 rfl ?_
  refine pw_objInit C dX10_init_1 (List.mem_of_getElem? (i := 878) (by decide +kernel)) (List.mem_of_getElem? (i := 126) (by decide +kernel)) (List.mem_of_getElem? (i := 127) (by decide +kernel)) ha ⟨Nat.le_of_ble_eq_true rfl, Nat.le_of_ble_eq_true rfl⟩ ?_
  refine pw_aload_n C dX10_init_4 rfl ?_
  refine pw_new C dX10_init_5 nl_X10_7 (Nat.le_of_ble_eq_true rfl) (Nat.le_of_ble_eq_true rfl) ?_
  have hq4 := hN.2.2.1
  have hk0 : nG G 2 0 0 (Q + 1 + 0) 0 = 2 := by rw [← hq4]; exact nG_kind
  have hz0 : nM G M 0 22 (Q + 1 + 0) = 0 := by rw [← hq4]; exact nM_fld
  have hq0 : 0 ≤ (Q + 1 + 0) ∧ (Q + 1 + 0) < nG G 2 0 4 0 0 := by rw [nG_next]; omega
  have hEn : EM X (nG G 2 0) := (hN.em hE hx hk (by omega)).kp (M := M) (M1 := nM G M) Kp.rf.new
  rw [hq4]
  refine pw_dup C dX10_init_8 (cat_vR _) ?_
  refine pw_cIU C hX dX10_init_9 ml_X10_9 mc_Jx4a65c_init_da8c8 (c_list0 hEn (c0 := emX X 0) rfl hq0 hk0 hz0) (by omega) rfl rfl ⟨Nat.le_of_ble_eq_true rfl, Nat.le_of_ble_eq_true rfl⟩ (Nat.le_of_ble_eq_true rfl) (by show (0 + 1) + 0 ≤ 4 ∧ (0 + 3) + 0 ≤ 12; omega) (fun Gi0 Mi0 hq_ => ?_)
  obtain ⟨hal_, h4_, hag_⟩ := hq_
  have hNn := hN.st (by omega) rfl hal_ h4_ hag_
  have hkQ : Gi0 0 Q 0 = 13 := by have z := hNn.1; rw [mup_n (by omega)] at z; exact z
  refine pw_putR C dX10_init_12 fl_X10_10 (fun _ => hIni rfl) (Or.inl ⟨_, rfl⟩) hkQ rfl ?_
  clear hN hal_ h4_ hag_ hkQ hk0 hz0 hq0 hq4 hEn
  rw [show (0 : Int) + 1 = 1 by omega, show (242 + 0 : Int) = 242 by omega] at hNn
  have hN := hNn
  clear hNn
  generalize mup Gi0 2 242 Q (Q + 1 + 0) = Gx1 at hN ⊢
  refine pw_aload_n C dX10_init_15 rfl ?_
  refine pw_new C dX10_init_16 nl_X10_7 (Nat.le_of_ble_eq_true rfl) (Nat.le_of_ble_eq_true rfl) ?_
  have hq4 := hN.2.2.1
  have hk0 : nG Gx1 2 0 0 (Q + 1 + 1) 0 = 2 := by rw [← hq4]; exact nG_kind
  have hz0 : nM Gx1 Mi0 0 22 (Q + 1 + 1) = 0 := by rw [← hq4]; exact nM_fld
  have hq0 : 0 ≤ (Q + 1 + 1) ∧ (Q + 1 + 1) < nG Gx1 2 0 4 0 0 := by rw [nG_next]; omega
  have hEn : EM X (nG Gx1 2 0) := (hN.em hE hx hk (by omega)).kp (M := Mi0) (M1 := nM Gx1 Mi0) Kp.rf.new
  rw [hq4]
  refine pw_dup C dX10_init_19 (cat_vR _) ?_
  refine pw_cIU C hX dX10_init_20 ml_X10_9 mc_Jx4a65c_init_da8c8 (c_list0 hEn (c0 := emX X 0) rfl hq0 hk0 hz0) (by omega) rfl rfl ⟨Nat.le_of_ble_eq_true rfl, Nat.le_of_ble_eq_true rfl⟩ (Nat.le_of_ble_eq_true rfl) (by show ((0 + 1) + 1) + 0 ≤ 4 ∧ ((0 + 3) + 3) + 0 ≤ 12; omega) (fun Gi1 Mi1 hq_ => ?_)
  obtain ⟨hal_, h4_, hag_⟩ := hq_
  have hNn := hN.st (by omega) rfl hal_ h4_ hag_
  have hkQ : Gi1 0 Q 0 = 13 := by have z := hNn.1; rw [mup_n (by omega)] at z; exact z
  refine pw_putR C dX10_init_23 fl_X10_16 (fun _ => hIni rfl) (Or.inl ⟨_, rfl⟩) hkQ rfl ?_
  clear hN hal_ h4_ hag_ hkQ hk0 hz0 hq0 hq4 hEn
  rw [show (1 : Int) + 1 = 2 by omega, show (242 + 1 : Int) = 243 by omega] at hNn
  have hN := hNn
  clear hNn
  generalize mup Gi1 2 243 Q (Q + 1 + 1) = Gx2 at hN ⊢
  refine pw_aload_n C dX10_init_26 rfl ?_
  refine pw_new C dX10_init_27 nl_X10_7 (Nat.le_of_ble_eq_true rfl) (Nat.le_of_ble_eq_true rfl) ?_
  have hq4 := hN.2.2.1
  have hk0 : nG Gx2 2 0 0 (Q + 1 + 2) 0 = 2 := by rw [← hq4]; exact nG_kind
  have hz0 : nM Gx2 Mi1 0 22 (Q + 1 + 2) = 0 := by rw [← hq4]; exact nM_fld
  have hq0 : 0 ≤ (Q + 1 + 2) ∧ (Q + 1 + 2) < nG Gx2 2 0 4 0 0 := by rw [nG_next]; omega
  have hEn : EM X (nG Gx2 2 0) := (hN.em hE hx hk (by omega)).kp (M := Mi1) (M1 := nM Gx2 Mi1) Kp.rf.new
  rw [hq4]
  refine pw_dup C dX10_init_30 (cat_vR _) ?_
  refine pw_cIU C hX dX10_init_31 ml_X10_9 mc_Jx4a65c_init_da8c8 (c_list0 hEn (c0 := emX X 0) rfl hq0 hk0 hz0) (by omega) rfl rfl ⟨Nat.le_of_ble_eq_true rfl, Nat.le_of_ble_eq_true rfl⟩ (Nat.le_of_ble_eq_true rfl) (by show (((0 + 1) + 1) + 1) + 0 ≤ 4 ∧ (((0 + 3) + 3) + 3) + 0 ≤ 12; omega) (fun Gi2 Mi2 hq_ => ?_)
  obtain ⟨hal_, h4_, hag_⟩ := hq_
  have hNn := hN.st (by omega) rfl hal_ h4_ hag_
  have hkQ : Gi2 0 Q 0 = 13 := by have z := hNn.1; rw [mup_n (by omega)] at z; exact z
  refine pw_putR C dX10_init_34 fl_X10_19 (fun _ => hIni rfl) (Or.inl ⟨_, rfl⟩) hkQ rfl ?_
  clear hN hal_ h4_ hag_ hkQ hk0 hz0 hq0 hq4 hEn
  rw [show (2 : Int) + 1 = 3 by omega, show (242 + 2 : Int) = 244 by omega] at hNn
  have hN := hNn
  clear hNn
  generalize mup Gi2 2 244 Q (Q + 1 + 2) = Gx3 at hN ⊢
  refine pw_aload_n C dX10_init_37 rfl ?_
  refine pw_new C dX10_init_38 nl_X10_7 (Nat.le_of_ble_eq_true rfl) (Nat.le_of_ble_eq_true rfl) ?_
  have hq4 := hN.2.2.1
  have hk0 : nG Gx3 2 0 0 (Q + 1 + 3) 0 = 2 := by rw [← hq4]; exact nG_kind
  have hz0 : nM Gx3 Mi2 0 22 (Q + 1 + 3) = 0 := by rw [← hq4]; exact nM_fld
  have hq0 : 0 ≤ (Q + 1 + 3) ∧ (Q + 1 + 3) < nG Gx3 2 0 4 0 0 := by rw [nG_next]; omega
  have hEn : EM X (nG Gx3 2 0) := (hN.em hE hx hk (by omega)).kp (M := Mi2) (M1 := nM Gx3 Mi2) Kp.rf.new
  rw [hq4]
  refine pw_dup C dX10_init_41 (cat_vR _) ?_
  refine pw_cIU C hX dX10_init_42 ml_X10_9 mc_Jx4a65c_init_da8c8 (c_list0 hEn (c0 := emX X 0) rfl hq0 hk0 hz0) (by omega) rfl rfl ⟨Nat.le_of_ble_eq_true rfl, Nat.le_of_ble_eq_true rfl⟩ (Nat.le_of_ble_eq_true rfl) (by show ((((0 + 1) + 1) + 1) + 1) + 0 ≤ 4 ∧ ((((0 + 3) + 3) + 3) + 3) + 0 ≤ 12; omega) (fun Gi3 Mi3 hq_ => ?_)
  obtain ⟨hal_, h4_, hag_⟩ := hq_
  have hNn := hN.st (by omega) rfl hal_ h4_ hag_
  have hkQ : Gi3 0 Q 0 = 13 := by have z := hNn.1; rw [mup_n (by omega)] at z; exact z
  refine pw_putR C dX10_init_45 fl_X10_22 (fun _ => hIni rfl) (Or.inl ⟨_, rfl⟩) hkQ rfl ?_
  clear hN hal_ h4_ hag_ hkQ hk0 hz0 hq0 hq4 hEn
  rw [show (3 : Int) + 1 = 4 by omega, show (242 + 3 : Int) = 245 by omega] at hNn
  have hN := hNn
  clear hNn
  generalize mup Gi3 2 245 Q (Q + 1 + 3) = Gx4 at hN ⊢
  exact pw_vret C hR dX10_init_48 (⟨rfl, hN⟩) (Nat.le_of_ble_eq_true rfl) (Nat.le_of_ble_eq_true rfl)

