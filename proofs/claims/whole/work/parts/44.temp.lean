/-! ===== the model's methods that make cells for a while ===== -/
section RowsF
variable {E : Ev} {cc : ByteArray} {nL : Nat} {own : String} {tb : List ExceptionTableEntry} {R0 : Room} {G M : Mm} {k n pc : Nat} {ll : List LE} {st : List Value}
theorem pw_cFE (C : Cx E cc nL own tb R0) {X : Xv} (hX : E.1 = X) {idx cnt : Nat} {x y : MethodName} {Cn : String} {b : ByteArray} {nL' np fr lo mc ms : Nat} {ret : Option FieldType} {a K v : Int} {As st0 : List Value} {G1 M1 : Mm} (d : decode cc pc = .ok (.invokeinterface idx cnt, 5)) (hl : Cond.methodLink own idx x ∈ lw_tbl) (hy : MF Cn x y b nL' ret np) (hM : CT X y b nL' ret fr lo mc ms (vR a :: As) G M (PE G1 M1 v)) (hcl : KC K Cn) (hk : G 0 a 0 = K)
    (hst : st0 = As.reverse ++ vR a :: st) (hn : As.length = np) (hroom : fr + 1 ≤ R0.frames ∧ 8 + (nL' + 11) + lo ≤ R0.locals) (hW : st.length ≤ 4) (hf : k + mc ≤ R0.cells ∧ n + ms ≤ R0.slots)
    (kk : PW E G1 M1 (k + mc) (n + ms) (pc + 5) ll (vI v :: st)) : PW E G M k n pc ll st0 := by
  refine pw_callF C hX d hl hy hM hcl hk hst hn hroom hW hf ?_
  intro r G' M' hq; obtain ⟨rfl, rfl, rfl⟩ := hq
  exact kk
theorem pw_cFQ (C : Cx E cc nL own tb R0) {X : Xv} (hX : E.1 = X) {idx cnt : Nat} {x y : MethodName} {Cn : String} {b : ByteArray} {nL' np fr lo mc ms : Nat} {ret : Option FieldType} {a K : Int} {As st0 : List Value} {P : Int → Mm → Mm → Prop} (d : decode cc pc = .ok (.invokeinterface idx cnt, 5)) (hl : Cond.methodLink own idx x ∈ lw_tbl) (hy : MF Cn x y b nL' ret np) (hM : CT X y b nL' ret fr lo mc ms (vR a :: As) G M (PQ P)) (hcl : KC K Cn) (hk : G 0 a 0 = K)
    (hst : st0 = As.reverse ++ vR a :: st) (hn : As.length = np) (hroom : fr + 1 ≤ R0.frames ∧ 8 + (nL' + 11) + lo ≤ R0.locals) (hW : st.length ≤ 4) (hf : k + mc ≤ R0.cells ∧ n + ms ≤ R0.slots)
    (kk : ∀ r G1 M1, P r G1 M1 → PW E G1 M1 (k + mc) (n + ms) (pc + 5) ll (vR r :: st)) : PW E G M k n pc ll st0 := by
  refine pw_callF C hX d hl hy hM hcl hk hst hn hroom hW hf ?_
  intro r G' M' hq; obtain ⟨x, rfl, h⟩ := hq
  exact kk x G' M' h
end RowsF
/-- the earlier of two minutes, -1 being none -/
def cmb (a b : Int) : Int := if ¬ b = -1 ∧ (a = -1 ∨ b < a) then b else a
theorem fhS_cmb {A : An} {t : Int} {l first : Int} (h : hs A l t → 0 ≤ A (20 + l) 3 t + A (20 + l) 4 1) : fhS A t l first = if hs A l t then cmb first (A (20 + l) 3 t + A (20 + l) 4 1) else first := by
  unfold fhS cmb
  by_cases hh : hs A l t
  · have := h hh
    rw [if_pos hh]
    by_cases h2 : first = -1 ∨ A (20 + l) 3 t + A (20 + l) 4 1 < first
    · rw [if_pos ⟨hh, h2⟩, if_pos ⟨by omega, h2⟩]
    · rw [if_neg (fun q => h2 q.2), if_neg (fun q => h2 q.2)]
  · rw [if_neg (fun q => hh q.1), if_neg hh]
theorem cmb_as (a b c : Int) : cmb (cmb a b) c = cmb a (cmb b c) := by
  unfold cmb
  by_cases h1 : ¬ b = -1 ∧ (a = -1 ∨ b < a)
  · rw [if_pos h1]
    by_cases h2 : ¬ c = -1 ∧ (b = -1 ∨ c < b)
    · rw [if_pos h2, if_pos (by omega)]
    · rw [if_neg h2, if_pos h1]
  · rw [if_neg h1]
    by_cases h2 : ¬ c = -1 ∧ (b = -1 ∨ c < b)
    · rw [if_pos h2]
    · rw [if_neg h2]
      by_cases h3 : ¬ c = -1 ∧ (a = -1 ∨ c < a)
      · rw [if_pos h3]; omega
      · rw [if_neg h3, if_neg h1]
theorem cmb_n (a : Int) : cmb a (-1) = a := by unfold cmb; rw [if_neg (by omega)]
theorem hs_nn {A : An} {l t : Int} (hA : AB A) (hW : WF A) (hl : 0 ≤ l ∧ l < A 0 0 2) (ht : 0 ≤ t ∧ t < 61) (h : hs A l t) : 0 ≤ A (20 + l) 3 t + A (20 + l) 4 1 := by
  have hn := hA.n
  have hx := (hW.l l t hl.1 hl.2 ht.1 ht.2).1
  have hB := hA.li l (by omega)
  have h3 := hB.v3 t ht.1 ht.2
  have h4 := hB.s1
  have := h.1
  omega
theorem fh_in {A : An} {t first : Int} (hA : AB A) (hW : WF A) (ht : 0 ≤ t ∧ t < 61) : fr (fhS A t) 0 (A 0 0 2) first = cmb first (fhT A t) := by
  have hn := hA.n
  unfold fhT
  have := fr_inv (σ := Int) (f := fhS A t) (hi := A 0 0 2) (P := fun i x => x = cmb first (fr (fhS A t) 0 i (-1))) (lo := 0) (s := first) (by omega) (by rw [fr_end (by omega), cmb_n]) (fun l x h1 h2 hp => by
    have hx := fun q => hs_nn hA hW ⟨h1, h2⟩ ht q
    rw [fr_last h1, fhS_cmb hx, fhS_cmb hx, hp]
    by_cases h : hs A l t
    · rw [if_pos h, if_pos h, cmb_as]
    · rw [if_neg h, if_neg h])
  exact this
theorem fhF_cmb {A : An} {s f t first : Int} : fhF A s f t first = if wth A s f t then cmb first (fhT A t) else first := by
  unfold fhF cmb
  by_cases h : wth A s f t
  · rw [if_pos h]
    by_cases h2 : ¬ fhT A t = -1 ∧ (first = -1 ∨ fhT A t < first)
    · rw [if_pos ⟨h, h2⟩, if_pos h2]
    · rw [if_neg (fun q => h2 q.2), if_neg h2]
  · rw [if_neg (fun q => h q.1), if_neg h]
/-- how many takes say a fact -/
def nWS (A : An) (s f : Int) : Int → Int → Int := fun t c => if wth A s f t then c + 1 else c
def nWt (A : An) (s f : Int) : Int := fr (nWS A s f) 0 (A 0 0 1) 0
theorem nWS_le {A : An} {s f lo hi c : Int} (h : lo ≤ hi) : c ≤ fr (nWS A s f) lo hi c := by
  exact fr_inv (σ := Int) (f := nWS A s f) (hi := hi) (P := fun _ x => c ≤ x) (lo := lo) (s := c) h (Int.le_refl _) (fun i x _ _ hp => by unfold nWS; split <;> omega)
set_option maxHeartbeats 4000000 in
set_option maxRecDepth 100000 in
theorem m_had {X : Xv} {G M : Mm} {Q : Int} {A : An} {D : Fn} {I : Int → Int} (hM : RM G M Q A D I) (hA : AB A) (hW : WF A) {s f : Int} (hs9 : 0 ≤ s ∧ s < 6) (hf9 : 0 ≤ f ∧ f < 4) : CT X yX10_had prog_8_method_37_code 8 (some .int) 4 87 ((nWt A s f).toNat) (4 * (nWt A s f).toNat) [vR Q, vI s, vI f] G M (PI (fun r G1 M1 => r = fh A s f ∧ Kp G M G1 M1)) := by
  refine CT.by (by decide +kernel) [1, 1, 1] ⟨cat_vR _, cat_vI _, cat_vI _, trivial⟩ (Nat.le_of_ble_eq_true rfl) (fun E hX C hR hIni => ?_)
  have hn := hA.n
  have hnS := hA.so.c
  have hq9 := hM.q
  have hK0 : Kp G M G M := Kp.rf
  have hw0 := nWS_le (A := A) (s := s) (f := f) (c := 0) (show 0 ≤ A 0 0 1 by omega)
  have hw1 : fr (nWS A s f) 0 (A 0 0 1) 0 = nWt A s f := rfl
  refine pw_iconst C dX10_had_0 ?_
  refine pw_istore_n C dX10_had_1 (Nat.le_of_ble_eq_true rfl) rfl ?_
  refine pw_iconst C dX10_had_2 ?_
  refine pw_istore C dX10_had_3 (Nat.le_of_ble_eq_true rfl) rfl ?_
  suffices K_5 : ∀ (nn_5 : Nat) (b t : Int) (Gc : Mm) (Mc : Mm) (kc : Nat) (nc : Nat), (Kp G M Gc Mc) → (0 ≤ t ∧ t ≤ A 0 0 1) → (-1 ≤ b ∧ b ≤ 9999) → (fr (fhF A s f) t (A 0 0 1) b = fh A s f) → (fr (nWS A s f) t (A 0 0 1) (kc : Int) = nWt A s f) → (nc = 4 * kc) → A 0 0 1 - t < (nn_5 : Int) → PW E Gc Mc kc nc 5 [(0, 1, vR Q), (1, 1, vI s), (2, 1, vI f), (3, 1, vI b), (4, 1, vI t)] [] from pw_locs (by exact ⟨rfl, cat_vR _, rfl, rfl, rfl, rfl, rfl, rfl, rfl, rfl, trivial⟩) (K_5 (A 0 0 1 - 0 + 1 : Int).toNat (-1) 0 G M 0 0 (by first | exact hK0 | omega) (by omega) (by omega) (by first | exact rfl | omega) (by first | exact rfl | omega) (by omega) (by omega))
  intro nn_5
  induction nn_5 with
  | zero => intro b t Gc Mc kc nc hKc h1 h2 hf hw hnc h_m5; exact absurd h_m5 (by omega)
  | succ nn_5 ih_5 =>
    intro b t Gc Mc kc nc hKc h1 h2 hf hw hnc h_m5
    have hMc := hM.kp hKc
    have hw9 := nWS_le (A := A) (s := s) (f := f) (c := (kc : Int)) (show t ≤ A 0 0 1 by omega)
    refine pw_iload C dX10_had_5 rfl ?_
    refine pw_aload_n C dX10_had_7 rfl ?_
    refine pw_getR C dX10_had_8 fl_X10_19 hMc.k rfl hMc.r3 ?_
    refine pw_cVE C hX dX10_had_11 ml_X10_33 mc_Jx4a65c_size_8abf5 (c_size hMc.l3) kc_2 hMc.l3.k rfl rfl ⟨Nat.le_of_ble_eq_true rfl, Nat.le_of_ble_eq_true rfl⟩ (Nat.le_of_ble_eq_true rfl) (show kc + 0 ≤ (nWt A s f).toNat ∧ nc + 0 ≤ 4 * (nWt A s f).toNat by omega) ?_
    refine pw_icmp_ge (tgt := 112) C dX10_had_14 (by decide) (by omega) (fun c_14 => ?_) (fun c_14 => ?_)
    · skip
      refine pw_iload_n C dX10_had_112 rfl ?_
      exact pw_iret C hR dX10_had_113 (⟨_, rfl, fr_done (by omega) hf, hKc⟩) (by have := fr_done (by omega) hw; omega) (by have := fr_done (by omega) hw; omega)
    · skip
      refine pw_aload_n C dX10_had_17 rfl ?_
      refine pw_iload C dX10_had_18 rfl ?_
      refine pw_iload_n C dX10_had_20 rfl ?_
      refine pw_iload_n C dX10_had_21 rfl ?_
      refine pw_cVE C hX dX10_had_22 ml_X10_205 mc_X10_isWith (m_isWith hMc hA hW (t := t) (s := s) (f := f) (by omega) (by omega) (by omega)) kc_13 hMc.k rfl rfl ⟨Nat.le_of_ble_eq_true rfl, Nat.le_of_ble_eq_true rfl⟩ (Nat.le_of_ble_eq_true rfl) (show kc + 0 ≤ (nWt A s f).toNat ∧ nc + 0 ≤ 4 * (nWt A s f).toNat by omega) ?_
      refine pw_ifB_eq (tgt := 106) C dX10_had_25 (by decide) (fun c_25 => ?_) (fun c_25 => ?_)
      · skip
        refine pw_iinc C dX10_had_106 rfl (Nat.le_of_ble_eq_true rfl) rfl ?_
        refine pw_goto (tgt := 5) C dX10_had_109 (by decide) ?_
        exact pw_locs (by exact ⟨rfl, cat_vR _, rfl, rfl, rfl, rfl, rfl, rfl, rfl, rfl, trivial⟩) (ih_5 b (t + 1) Gc Mc kc nc (hKc) (by omega) (by omega) (fr_go (by omega) hf (by rw [fhF_cmb]; rw [if_neg c_25])) (fr_go (by omega) hw (by unfold nWS; exact if_neg c_25)) (by omega) (by omega))
      · skip
        have hw7 : fr (nWS A s f) (t + 1) (A 0 0 1) ((kc : Int) + 1) = nWt A s f := fr_go (by omega) hw (by unfold nWS; exact if_pos c_25)
        have hw6 := nWS_le (A := A) (s := s) (f := f) (c := (kc : Int) + 1) (show t + 1 ≤ A 0 0 1 by omega)
        refine pw_aload_n C dX10_had_28 rfl ?_
        refine pw_getR C dX10_had_29 fl_X10_22 hMc.k rfl hMc.r4 ?_
        refine pw_cVQ C hX dX10_had_32 ml_X10_139 mc_Jx4a65c_iterator_32c93 (c_iterator hMc.l4) kc_2 hMc.l4.k rfl rfl ⟨Nat.le_of_ble_eq_true rfl, Nat.le_of_ble_eq_true rfl⟩ (Nat.le_of_ble_eq_true rfl) (show kc + 1 ≤ (nWt A s f).toNat ∧ nc + 4 ≤ 4 * (nWt A s f).toNat by omega) (fun it2 G1 M2 hq_ => ?_)
        obtain ⟨hit2, hI2, hT2, hk_⟩ := hq_
        have hK2 := hKc.tr hk_
        have hM2 := hM.kp hK2
        have hi2 : G 4 0 0 ≤ it2 := by have q_ := hKc.2; omega
        clear hk_ hT2 hit2
        refine pw_astore C dX10_had_35 (Nat.le_of_ble_eq_true rfl) rfl ?_
        suffices K_37 : ∀ (nn_37 : Nat) (d : Int) (Gd : Mm) (Md : Mm) (c : Int), (0 ≤ c ∧ c ≤ A 0 0 2) → (IT Gd Md it2 (Q + 4) c) → (Kp G M Gd Md) → (-1 ≤ d ∧ d ≤ 9999) → (fr (fhS A t) c (A 0 0 2) d = fr (fhS A t) 0 (A 0 0 2) b) → A 0 0 2 - c < (nn_37 : Int) → PW E Gd Md (kc + 1) (nc + 4) 37 [(0, 1, vR Q), (1, 1, vI s), (2, 1, vI f), (3, 1, vI d), (4, 1, vI t), (5, 1, vR it2)] [] from pw_locs (by exact ⟨rfl, cat_vR _, rfl, rfl, rfl, rfl, rfl, rfl, rfl, rfl, rfl, cat_vR _, trivial⟩) (K_37 (A 0 0 2 - 0 + 1 : Int).toNat b G1 M2 0 (by omega) (by first | exact hI2 | omega) (by first | exact hK2 | omega) (by omega) (by first | exact rfl | omega) (by omega))
        intro nn_37
        induction nn_37 with
        | zero => intro d Gd Md c hc_ hI_ hKd h3 hg h_m37; exact absurd h_m37 (by omega)
        | succ nn_37 ih_37 =>
          intro d Gd Md c hc_ hI_ hKd h3 hg h_m37
          have hMd := hM.kp hKd
          have hw8 := hW.l
          refine pw_aload C dX10_had_37 rfl ?_
          refine pw_cFE C hX dX10_had_39 (List.mem_of_getElem? (i := 1251) (by decide +kernel)) mf_Jx35411_hasNext_aae02 (c_hasNext hMd.l4 hI_ (by omega)) kc_1 hI_.k rfl rfl ⟨Nat.le_of_ble_eq_true rfl, Nat.le_of_ble_eq_true rfl⟩ (Nat.le_of_ble_eq_true rfl) (show (kc + 1) + 0 ≤ (nWt A s f).toNat ∧ (nc + 4) + 0 ≤ 4 * (nWt A s f).toNat by omega) ?_
          refine pw_ifB_eq (tgt := 106) C dX10_had_44 (by decide) (fun c_44 => ?_) (fun c_44 => ?_)
          · skip
            refine pw_iinc C dX10_had_106 rfl (Nat.le_of_ble_eq_true rfl) rfl ?_
            refine pw_goto (tgt := 5) C dX10_had_109 (by decide) ?_
            exact pw_locs (by exact ⟨rfl, cat_vR _, rfl, rfl, rfl, rfl, rfl, rfl, rfl, rfl, trivial⟩) (ih_5 d (t + 1) Gd Md (kc + 1) (nc + 4) (hKd) (by omega) (by omega) (fr_go (by omega) hf (by rw [fhF_cmb]; rw [if_pos c_25, ← fh_in hA hW (by omega), ← fr_done (by omega) hg])) (fr_go (by omega) hw (by unfold nWS; exact if_pos c_25)) (by omega) (by omega))
          · skip
            refine pw_aload C dX10_had_47 rfl ?_
            refine pw_cFQ C hX dX10_had_49 (List.mem_of_getElem? (i := 1261) (by decide +kernel)) mf_Jx35411_next_0502b (c_next hMd.l4 hI_ (by omega)) kc_1 hI_.k rfl rfl ⟨Nat.le_of_ble_eq_true rfl, Nat.le_of_ble_eq_true rfl⟩ (Nat.le_of_ble_eq_true rfl) (show (kc + 1) + 0 ≤ (nWt A s f).toNat ∧ (nc + 4) + 0 ≤ 4 * (nWt A s f).toNat by omega) (fun r_ Gd M3 hq_ => ?_)
            obtain ⟨rfl, rfl, hx_⟩ := hq_
            rw [hMd.e4 c (by omega) (by omega)]
            have hI3 := hI_.nx (by omega)
            have hK3 : Kp G M Gd M3 := by rw [hx_]; exact hKd.w hi2 nx_agr rfl
            rw [← hx_] at hI3
            have hM3 := hM.kp hK3
            clear hx_
            refine pw_cast (Cn := "SlugwireModel$Line") C dX10_had_54 (List.mem_of_getElem? (i := 1067) (by decide +kernel)) (by rw [(hM3.li c (by omega) (by omega)).1]; exact kc_10) ?_
            refine pw_astore C dX10_had_57 (Nat.le_of_ble_eq_true rfl) rfl ?_
            refine pw_aload C dX10_had_59 rfl ?_
            refine pw_getR C dX10_had_61 fl_X10_194 (hM3.li c (by omega) (by omega)).1 rfl (hM3.li c (by omega) (by omega)).2.1.2.2 ?_
            refine pw_iload C dX10_had_64 rfl ?_
            refine pw_ialdE C dX10_had_66 (hM3.li c (by omega) (by omega)).2.2.2.2.1 (by omega) ((hM3.li c (by omega) (by omega)).2.2.2.2.2.2 t (by omega) (by omega)).2.2 ?_
            have b_66 := (hA.li c (by omega)).v3 t (by omega) (by omega)
            refine pw_aload C dX10_had_67 rfl ?_
            refine pw_getE C dX10_had_69 fl_X10_208 rfl (hM3.li c (by omega) (by omega)).1 (hM3.li c (by omega) (by omega)).2.2.2.2.2.1.2.1 ?_
            have b_69 := (hA.li c (by omega)).s1
            refine pw_iadd C dX10_had_72 ?_
            refine pw_istore C dX10_had_73 (Nat.le_of_ble_eq_true rfl) rfl ?_
            refine pw_aload C dX10_had_75 rfl ?_
            refine pw_iload C dX10_had_77 rfl ?_
            refine pw_aload_n C dX10_had_79 rfl ?_
            refine pw_getE C dX10_had_80 fl_X10_130 rfl hM3.k hM3.w ?_
            refine pw_cVE C hX dX10_had_83 ml_X10_211 mc_X7_hasIt (m_hasIt (hM3.li c (by omega) (by omega)) (hA.li c (by omega)) (t := t) (m := (A 0 0 3)) (by omega) (by omega)) kc_10 (hM3.li c (by omega) (by omega)).1 rfl rfl ⟨Nat.le_of_ble_eq_true rfl, Nat.le_of_ble_eq_true rfl⟩ (Nat.le_of_ble_eq_true rfl) (show (kc + 1) + 0 ≤ (nWt A s f).toNat ∧ (nc + 4) + 0 ≤ 4 * (nWt A s f).toNat by omega) ?_
            refine pw_ifB_eq (tgt := 103) C dX10_had_86 (by decide) (fun c_86 => ?_) (fun c_86 => ?_)
            · skip
              refine pw_goto (tgt := 37) C dX10_had_103 (by decide) ?_
              exact pw_locs (by exact ⟨rfl, cat_vR _, rfl, rfl, rfl, rfl, rfl, rfl, rfl, rfl, rfl, cat_vR _, trivial⟩) (ih_37 d Gd M3 (c + 1) (by omega) (hI3) (hK3) (by omega) (fr_go (by omega) hg (by unfold fhS; exact if_neg (fun q => c_86 ((hs_of hW (by omega) (by omega)).mpr q.1)))) (by omega))
            · skip
              have hs5 := hs_nn hA hW (by omega) (by omega) ((hs_of hW (by omega) (by omega)).mp c_86)
              refine pw_iload_n C dX10_had_89 rfl ?_
              refine pw_iconst C dX10_had_90 ?_
              refine pw_icmp_eq (tgt := 100) C dX10_had_91 (by decide) (by omega) (fun c_91 => ?_) (fun c_91 => ?_)
              · skip
                refine pw_iload C dX10_had_100 rfl ?_
                refine pw_istore_n C dX10_had_102 (Nat.le_of_ble_eq_true rfl) rfl ?_
                refine pw_goto (tgt := 37) C dX10_had_103 (by decide) ?_
                exact pw_locs (by exact ⟨rfl, cat_vR _, rfl, rfl, rfl, rfl, rfl, rfl, rfl, rfl, rfl, cat_vR _, trivial⟩) (ih_37 ((A (20 + c) 3 t) + (A (20 + c) 4 1)) Gd M3 (c + 1) (by omega) (hI3) (hK3) (by omega) (fr_go (by omega) hg (by unfold fhS; exact if_pos ⟨(hs_of hW (by omega) (by omega)).mp c_86, by omega⟩)) (by omega))
              · skip
                refine pw_iload C dX10_had_94 rfl ?_
                refine pw_iload_n C dX10_had_96 rfl ?_
                refine pw_icmp_ge (tgt := 103) C dX10_had_97 (by decide) (by omega) (fun c_97 => ?_) (fun c_97 => ?_)
                · skip
                  refine pw_goto (tgt := 37) C dX10_had_103 (by decide) ?_
                  exact pw_locs (by exact ⟨rfl, cat_vR _, rfl, rfl, rfl, rfl, rfl, rfl, rfl, rfl, rfl, cat_vR _, trivial⟩) (ih_37 d Gd M3 (c + 1) (by omega) (hI3) (hK3) (by omega) (fr_go (by omega) hg (by unfold fhS; exact if_neg (by omega))) (by omega))
                · skip
                  refine pw_iload C dX10_had_100 rfl ?_
                  refine pw_istore_n C dX10_had_102 (Nat.le_of_ble_eq_true rfl) rfl ?_
                  refine pw_goto (tgt := 37) C dX10_had_103 (by decide) ?_
                  exact pw_locs (by exact ⟨rfl, cat_vR _, rfl, rfl, rfl, rfl, rfl, rfl, rfl, rfl, rfl, cat_vR _, trivial⟩) (ih_37 ((A (20 + c) 3 t) + (A (20 + c) 4 1)) Gd M3 (c + 1) (by omega) (hI3) (hK3) (by omega) (fr_go (by omega) hg (by unfold fhS; exact if_pos ⟨(hs_of hW (by omega) (by omega)).mp c_86, by omega⟩)) (by omega))

