/-! ===== the model's lines ===== -/
theorem pw_zastG {E : Ev} {cc : ByteArray} {nL : Nat} {own : String} {tb : List ExceptionTableEntry} {R0 : Room} {G M : Mm} {k n pc : Nat} {ll : List LE} {st : List Value} (C : Cx E cc nL own tb R0) {a i x len : Int} (d : decode cc pc = .ok (.bastore, 1)) (hk : AZ G a len) (hi : 0 ≤ i ∧ i < len) (hx01 : x = 0 ∨ x = 1) (kk : ∀ M1, M1 = mup M 1 a i x → PW E G M1 k n (pc + 1) ll st) : PW E G M k n pc ll (vI x :: vI i :: vR a :: st) :=
  pw_zastE C d hk hi hx01 (kk _ rfl)
section MLs
variable {G M : Mm} {a t x : Int} {L : Fn}
theorem MLi.ext {L' : Fn} (h : MLi G M a L) (h4 : L 4 0 = L' 4 0 ∧ L 4 1 = L' 4 1 ∧ L 4 2 = L' 4 2 ∧ L 4 3 = L' 4 3) (ht : ∀ t, 0 ≤ t → t < 61 → L 0 t = L' 0 t ∧ L 3 t = L' 3 t) : MLi G M a L' := by
  obtain ⟨a1, a2, a3, a4, a5, a6, a7⟩ := h
  refine ⟨a1, a2, a3, a4, a5, ⟨a6.1.trans h4.1, a6.2.1.trans h4.2.1, a6.2.2.1.trans h4.2.2.1, a6.2.2.2.trans h4.2.2.2⟩, fun t q1 q2 => ?_⟩
  rw [← (ht t q1 q2).1, ← (ht t q1 q2).2]
  exact a7 t q1 q2
theorem MLi.d (h : MLi G M a L) : MLi G (mup M 0 182 a x) a (lup L 4 2 x) := by
  obtain ⟨a1, a2, a3, a4, a5, a6, a7⟩ := h
  refine ⟨a1, a2, a3, a4, a5, ⟨?_, ?_, ?_, ?_⟩, fun t q1 q2 => ?_⟩
  · rw [mup_n (by omega), lup_n (by omega)]; exact a6.1
  · rw [mup_n (by omega), lup_n (by omega)]; exact a6.2.1
  · rw [mup_s, lup_s]
  · rw [mup_n (by omega), lup_n (by omega)]; exact a6.2.2.2
  · rw [mup_n (by omega), mup_n (by omega), mup_n (by omega), lup_n (by omega), lup_n (by omega)]; exact a7 t q1 q2
theorem MLi.s (h : MLi G M a L) : MLi G (mup M 0 183 a x) a (lup L 4 3 x) := by
  obtain ⟨a1, a2, a3, a4, a5, a6, a7⟩ := h
  refine ⟨a1, a2, a3, a4, a5, ⟨?_, ?_, ?_, ?_⟩, fun t q1 q2 => ?_⟩
  · rw [mup_n (by omega), lup_n (by omega)]; exact a6.1
  · rw [mup_n (by omega), lup_n (by omega)]; exact a6.2.1
  · rw [mup_n (by omega), lup_n (by omega)]; exact a6.2.2.1
  · rw [mup_s, lup_s]
  · rw [mup_n (by omega), mup_n (by omega), mup_n (by omega), lup_n (by omega), lup_n (by omega)]; exact a7 t q1 q2
theorem MLi.at (h : MLi G M a L) : MLi G (mup M 1 (a + 3) t x) a (lup L 3 t x) := by
  obtain ⟨a1, a2, a3, a4, a5, a6, a7⟩ := h
  refine ⟨a1, a2, a3, a4, a5, ?_, fun t' q1 q2 => ?_⟩
  · rw [mup_n (by omega), mup_n (by omega), mup_n (by omega), mup_n (by omega), lup_n (by omega), lup_n (by omega), lup_n (by omega), lup_n (by omega)]; exact a6
  · rw [mup_n (by omega), mup_n (by omega), lup_n (by omega)]
    refine ⟨(a7 t' q1 q2).1, (a7 t' q1 q2).2.1, ?_⟩
    by_cases e : t' = t
    · rw [e, mup_s, lup_s]
    · rw [mup_n (by omega), lup_n (by omega)]; exact (a7 t' q1 q2).2.2
theorem MLi.lf (h : MLi G M a L) (ht : 0 ≤ t ∧ t < 61) (h0 : ¬ L 0 t = -1) (hx : ¬ x = -1) : MLi G (mup M 1 (a + 2) t x) a (lup L 0 t x) := by
  obtain ⟨a1, a2, a3, a4, a5, a6, a7⟩ := h
  refine ⟨a1, a2, a3, a4, a5, ?_, fun t' q1 q2 => ?_⟩
  · rw [mup_n (by omega), mup_n (by omega), mup_n (by omega), mup_n (by omega), lup_n (by omega), lup_n (by omega), lup_n (by omega), lup_n (by omega)]; exact a6
  · rw [mup_n (by omega), mup_n (b' := 1) (x' := a + 3) (by omega), lup_n (i' := 3) (by omega)]
    by_cases e : t' = t
    · subst e
      rw [mup_s, lup_s]
      have := (a7 t' q1 q2).1
      exact ⟨by rw [this, bI_t h0, bI_t hx], fun _ => rfl, (a7 t' q1 q2).2.2⟩
    · rw [mup_n (by omega), lup_n (by omega)]; exact a7 t' q1 q2
theorem MLi.on (h : MLi G M a L) (hx : ¬ x = -1) : MLi G (mup (mup M 1 (a + 1) t 1) 1 (a + 2) t x) a (lup L 0 t x) := by
  obtain ⟨a1, a2, a3, a4, a5, a6, a7⟩ := h
  refine ⟨a1, a2, a3, a4, a5, ?_, fun t' q1 q2 => ?_⟩
  · rw [mup_n (by omega), mup_n (by omega), mup_n (by omega), mup_n (by omega), mup_n (by omega), mup_n (by omega), mup_n (by omega), mup_n (by omega), lup_n (by omega), lup_n (by omega), lup_n (by omega), lup_n (by omega)]; exact a6
  · rw [mup_n (b' := 1) (x' := a + 1) (by omega), mup_n (b' := 1) (x' := a + 3) (by omega), mup_n (b' := 1) (x' := a + 3) (by omega), lup_n (i' := 3) (by omega)]
    by_cases e : t' = t
    · subst e
      rw [mup_s, mup_s, lup_s]
      exact ⟨(bI_t hx).symm, fun _ => rfl, (a7 t' q1 q2).2.2⟩
    · rw [mup_n (by omega), mup_n (by omega), mup_n (by omega), lup_n (by omega)]; exact a7 t' q1 q2
theorem MLi.off (h : MLi G M a L) : MLi G (mup M 1 (a + 1) t 0) a (lup L 0 t (-1)) := by
  obtain ⟨a1, a2, a3, a4, a5, a6, a7⟩ := h
  refine ⟨a1, a2, a3, a4, a5, ?_, fun t' q1 q2 => ?_⟩
  · rw [mup_n (by omega), mup_n (by omega), mup_n (by omega), mup_n (by omega), lup_n (by omega), lup_n (by omega), lup_n (by omega), lup_n (by omega)]; exact a6
  · rw [mup_n (b' := 1) (x' := a + 2) (by omega), mup_n (b' := 1) (x' := a + 3) (by omega), lup_n (i' := 3) (by omega)]
    by_cases e : t' = t
    · subst e
      rw [mup_s, lup_s]
      exact ⟨(bI_f (by omega)).symm, fun z => absurd rfl z, (a7 t' q1 q2).2.2⟩
    · rw [mup_n (by omega), lup_n (by omega)]; exact a7 t' q1 q2
end MLs
/-- a list of takes: P where they lie, T what they are -/
def TK (G M : Mm) (q n e : Int) (P : Int → Int) (T : Int → Fn) : Prop := AL G M q n e ∧ ∀ i, 0 ≤ i → i < n → G 3 e i = P i ∧ MTa G M (P i) (T i) ∧ (0 ≤ T i 1 1 ∧ T i 1 1 ≤ 4) ∧ 0 ≤ T i 1 4 ∧ T i 1 4 ≤ 9999
/-- a line goes with its takes -/
def LW (L : Fn) (T : Int → Fn) (n : Int) : Prop := (∀ t, 0 ≤ t → t < 61 → (L 3 t = -1 ↔ ¬ L 0 t = 0) ∧ (0 < L 0 t → (t < n ∧ t < L 4 4) ∧ L 1 t = T t 1 1 ∧ L 2 t = T t 1 4)) ∧ L 4 4 ≤ n ∧ n ≤ 61
/-- the line's cells are none of the takes' -/
def DJ (q n : Int) (P : Int → Int) (a : Int) : Prop := (q < a ∨ a + 3 < q) ∧ ∀ i, 0 ≤ i → i < n → P i + 1 < a ∨ a + 3 < P i
theorem TK.ot {G M M1 : Mm} {q n e a : Int} {P : Int → Int} {T : Int → Fn} (h : TK G M q n e P T) (hO : Ot a (a + 3) M M1) (hd : DJ q n P a) : TK G M1 q n e P T := by
  have ag : ∀ b, (b < a ∨ a + 3 < b) → agr G M G M1 b := fun b hb => ⟨rfl, rfl, fun _ => rfl, fun _ => rfl, fun f => hO.f hb f, fun j => hO.j hb j⟩
  refine ⟨?_, fun i q1 q2 => ?_⟩
  · obtain ⟨b1, b2, b3, b4, b5, b6, b7, b8⟩ := h.1
    exact ⟨b1, b2, b3, b4, (hO.f hd.1 _).trans b5, by rw [hO.f hd.1]; exact b6, b7, b8⟩
  · obtain ⟨c1, c2, c3⟩ := h.2 i q1 q2
    have := hd.2 i q1 q2
    exact ⟨c1, c2.o (ag _ (by omega)) (ag _ (by omega)), c3⟩
theorem TK.get {G M : Mm} {q n e : Int} {P : Int → Int} {T : Int → Fn} (h : TK G M q n e P T) {X : Xv} {i : Int} (hi : 0 ≤ i ∧ i < n) : CT X yJx4a65c_get_915e3 cJx4a65c_get_915e3 2 (some (.object "java/lang/Object")) 2 43 0 0 [vR q, vI i] G M (PR G M (P i)) := by
  have := c_get (X := X) h.1 hi
  rwa [(h.2 i hi.1 hi.2).1] at this
theorem mU_n {L : Fn} {T : Int → Fn} {n m : Int} (hW : LW L T n) (hB : LB L) : mU L m = fr (mUs (L 0) (L 2) (L 1) m) 0 n (-1) := by
  have h4 := hB.s4
  have := fr_inv (σ := Int) (f := mUs (L 0) (L 2) (L 1) m) (hi := n) (P := fun i x => i ≤ L 4 4 ∧ x = fr (mUs (L 0) (L 2) (L 1) m) 0 i (-1) ∨ L 4 4 ≤ i ∧ x = mU L m) (lo := 0) (s := -1) (by have := hW.2.1; omega) (Or.inl ⟨h4.1, (fr_end (by omega)).symm⟩) (fun i x h1 h2 hp => by
    have hx := (hW.1 i h1 (by have := hW.2.2; omega)).2
    rcases hp with ⟨p1, p2⟩ | ⟨p1, p2⟩
    · by_cases e : i = L 4 4
      · right
        refine ⟨by omega, ?_⟩
        unfold mUs
        rw [if_neg (fun q => by have := hx q.1.1; omega), p2, e]
        rfl
      · left
        exact ⟨by omega, by rw [p2, fr_last h1]⟩
    · right
      refine ⟨by omega, ?_⟩
      unfold mUs
      rw [if_neg (fun q => by have := hx q.1.1; omega)]; exact p2)
  rcases this with ⟨p1, p2⟩ | ⟨_, p2⟩
  · have e : n = L 4 4 := by have := hW.2.1; omega
    rw [e]; rfl
  · exact p2.symm
theorem LW.stp {L : Fn} {T : Int → Fn} {n m t g : Int} (h : LW L T n) (ht : 0 ≤ t ∧ t < 61) (hg : 0 < L 0 t ∧ 0 ≤ g ∧ g ≤ L 0 t) (hm : 0 ≤ m) : LW (sn L m t g) T n := by
  refine ⟨fun t' q1 q2 => ?_, by rw [sn_4 (by omega)]; exact h.2.1, h.2.2⟩
  rw [sn_4 (by omega)]
  have hx := h.1 t' q1 q2
  have hy := h.1 t ht.1 ht.2
  unfold sn
  by_cases e : t' = t
  · subst e
    by_cases hz : L 0 t' - g = 0
    · rw [if_pos hz, lup_s, lup_n (by omega), lup_n (by omega), lup_s, lup_n (i' := 1) (by omega), lup_n (i' := 1) (by omega), lup_n (i' := 1) (by omega), lup_n (i' := 2) (by omega), lup_n (i' := 2) (by omega), lup_n (i' := 2) (by omega)]
      exact ⟨by omega, fun z => by omega⟩
    · rw [if_neg hz, lup_n (i' := 3) (by omega), lup_n (i' := 3) (by omega), lup_n (i' := 0) (by omega), lup_s, lup_n (i' := 1) (by omega), lup_n (i' := 1) (by omega), lup_n (i' := 2) (by omega), lup_n (i' := 2) (by omega)]
      exact ⟨by have := hx.1; omega, fun z => hx.2 (by omega)⟩
  · by_cases hz : L 0 t - g = 0
    · rw [if_pos hz, lup_n (by omega), lup_n (by omega), lup_n (by omega), lup_n (i' := 0) (by omega), lup_n (i' := 0) (by omega), lup_n (i' := 0) (by omega), lup_n (i' := 1) (by omega), lup_n (i' := 1) (by omega), lup_n (i' := 1) (by omega), lup_n (i' := 2) (by omega), lup_n (i' := 2) (by omega), lup_n (i' := 2) (by omega)]
      exact hx
    · rw [if_neg hz, lup_n (by omega), lup_n (by omega), lup_n (i' := 0) (by omega), lup_n (i' := 0) (by omega), lup_n (i' := 1) (by omega), lup_n (i' := 1) (by omega), lup_n (i' := 2) (by omega), lup_n (i' := 2) (by omega)]
      exact hx
set_option maxHeartbeats 4000000 in
set_option maxRecDepth 100000 in
theorem m_run {X : Xv} {G M : Mm} {a : Int} {L : Fn} (hL : MLi G M a L) {t x : Int} (ht : 0 ≤ t ∧ t < 61) : CT X yX7_run prog_10_method_3_code 3 (none) 0 0 0 0 [vR a, vI t, vI x] G M (PU (fun G1 M1 => G1 = G ∧ M1 = mup (mup M 1 (a + 1) t 1) 1 (a + 2) t x)) := by
  refine CT.by (by decide +kernel) [1, 1, 1] ⟨cat_vR _, cat_vI _, cat_vI _, trivial⟩ (Nat.le_of_ble_eq_true rfl) (fun E hX C hR hIni => ?_)
  refine pw_aload_n C dX7_run_0 rfl ?_
  refine pw_getR C dX7_run_1 fl_X7_9 hL.1 rfl hL.2.1.1 ?_
  refine pw_iload_n C dX7_run_4 rfl ?_
  refine pw_iconst C dX7_run_5 ?_
  refine pw_zastG C dX7_run_6 hL.2.2.1 (by omega) (by omega) (fun M1 eM1 => ?_)
  subst eM1
  refine pw_aload_n C dX7_run_7 rfl ?_
  refine pw_getR C dX7_run_8 fl_X7_15 hL.1 rfl hL.2.1.2.1 ?_
  refine pw_iload_n C dX7_run_11 rfl ?_
  refine pw_iload_n C dX7_run_12 rfl ?_
  refine pw_iastG C dX7_run_13 hL.2.2.2.1 (by omega) (fun M2 eM2 => ?_)
  subst eM2
  exact pw_vret C hR dX7_run_14 (⟨rfl, rfl, rfl⟩) (by omega) (by omega)

set_option maxHeartbeats 4000000 in
set_option maxRecDepth 100000 in
theorem m_next {X : Xv} {G M : Mm} {a : Int} {L : Fn} (hL : MLi G M a L) (hB : LB L) {q n e : Int} {P : Int → Int} {T : Int → Fn} (hT : TK G M q n e P T) (hW : LW L T n) {m : Int} (hm : 0 ≤ m ∧ m ≤ 20000) : CT X yX7_next prog_10_method_5_code 5 (some .int) 3 64 0 0 [vR a, vR q, vI m] G M (PE G M (mU L m)) := by
  refine CT.by (by decide +kernel) [1, 1, 1] ⟨cat_vR _, cat_vR _, cat_vI _, trivial⟩ (Nat.le_of_ble_eq_true rfl) (fun E hX C hR hIni => ?_)
  have hn9 := hW.2
  have hb9 := hT.1.b
  refine pw_iconst C dX7_next_0 ?_
  refine pw_istore_n C dX7_next_1 (Nat.le_of_ble_eq_true rfl) rfl ?_
  refine pw_iconst C dX7_next_2 ?_
  refine pw_istore C dX7_next_3 (Nat.le_of_ble_eq_true rfl) rfl ?_
  suffices K_5 : ∀ (nn_5 : Nat) (b k : Int) , (0 ≤ k ∧ k ≤ n) → (b = -1 ∨ (0 ≤ b ∧ b < k ∧ 0 < L 0 b)) → (fr (mUs (L 0) (L 2) (L 1) m) k n b = mU L m) → n - k < (nn_5 : Int) → PW E G M 0 0 5 [(0, 1, vR a), (1, 1, vR q), (2, 1, vI m), (3, 1, vI b), (4, 1, vI k)] [] from pw_locs (by exact ⟨rfl, cat_vR _, rfl, cat_vR _, rfl, rfl, rfl, rfl, rfl, rfl, trivial⟩) (K_5 (n - 0 + 1 : Int).toNat (-1) 0  (by omega) (by omega) (by first | exact (mU_n hW hB).symm | omega) (by omega))
  intro nn_5
  induction nn_5 with
  | zero => intro b k h1 h2 hf h_m5; exact absurd h_m5 (by omega)
  | succ nn_5 ih_5 =>
    intro b k h1 h2 hf h_m5
    have hw8 := fun h => hW.1 k h1.1 h
    have hw7 : ∀ h, 0 < L 0 b → L 1 b = T b 1 1 := fun h z => ((hW.1 b h (by omega)).2 z).2.1
    have hv8 := fun h => hB.v0 k h1.1 h
    refine pw_iload C dX7_next_5 rfl ?_
    refine pw_aload_n C dX7_next_7 rfl ?_
    refine pw_cVE C hX dX7_next_8 ml_X7_41 mc_Jx4a65c_size_8abf5 (c_size hT.1) kc_2 hT.1.k rfl rfl ⟨Nat.le_of_ble_eq_true rfl, Nat.le_of_ble_eq_true rfl⟩ (Nat.le_of_ble_eq_true rfl) ⟨Nat.le_of_ble_eq_true rfl, Nat.le_of_ble_eq_true rfl⟩ ?_
    refine pw_icmp_ge (tgt := 79) C dX7_next_11 (by decide) (by omega) (fun c_11 => ?_) (fun c_11 => ?_)
    · skip
      refine pw_iload_n C dX7_next_79 rfl ?_
      exact pw_iretE C hR dX7_next_80 rfl rfl (fr_done (by omega) hf) (Nat.zero_le _) (Nat.zero_le _)
    · skip
      refine pw_aload_n C dX7_next_14 rfl ?_
      refine pw_iload C dX7_next_15 rfl ?_
      refine pw_cVE C hX dX7_next_17 ml_X7_47 mc_X7_isWaiting (m_isWaiting hL hB (t := k) (by omega)) kc_10 hL.1 rfl rfl ⟨Nat.le_of_ble_eq_true rfl, Nat.le_of_ble_eq_true rfl⟩ (Nat.le_of_ble_eq_true rfl) ⟨Nat.le_of_ble_eq_true rfl, Nat.le_of_ble_eq_true rfl⟩ ?_
      refine pw_ifB_eq (tgt := 73) C dX7_next_20 (by decide) (fun c_20 => ?_) (fun c_20 => ?_)
      · skip
        refine pw_iinc C dX7_next_73 rfl (Nat.le_of_ble_eq_true rfl) rfl ?_
        refine pw_goto (tgt := 5) C dX7_next_76 (by decide) ?_
        exact pw_locs (by exact ⟨rfl, cat_vR _, rfl, cat_vR _, rfl, rfl, rfl, rfl, rfl, rfl, trivial⟩) (ih_5 b (k + 1)  (by omega) (by omega) (fr_go (by omega) hf (by unfold mUs; have hx := hw8 (by omega); have hy := hv8 (by omega); exact if_neg (fun q => by have := hx.1; omega))) (by omega))
      · skip
        refine pw_aload_n C dX7_next_23 rfl ?_
        refine pw_iload C dX7_next_24 rfl ?_
        refine pw_cVR C hX dX7_next_26 ml_X7_51 mc_Jx4a65c_get_915e3 (hT.get (i := k) (by omega)) kc_2 hT.1.k rfl rfl ⟨Nat.le_of_ble_eq_true rfl, Nat.le_of_ble_eq_true rfl⟩ (Nat.le_of_ble_eq_true rfl) ⟨Nat.le_of_ble_eq_true rfl, Nat.le_of_ble_eq_true rfl⟩ ?_
        refine pw_cast (Cn := "SlugwireModel$Take") C dX7_next_29 (List.mem_of_getElem? (i := 1307) (by decide +kernel)) (by rw [(hT.2 k (by omega) (by omega)).2.1.1]; exact kc_12) ?_
        refine pw_getE C dX7_next_32 fl_X7_57 rfl (hT.2 k (by omega) (by omega)).2.1.1 (hT.2 k (by omega) (by omega)).2.1.2.2.2.1.2.2.2.2.2.1 ?_
        have b_32 := (hT.2 k (by omega) (by omega)).2.2
        refine pw_iload_n C dX7_next_35 rfl ?_
        refine pw_icmp_gt (tgt := 73) C dX7_next_36 (by decide) (by omega) (fun c_36 => ?_) (fun c_36 => ?_)
        · skip
          refine pw_iinc C dX7_next_73 rfl (Nat.le_of_ble_eq_true rfl) rfl ?_
          refine pw_goto (tgt := 5) C dX7_next_76 (by decide) ?_
          exact pw_locs (by exact ⟨rfl, cat_vR _, rfl, cat_vR _, rfl, rfl, rfl, rfl, rfl, rfl, trivial⟩) (ih_5 b (k + 1)  (by omega) (by omega) (fr_go (by omega) hf (by unfold mUs; have hx := hw8 (by omega); have hy := hv8 (by omega); have hz := hx.2 (by have := hx.1; omega); exact if_neg (fun q => by omega))) (by omega))
        · skip
          refine pw_iload_n C dX7_next_39 rfl ?_
          refine pw_iconst C dX7_next_40 ?_
          refine pw_icmp_eq (tgt := 70) C dX7_next_41 (by decide) (by omega) (fun c_41 => ?_) (fun c_41 => ?_)
          · skip
            refine pw_iload C dX7_next_70 rfl ?_
            refine pw_istore_n C dX7_next_72 (Nat.le_of_ble_eq_true rfl) rfl ?_
            refine pw_iinc C dX7_next_73 rfl (Nat.le_of_ble_eq_true rfl) rfl ?_
            refine pw_goto (tgt := 5) C dX7_next_76 (by decide) ?_
            exact pw_locs (by exact ⟨rfl, cat_vR _, rfl, cat_vR _, rfl, rfl, rfl, rfl, rfl, rfl, trivial⟩) (ih_5 k (k + 1)  (by omega) (by have hx := hw8 (by omega); have hy := hv8 (by omega); have := hx.1; omega) (fr_go (by omega) hf (by unfold mUs; have hx := hw8 (by omega); have hy := hv8 (by omega); have hz := hx.2 (by have := hx.1; omega); exact if_pos ⟨⟨by have := hx.1; omega, by omega⟩, Or.inl c_41⟩)) (by omega))
          · skip
            refine pw_aload_n C dX7_next_44 rfl ?_
            refine pw_iload C dX7_next_45 rfl ?_
            refine pw_cVR C hX dX7_next_47 ml_X7_51 mc_Jx4a65c_get_915e3 (hT.get (i := k) (by omega)) kc_2 hT.1.k rfl rfl ⟨Nat.le_of_ble_eq_true rfl, Nat.le_of_ble_eq_true rfl⟩ (Nat.le_of_ble_eq_true rfl) ⟨Nat.le_of_ble_eq_true rfl, Nat.le_of_ble_eq_true rfl⟩ ?_
            refine pw_cast (Cn := "SlugwireModel$Take") C dX7_next_50 (List.mem_of_getElem? (i := 1307) (by decide +kernel)) (by rw [(hT.2 k (by omega) (by omega)).2.1.1]; exact kc_12) ?_
            refine pw_getE C dX7_next_53 fl_X7_60 rfl (hT.2 k (by omega) (by omega)).2.1.1 (hT.2 k (by omega) (by omega)).2.1.2.2.2.1.2.1 ?_
            have b_53 := (hT.2 k (by omega) (by omega)).2.2
            refine pw_aload_n C dX7_next_56 rfl ?_
            refine pw_iload_n C dX7_next_57 rfl ?_
            refine pw_cVR C hX dX7_next_58 ml_X7_51 mc_Jx4a65c_get_915e3 (hT.get (i := b) (by omega)) kc_2 hT.1.k rfl rfl ⟨Nat.le_of_ble_eq_true rfl, Nat.le_of_ble_eq_true rfl⟩ (Nat.le_of_ble_eq_true rfl) ⟨Nat.le_of_ble_eq_true rfl, Nat.le_of_ble_eq_true rfl⟩ ?_
            refine pw_cast (Cn := "SlugwireModel$Take") C dX7_next_61 (List.mem_of_getElem? (i := 1307) (by decide +kernel)) (by rw [(hT.2 b (by omega) (by omega)).2.1.1]; exact kc_12) ?_
            refine pw_getE C dX7_next_64 fl_X7_60 rfl (hT.2 b (by omega) (by omega)).2.1.1 (hT.2 b (by omega) (by omega)).2.1.2.2.2.1.2.1 ?_
            have b_64 := (hT.2 b (by omega) (by omega)).2.2
            refine pw_icmp_ge (tgt := 73) C dX7_next_67 (by decide) (by omega) (fun c_67 => ?_) (fun c_67 => ?_)
            · skip
              refine pw_iinc C dX7_next_73 rfl (Nat.le_of_ble_eq_true rfl) rfl ?_
              refine pw_goto (tgt := 5) C dX7_next_76 (by decide) ?_
              exact pw_locs (by exact ⟨rfl, cat_vR _, rfl, cat_vR _, rfl, rfl, rfl, rfl, rfl, rfl, trivial⟩) (ih_5 b (k + 1)  (by omega) (by omega) (fr_go (by omega) hf (by unfold mUs; have hx := hw8 (by omega); have hy := hv8 (by omega); have hz := hx.2 (by have := hx.1; omega); have hu := hw7 (by omega) (by omega); exact if_neg (fun q => by omega))) (by omega))
            · skip
              refine pw_iload C dX7_next_70 rfl ?_
              refine pw_istore_n C dX7_next_72 (Nat.le_of_ble_eq_true rfl) rfl ?_
              refine pw_iinc C dX7_next_73 rfl (Nat.le_of_ble_eq_true rfl) rfl ?_
              refine pw_goto (tgt := 5) C dX7_next_76 (by decide) ?_
              exact pw_locs (by exact ⟨rfl, cat_vR _, rfl, cat_vR _, rfl, rfl, rfl, rfl, rfl, rfl, trivial⟩) (ih_5 k (k + 1)  (by omega) (by have hx := hw8 (by omega); have hy := hv8 (by omega); have := hx.1; omega) (fr_go (by omega) hf (by unfold mUs; have hx := hw8 (by omega); have hy := hv8 (by omega); have hz := hx.2 (by have := hx.1; omega); have hu := hw7 (by omega) (by omega); exact if_pos ⟨⟨by have := hx.1; omega, by omega⟩, by omega⟩)) (by omega))

