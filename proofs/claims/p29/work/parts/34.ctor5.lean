/-! ===== the class's own constructor ===== -/
def BL (G M : Mm) (B n : Int) : Prop :=
  (4 ≤ n → G 2 140 B = B + 1 ∧ SR G M (B + 1) z0) ∧ (6 ≤ n → G 2 141 B = B + 4 ∧ YR G M (B + 4) z0) ∧ (7 ≤ n → G 2 142 B = B + 6 ∧ AR G 3 (B + 6) 24) ∧
  (∀ f, 0 ≤ f → f < 24 → 9 + 2 * f ≤ n → G 3 (B + 6) f = B + 7 + 2 * f ∧ FR G M (B + 7 + 2 * f) F00) ∧
  (56 ≤ n → G 2 143 B = B + 55 ∧ AR G 4 (B + 55) 60) ∧
  (∀ t, 0 ≤ t → t < 60 → 58 + 2 * t ≤ n → G 3 (B + 55) t = B + 56 + 2 * t ∧ TR G M (B + 56 + 2 * t) T00) ∧
  (177 ≤ n → G 2 144 B = B + 176 ∧ AR G 5 (B + 176) 4) ∧
  (∀ l, 0 ≤ l → l < 4 → 182 + 5 * l ≤ n → G 3 (B + 176) l = B + 177 + 5 * l ∧ LR G M (B + 177 + 5 * l) L00) ∧
  (202 ≤ n → G 2 145 B = B + 197 ∧ LR G M (B + 197) L00)
def PB (G0 M0 G M : Mm) (B : Int) : Prop := G 0 B 0 = 8 ∧ (∀ f, M 0 f B = 0) ∧ Bel B G0 M0 G M
section BLs
variable {G0 M0 G M G1 M1 : Mm} {B n n' : Int}
theorem AR.o {t a len : Int} (h : AR G t a len) (hb : agr G M G1 M1 a) : AR G1 t a len := ⟨hb.1.trans h.1, hb.2.1.trans h.2⟩
theorem BL.o (h : BL G M B n) (hg : ∀ b, B ≤ b → b < B + n → agr G M G1 M1 b) : BL G1 M1 B n := by
  obtain ⟨a1, a2, a3, a4, a5, a6, a7, a8, a9⟩ := h
  refine ⟨fun q => ?_, fun q => ?_, fun q => ?_, fun f q1 q2 q => ?_, fun q => ?_, fun f q1 q2 q => ?_, fun q => ?_, fun f q1 q2 q => ?_, fun q => ?_⟩
  · obtain ⟨p1, p2⟩ := a1 q; exact ⟨((hg B (by omega) (by omega)).2.2.1 _).trans p1, p2.o (by omega) (fun b _ _ => hg b (by omega) (by omega))⟩
  · obtain ⟨p1, p2⟩ := a2 q; exact ⟨((hg B (by omega) (by omega)).2.2.1 _).trans p1, p2.o (by omega) (fun b _ _ => hg b (by omega) (by omega))⟩
  · obtain ⟨p1, p2⟩ := a3 q; exact ⟨((hg B (by omega) (by omega)).2.2.1 _).trans p1, p2.o (hg _ (by omega) (by omega))⟩
  · obtain ⟨p1, p2⟩ := a4 f q1 q2 q; exact ⟨((hg (B + 6) (by omega) (by omega)).2.2.2.1 _).trans p1, p2.o (by omega) (fun b _ _ => hg b (by omega) (by omega))⟩
  · obtain ⟨p1, p2⟩ := a5 q; exact ⟨((hg B (by omega) (by omega)).2.2.1 _).trans p1, p2.o (hg _ (by omega) (by omega))⟩
  · obtain ⟨p1, p2⟩ := a6 f q1 q2 q; exact ⟨((hg (B + 55) (by omega) (by omega)).2.2.2.1 _).trans p1, p2.o (by omega) (fun b _ _ => hg b (by omega) (by omega))⟩
  · obtain ⟨p1, p2⟩ := a7 q; exact ⟨((hg B (by omega) (by omega)).2.2.1 _).trans p1, p2.o (hg _ (by omega) (by omega))⟩
  · obtain ⟨p1, p2⟩ := a8 f q1 q2 q; exact ⟨((hg (B + 176) (by omega) (by omega)).2.2.2.1 _).trans p1, p2.o (by omega) (fun b _ _ => hg b (by omega) (by omega))⟩
  · obtain ⟨p1, p2⟩ := a9 q; exact ⟨((hg B (by omega) (by omega)).2.2.1 _).trans p1, p2.o (by omega) (fun b _ _ => hg b (by omega) (by omega))⟩
theorem BL.lnk (h : BL G M B n) {f v : Int} (hf : f = 140 ∧ n < 4 ∨ f = 141 ∧ n < 6 ∨ f = 142 ∧ n < 7 ∨ f = 143 ∧ n < 56 ∨ f = 144 ∧ n < 177 ∨ f = 145 ∧ n < 202) : BL (mup G 2 f B v) M B n := by
  obtain ⟨a1, a2, a3, a4, a5, a6, a7, a8, a9⟩ := h
  refine ⟨fun q => ?_, fun q => ?_, fun q => ?_, fun f q1 q2 q => ?_, fun q => ?_, fun f q1 q2 q => ?_, fun q => ?_, fun f q1 q2 q => ?_, fun q => ?_⟩
  · obtain ⟨p1, p2⟩ := a1 q; exact ⟨(mup_n (by omega)).trans p1, p2.o (by omega) (fun b _ _ => agr_G2 b (by omega))⟩
  · obtain ⟨p1, p2⟩ := a2 q; exact ⟨(mup_n (by omega)).trans p1, p2.o (by omega) (fun b _ _ => agr_G2 b (by omega))⟩
  · obtain ⟨p1, p2⟩ := a3 q; exact ⟨(mup_n (by omega)).trans p1, p2.o (M := M) (M1 := M) (agr_G2 _ (by omega))⟩
  · obtain ⟨p1, p2⟩ := a4 f q1 q2 q; exact ⟨(mup_n (by omega)).trans p1, p2.o (by omega) (fun b _ _ => agr_G2 b (by omega))⟩
  · obtain ⟨p1, p2⟩ := a5 q; exact ⟨(mup_n (by omega)).trans p1, p2.o (M := M) (M1 := M) (agr_G2 _ (by omega))⟩
  · obtain ⟨p1, p2⟩ := a6 f q1 q2 q; exact ⟨(mup_n (by omega)).trans p1, p2.o (by omega) (fun b _ _ => agr_G2 b (by omega))⟩
  · obtain ⟨p1, p2⟩ := a7 q; exact ⟨(mup_n (by omega)).trans p1, p2.o (M := M) (M1 := M) (agr_G2 _ (by omega))⟩
  · obtain ⟨p1, p2⟩ := a8 f q1 q2 q; exact ⟨(mup_n (by omega)).trans p1, p2.o (by omega) (fun b _ _ => agr_G2 b (by omega))⟩
  · obtain ⟨p1, p2⟩ := a9 q; exact ⟨(mup_n (by omega)).trans p1, p2.o (by omega) (fun b _ _ => agr_G2 b (by omega))⟩
theorem BL.elt (h : BL G M B n) {a j v : Int} (hf : a = B + 6 ∧ n < 9 + 2 * j ∨ a = B + 55 ∧ n < 58 + 2 * j ∨ a = B + 176 ∧ n < 182 + 5 * j) : BL (mup G 3 a j v) M B n := by
  obtain ⟨a1, a2, a3, a4, a5, a6, a7, a8, a9⟩ := h
  have e : ∀ b, agr G M (mup G 3 a j v) M b ∨ b = a := fun b => (Decidable.em (b = a)).elim Or.inr (fun z => Or.inl (agr_G3 b z))
  have er : ∀ {t b len : Int}, AR G t b len → AR (mup G 3 a j v) t b len := fun z => ⟨(mup_n (by omega)).trans z.1, (mup_n (by omega)).trans z.2⟩
  have eo : ∀ {K na ns len b : Int} {L : Fn}, OR K na ns len G M b L → OR K na ns len (mup G 3 a j v) M b L := fun z =>
    ⟨(mup_n (by omega)).trans z.1, fun i q1 q2 => ⟨(mup_n (by omega)).trans (z.2.1 i q1 q2).1, (mup_n (by omega)).trans (z.2.1 i q1 q2).2.1, (mup_n (by omega)).trans (z.2.1 i q1 q2).2.2⟩, z.2.2.1, z.2.2.2⟩
  refine ⟨fun q => ?_, fun q => ?_, fun q => ?_, fun f q1 q2 q => ?_, fun q => ?_, fun f q1 q2 q => ?_, fun q => ?_, fun f q1 q2 q => ?_, fun q => ?_⟩
  · obtain ⟨p1, p2⟩ := a1 q; exact ⟨(mup_n (by omega)).trans p1, eo p2⟩
  · obtain ⟨p1, p2⟩ := a2 q; exact ⟨(mup_n (by omega)).trans p1, eo p2⟩
  · obtain ⟨p1, p2⟩ := a3 q; exact ⟨(mup_n (by omega)).trans p1, er p2⟩
  · obtain ⟨p1, p2⟩ := a4 f q1 q2 q; exact ⟨(mup_n (by omega)).trans p1, eo p2⟩
  · obtain ⟨p1, p2⟩ := a5 q; exact ⟨(mup_n (by omega)).trans p1, er p2⟩
  · obtain ⟨p1, p2⟩ := a6 f q1 q2 q; exact ⟨(mup_n (by omega)).trans p1, eo p2⟩
  · obtain ⟨p1, p2⟩ := a7 q; exact ⟨(mup_n (by omega)).trans p1, er p2⟩
  · obtain ⟨p1, p2⟩ := a8 f q1 q2 q; exact ⟨(mup_n (by omega)).trans p1, eo p2⟩
  · obtain ⟨p1, p2⟩ := a9 q; exact ⟨(mup_n (by omega)).trans p1, eo p2⟩
theorem BL.a1 (h : BL G M B n) (hn : n = 1 ∧ n' = 4) (r : G 2 140 B = B + 1) (p : SR G M (B + 1) z0) : BL G M B n' := by
  obtain ⟨a1, a2, a3, a4, a5, a6, a7, a8, a9⟩ := h
  exact ⟨fun q => ⟨r, p⟩, fun q => a2 (by omega), fun q => a3 (by omega), fun f q1 q2 q => a4 f q1 q2 (by omega), fun q => a5 (by omega), fun f q1 q2 q => a6 f q1 q2 (by omega), fun q => a7 (by omega), fun f q1 q2 q => a8 f q1 q2 (by omega), fun q => a9 (by omega)⟩
theorem BL.a2 (h : BL G M B n) (hn : n = 4 ∧ n' = 6) (r : G 2 141 B = B + 4) (p : YR G M (B + 4) z0) : BL G M B n' := by
  obtain ⟨a1, a2, a3, a4, a5, a6, a7, a8, a9⟩ := h
  exact ⟨fun q => a1 (by omega), fun q => ⟨r, p⟩, fun q => a3 (by omega), fun f q1 q2 q => a4 f q1 q2 (by omega), fun q => a5 (by omega), fun f q1 q2 q => a6 f q1 q2 (by omega), fun q => a7 (by omega), fun f q1 q2 q => a8 f q1 q2 (by omega), fun q => a9 (by omega)⟩
theorem BL.a3 (h : BL G M B n) (hn : n = 6 ∧ n' = 7) (r : G 2 142 B = B + 6) (p : AR G 3 (B + 6) 24) : BL G M B n' := by
  obtain ⟨a1, a2, a3, a4, a5, a6, a7, a8, a9⟩ := h
  exact ⟨fun q => a1 (by omega), fun q => a2 (by omega), fun q => ⟨r, p⟩, fun f q1 q2 q => a4 f q1 q2 (by omega), fun q => a5 (by omega), fun f q1 q2 q => a6 f q1 q2 (by omega), fun q => a7 (by omega), fun f q1 q2 q => a8 f q1 q2 (by omega), fun q => a9 (by omega)⟩
theorem BL.a4 (h : BL G M B n) {i : Int} (hn : (0 ≤ i ∧ i < 24) ∧ n = 7 + 2 * i ∧ n' = 9 + 2 * i) (r : G 3 (B + 6) i = B + 7 + 2 * i) (p : FR G M (B + 7 + 2 * i) F00) : BL G M B n' := by
  obtain ⟨a1, a2, a3, a4, a5, a6, a7, a8, a9⟩ := h
  exact ⟨fun q => a1 (by omega), fun q => a2 (by omega), fun q => a3 (by omega), fun f q1 q2 q => (Decidable.em (f = i)).elim (fun e => by rw [e]; exact ⟨r, p⟩) (fun e => a4 f q1 q2 (by omega)), fun q => a5 (by omega), fun f q1 q2 q => a6 f q1 q2 (by omega), fun q => a7 (by omega), fun f q1 q2 q => a8 f q1 q2 (by omega), fun q => a9 (by omega)⟩
theorem BL.a5 (h : BL G M B n) (hn : n = 55 ∧ n' = 56) (r : G 2 143 B = B + 55) (p : AR G 4 (B + 55) 60) : BL G M B n' := by
  obtain ⟨a1, a2, a3, a4, a5, a6, a7, a8, a9⟩ := h
  exact ⟨fun q => a1 (by omega), fun q => a2 (by omega), fun q => a3 (by omega), fun f q1 q2 q => a4 f q1 q2 (by omega), fun q => ⟨r, p⟩, fun f q1 q2 q => a6 f q1 q2 (by omega), fun q => a7 (by omega), fun f q1 q2 q => a8 f q1 q2 (by omega), fun q => a9 (by omega)⟩
theorem BL.a6 (h : BL G M B n) {i : Int} (hn : (0 ≤ i ∧ i < 60) ∧ n = 56 + 2 * i ∧ n' = 58 + 2 * i) (r : G 3 (B + 55) i = B + 56 + 2 * i) (p : TR G M (B + 56 + 2 * i) T00) : BL G M B n' := by
  obtain ⟨a1, a2, a3, a4, a5, a6, a7, a8, a9⟩ := h
  exact ⟨fun q => a1 (by omega), fun q => a2 (by omega), fun q => a3 (by omega), fun f q1 q2 q => a4 f q1 q2 (by omega), fun q => a5 (by omega), fun f q1 q2 q => (Decidable.em (f = i)).elim (fun e => by rw [e]; exact ⟨r, p⟩) (fun e => a6 f q1 q2 (by omega)), fun q => a7 (by omega), fun f q1 q2 q => a8 f q1 q2 (by omega), fun q => a9 (by omega)⟩
theorem BL.a7 (h : BL G M B n) (hn : n = 176 ∧ n' = 177) (r : G 2 144 B = B + 176) (p : AR G 5 (B + 176) 4) : BL G M B n' := by
  obtain ⟨a1, a2, a3, a4, a5, a6, a7, a8, a9⟩ := h
  exact ⟨fun q => a1 (by omega), fun q => a2 (by omega), fun q => a3 (by omega), fun f q1 q2 q => a4 f q1 q2 (by omega), fun q => a5 (by omega), fun f q1 q2 q => a6 f q1 q2 (by omega), fun q => ⟨r, p⟩, fun f q1 q2 q => a8 f q1 q2 (by omega), fun q => a9 (by omega)⟩
theorem BL.a8 (h : BL G M B n) {i : Int} (hn : (0 ≤ i ∧ i < 4) ∧ n = 177 + 5 * i ∧ n' = 182 + 5 * i) (r : G 3 (B + 176) i = B + 177 + 5 * i) (p : LR G M (B + 177 + 5 * i) L00) : BL G M B n' := by
  obtain ⟨a1, a2, a3, a4, a5, a6, a7, a8, a9⟩ := h
  exact ⟨fun q => a1 (by omega), fun q => a2 (by omega), fun q => a3 (by omega), fun f q1 q2 q => a4 f q1 q2 (by omega), fun q => a5 (by omega), fun f q1 q2 q => a6 f q1 q2 (by omega), fun q => a7 (by omega), fun f q1 q2 q => (Decidable.em (f = i)).elim (fun e => by rw [e]; exact ⟨r, p⟩) (fun e => a8 f q1 q2 (by omega)), fun q => a9 (by omega)⟩
theorem BL.a9 (h : BL G M B n) (hn : n = 197 ∧ n' = 202) (r : G 2 145 B = B + 197) (p : LR G M (B + 197) L00) : BL G M B n' := by
  obtain ⟨a1, a2, a3, a4, a5, a6, a7, a8, a9⟩ := h
  exact ⟨fun q => a1 (by omega), fun q => a2 (by omega), fun q => a3 (by omega), fun f q1 q2 q => a4 f q1 q2 (by omega), fun q => a5 (by omega), fun f q1 q2 q => a6 f q1 q2 (by omega), fun q => a7 (by omega), fun f q1 q2 q => a8 f q1 q2 (by omega), fun q => ⟨r, p⟩⟩
theorem BL.z : BL G M B 1 := ⟨fun q => by omega, fun q => by omega, fun q => by omega, fun f q1 q2 q => by omega, fun q => by omega, fun f q1 q2 q => by omega, fun q => by omega, fun f q1 q2 q => by omega, fun q => by omega⟩
theorem PB.o (h : PB G0 M0 G M B) {x : Int} (hb : Bel x G M G1 M1) (hx : B < x) : PB G0 M0 G1 M1 B :=
  ⟨(hb B hx).1.trans h.1, fun f => ((hb B hx).2.2.2.2.1 f).trans (h.2.1 f), fun b q => (h.2.2 b q).tr (hb b (by omega))⟩
theorem PB.lnk (h : PB G0 M0 G M B) {f v : Int} : PB G0 M0 (mup G 2 f B v) M B :=
  ⟨(mup_n (by omega)).trans h.1, h.2.1, fun b q => (h.2.2 b q).tr (agr_G2 b (by omega))⟩
theorem PB.elt (h : PB G0 M0 G M B) {a j v : Int} (ha : B ≤ a) : PB G0 M0 (mup G 3 a j v) M B :=
  ⟨(mup_n (by omega)).trans h.1, h.2.1, fun b q => (h.2.2 b q).tr (agr_G3 b (by omega))⟩
theorem nwB (hP : PB G0 M0 G M B) (hB : BL G M B n) {x K l : Int} (hT : G 4 0 0 = x) (hx : x = B + n) (h1 : 1 ≤ n) : PB G0 M0 (nG G K l) (nM G M) B ∧ BL (nG G K l) (nM G M) B n ∧ nG G K l 0 x 0 = K ∧ nG G K l 1 x 0 = l ∧ nG G K l 4 0 0 = x + 1 ∧ ∀ f, nM G M 0 f x = 0 := by
  have hb : Bel x G M (nG G K l) (nM G M) := fun b q => agr_n b (by omega)
  refine ⟨hP.o hb (by omega), hB.o (fun b _ _ => hb b (by omega)), ?_, ?_, ?_, ?_⟩
  · rw [← hT, nG_kind]
  · rw [← hT, nG_len]
  · rw [nG_next, hT]
  · intro f; rw [← hT, nM_fld]
end BLs
/-- a new object of the class -/
def A00 : An := fun i => if 20 ≤ i ∧ i < 24 then L00 else if 100 ≤ i ∧ i < 124 then F00 else if 200 ≤ i then T00 else z0
theorem BL.rc {G0 M0 G M : Mm} {B n : Int} (h : BL G M B n) (hn : n = 202) (hP : PB G0 M0 G M B) : RC G M B A00 := by
  obtain ⟨a1, a2, a3, a4, a5, a6, a7, a8, a9⟩ := h
  have b1 := a1 (by omega); have b2 := a2 (by omega); have b3 := a3 (by omega); have b5 := a5 (by omega); have b7 := a7 (by omega); have b9 := a9 (by omega)
  refine ⟨⟨hP.1, ⟨b1.1, b2.1, b3.1, b5.1, b7.1, b9.1⟩, b3.2, b5.2, b7.2, fun f q1 q2 => (a4 f q1 q2 (by omega)).1, fun f q1 q2 => (a6 f q1 q2 (by omega)).1, fun f q1 q2 => (a8 f q1 q2 (by omega)).1⟩,
    fun s q1 q2 => (hP.2.1 _).trans rfl, b1.2, ⟨_, b2.2⟩, fun f q1 q2 => ?_, fun f q1 q2 => ?_, fun f q1 q2 => ?_, ⟨_, b9.2⟩⟩
  · have := (a4 f q1 q2 (by omega)).2
    rw [show A00 (100 + f) = F00 from by unfold A00; rw [if_neg (by omega), if_pos (by omega)]]; exact this
  · have := (a6 f q1 q2 (by omega)).2
    rw [show A00 (200 + f) = T00 from by unfold A00; rw [if_neg (by omega), if_neg (by omega), if_pos (by omega)]]; exact this
  · have := (a8 f q1 q2 (by omega)).2
    rw [show A00 (20 + f) = L00 from by unfold A00; rw [if_pos (by omega)]]; exact this
set_option maxHeartbeats 4000000 in
set_option maxRecDepth 100000 in
theorem c_X5_init {X : Xv} {G M : Mm} {B : Int} (ha : 0 ≤ B) (hk : G 0 B 0 = 8) (hx : G 4 0 0 = B + 1) (hz : ∀ f, M 0 f B = 0) : CT X yX5_init prog_1_method_1_code 2 (none) 2 43 201 2591 [vR B] G M (PU (Mad (fun G1 M1 => RC G1 M1 B A00) B (B + 202) G M)) := by
  refine CT.by (by decide +kernel) [1] ⟨cat_vR _, trivial⟩ (Nat.le_of_ble_eq_true rfl) (fun E hX C hR hIni => ?_)
  have hP0 : PB G M G M B := ⟨hk, hz, Bel.rf⟩
  have hB0 : BL G M B 1 := BL.z
  refine pw_aload_n C dX5_init_0 rfl ?_
  refine pw_objInit C dX5_init_1 (List.mem_of_getElem? (i := 73) (by decide +kernel)) (List.mem_of_getElem? (i := 74) (by decide +kernel)) (List.mem_of_getElem? (i := 75) (by decide +kernel)) ha ⟨Nat.le_of_ble_eq_true rfl, Nat.le_of_ble_eq_true rfl⟩ ?_
  refine pw_aload_n C dX5_init_4 rfl ?_
  have hT_1 : G 4 0 0 = (B + 1) := by have q := hx; omega
  refine pw_new C dX5_init_5 nl_X5_7 (show 0 + 1 ≤ 201 by omega) (show 0 + 3 ≤ 2591 by omega) ?_
  have w_ := nwB (K := 5) (l := 0) hP0 hB0 (x := (B + 1)) hT_1 (by omega) (by omega)
  rw [show G 4 0 0 = (B + 1) from hT_1]
  generalize nG G 5 0 = G2 at w_ ⊢
  generalize nM G M = M3 at w_ ⊢
  obtain ⟨hP_3, hB_3, hk_3, hl_3, hT_3, hz_3⟩ := w_
  clear hP0 hB0 hT_1
  refine pw_dup C dX5_init_8 (cat_vR _) ?_
  refine pw_cIU C hX dX5_init_9 ml_X5_9 mc_X2_init (c_X2_init (a := (B + 1)) (by omega) hk_3 hT_3 hz_3) (by omega) rfl rfl ⟨Nat.le_of_ble_eq_true rfl, Nat.le_of_ble_eq_true rfl⟩ (Nat.le_of_ble_eq_true rfl) (show (0 + 1) + 2 ≤ 201 ∧ (0 + 3) + 20 ≤ 2591 by omega) (fun G4 M5 hq_ => ?_)
  obtain ⟨hO_5, hT_5, hb_⟩ := hq_
  have hP_5 := hP_3.o hb_ (by omega)
  have hB_5 := hB_3.o (fun b _ _ => hb_ b (by omega))
  clear hb_ hP_3 hB_3 hT_3 hk_3 hl_3 hz_3
  refine pw_putR C dX5_init_12 fl_X5_10 (fun _ => hIni rfl) (Or.inl ⟨_, rfl⟩) hP_5.1 rfl ?_
  have hP_6 := hP_5.lnk (f := 140) (v := (B + 1))
  have hT_6 : (mup G4 2 140 B (B + 1)) 4 0 0 = _ := (mup_n (by omega)).trans hT_5
  have hO_ := hO_5.o (G1 := mup G4 2 140 B (B + 1)) (M1 := M5) (by omega) (fun b _ _ => agr_G2 b (by omega))
  have hB_6 := (hB_5.lnk (f := 140) (v := (B + 1)) (by omega)).a1 (n' := 4) (by omega) (by rw [mup_s]) (by exact hO_)
  clear hO_
  generalize mup G4 2 140 B (B + 1) = G6 at hP_6 hT_6 hB_6 ⊢
  clear hP_5 hB_5 hT_5 hO_5
  refine pw_aload_n C dX5_init_15 rfl ?_
  have hT_7 : G6 4 0 0 = (B + 4) := by have q := hT_6; omega
  refine pw_new C dX5_init_16 nl_X5_16 (show ((0 + 1) + 2) + 1 ≤ 201 by omega) (show ((0 + 3) + 20) + 5 ≤ 2591 by omega) ?_
  have w_ := nwB (K := 7) (l := 0) hP_6 hB_6 (x := (B + 4)) hT_7 (by omega) (by omega)
  rw [show G6 4 0 0 = (B + 4) from hT_7]
  generalize nG G6 7 0 = G8 at w_ ⊢
  generalize nM G6 M5 = M9 at w_ ⊢
  obtain ⟨hP_9, hB_9, hk_9, hl_9, hT_9, hz_9⟩ := w_
  clear hP_6 hB_6 hT_7
  refine pw_dup C dX5_init_19 (cat_vR _) ?_
  refine pw_cIU C hX dX5_init_20 ml_X5_18 mc_X4_init (c_X4_init (a := (B + 4)) (by omega) hk_9 hT_9 hz_9) (by omega) rfl rfl ⟨Nat.le_of_ble_eq_true rfl, Nat.le_of_ble_eq_true rfl⟩ (Nat.le_of_ble_eq_true rfl) (show (((0 + 1) + 2) + 1) + 1 ≤ 201 ∧ (((0 + 3) + 20) + 5) + 10 ≤ 2591 by omega) (fun G10 M11 hq_ => ?_)
  obtain ⟨hO_11, hT_11, hb_⟩ := hq_
  have hP_11 := hP_9.o hb_ (by omega)
  have hB_11 := hB_9.o (fun b _ _ => hb_ b (by omega))
  clear hb_ hP_9 hB_9 hT_9 hk_9 hl_9 hz_9
  refine pw_putR C dX5_init_23 fl_X5_19 (fun _ => hIni rfl) (Or.inl ⟨_, rfl⟩) hP_11.1 rfl ?_
  have hP_12 := hP_11.lnk (f := 141) (v := (B + 4))
  have hT_12 : (mup G10 2 141 B (B + 4)) 4 0 0 = _ := (mup_n (by omega)).trans hT_11
  have hO_ := hO_11.o (G1 := mup G10 2 141 B (B + 4)) (M1 := M11) (by omega) (fun b _ _ => agr_G2 b (by omega))
  have hB_12 := (hB_11.lnk (f := 141) (v := (B + 4)) (by omega)).a2 (n' := 6) (by omega) (by rw [mup_s]) (by exact hO_)
  clear hO_
  generalize mup G10 2 141 B (B + 4) = G12 at hP_12 hT_12 hB_12 ⊢
  clear hP_11 hB_11 hT_11 hO_11
  refine pw_aload_n C dX5_init_26 rfl ?_
  refine pw_bipush C dX5_init_27 rfl ?_
  have hT_13 : G12 4 0 0 = (B + 6) := by have q := hT_12; omega
  refine pw_newq (t := 3) (Cn := "Slugwire$Fact") (ks := 24) C dX5_init_29 (List.mem_of_getElem? (i := 122) (by decide +kernel)) (by decide) (by omega) (fun _ => rfl) (by omega) rfl (show ((((0 + 1) + 2) + 1) + 1) + 1 ≤ 201 by omega) (show ((((0 + 3) + 20) + 5) + 10) + 24 ≤ 2591 by omega) ?_
  show PW E (nG G12 103 24) (nM G12 M11) _ _ _ _ _
  have w_ := nwB (K := 103) (l := 24) hP_12 hB_12 (x := (B + 6)) hT_13 (by omega) (by omega)
  rw [show G12 4 0 0 = (B + 6) from hT_13]
  generalize nG G12 103 24 = G14 at w_ ⊢
  generalize nM G12 M11 = M15 at w_ ⊢
  obtain ⟨hP_15, hB_15, hk_15, hl_15, hT_15, hz_15⟩ := w_
  clear hP_12 hB_12 hT_13
  refine pw_putR C dX5_init_32 fl_X5_25 (fun _ => hIni rfl) (Or.inr ⟨_, rfl⟩) hP_15.1 rfl ?_
  have hP_16 := hP_15.lnk (f := 142) (v := (B + 6))
  have hT_16 : (mup G14 2 142 B (B + 6)) 4 0 0 = _ := (mup_n (by omega)).trans hT_15
  have hO_ : AR (mup G14 2 142 B (B + 6)) 3 (B + 6) _ := ⟨(mup_n (by omega)).trans hk_15, (mup_n (by omega)).trans hl_15⟩
  have hB_16 := (hB_15.lnk (f := 142) (v := (B + 6)) (by omega)).a3 (n' := 7) (by omega) (by rw [mup_s]) (by exact hO_)
  clear hO_
  generalize mup G14 2 142 B (B + 6) = G16 at hP_16 hT_16 hB_16 ⊢
  clear hP_15 hB_15 hT_15 hk_15 hl_15 hz_15
  refine pw_iconst C dX5_init_35 ?_
  refine pw_istore_n C dX5_init_36 (Nat.le_of_ble_eq_true rfl) rfl ?_
  suffices K_37 : ∀ (nn_37 : Nat) (i : Int) (Gc : Mm) (Mc : Mm) (kc : Nat) (nc : Nat), (0 ≤ i ∧ i ≤ 24) → (PB G M Gc Mc B) → (BL Gc Mc B (7 + 2 * i)) → (Gc 4 0 0 = B + 7 + 2 * i) → ((kc : Int) = 6 + 2 * i) → ((nc : Int) = 62 + 15 * i) → 24 - i < (nn_37 : Int) → PW E Gc Mc kc nc 37 [(0, 1, vR B), (1, 1, vI i)] [] from pw_locs (by exact ⟨rfl, cat_vR _, rfl, rfl, trivial⟩) (K_37 (24 - 0 + 1 : Int).toNat 0 G16 M15 (((((0 + 1) + 2) + 1) + 1) + 1) (((((0 + 3) + 20) + 5) + 10) + 24) (by omega) (by first | exact hP_16 | omega) (by first | exact (show BL _ _ B (7 + 2 * 0) from hB_16) | omega) (by omega) (by omega) (by omega) (by omega))
  intro nn_37
  induction nn_37 with
  | zero => intro i Gc Mc kc nc h1 hP hB hT hkc hnc h_m37; exact absurd h_m37 (by omega)
  | succ nn_37 ih_37 =>
    intro i Gc Mc kc nc h1 hP hB hT hkc hnc h_m37
    refine pw_iload_n C dX5_init_37 rfl ?_
    refine pw_aload_n C dX5_init_38 rfl ?_
    refine pw_getR C dX5_init_39 fl_X5_25 hP.1 rfl (hB.2.2.1 (by omega)).1 ?_
    refine pw_alenR C dX5_init_42 (hB.2.2.1 (by omega)).2 (by omega) ?_
    refine pw_icmp_ge (tgt := 65) C dX5_init_43 (by decide) (by omega) (fun c_43 => ?_) (fun c_43 => ?_)
    · skip
      refine pw_aload_n C dX5_init_65 rfl ?_
      refine pw_bipush C dX5_init_66 rfl ?_
      have hT_17 : Gc 4 0 0 = (B + 55) := by have q := hT; omega
      refine pw_newq (t := 4) (Cn := "Slugwire$Take") (ks := 60) C dX5_init_68 (List.mem_of_getElem? (i := 153) (by decide +kernel)) (by decide) (by omega) (fun _ => rfl) (by omega) rfl (show kc + 1 ≤ 201 by omega) (show nc + 60 ≤ 2591 by omega) ?_
      show PW E (nG Gc 104 60) (nM Gc Mc) _ _ _ _ _
      have w_ := nwB (K := 104) (l := 60) hP hB (x := (B + 55)) hT_17 (by omega) (by omega)
      rw [show Gc 4 0 0 = (B + 55) from hT_17]
      generalize nG Gc 104 60 = G18 at w_ ⊢
      generalize nM Gc Mc = M19 at w_ ⊢
      obtain ⟨hP_19, hB_19, hk_19, hl_19, hT_19, hz_19⟩ := w_
      clear hP hB hT_17
      refine pw_putR C dX5_init_71 fl_X5_32 (fun _ => hIni rfl) (Or.inr ⟨_, rfl⟩) hP_19.1 rfl ?_
      have hP_20 := hP_19.lnk (f := 143) (v := (B + 55))
      have hT_20 : (mup G18 2 143 B (B + 55)) 4 0 0 = _ := (mup_n (by omega)).trans hT_19
      have hO_ : AR (mup G18 2 143 B (B + 55)) 4 (B + 55) _ := ⟨(mup_n (by omega)).trans hk_19, (mup_n (by omega)).trans hl_19⟩
      have hB_20 := (hB_19.lnk (f := 143) (v := (B + 55)) (by omega)).a5 (n' := 56) (by omega) (by rw [mup_s]) (by exact hO_)
      clear hO_
      generalize mup G18 2 143 B (B + 55) = G20 at hP_20 hT_20 hB_20 ⊢
      clear hP_19 hB_19 hT_19 hk_19 hl_19 hz_19
      refine pw_iconst C dX5_init_74 ?_
      refine pw_istore_n C dX5_init_75 (Nat.le_of_ble_eq_true rfl) rfl ?_
      suffices K_76 : ∀ (nn_76 : Nat) (i : Int) (Gc : Mm) (Mc : Mm) (kc : Nat) (nc : Nat), (0 ≤ i ∧ i ≤ 60) → (PB G M Gc Mc B) → (BL Gc Mc B (56 + 2 * i)) → (Gc 4 0 0 = B + 56 + 2 * i) → ((kc : Int) = 55 + 2 * i) → ((nc : Int) = 482 + 14 * i) → 60 - i < (nn_76 : Int) → PW E Gc Mc kc nc 76 [(0, 1, vR B), (1, 1, vI i)] [] from pw_locs (by exact ⟨rfl, cat_vR _, rfl, rfl, trivial⟩) (K_76 (60 - 0 + 1 : Int).toNat 0 G20 M19 (kc + 1) (nc + 60) (by omega) (by first | exact hP_20 | omega) (by first | exact (show BL _ _ B (56 + 2 * 0) from hB_20) | omega) (by omega) (by omega) (by omega) (by omega))
      intro nn_76
      induction nn_76 with
      | zero => intro i Gc Mc kc nc h1 hP hB hT hkc hnc h_m76; exact absurd h_m76 (by omega)
      | succ nn_76 ih_76 =>
        intro i Gc Mc kc nc h1 hP hB hT hkc hnc h_m76
        refine pw_iload_n C dX5_init_76 rfl ?_
        refine pw_aload_n C dX5_init_77 rfl ?_
        refine pw_getR C dX5_init_78 fl_X5_32 hP.1 rfl (hB.2.2.2.2.1 (by omega)).1 ?_
        refine pw_alenR C dX5_init_81 (hB.2.2.2.2.1 (by omega)).2 (by omega) ?_
        refine pw_icmp_ge (tgt := 104) C dX5_init_82 (by decide) (by omega) (fun c_82 => ?_) (fun c_82 => ?_)
        · skip
          refine pw_aload_n C dX5_init_104 rfl ?_
          refine pw_iconst C dX5_init_105 ?_
          have hT_21 : Gc 4 0 0 = (B + 176) := by have q := hT; omega
          refine pw_newq (t := 5) (Cn := "Slugwire$Line") (ks := 4) C dX5_init_106 (List.mem_of_getElem? (i := 197) (by decide +kernel)) (by decide) (by omega) (fun _ => rfl) (by omega) rfl (show kc + 1 ≤ 201 by omega) (show nc + 4 ≤ 2591 by omega) ?_
          show PW E (nG Gc 105 4) (nM Gc Mc) _ _ _ _ _
          have w_ := nwB (K := 105) (l := 4) hP hB (x := (B + 176)) hT_21 (by omega) (by omega)
          rw [show Gc 4 0 0 = (B + 176) from hT_21]
          generalize nG Gc 105 4 = G22 at w_ ⊢
          generalize nM Gc Mc = M23 at w_ ⊢
          obtain ⟨hP_23, hB_23, hk_23, hl_23, hT_23, hz_23⟩ := w_
          clear hP hB hT_21
          refine pw_putR C dX5_init_109 fl_X5_39 (fun _ => hIni rfl) (Or.inr ⟨_, rfl⟩) hP_23.1 rfl ?_
          have hP_24 := hP_23.lnk (f := 144) (v := (B + 176))
          have hT_24 : (mup G22 2 144 B (B + 176)) 4 0 0 = _ := (mup_n (by omega)).trans hT_23
          have hO_ : AR (mup G22 2 144 B (B + 176)) 5 (B + 176) _ := ⟨(mup_n (by omega)).trans hk_23, (mup_n (by omega)).trans hl_23⟩
          have hB_24 := (hB_23.lnk (f := 144) (v := (B + 176)) (by omega)).a7 (n' := 177) (by omega) (by rw [mup_s]) (by exact hO_)
          clear hO_
          generalize mup G22 2 144 B (B + 176) = G24 at hP_24 hT_24 hB_24 ⊢
          clear hP_23 hB_23 hT_23 hk_23 hl_23 hz_23
          refine pw_iconst C dX5_init_112 ?_
          refine pw_istore_n C dX5_init_113 (Nat.le_of_ble_eq_true rfl) rfl ?_
          suffices K_114 : ∀ (nn_114 : Nat) (i : Int) (Gc : Mm) (Mc : Mm) (kc : Nat) (nc : Nat), (0 ≤ i ∧ i ≤ 4) → (PB G M Gc Mc B) → (BL Gc Mc B (177 + 5 * i)) → (Gc 4 0 0 = B + 177 + 5 * i) → ((kc : Int) = 176 + 5 * i) → ((nc : Int) = 1326 + 253 * i) → 4 - i < (nn_114 : Int) → PW E Gc Mc kc nc 114 [(0, 1, vR B), (1, 1, vI i)] [] from pw_locs (by exact ⟨rfl, cat_vR _, rfl, rfl, trivial⟩) (K_114 (4 - 0 + 1 : Int).toNat 0 G24 M23 (kc + 1) (nc + 4) (by omega) (by first | exact hP_24 | omega) (by first | exact (show BL _ _ B (177 + 5 * 0) from hB_24) | omega) (by omega) (by omega) (by omega) (by omega))
          intro nn_114
          induction nn_114 with
          | zero => intro i Gc Mc kc nc h1 hP hB hT hkc hnc h_m114; exact absurd h_m114 (by omega)
          | succ nn_114 ih_114 =>
            intro i Gc Mc kc nc h1 hP hB hT hkc hnc h_m114
            refine pw_iload_n C dX5_init_114 rfl ?_
            refine pw_aload_n C dX5_init_115 rfl ?_
            refine pw_getR C dX5_init_116 fl_X5_39 hP.1 rfl (hB.2.2.2.2.2.2.1 (by omega)).1 ?_
            refine pw_alenR C dX5_init_119 (hB.2.2.2.2.2.2.1 (by omega)).2 (by omega) ?_
            refine pw_icmp_ge (tgt := 142) C dX5_init_120 (by decide) (by omega) (fun c_120 => ?_) (fun c_120 => ?_)
            · skip
              refine pw_aload_n C dX5_init_142 rfl ?_
              have hT_25 : Gc 4 0 0 = (B + 197) := by have q := hT; omega
              refine pw_new C dX5_init_143 nl_X5_37 (show kc + 1 ≤ 201 by omega) (show nc + 9 ≤ 2591 by omega) ?_
              have w_ := nwB (K := 4) (l := 0) hP hB (x := (B + 197)) hT_25 (by omega) (by omega)
              rw [show Gc 4 0 0 = (B + 197) from hT_25]
              generalize nG Gc 4 0 = G26 at w_ ⊢
              generalize nM Gc Mc = M27 at w_ ⊢
              obtain ⟨hP_27, hB_27, hk_27, hl_27, hT_27, hz_27⟩ := w_
              clear hP hB hT_25
              refine pw_dup C dX5_init_146 (cat_vR _) ?_
              refine pw_cIU C hX dX5_init_147 ml_X5_43 mc_X1_init (c_X1_init (a := (B + 197)) (by omega) hk_27 hT_27 hz_27) (by omega) rfl rfl ⟨Nat.le_of_ble_eq_true rfl, Nat.le_of_ble_eq_true rfl⟩ (Nat.le_of_ble_eq_true rfl) (show (kc + 1) + 4 ≤ 201 ∧ (nc + 9) + 244 ≤ 2591 by omega) (fun G28 M29 hq_ => ?_)
              obtain ⟨hO_29, hT_29, hb_⟩ := hq_
              have hP_29 := hP_27.o hb_ (by omega)
              have hB_29 := hB_27.o (fun b _ _ => hb_ b (by omega))
              clear hb_ hP_27 hB_27 hT_27 hk_27 hl_27 hz_27
              refine pw_putR C dX5_init_150 fl_X5_44 (fun _ => hIni rfl) (Or.inl ⟨_, rfl⟩) hP_29.1 rfl ?_
              have hP_30 := hP_29.lnk (f := 145) (v := (B + 197))
              have hT_30 : (mup G28 2 145 B (B + 197)) 4 0 0 = _ := (mup_n (by omega)).trans hT_29
              have hO_ := hO_29.o (G1 := mup G28 2 145 B (B + 197)) (M1 := M29) (by omega) (fun b _ _ => agr_G2 b (by omega))
              have hB_30 := (hB_29.lnk (f := 145) (v := (B + 197)) (by omega)).a9 (n' := 202) (by omega) (by rw [mup_s]) (by exact hO_)
              clear hO_
              generalize mup G28 2 145 B (B + 197) = G30 at hP_30 hT_30 hB_30 ⊢
              clear hP_29 hB_29 hT_29 hO_29
              exact pw_vret C hR dX5_init_153 (⟨rfl, hB_30.rc (by omega) hP_30, by have q := hT_30; omega, hP_30.2.2⟩) (by omega) (by omega)
            · skip
              refine pw_aload_n C dX5_init_123 rfl ?_
              refine pw_getR C dX5_init_124 fl_X5_39 hP.1 rfl (hB.2.2.2.2.2.2.1 (by omega)).1 ?_
              refine pw_iload_n C dX5_init_127 rfl ?_
              refine pw_new C dX5_init_128 nl_X5_37 (show kc + 1 ≤ 201 by omega) (show nc + 9 ≤ 2591 by omega) ?_
              have w_ := nwB (K := 4) (l := 0) hP hB (x := (B + 177 + 5 * i)) hT (by omega) (by omega)
              rw [show Gc 4 0 0 = (B + 177 + 5 * i) from hT]
              generalize nG Gc 4 0 = G31 at w_ ⊢
              generalize nM Gc Mc = M32 at w_ ⊢
              obtain ⟨hP_32, hB_32, hk_32, hl_32, hT_32, hz_32⟩ := w_
              clear hP hB hT
              refine pw_dup C dX5_init_131 (cat_vR _) ?_
              refine pw_cIU C hX dX5_init_132 ml_X5_43 mc_X1_init (c_X1_init (a := (B + 177 + 5 * i)) (by omega) hk_32 hT_32 hz_32) (by omega) rfl rfl ⟨Nat.le_of_ble_eq_true rfl, Nat.le_of_ble_eq_true rfl⟩ (Nat.le_of_ble_eq_true rfl) (show (kc + 1) + 4 ≤ 201 ∧ (nc + 9) + 244 ≤ 2591 by omega) (fun G33 M34 hq_ => ?_)
              obtain ⟨hO_34, hT_34, hb_⟩ := hq_
              have hP_34 := hP_32.o hb_ (by omega)
              have hB_34 := hB_32.o (fun b _ _ => hb_ b (by omega))
              clear hb_ hP_32 hB_32 hT_32 hk_32 hl_32 hz_32
              have hr_ := (hB_34.2.2.2.2.2.2.1 (by omega)).2
              refine pw_aast (t := 5) C dX5_init_135 (by omega) hr_.1 (by rw [hr_.2]; omega) (fun _ => rfl) (by rw [hO_34.k]; exact kc_4) (Or.inl rfl) ?_
              have hP_35 := hP_34.elt (a := (B + 176)) (j := i) (v := (B + 177 + 5 * i)) (by omega)
              have hT_35 : (mup G33 3 (B + 176) i (B + 177 + 5 * i)) 4 0 0 = _ := (mup_n (by omega)).trans hT_34
              have hO_ := hO_34.o (G1 := mup G33 3 (B + 176) i (B + 177 + 5 * i)) (M1 := M34) (by omega) (fun b _ _ => agr_G3 b (by omega))
              have hB_35 := (hB_34.elt (a := (B + 176)) (j := i) (v := (B + 177 + 5 * i)) (by omega)).a8 (i := i) (n' := (182 + 5 * i)) (by omega) (by rw [mup_s]) (by exact hO_)
              clear hO_ hr_
              generalize mup G33 3 (B + 176) i (B + 177 + 5 * i) = G35 at hP_35 hT_35 hB_35 ⊢
              clear hP_34 hB_34 hT_34 hO_34
              refine pw_iinc C dX5_init_136 rfl (Nat.le_of_ble_eq_true rfl) rfl ?_
              refine pw_goto (tgt := 114) C dX5_init_139 (by decide) ?_
              exact pw_locs (by exact ⟨rfl, cat_vR _, rfl, rfl, trivial⟩) (ih_114 (i + 1) G35 M34 ((kc + 1) + 4) ((nc + 9) + 244) (by omega) (hP_35) (by have q := hB_35; rw [show (182 + 5 * i : Int) = 177 + 5 * (i + 1) by omega] at q; exact q) (by omega) (by omega) (by omega) (by omega))
        · skip
          refine pw_aload_n C dX5_init_85 rfl ?_
          refine pw_getR C dX5_init_86 fl_X5_32 hP.1 rfl (hB.2.2.2.2.1 (by omega)).1 ?_
          refine pw_iload_n C dX5_init_89 rfl ?_
          refine pw_new C dX5_init_90 nl_X5_30 (show kc + 1 ≤ 201 by omega) (show nc + 10 ≤ 2591 by omega) ?_
          have w_ := nwB (K := 6) (l := 0) hP hB (x := (B + 56 + 2 * i)) hT (by omega) (by omega)
          rw [show Gc 4 0 0 = (B + 56 + 2 * i) from hT]
          generalize nG Gc 6 0 = G36 at w_ ⊢
          generalize nM Gc Mc = M37 at w_ ⊢
          obtain ⟨hP_37, hB_37, hk_37, hl_37, hT_37, hz_37⟩ := w_
          clear hP hB hT
          refine pw_dup C dX5_init_93 (cat_vR _) ?_
          refine pw_cIU C hX dX5_init_94 ml_X5_36 mc_X3_init (c_X3_init (a := (B + 56 + 2 * i)) (by omega) hk_37 hT_37 hz_37) (by omega) rfl rfl ⟨Nat.le_of_ble_eq_true rfl, Nat.le_of_ble_eq_true rfl⟩ (Nat.le_of_ble_eq_true rfl) (show (kc + 1) + 1 ≤ 201 ∧ (nc + 10) + 4 ≤ 2591 by omega) (fun G38 M39 hq_ => ?_)
          obtain ⟨hO_39, hT_39, hb_⟩ := hq_
          have hP_39 := hP_37.o hb_ (by omega)
          have hB_39 := hB_37.o (fun b _ _ => hb_ b (by omega))
          clear hb_ hP_37 hB_37 hT_37 hk_37 hl_37 hz_37
          have hr_ := (hB_39.2.2.2.2.1 (by omega)).2
          refine pw_aast (t := 4) C dX5_init_97 (by omega) hr_.1 (by rw [hr_.2]; omega) (fun _ => rfl) (by rw [hO_39.k]; exact kc_6) (Or.inl rfl) ?_
          have hP_40 := hP_39.elt (a := (B + 55)) (j := i) (v := (B + 56 + 2 * i)) (by omega)
          have hT_40 : (mup G38 3 (B + 55) i (B + 56 + 2 * i)) 4 0 0 = _ := (mup_n (by omega)).trans hT_39
          have hO_ := hO_39.o (G1 := mup G38 3 (B + 55) i (B + 56 + 2 * i)) (M1 := M39) (by omega) (fun b _ _ => agr_G3 b (by omega))
          have hB_40 := (hB_39.elt (a := (B + 55)) (j := i) (v := (B + 56 + 2 * i)) (by omega)).a6 (i := i) (n' := (58 + 2 * i)) (by omega) (by rw [mup_s]) (by exact hO_)
          clear hO_ hr_
          generalize mup G38 3 (B + 55) i (B + 56 + 2 * i) = G40 at hP_40 hT_40 hB_40 ⊢
          clear hP_39 hB_39 hT_39 hO_39
          refine pw_iinc C dX5_init_98 rfl (Nat.le_of_ble_eq_true rfl) rfl ?_
          refine pw_goto (tgt := 76) C dX5_init_101 (by decide) ?_
          exact pw_locs (by exact ⟨rfl, cat_vR _, rfl, rfl, trivial⟩) (ih_76 (i + 1) G40 M39 ((kc + 1) + 1) ((nc + 10) + 4) (by omega) (hP_40) (by have q := hB_40; rw [show (58 + 2 * i : Int) = 56 + 2 * (i + 1) by omega] at q; exact q) (by omega) (by omega) (by omega) (by omega))
    · skip
      refine pw_aload_n C dX5_init_46 rfl ?_
      refine pw_getR C dX5_init_47 fl_X5_25 hP.1 rfl (hB.2.2.1 (by omega)).1 ?_
      refine pw_iload_n C dX5_init_50 rfl ?_
      refine pw_new C dX5_init_51 nl_X5_23 (show kc + 1 ≤ 201 by omega) (show nc + 5 ≤ 2591 by omega) ?_
      have w_ := nwB (K := 3) (l := 0) hP hB (x := (B + 7 + 2 * i)) hT (by omega) (by omega)
      rw [show Gc 4 0 0 = (B + 7 + 2 * i) from hT]
      generalize nG Gc 3 0 = G41 at w_ ⊢
      generalize nM Gc Mc = M42 at w_ ⊢
      obtain ⟨hP_42, hB_42, hk_42, hl_42, hT_42, hz_42⟩ := w_
      clear hP hB hT
      refine pw_dup C dX5_init_54 (cat_vR _) ?_
      refine pw_cIU C hX dX5_init_55 ml_X5_29 mc_X0_init (c_X0_init (a := (B + 7 + 2 * i)) (by omega) hk_42 hT_42 hz_42) (by omega) rfl rfl ⟨Nat.le_of_ble_eq_true rfl, Nat.le_of_ble_eq_true rfl⟩ (Nat.le_of_ble_eq_true rfl) (show (kc + 1) + 1 ≤ 201 ∧ (nc + 5) + 10 ≤ 2591 by omega) (fun G43 M44 hq_ => ?_)
      obtain ⟨hO_44, hT_44, hb_⟩ := hq_
      have hP_44 := hP_42.o hb_ (by omega)
      have hB_44 := hB_42.o (fun b _ _ => hb_ b (by omega))
      clear hb_ hP_42 hB_42 hT_42 hk_42 hl_42 hz_42
      have hr_ := (hB_44.2.2.1 (by omega)).2
      refine pw_aast (t := 3) C dX5_init_58 (by omega) hr_.1 (by rw [hr_.2]; omega) (fun _ => rfl) (by rw [hO_44.k]; exact kc_3) (Or.inl rfl) ?_
      have hP_45 := hP_44.elt (a := (B + 6)) (j := i) (v := (B + 7 + 2 * i)) (by omega)
      have hT_45 : (mup G43 3 (B + 6) i (B + 7 + 2 * i)) 4 0 0 = _ := (mup_n (by omega)).trans hT_44
      have hO_ := hO_44.o (G1 := mup G43 3 (B + 6) i (B + 7 + 2 * i)) (M1 := M44) (by omega) (fun b _ _ => agr_G3 b (by omega))
      have hB_45 := (hB_44.elt (a := (B + 6)) (j := i) (v := (B + 7 + 2 * i)) (by omega)).a4 (i := i) (n' := (9 + 2 * i)) (by omega) (by rw [mup_s]) (by exact hO_)
      clear hO_ hr_
      generalize mup G43 3 (B + 6) i (B + 7 + 2 * i) = G45 at hP_45 hT_45 hB_45 ⊢
      clear hP_44 hB_44 hT_44 hO_44
      refine pw_iinc C dX5_init_59 rfl (Nat.le_of_ble_eq_true rfl) rfl ?_
      refine pw_goto (tgt := 37) C dX5_init_62 (by decide) ?_
      exact pw_locs (by exact ⟨rfl, cat_vR _, rfl, rfl, trivial⟩) (ih_37 (i + 1) G45 M44 ((kc + 1) + 1) ((nc + 5) + 10) (by omega) (hP_45) (by have q := hB_45; rw [show (9 + 2 * i : Int) = 7 + 2 * (i + 1) by omega] at q; exact q) (by omega) (by omega) (by omega) (by omega))

