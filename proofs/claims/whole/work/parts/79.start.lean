/-! ===== the law's start ===== -/
theorem ks_str {own tx : String} {k : Nat} {A : Array Value} {s : State} (h : (Cond.stringRef own k tx).before A s = true) : ∃ sa, vk_R own k tx sa s := by
  cases hc : s.vm.findClass own with
  | none => exfalso; simp [Cond.before, Cond.holds, Cond.value, hc] at h
  | some c =>
    obtain ⟨k', cf, i, a, -, -, -, -, -, he⟩ := Cond.stringRef_spec hc h
    exact ⟨a, vk_R.of h he⟩
theorem ks_prim {ty : FieldType} {A : Array Value} {s : State} (h : (Cond.arrayClass ty).before A s = true) : ∃ c, ArrOfT s c ty ∧ s.vm.findClass ("[" ++ ty.toString) = some c := by
  obtain ⟨c, k, comp, f1, f2, f3⟩ := Cond.arrayClass_spec h
  exact ⟨c, fun N z => ⟨(fun k h => by cases h), k, f2, comp, f3⟩, f1⟩
theorem ks_ref {C : String} {A : Array Value} {s : State} (h : (Cond.arrayOver (.object C)).before A s = true) : ∃ c, ArrOfT s c (.object C) ∧ va_RA s c (.object C) := by
  obtain ⟨comp, c, k, f1, -, f2, f3, f4⟩ := Cond.arrayOver_spec h
  exact ⟨c, fun N z => ⟨(fun k h => by cases h), k, f2, comp, f3⟩, k, comp, f2, f3, f1, f4⟩
theorem ks_arr {A : Array Value} {s : State} (hts : ∀ w ∈ lw_tbl, w.before A s = true) : ∃ cA : Nat → ClassId, ∀ (k : Nat) (q : ClassId × FieldType), (tysL cA)[k]? = some q → ArrOfT s q.1 q.2 ∧ va_RA s q.1 q.2 := by
  obtain ⟨c0, h0⟩ := ks_prim (hts (.arrayClass .int) (List.mem_of_getElem? (i := 150) (by decide +kernel)))
  obtain ⟨c1, h1⟩ := ks_prim (hts (.arrayClass .boolean) (List.mem_of_getElem? (i := 1102) (by decide +kernel)))
  obtain ⟨c2, h2⟩ := ks_prim (hts (.arrayClass .long) (List.mem_of_getElem? (i := 1500) (by decide +kernel)))
  obtain ⟨c3, h3⟩ := ks_ref (hts (.arrayOver (.object "Slugwire$Fact")) (List.mem_of_getElem? (i := 176) (by decide +kernel)))
  obtain ⟨c4, h4⟩ := ks_ref (hts (.arrayOver (.object "Slugwire$Take")) (List.mem_of_getElem? (i := 207) (by decide +kernel)))
  obtain ⟨c5, h5⟩ := ks_ref (hts (.arrayOver (.object "Slugwire$Line")) (List.mem_of_getElem? (i := 251) (by decide +kernel)))
  obtain ⟨c6, h6⟩ := ks_ref (hts (.arrayOver (.object "SlugwireModel$Fact")) (List.mem_of_getElem? (i := 1048) (by decide +kernel)))
  obtain ⟨c7, h7⟩ := ks_ref (hts (.arrayOver (.object "java/lang/Object")) (List.mem_of_getElem? (i := 1037) (by decide +kernel)))
  refine ⟨fun t => match t with | 0 => c0 | 1 => c1 | 2 => c2 | 3 => c3 | 4 => c4 | 5 => c5 | 6 => c6 | _ => c7, fun k q hq => ?_⟩
  match k, hq with
  | 0, hq => cases hq; exact h0
  | 1, hq => cases hq; exact h1
  | 2, hq => cases hq; exact h2
  | 3, hq => cases hq; exact h3
  | 4, hq => cases hq; exact h4
  | 5, hq => cases hq; exact h5
  | 6, hq => cases hq; exact h6
  | 7, hq => cases hq; exact h7
  | k + 8, hq => simp [tysL] at hq
theorem ks_inst : ∀ (k : Nat) (q : vw_C), vwCl[k]? = some q → ∃ n, Cond.instantiable q.1 n ∈ lw_tbl := by
  intro k q h
  match k, h with
  | 0, h => cases h; exact ⟨4, List.mem_of_getElem? (i := 1232) (by decide +kernel)⟩
  | 1, h => cases h; exact ⟨3, List.mem_of_getElem? (i := 880) (by decide +kernel)⟩
  | 2, h => cases h; exact ⟨5, List.mem_of_getElem? (i := 177) (by decide +kernel)⟩
  | 3, h => cases h; exact ⟨9, List.mem_of_getElem? (i := 252) (by decide +kernel)⟩
  | 4, h => cases h; exact ⟨3, List.mem_of_getElem? (i := 129) (by decide +kernel)⟩
  | 5, h => cases h; exact ⟨10, List.mem_of_getElem? (i := 208) (by decide +kernel)⟩
  | 6, h => cases h; exact ⟨5, List.mem_of_getElem? (i := 152) (by decide +kernel)⟩
  | 7, h => cases h; exact ⟨10, List.mem_of_getElem? (i := 121) (by decide +kernel)⟩
  | 8, h => cases h; exact ⟨2, List.mem_of_getElem? (i := 1049) (by decide +kernel)⟩
  | 9, h => cases h; exact ⟨7, List.mem_of_getElem? (i := 1068) (by decide +kernel)⟩
  | 10, h => cases h; exact ⟨3, List.mem_of_getElem? (i := 955) (by decide +kernel)⟩
  | 11, h => cases h; exact ⟨10, List.mem_of_getElem? (i := 1150) (by decide +kernel)⟩
  | 12, h => cases h; exact ⟨6, List.mem_of_getElem? (i := 874) (by decide +kernel)⟩
  | k + 13, h => simp [vwCl] at h
theorem ks_cls {s : State} {A : Array Value} (hts : ∀ w ∈ lw_tbl, w.before A s = true) (z : Nat → Nat) : ∃ D : va_G, (∀ j, D.2 99 j = z j) ∧ ∀ (k : Nat) (q : vw_C), vwCl[k]? = some q → u_Kn s q.1 q.2.1 q.2.2 (D.1 k) (D.2 k) := by
  have h : ∀ k : Nat, ∃ (c : ClassId) (i : Nat → Nat), ∀ q : vw_C, vwCl[k]? = some q → u_Kn s q.1 q.2.1 q.2.2 c i := fun k => by
    cases hk : vwCl[k]? with
    | none => exact ⟨(0 : Nat), fun _ => 0, fun q hq => by cases hq⟩
    | some q =>
      obtain ⟨n, hn⟩ := ks_inst k q hk
      obtain ⟨c, i, h⟩ := u_known hts (lay_in k q hk) (hts _ hn)
      exact ⟨c, i, fun q' hq => by cases hq; exact h⟩
  refine ⟨(fun k => Classical.choose (h k), fun k j => if k = 99 then z j else Classical.choose (Classical.choose_spec (h k)) j), fun j => (if_pos rfl : (if 99 = 99 then z j else Classical.choose (Classical.choose_spec (h 99)) j) = z j), fun k q hq => ?_⟩
  have hk : ¬ k = 99 := fun e => by
    subst e
    exact nomatch (show (none : Option vw_C) = some q from hq)
  have e : (fun j => if k = 99 then z j else Classical.choose (Classical.choose_spec (h k)) j) = Classical.choose (Classical.choose_spec (h k)) := funext fun j => if_neg hk
  show u_Kn s q.1 q.2.1 q.2.2 _ (fun j => if k = 99 then z j else Classical.choose (Classical.choose_spec (h k)) j)
  rw [e]
  exact Classical.choose_spec (Classical.choose_spec (h k)) q hq
theorem ks_emp {tm : Term} {C : String} {A : Array Value} {s : State} (h1 : (Cond.exactly tm C).before A s = true) (h2 : (Cond.eq (.length tm) (.int 0)).before A s = true) : ∃ (a : Nat) (cl : Cell), tm.eval A s none [] s = some (.ref a) ∧ s.heap[a]? = some cl ∧ s.vm.findClass C = some cl.cls ∧ cl.slots.size = 0 ∧ cl.vm.isStatics = false ∧ cl.vm ≠ .unknown := by
  obtain ⟨a, c, cell, k, e1, e2, e3, e4, e5, e6, -⟩ := Cond.exactly_spec h1
  have hv := va_eqt h2
  obtain ⟨a', cell', f1, f2, f3⟩ := Term.length_spec hv
  cases e1.symm.trans f1
  obtain ⟨g1, gu, -⟩ := State.arrayAt?_spec f2
  cases e3.symm.trans g1
  have hsz : cell.slots.size < 2 ^ 31 := by
    simp only [Term.eval, e1, f2, Option.bind_eq_bind, Option.bind_some] at hv
    by_cases hlt : cell.slots.size < 2147483648
    · exact hlt
    · simp [hlt] at hv
  have hz : cell.slots.size = 0 := by
    have q := congrArg Int32.toInt (Value.int.inj f3)
    have q2 : (Int32.ofNat cell.slots.size).toInt = (cell.slots.size : Int) := Int32.toInt_ofNat_small hsz
    have q3 : (0 : Int32).toInt = (Int32.ofNat cell.slots.size).toInt := q
    have q4 : (0 : Int32).toInt = 0 := rfl
    omega
  exact ⟨a, cell, e1, e3, by rw [e6]; exact e2, hz, e5, gu⟩
/-- the memory at the start: the two empty arrays, nothing else -/
def GS (a0 a1 z : Int) : Mm := fun b x _ => if b = 4 then z else if b = 0 then (if x = a0 then 98 else if x = a1 then 99 else 0) else 0
theorem GS_4 {a0 a1 z : Int} : GS a0 a1 z 4 0 0 = z := by simp [GS]
theorem GS_0 {a0 a1 z x : Int} : GS a0 a1 z 0 x 0 = if x = a0 then 98 else if x = a1 then 99 else 0 := by simp [GS]
theorem ks_HR {D : va_G} {cA : Nat → ClassId} {s : State} {a0 a1 : Nat} (hne : a0 ≠ a1) {c0 c1 : Cell} (h0 : s.heap[a0]? = some c0) (k0 : c0.cls = cA 7 ∧ c0.slots.size = 0 ∧ c0.vm.isStatics = false ∧ c0.vm ≠ .unknown) (h1 : s.heap[a1]? = some c1) (k1 : c1.cls = cA 7 ∧ c1.slots.size = 0 ∧ c1.vm.isStatics = false ∧ c1.vm ≠ .unknown) : HR D cA s.heap.size (GS a0 a1 s.heap.size) (fun _ _ _ => 0) s.heap := by
  have l0 := (Array.getElem?_eq_some_iff.mp h0).1
  have l1 := (Array.getElem?_eq_some_iff.mp h1).1
  refine ⟨fun a ha => ?_, GS_4, by rw [GS_4]; exact Int.le_refl _⟩
  rw [GS_0] at ha
  by_cases e : a = (a0 : Int)
  · have hk : GS a0 a1 s.heap.size 0 a 0 = 98 := by rw [GS_0, if_pos e]
    refine ⟨Or.inr ⟨by omega, Or.inl hk⟩, by omega, fun ci hc hk' => ?_, fun t ht hk' => ?_, fun _ => ⟨c0, by rw [e, Int.toNat_natCast]; exact h0, k0⟩⟩
    · rw [hk] at hk'; omega
    · rw [hk] at hk'; omega
  · by_cases e' : a = (a1 : Int)
    · have hk : GS a0 a1 s.heap.size 0 a 0 = 99 := by rw [GS_0, if_neg e, if_pos e']
      refine ⟨Or.inr ⟨by omega, Or.inr hk⟩, by omega, fun ci hc hk' => ?_, fun t ht hk' => ?_, fun _ => ⟨c1, by rw [e', Int.toNat_natCast]; exact h1, k1⟩⟩
      · rw [hk] at hk'; omega
      · rw [hk] at hk'; omega
    · rw [if_neg e, if_neg e'] at ha; exact absurd rfl ha
theorem pw_newL {E : Ev} {cc : ByteArray} {nL : Nat} {own : String} {tb : List ExceptionTableEntry} {R0 : Room} {G M : Mm} {k n pc : Nat} {ll : List LE} {st : List Value} (C : Cx E cc nL own tb R0) {len : Int} (d : decode cc pc = .ok (.newarray .long, 2)) (hl : 0 ≤ len ∧ len ≤ 100000) {ks : Nat} (hks' : len = (ks : Int)) (hkc : k + 1 ≤ R0.cells) (hks : n + ks ≤ R0.slots) (kk : PW E (nG G 102 len) (nM G M) (k + 1) (n + ks) (pc + 2) ll (vR (G 4 0 0) :: st)) : PW E G M k n pc ll (vI len :: st) :=
  pw_newa (t := 2) C d (List.mem_of_getElem? (i := 1500) (by decide +kernel)) (by decide) (fun _ => rfl) (fun _ _ => rfl) rfl hl (by decide) hks' hkc hks kk
theorem KB_z {k : Int} (h : k ≤ 300) : KB 0 (A00 0 0 1) k := by
  have e1 : A00 0 0 1 = 0 := rfl
  rw [e1]
  unfold KB WT
  omega
set_option maxHeartbeats 4000000 in
set_option maxRecDepth 100000 in
theorem law_start {E : Ev} {tb : List ExceptionTableEntry} {X : Xv} {b L : Nat} {xs : Nat → Int32} {G M : Mm} (C : Cx E code 9 RL tb room_1) (hX : E.1 = X) (hS : SC E b L xs) {bb : Int} (hbb : bb = (b : Int)) (hL : L ≤ 3072) (hE : EM X G) (h0 : 0 ≤ G 4 0 0) (hEnd : ∀ (G M : Mm) (k n : Nat) (ll : List LE), k ≤ 597000 → n ≤ 6660000 → PW E G M k n 1996 ll [vI 1]) : PW E G M 0 0 0 [(0, 1, vR bb)] [] := by
  obtain ⟨B, hB⟩ : ∃ B, G 4 0 0 = B := ⟨_, rfl⟩
  refine pw_new C dL_law_0 nl_L_8 (Nat.le_of_ble_eq_true rfl) (Nat.le_of_ble_eq_true rfl) ?_
  have a1 : nG G 8 0 0 B 0 = 8 := by rw [← hB]; exact nG_kind
  have a2 : nG G 8 0 4 0 0 = B + 1 := by rw [nG_next, hB]
  have a3 : ∀ f, nM G M 0 f B = 0 := fun f => by rw [← hB]; exact nM_fld
  have e1 : EM X (nG G 8 0) := hE.kp (M := M) (M1 := nM G M) Kp.rf.new
  have e2 : emX X 0 < B ∧ emX X 1 < B := ⟨by rw [← hB]; exact hE.1.2, by rw [← hB]; exact hE.2.2⟩
  rw [hB] at h0 ⊢
  generalize nG G 8 0 = G1 at a1 a2 e1 ⊢
  generalize nM G M = M1 at a3 ⊢
  refine pw_dup C dL_law_3 (cat_vR _) ?_
  refine pw_cIU C hX dL_law_4 ml_L_95 mc_X5_init (c_X5_init h0 a1 a2 a3) h0 rfl rfl ⟨Nat.le_of_ble_eq_true rfl, Nat.le_of_ble_eq_true rfl⟩ (Nat.le_of_ble_eq_true rfl) ⟨Nat.le_of_ble_eq_true rfl, Nat.le_of_ble_eq_true rfl⟩ (fun G2 M2 hq_ => ?_)
  obtain ⟨b1, b2, b3⟩ := hq_
  have e3 : EM X G2 := ⟨⟨(b3 _ e2.1).1.trans e1.1.1, by omega⟩, (b3 _ e2.2).1.trans e1.2.1, by omega⟩
  refine pw_astore_n C dL_law_7 (Nat.le_of_ble_eq_true rfl) rfl ?_
  refine pw_new C dL_law_8 nl_L_96 (Nat.le_of_ble_eq_true rfl) (Nat.le_of_ble_eq_true rfl) ?_
  rw [b2]
  have c1 : nG G2 13 0 0 (B + 202) 0 = 13 := by rw [← b2]; exact nG_kind
  have c2 : nG G2 13 0 4 0 0 = B + 202 + 1 := by rw [nG_next, b2]
  have c3 : ∀ f, nM G2 M2 0 f (B + 202) = 0 := fun f => by rw [← b2]; exact nM_fld
  have e4 : EM X (nG G2 13 0) := e3.kp (M := M2) (M1 := nM G2 M2) Kp.rf.new
  have b4 : RC (nG G2 13 0) (nM G2 M2) B A00 := b1.og (fun b q1 q2 => agr_n b (by omega))
  generalize nG G2 13 0 = G3 at c1 c2 e4 b4 ⊢
  generalize nM G2 M2 = M3 at c3 b4 ⊢
  refine pw_dup C dL_law_11 (cat_vR _) ?_
  refine pw_cIU C hX dL_law_12 ml_L_98 mc_X10_init (m_init e4 (by omega) c1 c2 c3) (by omega) rfl rfl ⟨Nat.le_of_ble_eq_true rfl, Nat.le_of_ble_eq_true rfl⟩ (Nat.le_of_ble_eq_true rfl) ⟨Nat.le_of_ble_eq_true rfl, Nat.le_of_ble_eq_true rfl⟩ (fun G4 M4 hN => ?_)
  have e5 : EM X G4 := hN.em e4 c2 c1 (by omega)
  have b5 : RC G4 M4 B A00 := b4.og (fun b q1 q2 => hN.2.2.2.1 b (by omega))
  have d4 : G4 4 0 0 = B + 207 := by rw [hN.2.2.1]; omega
  refine pw_astore_n C dL_law_15 (Nat.le_of_ble_eq_true rfl) rfl ?_
  refine pw_iconst C dL_law_16 ?_
  refine pw_newL C dL_law_17 (by omega) (ks := 1) rfl (Nat.le_of_ble_eq_true rfl) (Nat.le_of_ble_eq_true rfl) ?_
  rw [d4]
  have f1 : nG G4 102 1 0 (B + 207) 0 = 102 := by rw [← d4]; exact nG_kind
  have f2 : nG G4 102 1 1 (B + 207) 0 = 1 := by rw [← d4]; exact nG_len
  have f3 : nG G4 102 1 4 0 0 = B + 208 := by rw [nG_next, d4]; omega
  have hk : Kp G4 M4 (nG G4 102 1) (nM G4 M4) := Kp.rf.new
  have e6 : EM X (nG G4 102 1) := e5.kp hk
  have b6 : RC (nG G4 102 1) (nM G4 M4) B A00 := b5.og (fun b q1 q2 => agr_n b (by omega))
  have r6 := hN.rm (by omega) hk (by omega)
  generalize nG G4 102 1 = G5 at f1 f2 f3 e6 b6 r6 ⊢
  generalize nM G4 M4 = M5 at b6 r6 ⊢
  refine pw_astore_n C dL_law_19 (Nat.le_of_ble_eq_true rfl) rfl ?_
  refine pw_iconst C dL_law_20 ?_
  refine pw_istore C dL_law_21 (Nat.le_of_ble_eq_true rfl) rfl ?_
  refine pw_locs (ll' := [(0, 1, vR bb), (1, 1, vR B), (2, 1, vR (B + 202)), (3, 1, vR (B + 207)), (4, 1, vI 0)]) (by exact ⟨rfl, cat_vR _, rfl, cat_vR _, rfl, cat_vR _, rfl, cat_vR _, rfl, rfl, trivial⟩) ?_
  exact law_loop C hX hS hbb hL h0 hEnd (L + 1) 0 0 _ _ _ _ _ _ _ ⟨b6, r6, ⟨A00_Inv, A00_SN⟩, e6, ⟨f1, f2⟩, KB_z (by omega), by omega⟩ (by omega) (by omega) (by omega) (by omega)
/-- what every state of the walk knows, known at the start -/
theorem ks_start {s : State} {b : Nat} {l : Launch} (hflags : l.flags = flags0) (hts : ∀ w ∈ lw_tbl, w.before #[Value.ref b] s = true) (hgv : (Jvm.Cond.and given_1 narrow_1).before #[Value.ref b] s = true) : ∃ (D : va_G) (cA : Nat → ClassId), Ks (l, D, cA, s.heap.size) s ∧ HR D cA s.heap.size (GS (D.2 99 0) (D.2 99 1) s.heap.size) (fun _ _ _ => 0) s.heap ∧ D.2 99 0 ≠ D.2 99 1 ∧ D.2 99 0 < s.heap.size ∧ D.2 99 1 < s.heap.size := by
  have hs := flat_of_before _ hgv
  have hA : ∀ a : Nat, a < s.heap.size → ¬ (fun q : Nat => s.heap.size ≤ q) a := fun a h => Nat.not_le.mpr h
  have hst : l.stackTraces = false := by unfold Launch.stackTraces; rw [hflags]; decide +kernel
  obtain ⟨cA, hKa⟩ := ks_arr hts
  obtain ⟨a0, c0, e0, h0, f0, z0, v0, u0⟩ := ks_emp (tm := .static "java/util/ArrayList" "DEFAULTCAPACITY_EMPTY_ELEMENTDATA" "[Ljava/lang/Object;") (C := "[Ljava/lang/Object;") (hs _ (by decide +kernel)) (hs _ (by decide +kernel))
  obtain ⟨a1, c1, e1, h1, f1, z1, v1, u1⟩ := ks_emp (tm := .static "java/util/ArrayList" "EMPTY_ELEMENTDATA" "[Ljava/lang/Object;") (C := "[Ljava/lang/Object;") (hs _ (by decide +kernel)) (hs _ (by decide +kernel))
  have hne : a0 ≠ a1 := by
    have q : (Cond.not (.eq (.static "java/util/ArrayList" "DEFAULTCAPACITY_EMPTY_ELEMENTDATA" "[Ljava/lang/Object;") (.static "java/util/ArrayList" "EMPTY_ELEMENTDATA" "[Ljava/lang/Object;"))).before #[Value.ref b] s = true := hs _ (by decide +kernel)
    intro e
    subst e
    simp [Cond.before, Cond.holds, Cond.value, e0, e1] at q
  obtain ⟨m2, hm2⟩ := va_Mi.of (C := "[Ljava/lang/Object;") (hs _ (by decide +kernel))
  obtain ⟨m3, hm3⟩ := va_Mi.of (C := "java/util/ArrayList") (hs _ (by decide +kernel))
  obtain ⟨D, hz, hKc⟩ := ks_cls hts (fun j => match j with | 0 => a0 | 1 => a1 | 2 => m2 | _ => m3)
  have d0 : D.2 99 0 = a0 := hz 0
  have d1 : D.2 99 1 = a1 := hz 1
  have d2 : D.2 99 2 = m2 := hz 2
  have d3 : D.2 99 3 = m3 := hz 3
  obtain ⟨-, kA, comp, r1, r2, r3, r4⟩ := hKa 7 _ rfl
  have g0 : c0.cls = cA 7 := Option.some.inj (f0.symm.trans r4)
  have g1 : c1.cls = cA 7 := Option.some.inj (f1.symm.trans r4)
  have l0 := (Array.getElem?_eq_some_iff.mp h0).1
  have l1 := (Array.getElem?_eq_some_iff.mp h1).1
  have hKd : Kd D s.heap.size s := by
    refine ⟨fun q hq => ?_, ?_, ?_, ?_, ?_, ?_, fun q hq => ?_, ?_, ?_, ?_⟩
    · rcases List.mem_cons.mp hq with rfl | hq
      · exact va_Nc.of (hs _ (by decide +kernel))
      rcases List.mem_cons.mp hq with rfl | hq
      · exact va_Nc.of (hs _ (by decide +kernel))
      rcases List.mem_cons.mp hq with rfl | hq
      · exact va_Nc.of (hs _ (by decide +kernel))
      rcases List.mem_cons.mp hq with rfl | hq
      · exact va_Nc.of (hs _ (by decide +kernel))
      rcases List.mem_cons.mp hq with rfl | hq
      · exact va_Nc.of (hs _ (by decide +kernel))
      rcases List.mem_cons.mp hq with rfl | hq
      · exact va_Nc.of (hs _ (by decide +kernel))
      · cases hq
    · rw [d0]; exact va_Zof (hts _ (List.mem_of_getElem? (i := 892) (by decide +kernel))) (hts _ (List.mem_of_getElem? (i := 102) (by decide +kernel))) e0 hA
    · rw [d1]; exact va_Zof (hts _ (List.mem_of_getElem? (i := 1470) (by decide +kernel))) (hts _ (List.mem_of_getElem? (i := 102) (by decide +kernel))) e1 hA
    · rw [d2]; exact hm2
    · rw [d3]; exact hm3
    · exact va_Dc.of (hts _ (List.mem_of_getElem? (i := 1463) (by decide +kernel)))
    · rcases List.mem_cons.mp hq with rfl | hq
      · exact va_Fw.of (hts _ (List.mem_of_getElem? (i := 1253) (by decide +kernel))) (hts _ (List.mem_of_getElem? (i := 1252) (by decide +kernel))) (hts _ (List.mem_of_getElem? (i := 1258) (by decide +kernel))) (hts _ (List.mem_of_getElem? (i := 1256) (by decide +kernel))) (hts _ (List.mem_of_getElem? (i := 1254) (by decide +kernel)))
      rcases List.mem_cons.mp hq with rfl | hq
      · exact va_Fw.of (hts _ (List.mem_of_getElem? (i := 1263) (by decide +kernel))) (hts _ (List.mem_of_getElem? (i := 1262) (by decide +kernel))) (hts _ (List.mem_of_getElem? (i := 1267) (by decide +kernel))) (hts _ (List.mem_of_getElem? (i := 1265) (by decide +kernel))) (hts _ (List.mem_of_getElem? (i := 1254) (by decide +kernel)))
      rcases List.mem_cons.mp hq with rfl | hq
      · exact va_Fw.of (hts _ (List.mem_of_getElem? (i := 1453) (by decide +kernel))) (hts _ (List.mem_of_getElem? (i := 1452) (by decide +kernel))) (hts _ (List.mem_of_getElem? (i := 1458) (by decide +kernel))) (hts _ (List.mem_of_getElem? (i := 1456) (by decide +kernel))) (hts _ (List.mem_of_getElem? (i := 1454) (by decide +kernel)))
      · cases hq
    · exact va_any rfl (hts _ (List.mem_of_getElem? (i := 1462) (by decide +kernel)))
    · exact va_any rfl (hts _ (List.mem_of_getElem? (i := 1465) (by decide +kernel)))
    · exact va_any rfl (hts _ (List.mem_of_getElem? (i := 1464) (by decide +kernel)))
  refine ⟨D, cA, ⟨hst, ⟨hKc, hKa⟩, fun w hw ho => okw_same rfl ho (hts w hw), ?_, ?_, fun own k tx hm => ks_str (hts _ hm), fun C hC => ?_, hKd⟩, ?_, by rw [d0, d1]; exact hne, by rw [d0]; exact l0, by rw [d1]; exact l1⟩
  · exact vx_Zqof (hts _ (List.mem_of_getElem? (i := 427) (by decide +kernel))) (hts _ (List.mem_of_getElem? (i := 103) (by decide +kernel))) (hs _ (by decide +kernel)) hA
  · exact vx_Zqof (hts _ (List.mem_of_getElem? (i := 429) (by decide +kernel))) (hts _ (List.mem_of_getElem? (i := 103) (by decide +kernel))) (hs _ (by decide +kernel)) hA
  · rcases List.mem_cons.mp hC with rfl | hC
    · exact va_AO.of (hts _ (List.mem_of_getElem? (i := 176) (by decide +kernel)))
    rcases List.mem_cons.mp hC with rfl | hC
    · exact va_AO.of (hts _ (List.mem_of_getElem? (i := 207) (by decide +kernel)))
    rcases List.mem_cons.mp hC with rfl | hC
    · exact va_AO.of (hts _ (List.mem_of_getElem? (i := 251) (by decide +kernel)))
    rcases List.mem_cons.mp hC with rfl | hC
    · exact va_AO.of (hts _ (List.mem_of_getElem? (i := 1048) (by decide +kernel)))
    rcases List.mem_cons.mp hC with rfl | hC
    · exact va_AO.of (hts _ (List.mem_of_getElem? (i := 1037) (by decide +kernel)))
    · cases hC
  · rw [d0, d1]
    exact ks_HR hne h0 ⟨g0, z0, v0, u0⟩ h1 ⟨g1, z1, v1, u1⟩
