/-! ===== the law's start ===== -/
theorem ks_str {own tx : String} {k : Nat} {A : Array Value} {s : State} (h : (Cond.stringRef own k tx).before A s = true) : ∃ sa, vk_R own k tx sa s := by
  cases hc : s.vm.findClass own with
  | none => exfalso; simp [Cond.before, Cond.holds, Cond.value, hc] at h
  | some c =>
    obtain ⟨k', cf, i, a, -, -, -, -, -, he⟩ := Cond.stringRef_spec hc h
    exact ⟨a, vk_R.of h he⟩
theorem ks_prim {ty : FieldType} {A : Array Value} {s : State} (h : (Cond.arrayClass ty).before A s = true) : ∃ c, ArrOfT s c ty ∧ s.vm.findClass ("[" ++ ty.toString) = some c := by
  obtain ⟨c, k, comp, f1, f2, f3⟩ := Cond.arrayClass_spec h
  exact ⟨c, fun N z => ⟨(fun k h => by cases h), k, f2, comp, f3⟩, f1⟩
theorem ks_ref {C : String} {A : Array Value} {s : State} (h : (Cond.arrayOver (.object C)).before A s = true) : ∃ c, ArrOfT s c (.object C) ∧ va_RA s c (.object C) := by
  obtain ⟨comp, c, k, f1, -, f2, f3, f4⟩ := Cond.arrayOver_spec h
  exact ⟨c, fun N z => ⟨(fun k h => by cases h), k, f2, comp, f3⟩, k, comp, f2, f3, f1, f4⟩
theorem ks_aoa {A : Array Value} {s : State} (h : (Cond.arrayOver (.array .int)).before A s = true) : ∃ c, ArrOfT s c (.array .int) ∧ va_RA s c (.array .int) := by
  obtain ⟨comp, c, k, -, f2, f3, f4⟩ := Jvm.Cond.arrayOver_specA h
  exact ⟨c, fun N z => ⟨(fun k h => by cases h), k, f2, comp, f3⟩, f4⟩
theorem ks_arr {A : Array Value} {s : State} (hts : ∀ w ∈ lw_tbl, w.before A s = true) : ∃ cA : Nat → ClassId, ∀ (k : Nat) (q : ClassId × FieldType), (tysL cA)[k]? = some q → ArrOfT s q.1 q.2 ∧ va_RA s q.1 q.2 := by
  obtain ⟨c0, h0⟩ := ks_prim (hts (.arrayClass .int) (List.mem_of_getElem? (i := 97) (by decide +kernel)))
  obtain ⟨c1, h1⟩ := ks_prim (hts (.arrayClass .boolean) (List.mem_of_getElem? (i := 694) (by decide +kernel)))
  obtain ⟨c3, h3⟩ := ks_ref (hts (.arrayOver (.object "Slugwire$Fact")) (List.mem_of_getElem? (i := 123) (by decide +kernel)))
  obtain ⟨c4, h4⟩ := ks_ref (hts (.arrayOver (.object "Slugwire$Take")) (List.mem_of_getElem? (i := 154) (by decide +kernel)))
  obtain ⟨c5, h5⟩ := ks_ref (hts (.arrayOver (.object "Slugwire$Line")) (List.mem_of_getElem? (i := 198) (by decide +kernel)))
  obtain ⟨c6, h6⟩ := ks_aoa (hts (.arrayOver (.array .int)) (List.mem_of_getElem? (i := 761) (by decide +kernel)))
  refine ⟨fun t => match t with | 0 => c0 | 1 => c1 | 2 => c0 | 3 => c3 | 4 => c4 | 5 => c5 | 6 => c6 | _ => c3, fun k q hq => ?_⟩
  match k, hq with
  | 0, hq => cases hq; exact h0
  | 1, hq => cases hq; exact h1
  | 2, hq => cases hq; exact h0
  | 3, hq => cases hq; exact h3
  | 4, hq => cases hq; exact h4
  | 5, hq => cases hq; exact h5
  | 6, hq => cases hq; exact h6
  | 7, hq => cases hq; exact h3
  | k + 8, hq => simp [tysL] at hq
theorem ks_inst : ∀ (k : Nat) (q : vw_C), vwCl[k]? = some q → ∃ n, Cond.instantiable q.1 n ∈ lw_tbl := by
  intro k q h
  match k, h with
  | 0, h => cases h; exact ⟨5, List.mem_of_getElem? (i := 124) (by decide +kernel)⟩
  | 1, h => cases h; exact ⟨5, List.mem_of_getElem? (i := 124) (by decide +kernel)⟩
  | 2, h => cases h; exact ⟨5, List.mem_of_getElem? (i := 124) (by decide +kernel)⟩
  | 3, h => cases h; exact ⟨9, List.mem_of_getElem? (i := 199) (by decide +kernel)⟩
  | 4, h => cases h; exact ⟨3, List.mem_of_getElem? (i := 77) (by decide +kernel)⟩
  | 5, h => cases h; exact ⟨10, List.mem_of_getElem? (i := 155) (by decide +kernel)⟩
  | 6, h => cases h; exact ⟨5, List.mem_of_getElem? (i := 99) (by decide +kernel)⟩
  | 7, h => cases h; exact ⟨10, List.mem_of_getElem? (i := 69) (by decide +kernel)⟩
  | k + 8, h => simp [vwCl] at h
theorem ks_cls {s : State} {A : Array Value} (hts : ∀ w ∈ lw_tbl, w.before A s = true) (z : Nat → Nat) : ∃ D : va_G, (∀ j, D.2 99 j = z j) ∧ ∀ (k : Nat) (q : vw_C), vwCl[k]? = some q → u_Kn s q.1 q.2.1 q.2.2 (D.1 k) (D.2 k) := by
  have h : ∀ k : Nat, ∃ (c : ClassId) (i : Nat → Nat), ∀ q : vw_C, vwCl[k]? = some q → u_Kn s q.1 q.2.1 q.2.2 c i := fun k => by
    cases hk : vwCl[k]? with
    | none => exact ⟨(0 : Nat), fun _ => 0, fun q hq => by cases hq⟩
    | some q =>
      obtain ⟨n, hn⟩ := ks_inst k q hk
      obtain ⟨c, i, h⟩ := u_known hts (lay_in k q hk) (hts _ hn)
      exact ⟨c, i, fun q' hq => by cases hq; exact h⟩
  refine ⟨(fun k => Classical.choose (h k), fun k j => if k = 99 then z j else Classical.choose (Classical.choose_spec (h k)) j), fun j => (if_pos rfl : (if 99 = 99 then z j else Classical.choose (Classical.choose_spec (h 99)) j) = z j), fun k q hq => ?_⟩
  have hk : ¬ k = 99 := fun e => by
    subst e
    exact nomatch (show (none : Option vw_C) = some q from hq)
  have e : (fun j => if k = 99 then z j else Classical.choose (Classical.choose_spec (h k)) j) = Classical.choose (Classical.choose_spec (h k)) := funext fun j => if_neg hk
  show u_Kn s q.1 q.2.1 q.2.2 _ (fun j => if k = 99 then z j else Classical.choose (Classical.choose_spec (h k)) j)
  rw [e]
  exact Classical.choose_spec (Classical.choose_spec (h k)) q hq
def GS (z : Int) : Mm := fun b _ _ => if b = 4 then z else 0
theorem GS_4 {z : Int} : GS z 4 0 0 = z := by simp [GS]
theorem ks_HR {D : va_G} {cA : Nat → ClassId} {s : State} : HR D cA s.heap.size (GS s.heap.size) (fun _ _ _ => 0) s.heap :=
  ⟨fun a ha => absurd (show GS s.heap.size 0 a 0 = 0 by simp [GS]) ha, GS_4, by rw [GS_4]; exact Int.le_refl _⟩
/-- what every state of the walk knows, known at the start -/
theorem ks_start {s : State} {b L : Nat} {xs : Nat → Int32} {l : Launch} (hflags : l.flags = flags0) (hL : L ≤ 260) (hX : va_X b L xs s s.heap) (hbl : b < s.heap.size) (hts : ∀ w ∈ lw_tbl, w.before #[Value.ref b] s = true) (hgv : (Jvm.Cond.and given_1 narrow_1).before #[Value.ref b] s = true) : ∃ (D : va_G) (cA : Nat → ClassId), Ks (l, D, cA, s.heap.size) s ∧ HR D cA s.heap.size (GS s.heap.size) (fun _ _ _ => 0) s.heap ∧ D.2 99 0 = b := by
  have hs := flat_of_before _ hgv
  have hA : ∀ a : Nat, a < s.heap.size → ¬ (fun q : Nat => s.heap.size ≤ q) a := fun a h => Nat.not_le.mpr h
  have hst : l.stackTraces = false := by unfold Launch.stackTraces; rw [hflags]; decide +kernel
  obtain ⟨cA, hKa⟩ := ks_arr hts
  obtain ⟨D, hz, hKc⟩ := ks_cls hts (fun j => match j with | 0 => b | _ => L)
  have d0 : D.2 99 0 = b := hz 0
  have d1 : D.2 99 1 = L := hz 1
  have hKd : Kd D s.heap.size s := ⟨Jvm.Stand.arrayOver_alikeB (State.WarmedH.refl s).alike (hts (.arrayOver (.array .int)) (List.mem_of_getElem? (i := 761) (by decide +kernel))), ⟨xs, by rw [d0, d1]; exact hX⟩, by rw [d0]; exact hbl, by rw [d1]; exact hL⟩
  refine ⟨D, cA, ⟨hst, ⟨hKc, hKa⟩, fun w hw ho => okw_same rfl ho (hts w hw), ?_, ?_, fun own k tx hm => ks_str (hts _ hm), fun C hC => ?_, hKd⟩, ks_HR, d0⟩
  · exact vx_Zqof (hts _ (List.mem_of_getElem? (i := 305) (by decide +kernel))) (hts _ (List.mem_of_getElem? (i := 59) (by decide +kernel))) (hs _ (by decide +kernel)) hA
  · exact vx_Zqof (hts _ (List.mem_of_getElem? (i := 307) (by decide +kernel))) (hts _ (List.mem_of_getElem? (i := 59) (by decide +kernel))) (hs _ (by decide +kernel)) hA
  · rcases List.mem_cons.mp hC with rfl | hC
    · exact va_AO.of (hts _ (List.mem_of_getElem? (i := 123) (by decide +kernel)))
    rcases List.mem_cons.mp hC with rfl | hC
    · exact va_AO.of (hts _ (List.mem_of_getElem? (i := 154) (by decide +kernel)))
    rcases List.mem_cons.mp hC with rfl | hC
    · exact va_AO.of (hts _ (List.mem_of_getElem? (i := 198) (by decide +kernel)))
    · cases hC
