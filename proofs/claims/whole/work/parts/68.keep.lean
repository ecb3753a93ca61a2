/-! ===== what always holds is kept by what the writers do ===== -/
def Inv (A : An) : Prop := AB A ∧ WF A ∧ BK A
def Wt (A : An) : Prop := (∀ t f, 0 ≤ t → t < A 0 0 1 → 0 ≤ f → f < 4 → (ins (A (200 + t) 1 2) f ↔ ¬ A (200 + t) 0 f = -1)) ∧ (∀ t, 0 ≤ t → t < A 0 0 1 → ¬ A (200 + t) 1 7 = -1 → (t < A (200 + t) 1 7 ∧ A (200 + t) 1 7 < A 0 0 1) ∧ A (200 + A (200 + t) 1 7) 1 1 = 1 ∧ A (200 + A (200 + t) 1 7) 1 6 = t) ∧ ∀ k t, 0 ≤ k → k < A 0 0 1 → 0 ≤ t → t < k → A (200 + k) 1 1 = 1 → A (200 + k) 1 6 = t → A (200 + t) 1 7 = k
/-- a line that goes with its takes T, of which there are n -/
def LPr (L : Fn) (T : Int → Fn) (n : Int) : Prop := (∀ t, 0 ≤ t → t < 61 → (L 3 t = -1 ↔ ¬ L 0 t = 0) ∧ (0 < L 0 t → L 1 t = T t 1 1 ∧ L 2 t = T t 1 4 ∧ t < L 4 4)) ∧ L 4 4 ≤ n ∧ ∀ t, n ≤ t → t < 61 → L 0 t = -1
def Wl (A : An) : Prop := ∀ l, 0 ≤ l → l < A 0 0 2 → LPr (A (20 + l)) (fun t => A (200 + t)) (A 0 0 1)
/-- a fact's truth, what is heard of it, and its force are its own -/
def FS (S F : Fn) : Prop := (F 1 0 = tru S F ∧ F 1 2 = hrd S F ∧ F 1 1 = trf S F) ∧ ∀ k, S 2 0 ≤ k → k < 10 → F 0 k = -1
def Wf (A : An) : Prop := ∀ i, 0 ≤ i → i < A 0 0 0 * 4 → FS (A 10) (A (100 + i))
theorem wf_f {S F : Fn} (hS : SB S) (hF : FB0 F) (hb : ∀ k, S 2 0 ≤ k → k < 10 → F 0 k = -1) : (F 1 0 = mst S F 1 ∧ F 1 2 = mhd S F ∧ F 1 1 = (if F 1 0 = -1 then 0 else mfo S F (F 1 0))) ↔ (F 1 0 = tru S F ∧ F 1 2 = hrd S F ∧ F 1 1 = trf S F) := by
  rw [mst_tru hS hF hb, mhd_hrd hS hF hb, mfo_eq hS]
  unfold trf
  constructor
  · rintro ⟨a, b, c⟩
    refine ⟨a, b, ?_⟩
    rw [← a]; exact c
  · rintro ⟨a, b, c⟩
    refine ⟨a, b, ?_⟩
    rw [← a] at c; exact c
theorem WF.wt {A : An} (h : WF A) : Wt A := ⟨h.i, h.k, h.u⟩
theorem WF.wl {A : An} (h : WF A) : Wl A := fun l q1 q2 => ⟨fun t q3 q4 => h.l l t q1 q2 q3 q4, h.e l q1 q2, fun t q3 q4 => h.n l t q1 q2 q3 q4⟩
theorem WF.wf {A : An} (h : WF A) (hA : AB A) : Wf A := fun i q1 q2 =>
  ⟨(wf_f hA.so (hA.fa i (by have := hA.n; omega)).f0 (fun k q3 q4 => h.b i k q1 q2 q3 q4)).mp (h.f i q1 q2), fun k q3 q4 => h.b i k q1 q2 q3 q4⟩
theorem WF.mk {A : An} (hA : AB A) (ht : Wt A) (hl : Wl A) (hf : Wf A) : WF A :=
  ⟨ht.1, fun l t q1 q2 q3 q4 => (hl l q1 q2).1 t q3 q4, fun l q1 q2 => (hl l q1 q2).2.1, fun l t q1 q2 q3 q4 => (hl l q1 q2).2.2 t q3 q4, ht.2.1, ht.2.2,
    fun i q1 q2 => (wf_f hA.so (hA.fa i (by have := hA.n; omega)).f0 (hf i q1 q2).2).mpr (hf i q1 q2).1, fun i k q1 q2 q3 q4 => (hf i q1 q2).2 k q3 q4⟩
section Keep
variable {A A1 : An}
theorem Wt.of (h : Wt A) (c1 : A1 0 0 1 = A 0 0 1) (et : ∀ t, 0 ≤ t → A1 (200 + t) = A (200 + t)) : Wt A1 := by
  refine ⟨fun t f q1 q2 q3 q4 => ?_, fun t q1 q2 q3 => ?_, fun k t q1 q2 q3 q4 q5 q6 => ?_⟩
  · rw [c1] at q2; rw [et t q1]; exact h.1 t f q1 q2 q3 q4
  · rw [c1] at q2 ⊢; rw [et t q1] at q3 ⊢
    have z := h.2.1 t q1 q2 q3
    rw [et _ (by omega)]; exact z
  · rw [c1] at q2; rw [et k q1] at q5 q6; rw [et t q3]; exact h.2.2 k t q1 q2 q3 q4 q5 q6
theorem LPr.of {L : Fn} {T T1 : Int → Fn} {n : Int} (h : LPr L T n) (e : ∀ t, 0 ≤ t → t < n → T1 t = T t) : LPr L T1 n := by
  refine ⟨fun t q1 q2 => ⟨(h.1 t q1 q2).1, fun q3 => ?_⟩, h.2⟩
  have z := (h.1 t q1 q2).2 q3
  rw [e t q1 (by have := h.2.1; omega)]; exact z
theorem Wl.of (h : Wl A) (c1 : A1 0 0 1 = A 0 0 1) (c2 : A1 0 0 2 = A 0 0 2) (et : ∀ t, 0 ≤ t → A1 (200 + t) = A (200 + t)) (el : ∀ l, 0 ≤ l → l < A 0 0 2 → A1 (20 + l) = A (20 + l)) : Wl A1 := fun l q1 q2 => by
  rw [c2] at q2; rw [c1, el l q1 q2]
  exact (h l q1 q2).of (fun t q3 _ => et t q3)
theorem Wf.of (h : Wf A) (c0 : A1 0 0 0 = A 0 0 0) (e10 : A1 10 = A 10) (ef : ∀ i, 0 ≤ i → i < A 0 0 0 * 4 → A1 (100 + i) = A (100 + i)) : Wf A1 := fun i q1 q2 => by
  rw [c0] at q2; rw [e10, ef i q1 q2]; exact h i q1 q2
theorem BK.of (h : BK A) (c0 : A1 0 0 0 = A 0 0 0) (c1 : A1 0 0 1 = A 0 0 1) (c2 : A1 0 0 2 = A 0 0 2) (ef : ∀ i, A 0 0 0 * 4 ≤ i → i < 24 → A1 (100 + i) = A (100 + i)) (et : ∀ t, A 0 0 1 ≤ t → t < 60 → A1 (200 + t) 1 7 = A (200 + t) 1 7) (el : ∀ l, A 0 0 2 ≤ l → l < 4 → A1 (20 + l) = A (20 + l)) (es : ∀ t, 0 ≤ t → t < A 0 0 1 → A1 (200 + t) 1 0 = A (200 + t) 1 0) : BK A1 := by
  refine ⟨fun i q1 q2 => ?_, fun t q1 q2 => ?_, fun l q1 q2 => ?_, fun t q1 q2 => ?_⟩
  · rw [c0] at q1; rw [ef i q1 q2]; exact h.1 i q1 q2
  · rw [c1] at q1; rw [et t q1 q2]; exact h.2.1 t q1 q2
  · rw [c2] at q1; rw [el l q1 q2]; exact h.2.2.1 l q1 q2
  · rw [c1] at q2; rw [es t q1 q2, c0]; exact h.2.2.2 t q1 q2
end Keep
/-! ===== a source more ===== -/
theorem src_sR {S F : Fn} {w o v : Int} (h0 : 0 ≤ S 2 0) (hv : ¬ v = -1) (hb : F 0 (S 2 0) = -1) : sR (sAdd S w o) F v = sR S F v := by
  have r : sR (sAdd S w o) F v = fr (wgS (sAdd S w o) F v) 0 (sAdd S w o 2 0) (fun _ => 0) := rfl
  have e : fr (wgS (sAdd S w o) F v) 0 (S 2 0) (fun _ => 0) = fr (wgS S F v) 0 (S 2 0) (fun _ => 0) := fr_congr fun i s q1 q2 => by
    have a1 : sAdd S w o 1 i = S 1 i := by rw [sAdd_1, if_neg (by omega)]
    have a0 : sAdd S w o 0 i = S 0 i := by rw [sAdd_0, if_neg (by omega)]
    unfold wgS
    rw [a1, a0]
  have d : ∀ x, wgS (sAdd S w o) F v (S 2 0) x = x := fun x => by
    unfold wgS
    exact if_neg (fun q => hv (by rw [← q, hb]))
  rw [r, sAdd_2, fr_last h0, d, e]
  rfl
theorem src_all {S F : Fn} {w o v : Int} (hS : SB S) (hv : ¬ v = -1) (hb : F 0 (S 2 0) = -1) : tF (sAdd S w o) F v = tF S F v ∧ pG (sAdd S w o) F v = pG S F v := by
  have hc := hS.c
  have e := src_sR (w := w) (o := o) hc.1 hv hb
  have hs : sR S F v (S 2 0) = 0 := by
    rcases (sR_sp (F := F) (v := v) (r := S 2 0) hS).2 with q | ⟨k, q1, q2, -⟩
    · exact q
    · have := hS.r k q1.1 q1.2; omega
  have c : ∀ (g : Int → Int → Int), (∀ x, g (S 2 0) x = x) → fr g 0 (S 2 0 + 1) 0 = fr g 0 (S 2 0) 0 := fun g hg => by rw [fr_last hc.1, hg]
  have e1 : tF (sAdd S w o) F v = tF S F v := by
    unfold tF; rw [e, sAdd_2]; exact c _ (fun x => by (try dsimp only); rw [hs]; exact if_neg (by omega))
  have e2 : tO (sAdd S w o) F v = tO S F v := by
    unfold tO; rw [e, sAdd_2]; exact c _ (fun x => by (try dsimp only); rw [hs]; exact if_neg (by omega))
  have e3 : tN (sAdd S w o) F v = tN S F v := by
    unfold tN; rw [e, sAdd_2]; exact c _ (fun x => by (try dsimp only); rw [hs]; exact if_neg (by omega))
  have e4 : tR (sAdd S w o) F v = tR S F v := by
    unfold tR; rw [e, sAdd_2]; exact c _ (fun x => by (try dsimp only); rw [hs]; exact if_neg (by omega))
  refine ⟨e1, ?_⟩
  unfold pG; rw [e2, e3, e4]
theorem src_st {S F : Fn} {w o z : Int} (hS : SB S) (hb : F 0 (S 2 0) = -1) : stC (sAdd S w o) F z (-1) = stC S F z (-1) := by
  have hc := hS.c
  have r : stC (sAdd S w o) F z (-1) = (fr (stS (sAdd S w o) F z (-1)) 0 (sAdd S w o 2 0) (-1, 0)).1 := rfl
  have e : fr (stS (sAdd S w o) F z (-1)) 0 (S 2 0) (-1, 0) = fr (stS S F z (-1)) 0 (S 2 0) (-1, 0) := fr_congr fun i b q1 q2 => by
    unfold stS
    by_cases hi : F 0 i = -1
    · rw [if_neg (fun q => q.1 hi), if_neg (fun q => q.1 hi)]
    · obtain ⟨a1, a2⟩ := src_all (w := w) (o := o) hS hi hb
      rw [a1, a2]
  have d : ∀ x, stS (sAdd S w o) F z (-1) (S 2 0) x = x := fun x => by
    unfold stS
    exact if_neg (fun q => q.1 hb)
  rw [r, sAdd_2, fr_last hc.1, d, e]
  rfl
theorem src_FS {S F : Fn} {w o : Int} (hS : SB S) (hc : S 2 0 < 10) (h : FS S F) : FS (sAdd S w o) F := by
  have h0 := hS.c
  obtain ⟨⟨a, b, c⟩, d⟩ := h
  have hb := d (S 2 0) (Int.le_refl _) hc
  have e1 : tru (sAdd S w o) F = tru S F := src_st hS hb
  have e2 : hrd (sAdd S w o) F = hrd S F := by
    unfold hrd; rw [e1, src_st hS hb]
  have e3 : trf (sAdd S w o) F = trf S F := by
    unfold trf; rw [e1]
    by_cases h1 : tru S F = -1
    · rw [if_pos h1, if_pos h1]
    · rw [if_neg h1, if_neg h1, (src_all hS h1 hb).1]
  refine ⟨⟨by rw [e1]; exact a, by rw [e2]; exact b, by rw [e3]; exact c⟩, fun k q1 q2 => ?_⟩
  rw [sAdd_2] at q1
  exact d k (by omega) q2
theorem Inv.src {A : An} (h : Inv A) {w o : Int} (hw : 1 ≤ w ∧ w ≤ 3) (hc : A 10 2 0 < 10) (ho : o = -1 ∨ (0 ≤ o ∧ o < A 10 2 0)) : Inv (aSrc A w o) := by
  obtain ⟨hA, hW, hB⟩ := h
  have en : ∀ j, j ≠ 10 → aSrc A w o j = A j := fun j hj => aup_n hj
  have e0 : aSrc A w o 10 = sAdd (A 10) w o := aup_s _ _ _
  have z0 : aSrc A w o 0 = A 0 := en 0 (by omega)
  have hA1 : AB (aSrc A w o) := hA.uS (sAdd_SB hA.so hw hc ho)
  have hn := hA.n
  refine ⟨hA1, WF.mk hA1 (hW.wt.of (by rw [z0]) (fun t q => en _ (by omega))) (hW.wl.of (by rw [z0]) (by rw [z0]) (fun t q => en _ (by omega)) (fun l q1 q2 => en _ (by omega))) (fun i q1 q2 => ?_), hB.of (by rw [z0]) (by rw [z0]) (by rw [z0]) (fun i q1 q2 => en _ (by omega)) (fun t q1 q2 => by rw [en _ (by omega)]) (fun l q1 q2 => en _ (by omega)) (fun t q1 q2 => by rw [en _ (by omega)])⟩
  rw [z0] at q2
  rw [e0, en _ (by omega)]
  exact src_FS hA.so hc (hW.wf hA i q1 q2)
/-! ===== a story, a line more ===== -/
theorem blank_FS {S F : Fn} (hS : SB S) (h : ∀ k, 0 ≤ k → k < 10 → F 0 k = -1) (h0 : F 1 0 = -1 ∧ F 1 1 = 0 ∧ F 1 2 = -1) : FS S F := by
  have hc := hS.c
  have st : ∀ z, stC S F z (-1) = -1 := fun z => by
    have e : fr (stS S F z (-1)) 0 (S 2 0) (-1, 0) = (-1, 0) := fr_id fun i q1 q2 => by
      unfold stS
      exact if_neg (fun q => q.1 (h i q1 (by omega)))
    show (fr (stS S F z (-1)) 0 (S 2 0) (-1, 0)).1 = -1
    rw [e]
  have e1 : tru S F = -1 := st 1
  refine ⟨⟨by rw [e1]; exact h0.1, ?_, ?_⟩, fun k q1 q2 => h k (by omega) q2⟩
  · unfold hrd; rw [if_pos e1, st 0]; exact h0.2.2
  · unfold trf; rw [if_pos e1]; exact h0.2.1
theorem Inv.sty {A : An} (h : Inv A) (hc : A 0 0 0 < 6) : Inv (aSty A) := by
  obtain ⟨hA, hW, hB⟩ := h
  have hn := hA.n
  have en : ∀ j, j ≠ 0 → aSty A j = A j := fun j hj => aup_n hj
  have e0 : aSty A 0 0 0 = A 0 0 0 + 1 := by unfold aSty; rw [aup_s, lup_s]
  have ec : ∀ s, s ≠ 0 → aSty A 0 0 s = A 0 0 s := fun s hs => by unfold aSty; rw [aup_s, lup_n (by omega)]
  have e1 := ec 1 (by omega)
  have e2 := ec 2 (by omega)
  have hA1 : AB (aSty A) := hA.un (by omega)
  refine ⟨hA1, WF.mk hA1 (hW.wt.of e1 (fun t q => en _ (by omega))) (hW.wl.of e1 e2 (fun t q => en _ (by omega)) (fun l q1 q2 => en _ (by omega))) (fun i q1 q2 => ?_), ⟨fun i q1 q2 => ?_, fun t q1 q2 => ?_, fun l q1 q2 => ?_, fun t q1 q2 => ?_⟩⟩
  · rw [e0] at q2
    rw [en 10 (by omega), en (100 + i) (by omega)]
    by_cases hi : i < A 0 0 0 * 4
    · exact hW.wf hA i q1 hi
    · have z := hB.1 i (by omega) (by omega)
      exact blank_FS hA.so z.1 ⟨z.2.1, z.2.2.1, z.2.2.2.1⟩
  · rw [e0] at q1; rw [en _ (by omega)]; exact hB.1 i (by omega) q2
  · rw [e1] at q1; rw [en _ (by omega)]; exact hB.2.1 t q1 q2
  · rw [e2] at q1; rw [en _ (by omega)]; exact hB.2.2.1 l q1 q2
  · rw [e1] at q2; rw [en _ (by omega), e0]; have := hB.2.2.2 t q1 q2; omega
theorem Inv.lin {A : An} (h : Inv A) {sp lg : Int} (hs : 1 ≤ sp ∧ sp ≤ 60) (hg : 0 ≤ lg ∧ lg ≤ 9) (hc : A 0 0 2 < 4) : Inv (aLin A sp lg) := by
  obtain ⟨hA, hW, hB⟩ := h
  have hn := hA.n
  have e0 : aLin A sp lg 0 = lup (A 0) 0 2 (A 0 0 2 + 1) := aup_s _ _ _
  have en : ∀ j, j ≠ 0 → j ≠ 20 + A 0 0 2 → aLin A sp lg j = A j := fun j hj hj2 => by unfold aLin; rw [aup_n hj, aup_n hj2]
  have el : aLin A sp lg (20 + A 0 0 2) = lup (lup (A (20 + A 0 0 2)) 4 0 sp) 4 1 lg := by unfold aLin; rw [aup_n (by omega), aup_s]
  have c2 : aLin A sp lg 0 0 2 = A 0 0 2 + 1 := by rw [e0, lup_s]
  have ec : ∀ s, s ≠ 2 → aLin A sp lg 0 0 s = A 0 0 s := fun s hs => by rw [e0, lup_n (by omega)]
  have c0 := ec 0 (by omega)
  have c1 := ec 1 (by omega)
  have hL := hA.li (A 0 0 2) (by omega)
  have hA1 : AB (aLin A sp lg) := by
    have z := (hA.uL (L := lup (lup (A (20 + A 0 0 2)) 4 0 sp) 4 1 lg) (A 0 0 2) (by omega) ((hL.u4 (by omega)).u4 (by omega))).un (s := 2) (x := A 0 0 2 + 1) (by omega)
    rw [aup_n (by omega)] at z
    exact z
  have et : ∀ t, 0 ≤ t → aLin A sp lg (200 + t) = A (200 + t) := fun t q => en _ (by omega) (by omega)
  refine ⟨hA1, WF.mk hA1 (hW.wt.of c1 et) (fun l q1 q2 => ?_) (hW.wf hA |>.of c0 (en 10 (by omega) (by omega)) (fun i q1 q2 => en _ (by omega) (by omega))), ⟨fun i q1 q2 => ?_, fun t q1 q2 => ?_, fun l q1 q2 => ?_, fun t q1 q2 => ?_⟩⟩
  · rw [c2] at q2
    rw [c1]
    by_cases e : l = A 0 0 2
    · rw [e, el]
      obtain ⟨b1, b2, b3, b4⟩ := hB.2.2.1 (A 0 0 2) (Int.le_refl _) hc
      refine ⟨fun t q3 q4 => ?_, ?_, fun t q3 q4 => ?_⟩
      · have z := b1 t q3 q4
        rw [lup_n (i' := 3) (by omega), lup_n (i' := 3) (by omega), lup_n (i' := 0) (by omega), lup_n (i' := 0) (by omega), z.1, z.2]
        exact ⟨⟨fun _ => by decide, fun _ => rfl⟩, fun q => absurd q (by decide)⟩
      · rw [lup_n (by omega), lup_n (by omega), b4]; omega
      · rw [lup_n (by omega), lup_n (by omega)]; exact (b1 t (by omega) q4).1
    · rw [en _ (by omega) (by omega)]
      exact (hW.wl l q1 (by omega)).of (fun t q3 _ => et t q3)
  · rw [c0] at q1; rw [en _ (by omega) (by omega)]; exact hB.1 i q1 q2
  · rw [c1] at q1; rw [et t (by omega)]; exact hB.2.1 t q1 q2
  · rw [c2] at q1; rw [en _ (by omega) (by omega)]; exact hB.2.2.1 l (by omega) q2
  · rw [c1] at q2; rw [et t q1, c0]; exact hB.2.2.2 t q1 q2
/-! ===== what is said; rivals; lines that are down ===== -/
theorem setl_FS {S F : Fn} {so v : Int} (h : FS S F) (hso : 0 ≤ so ∧ so < S 2 0) : FS S (setl S (lup F 0 so v)) := by
  have e1 : tru S (setl S (lup F 0 so v)) = tru S (lup F 0 so v) := stC_up (fun t => setl_0 t)
  have e0 : stC S (setl S (lup F 0 so v)) 0 (-1) = stC S (lup F 0 so v) 0 (-1) := stC_up (fun t => setl_0 t)
  have e2 : hrd S (setl S (lup F 0 so v)) = hrd S (lup F 0 so v) := by unfold hrd; rw [e1, e0]
  have e3 : trf S (setl S (lup F 0 so v)) = trf S (lup F 0 so v) := by unfold trf; rw [e1, tF_up (fun t => setl_0 t)]
  refine ⟨⟨?_, ?_, ?_⟩, fun k q1 q2 => ?_⟩
  · rw [e1]; unfold setl; rw [lup_n (by omega), lup_n (by omega), lup_s]
  · rw [e2]; unfold setl; rw [lup_s]
  · rw [e3]; unfold setl; rw [lup_n (by omega), lup_s]
  · rw [setl_0, lup_n (by omega)]; exact h.2 k q1 q2
theorem Inv.say {A : An} (h : Inv A) {so i v : Int} (hso : 0 ≤ so ∧ so < A 10 2 0) (hi : 0 ≤ i ∧ i < A 0 0 0 * 4) (hv : -1 ≤ v ∧ v ≤ 99) : Inv (aSay A so i v) := by
  obtain ⟨hA, hW, hB⟩ := h
  have hn := hA.n
  have en : ∀ j, j ≠ 100 + i → aSay A so i v j = A j := fun j hj => aup_n hj
  have z0 : aSay A so i v 0 = A 0 := en 0 (by omega)
  have hA1 : AB (aSay A so i v) := hA.say (by omega) hv
  refine ⟨hA1, WF.mk hA1 (hW.wt.of (by rw [z0]) (fun t q => en _ (by omega))) (hW.wl.of (by rw [z0]) (by rw [z0]) (fun t q => en _ (by omega)) (fun l q1 q2 => en _ (by omega))) (fun f q1 q2 => ?_), hB.of (by rw [z0]) (by rw [z0]) (by rw [z0]) (fun f q1 q2 => en _ (by omega)) (fun t q1 q2 => by rw [en _ (by omega)]) (fun l q1 q2 => en _ (by omega)) (fun t q1 q2 => by rw [en _ (by omega)])⟩
  rw [z0] at q2
  rw [en 10 (by omega)]
  by_cases e : f = i
  · rw [e]
    show FS (A 10) (aup A (100 + i) (setl (A 10) (lup (A (100 + i)) 0 so v)) (100 + i))
    rw [aup_s]
    exact setl_FS (hW.wf hA i hi.1 hi.2) hso
  · rw [en _ (by omega)]; exact hW.wf hA f q1 q2
theorem Inv.riv {A : An} (h : Inv A) {i : Int} (hi : 0 ≤ i ∧ i < A 0 0 0 * 4) : Inv (aRiv A i) := by
  obtain ⟨hA, hW, hB⟩ := h
  have hn := hA.n
  have en : ∀ j, j ≠ 100 + i → aRiv A i j = A j := fun j hj => aup_n hj
  have z0 : aRiv A i 0 = A 0 := en 0 (by omega)
  have hF := hA.fa i (by omega)
  have hA1 : AB (aRiv A i) := by
    refine hA.uF i (by omega) ⟨fun j q1 q2 => ?_, ?_, ?_, ?_, ?_⟩
    · rw [lup_n (by omega)]; exact hF.v0 j q1 q2
    · rw [lup_n (by omega)]; exact hF.s0
    · rw [lup_n (by omega)]; exact hF.s1
    · rw [lup_n (by omega)]; exact hF.s2
    · rw [lup_s]; omega
  refine ⟨hA1, WF.mk hA1 (hW.wt.of (by rw [z0]) (fun t q => en _ (by omega))) (hW.wl.of (by rw [z0]) (by rw [z0]) (fun t q => en _ (by omega)) (fun l q1 q2 => en _ (by omega))) (fun f q1 q2 => ?_), hB.of (by rw [z0]) (by rw [z0]) (by rw [z0]) (fun f q1 q2 => en _ (by omega)) (fun t q1 q2 => by rw [en _ (by omega)]) (fun l q1 q2 => en _ (by omega)) (fun t q1 q2 => by rw [en _ (by omega)])⟩
  rw [z0] at q2
  rw [en 10 (by omega)]
  by_cases e : f = i
  · rw [e]
    show FS (A 10) (aup A (100 + i) (lup (A (100 + i)) 1 3 (A 0 0 3)) (100 + i))
    rw [aup_s]
    obtain ⟨⟨a, b, c⟩, d⟩ := hW.wf hA i hi.1 hi.2
    have u : ∀ t, lup (A (100 + i)) 1 3 (A 0 0 3) 0 t = A (100 + i) 0 t := fun t => lup_n (by omega)
    have e1 : tru (A 10) (lup (A (100 + i)) 1 3 (A 0 0 3)) = tru (A 10) (A (100 + i)) := stC_up u
    have e0 : stC (A 10) (lup (A (100 + i)) 1 3 (A 0 0 3)) 0 (-1) = stC (A 10) (A (100 + i)) 0 (-1) := stC_up u
    have e2 : hrd (A 10) (lup (A (100 + i)) 1 3 (A 0 0 3)) = hrd (A 10) (A (100 + i)) := by unfold hrd; rw [e1, e0]
    have e3 : trf (A 10) (lup (A (100 + i)) 1 3 (A 0 0 3)) = trf (A 10) (A (100 + i)) := by unfold trf; rw [e1, tF_up u]
    refine ⟨⟨?_, ?_, ?_⟩, fun k q3 q4 => by rw [u]; exact d k q3 q4⟩
    · rw [e1, lup_n (by omega)]; exact a
    · rw [e2, lup_n (by omega)]; exact b
    · rw [e3, lup_n (by omega)]; exact c
  · rw [en _ (by omega)]; exact hW.wf hA f q1 q2
theorem LPr.v4 {L : Fn} {T : Int → Fn} {n s x : Int} (h : LPr L T n) (hs : s ≠ 4) : LPr (lup L 4 s x) T n := by
  refine ⟨fun t q1 q2 => ?_, ?_, fun t q1 q2 => ?_⟩
  · rw [lup_n (i' := 3) (by omega), lup_n (i' := 0) (by omega), lup_n (i' := 1) (by omega), lup_n (i' := 2) (by omega), lup_n (i' := 4) (by omega)]
    exact h.1 t q1 q2
  · rw [lup_n (by omega)]; exact h.2.1
  · rw [lup_n (by omega)]; exact h.2.2 t q1 q2
theorem Inv.dwn {A : An} (h : Inv A) {l m : Int} (hl : 0 ≤ l ∧ l < A 0 0 2) (hm : 0 ≤ m ∧ m ≤ 99) : Inv (aDwn A l m) := by
  obtain ⟨hA, hW, hB⟩ := h
  have hn := hA.n
  have en : ∀ j, j ≠ 20 + l → aDwn A l m j = A j := fun j hj => aup_n hj
  have z0 : aDwn A l m 0 = A 0 := en 0 (by omega)
  have hA1 : AB (aDwn A l m) := hA.uL l (by omega) ((hA.li l (by omega)).u4 (by omega))
  refine ⟨hA1, WF.mk hA1 (hW.wt.of (by rw [z0]) (fun t q => en _ (by omega))) (fun k q1 q2 => ?_) ((hW.wf hA).of (by rw [z0]) (en _ (by omega)) (fun i q1 q2 => en _ (by omega))), hB.of (by rw [z0]) (by rw [z0]) (by rw [z0]) (fun f q1 q2 => en _ (by omega)) (fun t q1 q2 => by rw [en _ (by omega)]) (fun l q1 q2 => en _ (by omega)) (fun t q1 q2 => by rw [en _ (by omega)])⟩
  rw [z0] at q2 ⊢
  have et : ∀ t, 0 ≤ t → aDwn A l m (200 + t) = A (200 + t) := fun t q => en _ (by omega)
  by_cases e : k = l
  · rw [e]
    show LPr (aup A (20 + l) (lup (A (20 + l)) 4 2 m) (20 + l)) _ _
    rw [aup_s]
    exact ((hW.wl l hl.1 hl.2).v4 (by omega)).of (fun t q3 _ => et t q3)
  · rw [en _ (by omega)]; exact (hW.wl k q1 q2).of (fun t q3 _ => et t q3)
