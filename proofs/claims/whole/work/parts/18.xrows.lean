/-! ===== a throw's three cases ===== -/
abbrev eX : String := "java/lang/IndexOutOfBoundsException"
abbrev eA : String := "java/lang/IllegalArgumentException"
abbrev eS : String := "java/lang/IllegalStateException"
/-- nothing has changed but that the heap has grown; which exception, by which condition -/
def PXc (G M : Mm) (c1 c2 c3 : Prop) (e1 e2 e3 : String) : String → Mm → Mm → Prop := fun Ec G1 M1 => M1 = M ∧ (∃ z, G 4 0 0 ≤ z ∧ G1 = gZ G z) ∧ ((c1 ∧ Ec = e1) ∨ (c2 ∧ Ec = e2) ∨ (c3 ∧ Ec = e3))
def NoR : Option Value → Mm → Mm → Prop := fun _ _ _ => False
section RowsX
variable {E : Ev} {cc : ByteArray} {nL : Nat} {own : String} {tb : List ExceptionTableEntry} {R0 : Room} {G M : Mm} {k n pc : Nat} {ll : List LE} {st : List Value}
theorem pw_xV (C : Cx E cc nL own tb R0) {X : Xv} (hX : E.1 = X) {idx : Nat} {y : MethodName} {b : ByteArray} {nL' np fr lo mc ms : Nat} {ret : Option FieldType} {a K : Int} {As st0 : List Value} {PX : String → Mm → Mm → Prop} (d : decode cc pc = .ok (.invokevirtual idx, 3)) (hl : Cond.methodLink own idx y ∈ lw_tbl) (hy : MV y b nL' ret np) (hM : CX X y b nL' ret fr lo mc ms (vR a :: As) G M NoR PX) (hcl : KC K y.cls) (hk : G 0 a 0 = K)
    (hst : st0 = As.reverse ++ vR a :: st) (hn : As.length = np) (hroom : fr + 1 ≤ R0.frames ∧ 8 + (nL' + 11) + lo ≤ R0.locals) (hW : st.length ≤ 4) (hf : k + mc ≤ R0.cells ∧ n + ms ≤ R0.slots)
    (kx : ∀ Ec G' M', PX Ec G' M' → PWX E G' M' (k + mc) (n + ms) pc ll st Ec) : PW E G M k n pc ll st0 :=
  pw_callVX C hX d hl hy hM hcl hk hst hn hroom hW hf kx (fun _ _ _ h => h.elim)
theorem pw_xS (C : Cx E cc nL own tb R0) {X : Xv} (hX : E.1 = X) {idx : Nat} {y : MethodName} {b : ByteArray} {nL' np fr lo mc ms : Nat} {ret : Option FieldType} {As st0 : List Value} {PX : String → Mm → Mm → Prop} (d : decode cc pc = .ok (.invokestatic idx, 3)) (hl : Cond.methodLink own idx y ∈ lw_tbl) (hy : MS y b nL' ret np) (hM : CX X y b nL' ret fr lo mc ms As G M NoR PX)
    (hst : st0 = As.reverse ++ st) (hn : As.length = np) (hroom : fr + 1 ≤ R0.frames ∧ 8 + (nL' + 11) + lo ≤ R0.locals) (hW : st.length ≤ 4) (hf : k + mc ≤ R0.cells ∧ n + ms ≤ R0.slots)
    (kx : ∀ Ec G' M', PX Ec G' M' → PWX E G' M' (k + mc) (n + ms) pc ll st Ec) : PW E G M k n pc ll st0 :=
  pw_callSX C hX d hl hy hM hst hn hroom hW hf kx (fun _ _ _ h => h.elim)
end RowsX
