/-! ===== worlds whose new addresses are told by their being there; methods that throw ===== -/
def adC (o : Nat) (ad : Nat → Nat) : Nat → Nat
  | 0 => o
  | i + 1 => ad i
def adL (l : List Nat) (i : Nat) : Nat := l.getD i 0
def QN {ι : Type} (D : va_G) (w : va_W) (sz : Nat) (r : Option Value) (w' : ι → va_W) : Array Value → State → Outcome → State → Prop := fun _ st oc t => (oc = .returned r ∧ ∃ x, va_P D vwCl (w' x) t.heap ∧ va_D (va_A w sz) (w' x)) ∧ va_F (va_A w sz) st t
def MtN {ι : Type} (J : Jt) (y : MethodName) (cc : ByteArray) (nL : Nat) (rt : Option FieldType) (R : Room) (av : List Value) (w : va_W) (r : Option Value) (w' : ι → va_W) : Prop := ∀ sz : Nat, Met J.1 y (.code y cc nL rt :: LT) R (va_Pc av (fun U => U.heap.size = sz ∧ va_P J.2.1 vwCl w U.heap ∧ va_D (fun _ => True) w ∧ KX J (va_A w sz) U U.heap)) (QN J.2.1 w sz r w') R.cells R.slots (va_A w sz)
def EzN {ι : Type} (J : Jt) (Z : Zt) (mc ms : Nat) (r : Option Value) (w' : ι → va_W) : Prop := match J, Z with
  | (_, D, _, _, _), (_, _, _, s, _, args, below, _, _, A, Q) => ∃ w0 : va_W, A = va_A w0 s.heap.size ∧ Q = MQ below (QN D w0 s.heap.size r w') args s mc ms A
/-- the classes of what is thrown -/
def excN : Nat → String
  | 1 => "java/util/NoSuchElementException"
  | _ => "java/lang/IllegalArgumentException"
def QX {ι : Type} (D : va_G) (w : va_W) (sz ex : Nat) (r : Option Value) (w' : ι → va_W) : Array Value → State → Outcome → State → Prop := fun _ st oc t => (ex = 0 ∧ oc = .returned r ∧ ∃ x, va_P D vwCl (w' x) t.heap ∧ va_D (va_A w sz) (w' x)) ∧ va_F (va_A w sz) st t
def XX {ι : Type} (D : va_G) (w : va_W) (sz ex : Nat) (w' : ι → va_W) : String → State → State → Prop := fun E st t => (ex ≠ 0 ∧ E = excN ex ∧ ∃ x, va_P D vwCl (w' x) t.heap ∧ va_D (va_A w sz) (w' x)) ∧ va_F (va_A w sz) st t
def MtX {ι : Type} (J : Jt) (y : MethodName) (cc : ByteArray) (nL : Nat) (rt : Option FieldType) (R : Room) (av : List Value) (w : va_W) (ex : Nat) (r : Option Value) (w' : ι → va_W) : Prop := ∀ sz : Nat, vx_Met J.1 y (.code y cc nL rt :: LT) R (va_Pc av (fun U => U.heap.size = sz ∧ va_P J.2.1 vwCl w U.heap ∧ va_D (fun _ => True) w ∧ KX J (va_A w sz) U U.heap)) (QX J.2.1 w sz ex r w') (XX J.2.1 w sz ex w') R.cells R.slots (va_A w sz)
def EzX {ι : Type} (J : Jt) (Z : Zt) (mc ms ex : Nat) (r : Option Value) (w' : ι → va_W) : Prop := match J, Z with
  | (_, D, _, _, _), (_, _, _, s, _, args, below, _, c, A, Q) => (∀ x ∈ c.exceptionTable.toList, False) ∧ ∃ w0 : va_W, A = va_A w0 s.heap.size ∧ Q = vx_MQ below (QX D w0 s.heap.size ex r w') (XX D w0 s.heap.size ex w') args s mc ms A
/-- a throw on its way at pc -/
def GT (J : Jt) (Z : Zt) (n k : Nat) (w : va_W) (nL : Nat) (lv : List (Nat × Value)) (pc : Nat) (st : List Value) (E : String) : Prop := match J, Z with
  | (l, D, _, _, _), (p, e, R, s, m, args, below, meth, c, A, Q) => ∀ (H : Heap) (locs : List Loc) (ls : Array Slot) (q : Addr) (ce : Cell), va_P D vwCl w H → va_D A w → va_S A s.heap H locs → lv_has ls nL lv → H[q]? = some ce → ce.vm = .none → s.vm.findClass E = some ce.cls → vx_W p l e R s m args below meth c H locs n k Q (F0 m pc ls st) q
section GX
variable {ι : Type} {J : Jt} {Z : Zt} {cc : ByteArray} {nL : Nat} {own : String} {rt : Option FieldType} {R : Room} {n k : Nat} {w w' : va_W} {lv lv' : List (Nat × Value)} {pc : Nat} {st : List Value} {wf : ι → va_W}
theorem MtN_of {y : MethodName} {av : List Value} {r : Option Value} (hy : plainName y.cls = true) (ho : y.cls = own) (hav : (lg_sl av).length ≤ nL) (hlv : lv_args 0 av = lv)
    (body : ∀ Z : Zt, Cx J Z cc nL own rt R → EzN J Z R.cells R.slots r wf → Z.2.2.2.2.2.2.2.1.name = y.name → G J Z 0 0 w nL lv 0 []) : MtN J y cc nL rt R av w r wf := by
  intro sz
  obtain ⟨l, D, cy, aK, aV⟩ := J
  refine Met.ofW (cc := cc) (maxL := nL) (ret := rt) hy rfl ?_
  intro p e s m args below meth c s₁ B hml hv
  obtain ⟨rfl, hsz, hP, hD0, hKX⟩ := hv
  subst hsz
  have hts := atoms_spec (ws := .code y cc nL rt :: LT) B.pre
  have hown : s.vm.findClass own = some m.cls := by rw [← ho]; exact findClass_of_methodNamed B.named
  have hlocks : meth.locks = false := B.notSynchronized
  have hD := hD0.self (sz := s.heap.size)
  have hl := lv_entry av (n := nL) hav
  rw [lg_entry_eq]
  rw [hlv] at hl
  exact body (p, e, (headSpec (.code y cc nL rt :: LT) R).room, s, m, av.toArray, below, meth, c, va_A w s.heap.size, MQ below (QN D w s.heap.size r wf) av.toArray s R.cells R.slots (va_A w s.heap.size))
    ⟨B.exec, B.bytes, hml, hown, fun w0 h0 => hts w0 (List.mem_cons_of_mem _ h0), hKX, B.returns, hlocks, fun q h => Or.inr h, rfl⟩ ⟨w, rfl, rfl⟩ (name_of_methodNamed B.named B.method).1 s.heap [] _ hP hD va_S.rf hl
theorem MtX_of {y : MethodName} {av : List Value} {r : Option Value} {ex : Nat} (hy : plainName y.cls = true) (ho : y.cls = own) (hav : (lg_sl av).length ≤ nL) (hlv : lv_args 0 av = lv)
    (body : ∀ Z : Zt, Cx J Z cc nL own rt R → EzX J Z R.cells R.slots ex r wf → G J Z 0 0 w nL lv 0 []) : MtX J y cc nL rt R av w ex r wf := by
  intro sz
  obtain ⟨l, D, cy, aK, aV⟩ := J
  refine vx_ofW (cc := cc) (maxL := nL) (ret := rt) hy rfl ?_
  intro p e s m args below meth c s₁ B hml hnh hv
  obtain ⟨rfl, hsz, hP, hD0, hKX⟩ := hv
  subst hsz
  have hts := atoms_spec (ws := .code y cc nL rt :: LT) B.pre
  have hown : s.vm.findClass own = some m.cls := by rw [← ho]; exact findClass_of_methodNamed B.named
  have hlocks : meth.locks = false := B.notSynchronized
  have hD := hD0.self (sz := s.heap.size)
  have hl := lv_entry av (n := nL) hav
  rw [lg_entry_eq]
  rw [hlv] at hl
  exact body (p, e, (headSpec (.code y cc nL rt :: LT) R).room, s, m, av.toArray, below, meth, c, va_A w s.heap.size, vx_MQ below (QX D w s.heap.size ex r wf) (XX D w s.heap.size ex wf) av.toArray s R.cells R.slots (va_A w s.heap.size))
    ⟨B.exec, B.bytes, hml, hown, fun w0 h0 => hts w0 (List.mem_cons_of_mem _ h0), hKX, B.returns, hlocks, fun q h => Or.inr h, rfl⟩ ⟨hnh, w, rfl, rfl⟩ s.heap [] _ hP hD va_S.rf hl
theorem g_iretN {v : Int32} (C : Cx J Z cc nL own (some .int) R) (E : EzN J Z n k (some (.int v)) wf) (x : ι) (hw : wf x = w) (hd : decode cc pc = .ok (.ireturn, 1)) : G J Z n k w nL lv pc [.int v] := by
  obtain ⟨l, D, cy, aK, aV⟩ := J
  obtain ⟨p, e, R0, s, m, args, below, meth, c, A, Q⟩ := Z
  obtain ⟨hx, hb, hml, hown, hts, hKX, hr, hlk, hA, rfl⟩ := C
  have hK := hKX.1
  intro H locs ls hP hD hS hl
  obtain ⟨w0, rfl, rfl⟩ := E
  subst hw
  exact W.iret hx hb hr (fun t ht hW => ⟨⟨rfl, x, by rw [ht]; exact hP, hD⟩, hS.F ht⟩) hS.2.2 hd hlk
theorem g_iretX {v : Int32} (C : Cx J Z cc nL own (some .int) R) (E : EzX J Z n k 0 (some (.int v)) wf) (x : ι) (hw : wf x = w) (hd : decode cc pc = .ok (.ireturn, 1)) : G J Z n k w nL lv pc [.int v] := by
  obtain ⟨l, D, cy, aK, aV⟩ := J
  obtain ⟨p, e, R0, s, m, args, below, meth, c, A, Q⟩ := Z
  obtain ⟨hx, hb, hml, hown, hts, hKX, hr, hlk, hA, rfl⟩ := C
  have hK := hKX.1
  intro H locs ls hP hD hS hl
  obtain ⟨hnh, w0, rfl, rfl⟩ := E
  subst hw
  exact vx_ret (W.iret hx hb hr (fun t ht hW => ⟨⟨rfl, rfl, x, by rw [ht]; exact hP, hD⟩, hS.F ht⟩) hS.2.2 hd hlk)
theorem g_lretN {v : Int64} (C : Cx J Z cc nL own (some .long) R) (E : EzN J Z n k (some (.long v)) wf) (x : ι) (hw : wf x = w) (hd : decode cc pc = .ok (.lreturn, 1)) : G J Z n k w nL lv pc [.long v] := by
  obtain ⟨l, D, cy, aK, aV⟩ := J
  obtain ⟨p, e, R0, s, m, args, below, meth, c, A, Q⟩ := Z
  obtain ⟨hx, hb, hml, hown, hts, hKX, hr, hlk, hA, rfl⟩ := C
  have hK := hKX.1
  intro H locs ls hP hD hS hl
  obtain ⟨w0, rfl, rfl⟩ := E
  subst hw
  exact W.lret hx hb hr (fun t ht hW => ⟨⟨rfl, x, by rw [ht]; exact hP, hD⟩, hS.F ht⟩) hS.2.2 hd hlk
theorem g_lretX {v : Int64} (C : Cx J Z cc nL own (some .long) R) (E : EzX J Z n k 0 (some (.long v)) wf) (x : ι) (hw : wf x = w) (hd : decode cc pc = .ok (.lreturn, 1)) : G J Z n k w nL lv pc [.long v] := by
  obtain ⟨l, D, cy, aK, aV⟩ := J
  obtain ⟨p, e, R0, s, m, args, below, meth, c, A, Q⟩ := Z
  obtain ⟨hx, hb, hml, hown, hts, hKX, hr, hlk, hA, rfl⟩ := C
  have hK := hKX.1
  intro H locs ls hP hD hS hl
  obtain ⟨hnh, w0, rfl, rfl⟩ := E
  subst hw
  exact vx_ret (W.lret hx hb hr (fun t ht hW => ⟨⟨rfl, rfl, x, by rw [ht]; exact hP, hD⟩, hS.F ht⟩) hS.2.2 hd hlk)
theorem g_vretN (C : Cx J Z cc nL own (none) R) (E : EzN J Z n k none wf) (x : ι) (hw : wf x = w) (hd : decode cc pc = .ok (.return_, 1)) : G J Z n k w nL lv pc [] := by
  obtain ⟨l, D, cy, aK, aV⟩ := J
  obtain ⟨p, e, R0, s, m, args, below, meth, c, A, Q⟩ := Z
  obtain ⟨hx, hb, hml, hown, hts, hKX, hr, hlk, hA, rfl⟩ := C
  have hK := hKX.1
  intro H locs ls hP hD hS hl
  obtain ⟨w0, rfl, rfl⟩ := E
  subst hw
  exact W.vret hx hb hr (fun t ht hW => ⟨⟨rfl, x, by rw [ht]; exact hP, hD⟩, hS.F ht⟩) hS.2.2 hd hlk
theorem g_vretX (C : Cx J Z cc nL own (none) R) (E : EzX J Z n k 0 none wf) (x : ι) (hw : wf x = w) (hd : decode cc pc = .ok (.return_, 1)) : G J Z n k w nL lv pc [] := by
  obtain ⟨l, D, cy, aK, aV⟩ := J
  obtain ⟨p, e, R0, s, m, args, below, meth, c, A, Q⟩ := Z
  obtain ⟨hx, hb, hml, hown, hts, hKX, hr, hlk, hA, rfl⟩ := C
  have hK := hKX.1
  intro H locs ls hP hD hS hl
  obtain ⟨hnh, w0, rfl, rfl⟩ := E
  subst hw
  exact vx_ret (W.vret hx hb hr (fun t ht hW => ⟨⟨rfl, rfl, x, by rw [ht]; exact hP, hD⟩, hS.F ht⟩) hS.2.2 hd hlk)
theorem gt_out {ex : Nat} {r : Option Value} (C : Cx J Z cc nL own rt R) (hex : ex ≠ 0) (E : EzX J Z n k ex r wf) (x : ι) (hw : wf x = w) : GT J Z n k w nL lv pc st (excN ex) := by
  obtain ⟨l, D, cy, aK, aV⟩ := J
  obtain ⟨p, e, R0, s, m, args, below, meth, c, A, Q⟩ := Z
  obtain ⟨hx, hb, hml, hown, hts, hKX, hr, hlk, hA, rfl⟩ := C
  obtain ⟨hnh, w0, rfl, rfl⟩ := E
  subst hw
  intro H locs ls q ce hP hD hS hl hq hv hcl
  exact vx_out (fun z hz => (hnh z hz).elim) hlk hq hv hcl (fun t ht hW => ⟨⟨hex, rfl, x, by rw [ht]; exact hP, hD⟩, hS.F ht⟩) hS.2.2 (Nat.le_refl _) (Nat.le_refl _)
theorem g_objInit (C : Cx J Z cc nL own rt R) {idx a : Nat} (hl1 : Cond.methodLink own idx objectInit ∈ LT) (hl2 : Cond.instanceMethod objectInit ∈ LT) (hl3 : Cond.code objectInit ⟨#[0xb1]⟩ 1 none ∈ LT) (hf : 1 ≤ R.frames) (hl0 : (st.map fun v => v.category).sum + 12 ≤ R.locals) (hd : decode cc pc = .ok (.invokespecial idx, 3)) (kk : G J Z n k w nL lv (pc + 3) st) : G J Z n k w nL lv pc (.ref a :: st) := by
  obtain ⟨l, D, cy, aK, aV⟩ := J
  obtain ⟨p, e, R0, s, m, args, below, meth, c, A, Q⟩ := Z
  obtain ⟨hx, hb, hml, hown, hts, hKX, hr, hlk, hA, rfl⟩ := C
  have hK := hKX.1
  intro H locs ls hP hD hS hl
  exact W.objInit hx hb hown (hts _ hl1) (hts _ hl2) (hts _ hl3) rfl (by rw [hml]; exact hl.1) rfl hd hf (by simpa [JFrame.monitorRoom] using hl0) (kk H locs ls hP hD hS hl)
theorem g_new (C : Cx J Z cc nL own rt R) {Cn : String} {T : u_T} {N ci idx : Nat} {ty : Nat → FieldType} {fs : List Value} (hF : FOK Cn T N ty) (hcl : Cond.classLink own idx Cn ∈ LT) (hin : Cond.instantiable Cn N ∈ LT) (hini : Cond.initialized Cn ∈ LT) (hc : vwCl[ci]? = some (Cn, T, N)) (hfs : ∀ j, j < N → defaultValue (ty j) = vp_V fs j) (h1 : n + 1 ≤ R.cells) (h2 : k + N ≤ R.slots) (hd : decode cc pc = .ok (.new idx, 3)) (kk : ∀ q : Nat, G J Z (n + 1) (k + N) (w ++ [(q, .inr (ci, fs))]) nL lv (pc + 3) (.ref q :: st)) : G J Z n k w nL lv pc st := by
  obtain ⟨l, D, cy, aK, aV⟩ := J
  obtain ⟨p, e, R0, s, m, args, below, meth, c, A, Q⟩ := Z
  obtain ⟨hx, hb, hml, hown, hts, hKX, hr, hlk, hA, rfl⟩ := C
  have hK := hKX.1
  intro H locs ls hP hD hS hl
  exact va_new hx hb hts hF.1 ty hF.2.1 hown (hts _ hcl) (hts _ hin) (hts _ hini) hK hP hD hS hA hc hfs h1 h2 hd (fun q H hP hD hS => kk q H locs ls hP hD hS hl)
theorem g_newa_int (C : Cx J Z cc nL own rt R) {x : Int32} {N : Nat} (harr : Cond.arrayClass .int ∈ LT) (hx0 : ¬ x < 0) (hN : x.toNatClampNeg = N) (hby : N * componentBytes .int ≤ 536870912) (h1 : n + 1 ≤ R.cells) (h2 : k + N ≤ R.slots) (hd : decode cc pc = .ok (.newarray .int, 2)) (kk : ∀ q : Nat, G J Z (n + 1) (k + N) (w ++ [(q, .inl (J.2.2.1 1, N, .inl (fun _ => 0)))]) nL lv (pc + 2) (.ref q :: st)) : G J Z n k w nL lv pc (.int x :: st) := by
  obtain ⟨l, D, cy, aK, aV⟩ := J
  obtain ⟨p, e, R0, s, m, args, below, meth, c, A, Q⟩ := Z
  obtain ⟨hx, hb, hml, hown, hts, hKX, hr, hlk, hA, rfl⟩ := C
  have hK := hKX.1
  intro H locs ls hP hD hS hl
  refine va_newaK (atype := .int) hx hb (hts _ harr) rfl hd rfl hx0 hN hby h1 h2 rfl (fun H1 cA e1 z1 o1 hAr hNm => ?_)
  have hcA : cA = cy 1 := Option.some.inj (hNm.symm.trans (hK.2 1 _ rfl).2)
  subst hcA
  have hkp : ∀ (k : Nat) (x : Nat × va_E), w[k]? = some x → H1[x.1]? = H[x.1]? := fun k x hx => o1 x.1 ((hP k x hx).lt)
  refine kk H.size H1 locs ls ((hP.kept hkp).app (fun k x hx => ?_)) (hD.push hP rfl (hA _ hS.1)) ⟨Nat.le_trans hS.1 (by omega), fun x h1 h2 => (o1 x (Nat.lt_of_lt_of_le h1 hS.1)).trans (hS.2.1 x h1 h2), hS.2.2⟩ hl
  have hz : k < 1 := (List.getElem?_eq_some_iff.mp hx).1
  rw [show k = 0 by omega] at hx
  cases hx
  show H1[H.size]? = some (vp_cell _ _)
  exact e1
theorem g_newa_byte (C : Cx J Z cc nL own rt R) {x : Int32} {N : Nat} (harr : Cond.arrayClass .byte ∈ LT) (hx0 : ¬ x < 0) (hN : x.toNatClampNeg = N) (hby : N * componentBytes .byte ≤ 536870912) (h1 : n + 1 ≤ R.cells) (h2 : k + N ≤ R.slots) (hd : decode cc pc = .ok (.newarray .byte, 2)) (kk : ∀ q : Nat, G J Z (n + 1) (k + N) (w ++ [(q, .inl (J.2.2.1 0, N, .inl (fun _ => 0)))]) nL lv (pc + 2) (.ref q :: st)) : G J Z n k w nL lv pc (.int x :: st) := by
  obtain ⟨l, D, cy, aK, aV⟩ := J
  obtain ⟨p, e, R0, s, m, args, below, meth, c, A, Q⟩ := Z
  obtain ⟨hx, hb, hml, hown, hts, hKX, hr, hlk, hA, rfl⟩ := C
  have hK := hKX.1
  intro H locs ls hP hD hS hl
  refine va_newaK (atype := .byte) hx hb (hts _ harr) rfl hd rfl hx0 hN hby h1 h2 rfl (fun H1 cA e1 z1 o1 hAr hNm => ?_)
  have hcA : cA = cy 0 := Option.some.inj (hNm.symm.trans (hK.2 0 _ rfl).2)
  subst hcA
  have hkp : ∀ (k : Nat) (x : Nat × va_E), w[k]? = some x → H1[x.1]? = H[x.1]? := fun k x hx => o1 x.1 ((hP k x hx).lt)
  refine kk H.size H1 locs ls ((hP.kept hkp).app (fun k x hx => ?_)) (hD.push hP rfl (hA _ hS.1)) ⟨Nat.le_trans hS.1 (by omega), fun x h1 h2 => (o1 x (Nat.lt_of_lt_of_le h1 hS.1)).trans (hS.2.1 x h1 h2), hS.2.2⟩ hl
  have hz : k < 1 := (List.getElem?_eq_some_iff.mp hx).1
  rw [show k = 0 by omega] at hx
  cases hx
  show H1[H.size]? = some (vp_cell _ _)
  exact e1
theorem g_newa_long (C : Cx J Z cc nL own rt R) {x : Int32} {N : Nat} (harr : Cond.arrayClass .long ∈ LT) (hx0 : ¬ x < 0) (hN : x.toNatClampNeg = N) (hby : N * componentBytes .long ≤ 536870912) (h1 : n + 1 ≤ R.cells) (h2 : k + N ≤ R.slots) (hd : decode cc pc = .ok (.newarray .long, 2)) (kk : ∀ q : Nat, G J Z (n + 1) (k + N) (w ++ [(q, .inl (J.2.2.1 2, N, .inr (.inl (fun _ => 0))))]) nL lv (pc + 2) (.ref q :: st)) : G J Z n k w nL lv pc (.int x :: st) := by
  obtain ⟨l, D, cy, aK, aV⟩ := J
  obtain ⟨p, e, R0, s, m, args, below, meth, c, A, Q⟩ := Z
  obtain ⟨hx, hb, hml, hown, hts, hKX, hr, hlk, hA, rfl⟩ := C
  have hK := hKX.1
  intro H locs ls hP hD hS hl
  refine va_newaK (atype := .long) hx hb (hts _ harr) rfl hd rfl hx0 hN hby h1 h2 rfl (fun H1 cA e1 z1 o1 hAr hNm => ?_)
  have hcA : cA = cy 2 := Option.some.inj (hNm.symm.trans (hK.2 2 _ rfl).2)
  subst hcA
  have hkp : ∀ (k : Nat) (x : Nat × va_E), w[k]? = some x → H1[x.1]? = H[x.1]? := fun k x hx => o1 x.1 ((hP k x hx).lt)
  refine kk H.size H1 locs ls ((hP.kept hkp).app (fun k x hx => ?_)) (hD.push hP rfl (hA _ hS.1)) ⟨Nat.le_trans hS.1 (by omega), fun x h1 h2 => (o1 x (Nat.lt_of_lt_of_le h1 hS.1)).trans (hS.2.1 x h1 h2), hS.2.2⟩ hl
  have hz : k < 1 := (List.getElem?_eq_some_iff.mp hx).1
  rw [show k = 0 by omega] at hx
  cases hx
  show H1[H.size]? = some (vp_cell _ _)
  exact e1
theorem g_putF (C : Cx J Z cc nL own rt R) (hnm : Z.2.2.2.2.2.2.2.1.name = "<init>") {Cn : String} {T : u_T} {N ci idx a : Nat} {ty : Nat → FieldType} {fs : List Value} {v : Value} (hF : FOK Cn T N ty) (q0 : Nat) (he : w[q0]? = some (a, .inr (ci, fs))) (hc : vwCl[ci]? = some (Cn, T, N)) (j : Nat) (hj : j < N) (hfl : Cond.fieldLink own idx (T j).1 (T j).2.1 (T j).2.2.1 ∈ LT) (hfin : (T j).2.2.2 = true) (hdc : (T j).1 = own) (hn : narrow (ty j) v = v) (hfit : fits (ty j) v = true) (hl0 : j < fs.length) (hd : decode cc pc = .ok (.putfield idx, 3)) (hw : w.set q0 (a, .inr (ci, fs.set j v)) = w') (kk : G J Z n k w' nL lv (pc + 3) st) : G J Z n k w nL lv pc (v :: .ref a :: st) := by
  obtain ⟨l, D, cy, aK, aV⟩ := J
  obtain ⟨p, e, R0, s, m, args, below, meth, c, A, Q⟩ := Z
  obtain ⟨hx, hb, hml, hown, hts, hKX, hr, hlk, hA, rfl⟩ := C
  have hK := hKX.1
  intro H locs ls hP hD hS hl
  exact va_putF hx hb hts hF.1 ty hF.2.1 hF.2.2 hown hK hP hD hS q0 he hc j hj (hts _ hfl) (fun _ h => h) hfin hnm hdc (hF.2.1 j hj) hn hfit hl0 hd (fun H locs hP hD hS => kk H locs ls (hw ▸ hP) (hw ▸ hD) hS hl)
theorem g_callIN (C : Cx J Z cc nL own rt R) {y : MethodName} {ccy : ByteArray} {nLy nA : Nat} {rty : Option FieldType} {Ry : Room} {b : Nat} {As : List Value} {wc : va_W} {wcf : ι → va_W} {r : Option Value} {idx : Nat} (M : MtN J y ccy nLy rty Ry (.ref b :: As) wc r wcf) (hsub : ∀ (D : va_G) (A : Nat → Prop) (H : Heap), va_P D vwCl w H → va_D A w → va_P D vwCl wc H ∧ va_D A wc) (S : ∀ x, Sub w wc (wcf x) (wf x)) (hrt : rty = none) (hl1 : Cond.methodLink own idx y ∈ LT) (hl2 : Cond.instanceMethod y ∈ LT) (hl4 : Cond.initialized y.cls ∈ LT) (hy1 : y.name = "<init>") (hyC : y.cls ≠ "java/lang/invoke/MethodHandle" ∧ y.cls ≠ "java/lang/invoke/VarHandle" ∧ (parseMethodDescriptor y.desc).map (fun d => d.parameters.length) = some nA) (hcd : Cond.code y ccy nLy rty ∈ LT) (hnA : As.length = nA) (hr1 : Ry.frames + 1 ≤ R.frames) (hr2 : 8 + (nLy + 11) + Ry.locals ≤ R.locals) (hr3 : n + Ry.cells ≤ R.cells) (hr4 : k + Ry.slots ≤ R.slots) (hst : (st.map fun v => v.category).sum ≤ 8) (hd : decode cc pc = .ok (.invokespecial idx, 3)) (kk : ∀ x, G J Z (n + Ry.cells) (k + Ry.slots) (wf x) nL lv (pc + 3) (r.toList ++ st)) : G J Z n k w nL lv pc (As.reverse ++ .ref b :: st) := by
  obtain ⟨l, D, cy, aK, aV⟩ := J
  obtain ⟨p, e, R0, s, m, args, below, meth, c, A, Q⟩ := Z
  obtain ⟨hx, hb, hml, hown, hts, hKX, hr, hlk, hA, rfl⟩ := C
  have hK := hKX.1
  intro H locs ls hP hD hS hl
  obtain ⟨hPc, hDc0⟩ : va_P D vwCl wc H ∧ va_D A wc := hsub D A H hP hD
  have hFc : ∀ q, va_A wc H.size q → A q := fun q h => by
    rcases h with ⟨k2, e2, h⟩ | h
    · exact hDc0.2 k2 _ h
    · exact hA q (Nat.le_trans hS.1 h)
  have hDc : va_D (fun _ => True) wc := ⟨hDc0.1, fun _ _ _ => trivial⟩
  have hKc : KX (l, D, cy, aK, aV) (va_A wc H.size) s H := (hKX.kept (fun a h1 h2 => hS.2.1 a h1 h2)).narrow hFc
  have hcw := LT_in (ws := Cond.code y ccy nLy rty :: LT) (fun w0 h0 => by rcases List.mem_cons.mp h0 with rfl | h0; exact hcd; exact h0)
  intro T hT X
  obtain ⟨v, st₀, t, T', L, h0, X', hL, e1, e2, ⟨⟨hv, x, hP1, hD1⟩, hz, hk1⟩, sg⟩ := va_runI (g := F0 m pc ls (As.reverse ++ .ref b :: st)) (As := As) (rest := st) ⟨hx, hb, hml, hown, hts⟩ (hrt ▸ M H.size) (cwI nA hts (hrt ▸ hcw) rfl rfl rfl (hts _ hl4) (hts _ hl1) (hts _ hl2) hy1 hyC ⟨hr1, hr2⟩) ⟨fun a U g mk q => by obtain ⟨q0, q1, qP, qD, qK⟩ := q; exact ⟨q0, q1, qP, qD, qK.calling g mk a⟩, fun U hU hW => ⟨rfl, by rw [hU], by rw [hU]; exact hPc, hDc, by rw [hU]; exact hKc.warm hW⟩⟩ rfl hnA hl.1 rfl (by simpa [JFrame.monitorRoom] using hst) hd ⟨hr3, hr4⟩ T hT X
  cases hv
  rw [h0] at hz hk1
  have hS' : va_S A s.heap T'.heap (locs ++ L) := ⟨Nat.le_trans hS.1 (by rw [e1]; exact hz), fun q q1 q2 => by rw [e1, hk1 q (Nat.lt_of_lt_of_le q1 hS.1) (fun z => q2 (hFc q z))]; exact hS.2.1 q q1 q2, fun q hq => by
    rcases List.mem_append.mp hq with h | h
    · exact hS.2.2 q h
    · exact hFc _ (hL q h)⟩
  obtain ⟨hP2, hD2⟩ := (S x D A H hP hD).2 T'.heap (fun q q1 q2 => by rw [e1]; exact hk1 q q1 q2) hFc (by rw [e1]; exact hP1) hD1
  obtain ⟨t2, a1, b1⟩ := kk x T'.heap (locs ++ L) ls hP2 hD2 hS' hl T' rfl X'
  exact ⟨t2, sg t2 a1, b1⟩
theorem g_callINN (C : Cx J Z cc nL own rt R) {y : MethodName} {ccy : ByteArray} {nLy nA : Nat} {rty : Option FieldType} {Ry : Room} {b : Nat} {As : List Value} {wc : va_W} {wcf : ι → va_W} {r : Option Value} {idx : Nat} (M : MtN J y ccy nLy rty Ry (.ref b :: As) wc r wcf) (hsub : ∀ (D : va_G) (A : Nat → Prop) (H : Heap), va_P D vwCl w H → va_D A w → va_P D vwCl wc H ∧ va_D A wc) (S : ∀ x, Sub w wc (wcf x) (wf x)) (hrt : rty = none) (hnst : Cond.methodLinkNest own idx y "LetterScarecrow" ∈ nestW) (hl2 : Cond.instanceMethod y ∈ LT) (hl4 : Cond.initialized y.cls ∈ LT) (hy1 : y.name = "<init>") (hyC : y.cls ≠ "java/lang/invoke/MethodHandle" ∧ y.cls ≠ "java/lang/invoke/VarHandle" ∧ (parseMethodDescriptor y.desc).map (fun d => d.parameters.length) = some nA) (hcd : Cond.code y ccy nLy rty ∈ LT) (hnA : As.length = nA) (hr1 : Ry.frames + 1 ≤ R.frames) (hr2 : 8 + (nLy + 11) + Ry.locals ≤ R.locals) (hr3 : n + Ry.cells ≤ R.cells) (hr4 : k + Ry.slots ≤ R.slots) (hst : (st.map fun v => v.category).sum ≤ 8) (hd : decode cc pc = .ok (.invokespecial idx, 3)) (kk : ∀ x, G J Z (n + Ry.cells) (k + Ry.slots) (wf x) nL lv (pc + 3) (r.toList ++ st)) : G J Z n k w nL lv pc (As.reverse ++ .ref b :: st) := by
  obtain ⟨l, D, cy, aK, aV⟩ := J
  obtain ⟨p, e, R0, s, m, args, below, meth, c, A, Q⟩ := Z
  obtain ⟨hx, hb, hml, hown, hts, hKX, hr, hlk, hA, rfl⟩ := C
  have hK := hKX.1
  intro H locs ls hP hD hS hl
  obtain ⟨hPc, hDc0⟩ : va_P D vwCl wc H ∧ va_D A wc := hsub D A H hP hD
  have hFc : ∀ q, va_A wc H.size q → A q := fun q h => by
    rcases h with ⟨k2, e2, h⟩ | h
    · exact hDc0.2 k2 _ h
    · exact hA q (Nat.le_trans hS.1 h)
  have hDc : va_D (fun _ => True) wc := ⟨hDc0.1, fun _ _ _ => trivial⟩
  have hKc : KX (l, D, cy, aK, aV) (va_A wc H.size) s H := (hKX.kept (fun a h1 h2 => hS.2.1 a h1 h2)).narrow hFc
  have hcw := LT_in (ws := Cond.code y ccy nLy rty :: LT) (fun w0 h0 => by rcases List.mem_cons.mp h0 with rfl | h0; exact hcd; exact h0)
  intro T hT X
  obtain ⟨v, st₀, t, T', L, h0, X', hL, e1, e2, ⟨⟨hv, x, hP1, hD1⟩, hz, hk1⟩, sg⟩ := va_runIN (g := F0 m pc ls (As.reverse ++ .ref b :: st)) (As := As) (rest := st) ⟨hx, hb, hml, hown, hts⟩ (hrt ▸ M H.size) ⟨va_cnB nA hts (hrt ▸ hcw) rfl rfl rfl (hKX.2.1 _ hnst) (hts _ hl4) hyC ⟨hr1, hr2⟩, hy1, hts _ hl2⟩ ⟨fun a U g mk q => by obtain ⟨q0, q1, qP, qD, qK⟩ := q; exact ⟨q0, q1, qP, qD, qK.calling g mk a⟩, fun U hU hW => ⟨rfl, by rw [hU], by rw [hU]; exact hPc, hDc, by rw [hU]; exact hKc.warm hW⟩⟩ rfl hnA hl.1 rfl (by simpa [JFrame.monitorRoom] using hst) hd ⟨hr3, hr4⟩ T hT X
  cases hv
  rw [h0] at hz hk1
  have hS' : va_S A s.heap T'.heap (locs ++ L) := ⟨Nat.le_trans hS.1 (by rw [e1]; exact hz), fun q q1 q2 => by rw [e1, hk1 q (Nat.lt_of_lt_of_le q1 hS.1) (fun z => q2 (hFc q z))]; exact hS.2.1 q q1 q2, fun q hq => by
    rcases List.mem_append.mp hq with h | h
    · exact hS.2.2 q h
    · exact hFc _ (hL q h)⟩
  obtain ⟨hP2, hD2⟩ := (S x D A H hP hD).2 T'.heap (fun q q1 q2 => by rw [e1]; exact hk1 q q1 q2) hFc (by rw [e1]; exact hP1) hD1
  obtain ⟨t2, a1, b1⟩ := kk x T'.heap (locs ++ L) ls hP2 hD2 hS' hl T' rfl X'
  exact ⟨t2, sg t2 a1, b1⟩
theorem g_callVN (C : Cx J Z cc nL own rt R) {y : MethodName} {ccy : ByteArray} {nLy nA : Nat} {rty : Option FieldType} {Ry : Room} {b : Nat} {As : List Value} {wc : va_W} {wcf : ι → va_W} {r : Option Value} {idx : Nat} {Cn : String} {T : u_T} {N ci q0 : Nat} {fs : List Value} (hci : vwCl[ci]? = some (Cn, T, N)) (hrc : w[q0]? = some (b, .inr (ci, fs))) (M : MtN J y ccy nLy rty Ry (.ref b :: As) wc r wcf) (hsub : ∀ (D : va_G) (A : Nat → Prop) (H : Heap), va_P D vwCl w H → va_D A w → va_P D vwCl wc H ∧ va_D A wc) (S : ∀ x, Sub w wc (wcf x) (wf x)) (hl1 : Cond.methodLink own idx y ∈ LT) (hl2 : Cond.instanceMethod y ∈ LT) (hl3 : Cond.selects Cn y y ∈ LT) (hl4 : Cond.initialized Cn ∈ LT) (hyC : y.cls = Cn ∧ y.cls ≠ "java/lang/invoke/MethodHandle" ∧ y.cls ≠ "java/lang/invoke/VarHandle" ∧ (parseMethodDescriptor y.desc).map (fun d => d.parameters.length) = some nA) (hcd : Cond.code y ccy nLy rty ∈ LT) (hnA : As.length = nA) (hr1 : Ry.frames + 1 ≤ R.frames) (hr2 : 8 + (nLy + 11) + Ry.locals ≤ R.locals) (hr3 : n + Ry.cells ≤ R.cells) (hr4 : k + Ry.slots ≤ R.slots) (hst : (st.map fun v => v.category).sum ≤ 8) (hd : decode cc pc = .ok (.invokevirtual idx, 3)) (kk : ∀ x, G J Z (n + Ry.cells) (k + Ry.slots) (wf x) nL lv (pc + 3) (r.toList ++ st)) : G J Z n k w nL lv pc (As.reverse ++ .ref b :: st) := by
  obtain ⟨l, D, cy, aK, aV⟩ := J
  obtain ⟨p, e, R0, s, m, args, below, meth, c, A, Q⟩ := Z
  obtain ⟨hx, hb, hml, hown, hts, hKX, hr, hlk, hA, rfl⟩ := C
  have hK := hKX.1
  intro H locs ls hP hD hS hl
  obtain ⟨hPc, hDc0⟩ : va_P D vwCl wc H ∧ va_D A wc := hsub D A H hP hD
  have hFc : ∀ q, va_A wc H.size q → A q := fun q h => by
    rcases h with ⟨k2, e2, h⟩ | h
    · exact hDc0.2 k2 _ h
    · exact hA q (Nat.le_trans hS.1 h)
  have hDc : va_D (fun _ => True) wc := ⟨hDc0.1, fun _ _ _ => trivial⟩
  have hKc : KX (l, D, cy, aK, aV) (va_A wc H.size) s H := (hKX.kept (fun a h1 h2 => hS.2.1 a h1 h2)).narrow hFc
  have hcw := LT_in (ws := Cond.code y ccy nLy rty :: LT) (fun w0 h0 => by rcases List.mem_cons.mp h0 with rfl | h0; exact hcd; exact h0)
  intro T hT X
  obtain ⟨v, st₀, t, T', L, h0, X', hL, e1, e2, ⟨⟨hv, x, hP1, hD1⟩, hz, hk1⟩, sg⟩ := va_runV (g := F0 m pc ls (As.reverse ++ .ref b :: st)) (As := As) (rest := st) ⟨hx, hb, hml, hown, hts⟩ (M H.size) (cwV nA hts (LT_V hl1 hl2 hl3 hl4 hcd) rfl rfl rfl hyC ⟨hr1, hr2⟩) ⟨fun a U g mk q => by obtain ⟨q0, q1, qP, qD, qK⟩ := q; exact ⟨q0, q1, qP, qD, qK.calling g mk a⟩, va_recv hK hP (ci := ci) (q0 := q0) hci hrc, fun U hU hW => ⟨rfl, by rw [hU], by rw [hU]; exact hPc, hDc, by rw [hU]; exact hKc.warm hW⟩⟩ rfl hnA hl.1 rfl (by simpa [JFrame.monitorRoom] using hst) hd ⟨hr3, hr4⟩ T hT X
  cases hv
  rw [h0] at hz hk1
  have hS' : va_S A s.heap T'.heap (locs ++ L) := ⟨Nat.le_trans hS.1 (by rw [e1]; exact hz), fun q q1 q2 => by rw [e1, hk1 q (Nat.lt_of_lt_of_le q1 hS.1) (fun z => q2 (hFc q z))]; exact hS.2.1 q q1 q2, fun q hq => by
    rcases List.mem_append.mp hq with h | h
    · exact hS.2.2 q h
    · exact hFc _ (hL q h)⟩
  obtain ⟨hP2, hD2⟩ := (S x D A H hP hD).2 T'.heap (fun q q1 q2 => by rw [e1]; exact hk1 q q1 q2) hFc (by rw [e1]; exact hP1) hD1
  obtain ⟨t2, a1, b1⟩ := kk x T'.heap (locs ++ L) ls hP2 hD2 hS' hl T' rfl X'
  exact ⟨t2, sg t2 a1, b1⟩
theorem g_xcallV (C : Cx J Z cc nL own rt R) {y : MethodName} {ccy : ByteArray} {nLy nA : Nat} {rty : Option FieldType} {Ry : Room} {b : Nat} {As : List Value} {wc : va_W} {wcf : ι → va_W} {r : Option Value} {idx : Nat} {ex : Nat} {Cn : String} {T : u_T} {N ci q0 : Nat} {fs : List Value} (hci : vwCl[ci]? = some (Cn, T, N)) (hrc : w[q0]? = some (b, .inr (ci, fs))) (M : MtX J y ccy nLy rty Ry (.ref b :: As) wc ex r wcf) (hsub : ∀ (D : va_G) (A : Nat → Prop) (H : Heap), va_P D vwCl w H → va_D A w → va_P D vwCl wc H ∧ va_D A wc) (S : ∀ x, Sub w wc (wcf x) (wf x)) (hl1 : Cond.methodLink own idx y ∈ LT) (hl2 : Cond.instanceMethod y ∈ LT) (hl3 : Cond.selects Cn y y ∈ LT) (hl4 : Cond.initialized Cn ∈ LT) (hyC : y.cls = Cn ∧ y.cls ≠ "java/lang/invoke/MethodHandle" ∧ y.cls ≠ "java/lang/invoke/VarHandle" ∧ (parseMethodDescriptor y.desc).map (fun d => d.parameters.length) = some nA) (hcd : Cond.code y ccy nLy rty ∈ LT) (hnA : As.length = nA) (hr1 : Ry.frames + 1 ≤ R.frames) (hr2 : 8 + (nLy + 11) + Ry.locals ≤ R.locals) (hr3 : n + Ry.cells ≤ R.cells) (hr4 : k + Ry.slots ≤ R.slots) (hst : (st.map fun v => v.category).sum ≤ 8) (hd : decode cc pc = .ok (.invokevirtual idx, 3))
    (kk : ex = 0 → ∀ x, G J Z (n + Ry.cells) (k + Ry.slots) (wf x) nL lv (pc + 3) (r.toList ++ st)) (kx : ex ≠ 0 → ∀ x, GT J Z (n + Ry.cells) (k + Ry.slots) (wf x) nL lv pc st (excN ex)) : G J Z n k w nL lv pc (As.reverse ++ .ref b :: st) := by
  obtain ⟨l, D, cy, aK, aV⟩ := J
  obtain ⟨p, e, R0, s, m, args, below, meth, c, A, Q⟩ := Z
  obtain ⟨hx, hb, hml, hown, hts, hKX, hr, hlk, hA, rfl⟩ := C
  have hK := hKX.1
  intro H locs ls hP hD hS hl
  obtain ⟨hPc, hDc0⟩ : va_P D vwCl wc H ∧ va_D A wc := hsub D A H hP hD
  have hFc : ∀ q, va_A wc H.size q → A q := fun q h => by
    rcases h with ⟨k2, e2, h⟩ | h
    · exact hDc0.2 k2 _ h
    · exact hA q (Nat.le_trans hS.1 h)
  have hDc : va_D (fun _ => True) wc := ⟨hDc0.1, fun _ _ _ => trivial⟩
  have hKc : KX (l, D, cy, aK, aV) (va_A wc H.size) s H := (hKX.kept (fun a h1 h2 => hS.2.1 a h1 h2)).narrow hFc
  have hcw := LT_in (ws := Cond.code y ccy nLy rty :: LT) (fun w0 h0 => by rcases List.mem_cons.mp h0 with rfl | h0; exact hcd; exact h0)
  intro T hT X
  rcases vx_runV (g := F0 m pc ls (As.reverse ++ .ref b :: st)) (As := As) (rest := st) ⟨hx, hb, hml, hown, hts⟩ (M H.size) (cwV nA hts (LT_V hl1 hl2 hl3 hl4 hcd) rfl rfl rfl hyC ⟨hr1, hr2⟩) ⟨fun a U g mk q => by obtain ⟨q0, q1, qP, qD, qK⟩ := q; exact ⟨q0, q1, qP, qD, qK.calling g mk a⟩, va_recv hK hP (ci := ci) (q0 := q0) hci hrc, fun U hU hW => ⟨rfl, by rw [hU], by rw [hU]; exact hPc, hDc, by rw [hU]; exact hKc.warm hW⟩⟩ rfl hnA hl.1 rfl (by simpa [JFrame.monitorRoom] using hst) hd ⟨hr3, hr4⟩ T hT X with ⟨v, st₀, t, T', L, h0, X', hL, e1, e2, ⟨⟨hex, hv, x, hP1, hD1⟩, hz, hk1⟩, sg⟩ | ⟨q9, st₀, t, T', L, E9, ce, h0, X', hL, e1, e2, ⟨⟨hex, hE, x, hP1, hD1⟩, hz, hk1⟩, hce, hcv, hcl, sg⟩
  · cases hv
    rw [h0] at hz hk1
    have hS' : va_S A s.heap T'.heap (locs ++ L) := ⟨Nat.le_trans hS.1 (by rw [e1]; exact hz), fun q q1 q2 => by rw [e1, hk1 q (Nat.lt_of_lt_of_le q1 hS.1) (fun z => q2 (hFc q z))]; exact hS.2.1 q q1 q2, fun q hq => by
      rcases List.mem_append.mp hq with h | h
      · exact hS.2.2 q h
      · exact hFc _ (hL q h)⟩
    obtain ⟨hP2, hD2⟩ := (S x D A H hP hD).2 T'.heap (fun q q1 q2 => by rw [e1]; exact hk1 q q1 q2) hFc (by rw [e1]; exact hP1) hD1
    obtain ⟨t2, a1, b1⟩ := kk hex x T'.heap (locs ++ L) ls hP2 hD2 hS' hl T' rfl X'
    exact ⟨t2, sg t2 a1, b1⟩
  · rw [h0] at hz hk1
    subst hE
    have hS' : va_S A s.heap T'.heap (locs ++ L) := ⟨Nat.le_trans hS.1 (by rw [e1]; exact hz), fun q q1 q2 => by rw [e1, hk1 q (Nat.lt_of_lt_of_le q1 hS.1) (fun z => q2 (hFc q z))]; exact hS.2.1 q q1 q2, fun q hq => by
      rcases List.mem_append.mp hq with h | h
      · exact hS.2.2 q h
      · exact hFc _ (hL q h)⟩
    obtain ⟨hP2, hD2⟩ := (S x D A H hP hD).2 T'.heap (fun q q1 q2 => by rw [e1]; exact hk1 q q1 q2) hFc (by rw [e1]; exact hP1) hD1
    obtain ⟨t2, a1, b1⟩ := kx hex x T'.heap (locs ++ L) ls q9 ce hP2 hD2 hS' hl (by rw [e1]; exact hce) hcv hcl T' rfl X'
    exact ⟨t2, sg.trans a1, b1⟩
end GX
