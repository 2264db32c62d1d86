abbrev Jt : Type := Launch × va_G × (Nat → ClassId) × (Nat → Nat) × (Nat → Nat)
abbrev Zt : Type := Program × Env × Room × State × MethodId × Array Value × List Frame × Method × Code × (Nat → Prop) × (State → Prop)
def TY (cy : Nat → ClassId) : List (ClassId × FieldType) := [(cy 0, .byte), (cy 1, .int), (cy 2, .long), (cy 3, .object "LetterScarecrow$Saved")]
def nestW : List Cond := [.methodLinkNest "LetterScarecrow" 9 ⟨"LetterScarecrow$Tape", "<init>", "()V"⟩ "LetterScarecrow", .methodLinkNest "LetterScarecrow" 18 ⟨"LetterScarecrow$State", "<init>", "()V"⟩ "LetterScarecrow", .methodLinkNest "LetterScarecrow" 28 ⟨"LetterScarecrow$Work", "<init>", "()V"⟩ "LetterScarecrow", .methodLinkNest "LetterScarecrow" 35 ⟨"LetterScarecrow$Summer", "<init>", "()V"⟩ "LetterScarecrow", .methodLinkNest "LetterScarecrow" 42 ⟨"LetterScarecrow$Stuffing", "<init>", "()V"⟩ "LetterScarecrow", .methodLinkNest "LetterScarecrow" 59 ⟨"LetterScarecrow$Plan", "<init>", "()V"⟩ "LetterScarecrow", .methodLinkNest "LetterScarecrow$Stuffing" 60 ⟨"LetterScarecrow", "has", "(II)Z"⟩ "LetterScarecrow", .methodLinkNest "LetterScarecrow$Saved" 9 ⟨"LetterScarecrow$State", "<init>", "()V"⟩ "LetterScarecrow", .methodLinkNest "LetterScarecrow$State" 60 ⟨"LetterScarecrow", "has", "(II)Z"⟩ "LetterScarecrow"]
def cwD : List MethodName := [⟨"java/lang/RuntimeException", "<init>", "()V"⟩, ⟨"java/lang/Exception", "<init>", "()V"⟩, ⟨"java/lang/Throwable", "<init>", "()V"⟩]
def cwC : List String := ["java/lang/IllegalArgumentException", "java/util/NoSuchElementException"]
/-- words of the tables of another kind: for throws, catches, the array of saved states -/
def CW (U : State) : Prop := (∀ y ∈ cwD, va_Nw (.declares y) U) ∧ (∀ E ∈ cwC, va_Nw (.castable E E) U) ∧ va_Nc "java/lang/IllegalArgumentException" "java/util/NoSuchElementException" U ∧ va_AO "LetterScarecrow$Saved" U
theorem CW.warm {s U : State} (hW : s.WarmedH U.vm) (h : CW s) : CW U := ⟨fun y hy => va_Nw.warmD hW (h.1 y hy), fun E hE => va_Nw.warmC hW (h.2.1 E hE), va_Nc.moved hW.alike h.2.2.1, va_AO.moved hW.alike h.2.2.2⟩
theorem CW.same {s U : State} (hv : s.vm = U.vm) (h : CW s) : CW U := ⟨fun y hy => va_Nw.same rfl hv (h.1 y hy), fun E hE => va_Nw.same rfl hv (h.2.1 E hE), va_Nc.moved (by rw [← hv]; exact Vm.Alike.refl _) h.2.2.1, va_AO.moved (by rw [← hv]; exact Vm.Alike.refl _) h.2.2.2⟩
def NW (U : State) : Prop := (∀ w ∈ nestW, va_Nw w U) ∧ CW U
theorem nestW_form {w : Cond} (h : w ∈ nestW) : ∃ a i x b, w = .methodLinkNest a i x b := by
  simp only [nestW, List.mem_cons, List.not_mem_nil, or_false] at h
  rcases h with h | h | h | h | h | h | h | h | h <;> exact ⟨_, _, _, _, h⟩
theorem NW.warm {s U : State} (hW : s.WarmedH U.vm) (h : NW s) : NW U := ⟨fun w hw => by
  obtain ⟨a, i, x, b, rfl⟩ := nestW_form hw
  exact va_Nw.warmM hW (h.1 _ hw), h.2.warm hW⟩
theorem NW.same {s U : State} (hv : s.vm = U.vm) (h : NW s) : NW U := ⟨fun w hw => by
  obtain ⟨a, i, x, b, rfl⟩ := nestW_form hw
  exact va_Nw.same rfl hv (h.1 _ hw), h.2.same hv⟩
/-- the string constants, by number: class, entry, text; their bytes -/
def stT : List (String × Nat × String) := [("LetterScarecrow$Plan", 51, "bed"), ("LetterScarecrow$Plan", 60, "letter"), ("LetterScarecrow$Plan", 65, "reader"), ("LetterScarecrow$Law", 63, "least"), ("LetterScarecrow$Law", 68, "most"), ("LetterScarecrow$Law", 81, "rain"), ("LetterScarecrow$Law", 83, "wet"), ("LetterScarecrow$Law", 85, "left"), ("LetterScarecrow$Law", 87, "far"), ("LetterScarecrow$Law", 89, "lies"), ("LetterScarecrow$Law", 91, "year"), ("LetterScarecrow$Law", 93, "letter"), ("LetterScarecrow$Work", 58, "wind"), ("LetterScarecrow$Work", 72, "rain"), ("LetterScarecrow$Work", 74, "tie"), ("LetterScarecrow$Work", 81, "walk"), ("LetterScarecrow$Work", 89, "eat"), ("LetterScarecrow$Work", 91, "year"), ("LetterScarecrow$Work", 93, "again"), ("LetterScarecrowModel", 195, "bed"), ("LetterScarecrowModel", 200, "letter"), ("LetterScarecrowModel", 201, "reader"), ("LetterScarecrowModel", 268, "least"), ("LetterScarecrowModel", 273, "most"), ("LetterScarecrowModel", 256, "rain"), ("LetterScarecrowModel", 258, "wet"), ("LetterScarecrowModel", 260, "left"), ("LetterScarecrowModel", 262, "far"), ("LetterScarecrowModel", 264, "lies"), ("LetterScarecrowModel", 266, "year"), ("LetterScarecrowModel", 288, "wind"), ("LetterScarecrowModel", 290, "tie"), ("LetterScarecrowModel", 292, "walk"), ("LetterScarecrowModel", 294, "eat"), ("LetterScarecrowModel", 296, "again")]
def stB : List (List Int32) := [[98, 101, 100], [108, 101, 116, 116, 101, 114], [114, 101, 97, 100, 101, 114], [108, 101, 97, 115, 116], [109, 111, 115, 116], [114, 97, 105, 110], [119, 101, 116], [108, 101, 102, 116], [102, 97, 114], [108, 105, 101, 115], [121, 101, 97, 114], [108, 101, 116, 116, 101, 114], [119, 105, 110, 100], [114, 97, 105, 110], [116, 105, 101], [119, 97, 108, 107], [101, 97, 116], [121, 101, 97, 114], [97, 103, 97, 105, 110], [98, 101, 100], [108, 101, 116, 116, 101, 114], [114, 101, 97, 100, 101, 114], [108, 101, 97, 115, 116], [109, 111, 115, 116], [114, 97, 105, 110], [119, 101, 116], [108, 101, 102, 116], [102, 97, 114], [108, 105, 101, 115], [121, 101, 97, 114], [119, 105, 110, 100], [116, 105, 101], [119, 97, 108, 107], [101, 97, 116], [97, 103, 97, 105, 110]]
def stL (i : Nat) : Nat := (stB.getD i []).length
def stC (i j : Nat) : Int32 := (stB.getD i []).getD j 0
/-- what stands in the heap for good, outside A: the strings, some statics -/
def SX (aK aV : Nat → Nat) (A : Nat → Prop) (U : State) (H : Heap) : Prop :=
  (∀ i : Nat, i < 35 → va_O "java/lang/String" (aK i) A U H ∧ va_OF "java/lang/String" "coder" "B" (.int 0) (aK i) A U H ∧ va_OF "java/lang/String" "value" "[B" (.ref (aV i)) (aK i) A U H ∧ va_T .byte (aV i) (stL i) (fun j => .int (stC i j)) A U H) ∧ va_Z "java/lang/String" "COMPACT_STRINGS" "Z" (.int 1) A U H ∧ vx_Zq Bundle.tN "UNASSIGNED_STACK" Bundle.steD A U H ∧ vx_Zq Bundle.tN "SUPPRESSED_SENTINEL" Bundle.listD A U H ∧ va_Zq "jdk/internal/util/Preconditions" "SIOOBE_FORMATTER" "Ljava/util/function/BiFunction;" A U H
theorem SX.moved {aK aV : Nat → Nat} {A : Nat → Prop} {u U : State} {H : Heap} (hvm : u.vm.Alike U.vm) (h : SX aK aV A u H) : SX aK aV A U H :=
  ⟨fun i hi => ⟨va_O.moved hvm (h.1 i hi).1, va_OF.moved hvm (h.1 i hi).2.1, va_OF.moved hvm (h.1 i hi).2.2.1, va_T.moved hvm (h.1 i hi).2.2.2⟩, va_Z.moved hvm h.2.1, vx_Zq.moved hvm h.2.2.1, vx_Zq.moved hvm h.2.2.2.1, va_Zq.moved hvm h.2.2.2.2⟩
theorem SX.kept {aK aV : Nat → Nat} {A : Nat → Prop} {U : State} {H H1 : Heap} (h : SX aK aV A U H) (hq : ∀ a : Nat, a < H.size → ¬ A a → H1[a]? = H[a]?) : SX aK aV A U H1 :=
  ⟨fun i hi => ⟨(h.1 i hi).1.kept hq, (h.1 i hi).2.1.kept hq, (h.1 i hi).2.2.1.kept hq, (h.1 i hi).2.2.2.kept hq⟩, h.2.1.kept hq, h.2.2.1.kept hq, h.2.2.2.1.kept hq, h.2.2.2.2.kept hq⟩
theorem SX.narrow {aK aV : Nat → Nat} {A B : Nat → Prop} {U : State} {H : Heap} (h : SX aK aV A U H) (hAB : ∀ q, B q → A q) : SX aK aV B U H :=
  ⟨fun i hi => ⟨(h.1 i hi).1.narrow hAB, (h.1 i hi).2.1.narrow hAB, (h.1 i hi).2.2.1.narrow hAB, (h.1 i hi).2.2.2.narrow hAB⟩, h.2.1.narrow hAB, h.2.2.1.narrow hAB, h.2.2.2.1.narrow hAB, h.2.2.2.2.narrow hAB⟩
/-- what holds of the tables all along -/
def KX (J : Jt) (A : Nat → Prop) (U : State) (H : Heap) : Prop := va_K J.2.1 vwCl (TY J.2.2.1) U ∧ NW U ∧ (∀ (i : Nat) (q : String × Nat × String), stT[i]? = some q → vk_R q.1 q.2.1 q.2.2 (J.2.2.2.1 i) U) ∧ SX J.2.2.2.1 J.2.2.2.2 A U H
theorem KX.warm {J : Jt} {A : Nat → Prop} {s U : State} {H : Heap} (hW : s.WarmedH U.vm) (h : KX J A s H) : KX J A U H := ⟨va_K.moved hW.alike h.1, h.2.1.warm hW, fun i q hq => (h.2.2.1 i q hq).warm hW, h.2.2.2.moved hW.alike⟩
theorem KX.narrow {J : Jt} {A B : Nat → Prop} {U : State} {H : Heap} (h : KX J A U H) (hAB : ∀ q, B q → A q) : KX J B U H := ⟨h.1, h.2.1, h.2.2.1, h.2.2.2.narrow hAB⟩
theorem KX.kept {J : Jt} {A : Nat → Prop} {U : State} {H H1 : Heap} (h : KX J A U H) (hq : ∀ a : Nat, a < H.size → ¬ A a → H1[a]? = H[a]?) : KX J A U H1 := ⟨h.1, h.2.1, h.2.2.1, h.2.2.2.kept hq⟩
theorem KX.calling {J : Jt} {A : Nat → Prop} {U : State} {H : Heap} (g : JFrame) (mk : MethodId) (a : Array Value) (h : KX J A U H) : KX J A (U.calling g mk a) H := ⟨va_K.moved (u := U) (U := U.calling g mk a) (Vm.Alike.refl U.vm) h.1, NW.same (s := U) (U := U.calling g mk a) rfl h.2.1, fun i q hq => vk_R.same (u := U) (U := U.calling g mk a) rfl (h.2.2.1 i q hq), h.2.2.2.moved (u := U) (U := U.calling g mk a) (Vm.Alike.refl U.vm)⟩
def Cx (J : Jt) (Z : Zt) (cc : ByteArray) (nL : Nat) (own : String) (rt : Option FieldType) (R : Room) : Prop := match J, Z with
  | J, (p, _, R0, s, m, args, _, meth, c, A, _) => p.tables.exec = Jvm.exec ∧ c.code = cc ∧ c.maxLocals = nL ∧ s.vm.findClass own = some m.cls ∧ (∀ w ∈ LT, w.before args s = true) ∧ KX J A s s.heap ∧ meth.sig.returnType = rt ∧ meth.locks = false ∧ (∀ q, s.heap.size ≤ q → A q) ∧ R0 = R
def G (J : Jt) (Z : Zt) (n k : Nat) (w : va_W) (nL : Nat) (lv : List (Nat × Value)) (pc : Nat) (st : List Value) : Prop := match J, Z with
  | (l, D, _, _, _), (p, e, R, s, m, args, below, meth, c, A, Q) => ∀ (H : Heap) (locs : List Loc) (ls : Array Slot), va_P D vwCl w H → va_D A w → va_S A s.heap H locs → lv_has ls nL lv → W p l e R s m args below meth c H locs n k Q (F0 m pc ls st)
/-- the end: the answer, and the world behind it -/
def QE (D : va_G) (w : va_W) (sz : Nat) (r : Option Value) (w' : va_W) : Array Value → State → Outcome → State → Prop := fun _ st oc t => (oc = .returned r ∧ va_P D vwCl w' t.heap ∧ va_D (va_A w sz) w') ∧ va_F (va_A w sz) st t
def Ez (J : Jt) (Z : Zt) (mc ms : Nat) (r : Option Value) (w' : va_W) : Prop := match J, Z with
  | (_, D, _, _, _), (_, _, _, s, _, args, below, _, _, A, Q) => ∃ w0 : va_W, A = va_A w0 s.heap.size ∧ Q = MQ below (QE D w0 s.heap.size r w') args s mc ms A
/-- a contract: at args av and world w it answers r and leaves the world w' -/
def Mt (J : Jt) (y : MethodName) (cc : ByteArray) (nL : Nat) (rt : Option FieldType) (R : Room) (av : List Value) (w : va_W) (r : Option Value) (w' : va_W) : Prop := ∀ sz : Nat, Met J.1 y (.code y cc nL rt :: LT) R (va_Pc av (fun U => U.heap.size = sz ∧ va_P J.2.1 vwCl w U.heap ∧ va_D (fun _ => True) w ∧ KX J (va_A w sz) U U.heap)) (QE J.2.1 w sz r w') R.cells R.slots (va_A w sz)
theorem w_sub {is : List Nat} {w w' : va_W} (hs : is.map (fun i => w[i]?) = w'.map some) : is.filterMap (fun i => w[i]?) = w' := by
  have h1 : is.filterMap (fun i => w[i]?) = (is.map (fun i => w[i]?)).filterMap id := by rw [List.filterMap_map]; rfl
  rw [h1, hs, List.filterMap_map]
  simp
section GG
variable {J : Jt} {Z : Zt} {cc : ByteArray} {nL : Nat} {own : String} {rt : Option FieldType} {R : Room} {n k : Nat} {w w' : va_W} {lv lv' : List (Nat × Value)} {pc : Nat} {st : List Value}
theorem Mt_of {y : MethodName} {av : List Value} {r : Option Value} (hy : plainName y.cls = true) (ho : y.cls = own) (hav : (lg_sl av).length ≤ nL) (hlv : lv_args 0 av = lv)
    (body : ∀ Z : Zt, Cx J Z cc nL own rt R → Ez J Z R.cells R.slots r w' → G J Z 0 0 w nL lv 0 []) : Mt J y cc nL rt R av w r w' := by
  intro sz
  obtain ⟨l, D, cy, aK, aV⟩ := J
  refine Met.ofW (cc := cc) (maxL := nL) (ret := rt) hy rfl ?_
  intro p e s m args below meth c s₁ B hml hv
  obtain ⟨rfl, hsz, hP, hD0, hKX⟩ := hv
  subst hsz
  have hts := atoms_spec (ws := .code y cc nL rt :: LT) B.pre
  have hown : s.vm.findClass own = some m.cls := by rw [← ho]; exact findClass_of_methodNamed B.named
  have hlocks : meth.locks = false := B.notSynchronized
  have hD := hD0.self (sz := s.heap.size)
  have hl := lv_entry av (n := nL) hav
  rw [lg_entry_eq]
  rw [hlv] at hl
  exact body (p, e, (headSpec (.code y cc nL rt :: LT) R).room, s, m, av.toArray, below, meth, c, va_A w s.heap.size, MQ below (QE D w s.heap.size r w') av.toArray s R.cells R.slots (va_A w s.heap.size))
    ⟨B.exec, B.bytes, hml, hown, fun w0 h0 => hts w0 (List.mem_cons_of_mem _ h0), hKX, B.returns, hlocks, fun q h => Or.inr h, rfl⟩ ⟨w, rfl, rfl⟩ s.heap [] _ hP hD va_S.rf hl
theorem g_iconst (C : Cx J Z cc nL own rt R) {i : Int} {v : Int32} (hd : decode cc pc = .ok (.iconst i, 1)) (hv : Int32.ofInt i = v) (kk : G J Z n k w nL lv (pc + 1) (.int v :: st)) : G J Z n k w nL lv pc st := by
  obtain ⟨l, D, cy, aK, aV⟩ := J
  obtain ⟨p, e, R0, s, m, args, below, meth, c, A, Q⟩ := Z
  obtain ⟨hx, hb, hml, hown, hts, hKX, hr, hlk, hA, rfl⟩ := C
  have hK := hKX.1
  intro H locs ls hP hD hS hl
  exact lv_iconst hx hb hd hv (kk H locs ls hP hD hS hl)
theorem g_bipush (C : Cx J Z cc nL own rt R) {i : Int} {v : Int32} (hd : decode cc pc = .ok (.bipush i, 2)) (hv : (Int8.ofInt i).toInt32 = v) (kk : G J Z n k w nL lv (pc + 2) (.int v :: st)) : G J Z n k w nL lv pc st := by
  obtain ⟨l, D, cy, aK, aV⟩ := J
  obtain ⟨p, e, R0, s, m, args, below, meth, c, A, Q⟩ := Z
  obtain ⟨hx, hb, hml, hown, hts, hKX, hr, hlk, hA, rfl⟩ := C
  have hK := hKX.1
  intro H locs ls hP hD hS hl
  exact lv_bipush hx hb hd hv (kk H locs ls hP hD hS hl)
theorem g_sipush (C : Cx J Z cc nL own rt R) {i : Int} {v : Int32} (hd : decode cc pc = .ok (.sipush i, 3)) (hv : (Int16.ofInt i).toInt32 = v) (kk : G J Z n k w nL lv (pc + 3) (.int v :: st)) : G J Z n k w nL lv pc st := by
  obtain ⟨l, D, cy, aK, aV⟩ := J
  obtain ⟨p, e, R0, s, m, args, below, meth, c, A, Q⟩ := Z
  obtain ⟨hx, hb, hml, hown, hts, hKX, hr, hlk, hA, rfl⟩ := C
  have hK := hKX.1
  intro H locs ls hP hD hS hl
  exact lv_sipush hx hb hd hv (kk H locs ls hP hD hS hl)
theorem g_lconst (C : Cx J Z cc nL own rt R) {i : Fin 2} {v : Int64} (hd : decode cc pc = .ok (.lconst i, 1)) (hv : Int64.ofNat (i : Nat) = v) (kk : G J Z n k w nL lv (pc + 1) (.long v :: st)) : G J Z n k w nL lv pc st := by
  obtain ⟨l, D, cy, aK, aV⟩ := J
  obtain ⟨p, e, R0, s, m, args, below, meth, c, A, Q⟩ := Z
  obtain ⟨hx, hb, hml, hown, hts, hKX, hr, hlk, hA, rfl⟩ := C
  have hK := hKX.1
  intro H locs ls hP hD hS hl
  exact lv_lconst hx hb hd hv (kk H locs ls hP hD hS hl)
theorem g_ldc (C : Cx J Z cc nL own rt R) {i : Nat} {v : Int32} (hd : decode cc pc = .ok (.ldc i, 2)) (hv : Cond.constant own i v ∈ LT) (kk : G J Z n k w nL lv (pc + 2) (.int v :: st)) : G J Z n k w nL lv pc st := by
  obtain ⟨l, D, cy, aK, aV⟩ := J
  obtain ⟨p, e, R0, s, m, args, below, meth, c, A, Q⟩ := Z
  obtain ⟨hx, hb, hml, hown, hts, hKX, hr, hlk, hA, rfl⟩ := C
  have hK := hKX.1
  intro H locs ls hP hD hS hl
  exact lv_ldc hx hb hown (hts _ hv) hd (kk H locs ls hP hD hS hl)
theorem g_ldcw (C : Cx J Z cc nL own rt R) {i : Nat} {v : Int32} (hd : decode cc pc = .ok (.ldc_w i, 3)) (hv : Cond.constant own i v ∈ LT) (kk : G J Z n k w nL lv (pc + 3) (.int v :: st)) : G J Z n k w nL lv pc st := by
  obtain ⟨l, D, cy, aK, aV⟩ := J
  obtain ⟨p, e, R0, s, m, args, below, meth, c, A, Q⟩ := Z
  obtain ⟨hx, hb, hml, hown, hts, hKX, hr, hlk, hA, rfl⟩ := C
  have hK := hKX.1
  intro H locs ls hP hD hS hl
  exact lv_ldcw hx hb hown (hts _ hv) hd (kk H locs ls hP hD hS hl)
theorem g_ldc2 (C : Cx J Z cc nL own rt R) {i : Nat} {v : Int64} (hd : decode cc pc = .ok (.ldc2_w i, 3)) (hv : Cond.constantLong own i v ∈ LT) (kk : G J Z n k w nL lv (pc + 3) (.long v :: st)) : G J Z n k w nL lv pc st := by
  obtain ⟨l, D, cy, aK, aV⟩ := J
  obtain ⟨p, e, R0, s, m, args, below, meth, c, A, Q⟩ := Z
  obtain ⟨hx, hb, hml, hown, hts, hKX, hr, hlk, hA, rfl⟩ := C
  have hK := hKX.1
  intro H locs ls hP hD hS hl
  exact lv_ldc2 hx hb hown (hts _ hv) hd (kk H locs ls hP hD hS hl)
theorem g_null (C : Cx J Z cc nL own rt R) (hd : decode cc pc = .ok (.aconst_null, 1)) (kk : G J Z n k w nL lv (pc + 1) (.null :: st)) : G J Z n k w nL lv pc st := by
  obtain ⟨l, D, cy, aK, aV⟩ := J
  obtain ⟨p, e, R0, s, m, args, below, meth, c, A, Q⟩ := Z
  obtain ⟨hx, hb, hml, hown, hts, hKX, hr, hlk, hA, rfl⟩ := C
  have hK := hKX.1
  intro H locs ls hP hD hS hl
  exact lv_null hx hb hd (kk H locs ls hP hD hS hl)
theorem g_iload_n (C : Cx J Z cc nL own rt R) {kf : Fin 4} {x : Int32} (j : Nat) (hj : lv[j]? = some ((kf : Nat), .int x)) (hd : decode cc pc = .ok (.iload_n kf, 1)) (kk : G J Z n k w nL lv (pc + 1) (.int x :: st)) : G J Z n k w nL lv pc st := by
  obtain ⟨l, D, cy, aK, aV⟩ := J
  obtain ⟨p, e, R0, s, m, args, below, meth, c, A, Q⟩ := Z
  obtain ⟨hx, hb, hml, hown, hts, hKX, hr, hlk, hA, rfl⟩ := C
  have hK := hKX.1
  intro H locs ls hP hD hS hl
  exact lv_iload_n hx hb hd rfl (lv_at hl j hj) (kk H locs ls hP hD hS hl)
theorem g_iload (C : Cx J Z cc nL own rt R) {i : Nat} {x : Int32} (j : Nat) (hj : lv[j]? = some (i, .int x)) (hd : decode cc pc = .ok (.iload i, 2)) (kk : G J Z n k w nL lv (pc + 2) (.int x :: st)) : G J Z n k w nL lv pc st := by
  obtain ⟨l, D, cy, aK, aV⟩ := J
  obtain ⟨p, e, R0, s, m, args, below, meth, c, A, Q⟩ := Z
  obtain ⟨hx, hb, hml, hown, hts, hKX, hr, hlk, hA, rfl⟩ := C
  have hK := hKX.1
  intro H locs ls hP hD hS hl
  exact lv_iload hx hb hd (lv_at hl j hj) (kk H locs ls hP hD hS hl)
theorem g_istore_n (C : Cx J Z cc nL own rt R) {kf : Fin 4} {i : Nat} {x : Int32} (lv' : List (Nat × Value)) (hd : decode cc pc = .ok (.istore_n kf, 1)) (hi : (kf : Nat) = i) (hn : i < nL) (hf : (i, Value.int x) :: lv.filter (fun q => !(q.1 == i) && !(q.1 + 1 == i && q.2.category == 2)) = lv') (kk : G J Z n k w nL lv' (pc + 1) st) : G J Z n k w nL lv pc (.int x :: st) := by
  obtain ⟨l, D, cy, aK, aV⟩ := J
  obtain ⟨p, e, R0, s, m, args, below, meth, c, A, Q⟩ := Z
  obtain ⟨hx, hb, hml, hown, hts, hKX, hr, hlk, hA, rfl⟩ := C
  have hK := hKX.1
  intro H locs ls hP hD hS hl
  exact lv_istore_n hx hb hd hi hl hn hf (fun ls hl => kk H locs ls hP hD hS hl)
theorem g_istore (C : Cx J Z cc nL own rt R) {i : Nat} {x : Int32} (lv' : List (Nat × Value)) (hd : decode cc pc = .ok (.istore i, 2)) (hn : i < nL) (hf : (i, Value.int x) :: lv.filter (fun q => !(q.1 == i) && !(q.1 + 1 == i && q.2.category == 2)) = lv') (kk : G J Z n k w nL lv' (pc + 2) st) : G J Z n k w nL lv pc (.int x :: st) := by
  obtain ⟨l, D, cy, aK, aV⟩ := J
  obtain ⟨p, e, R0, s, m, args, below, meth, c, A, Q⟩ := Z
  obtain ⟨hx, hb, hml, hown, hts, hKX, hr, hlk, hA, rfl⟩ := C
  have hK := hKX.1
  intro H locs ls hP hD hS hl
  exact lv_istore hx hb hd hl hn hf (fun ls hl => kk H locs ls hP hD hS hl)
theorem g_lload_n (C : Cx J Z cc nL own rt R) {kf : Fin 4} {x : Int64} (j : Nat) (hj : lv[j]? = some ((kf : Nat), .long x)) (hd : decode cc pc = .ok (.lload_n kf, 1)) (kk : G J Z n k w nL lv (pc + 1) (.long x :: st)) : G J Z n k w nL lv pc st := by
  obtain ⟨l, D, cy, aK, aV⟩ := J
  obtain ⟨p, e, R0, s, m, args, below, meth, c, A, Q⟩ := Z
  obtain ⟨hx, hb, hml, hown, hts, hKX, hr, hlk, hA, rfl⟩ := C
  have hK := hKX.1
  intro H locs ls hP hD hS hl
  exact lv_lload_n hx hb hd rfl (lv_at hl j hj) (kk H locs ls hP hD hS hl)
theorem g_lload (C : Cx J Z cc nL own rt R) {i : Nat} {x : Int64} (j : Nat) (hj : lv[j]? = some (i, .long x)) (hd : decode cc pc = .ok (.lload i, 2)) (kk : G J Z n k w nL lv (pc + 2) (.long x :: st)) : G J Z n k w nL lv pc st := by
  obtain ⟨l, D, cy, aK, aV⟩ := J
  obtain ⟨p, e, R0, s, m, args, below, meth, c, A, Q⟩ := Z
  obtain ⟨hx, hb, hml, hown, hts, hKX, hr, hlk, hA, rfl⟩ := C
  have hK := hKX.1
  intro H locs ls hP hD hS hl
  exact lv_lload hx hb hd (lv_at hl j hj) (kk H locs ls hP hD hS hl)
theorem g_lstore_n (C : Cx J Z cc nL own rt R) {kf : Fin 4} {i : Nat} {x : Int64} (lv' : List (Nat × Value)) (hd : decode cc pc = .ok (.lstore_n kf, 1)) (hi : (kf : Nat) = i) (hn : i + 1 < nL) (hf : (i, Value.long x) :: lv.filter (fun q => !(q.1 == i) && (!(q.1 == i + 1) && !(q.1 + 1 == i && q.2.category == 2))) = lv') (kk : G J Z n k w nL lv' (pc + 1) st) : G J Z n k w nL lv pc (.long x :: st) := by
  obtain ⟨l, D, cy, aK, aV⟩ := J
  obtain ⟨p, e, R0, s, m, args, below, meth, c, A, Q⟩ := Z
  obtain ⟨hx, hb, hml, hown, hts, hKX, hr, hlk, hA, rfl⟩ := C
  have hK := hKX.1
  intro H locs ls hP hD hS hl
  exact lv_lstore_n hx hb hd hi hl hn hf (fun ls hl => kk H locs ls hP hD hS hl)
theorem g_lstore (C : Cx J Z cc nL own rt R) {i : Nat} {x : Int64} (lv' : List (Nat × Value)) (hd : decode cc pc = .ok (.lstore i, 2)) (hn : i + 1 < nL) (hf : (i, Value.long x) :: lv.filter (fun q => !(q.1 == i) && (!(q.1 == i + 1) && !(q.1 + 1 == i && q.2.category == 2))) = lv') (kk : G J Z n k w nL lv' (pc + 2) st) : G J Z n k w nL lv pc (.long x :: st) := by
  obtain ⟨l, D, cy, aK, aV⟩ := J
  obtain ⟨p, e, R0, s, m, args, below, meth, c, A, Q⟩ := Z
  obtain ⟨hx, hb, hml, hown, hts, hKX, hr, hlk, hA, rfl⟩ := C
  have hK := hKX.1
  intro H locs ls hP hD hS hl
  exact lv_lstore hx hb hd hl hn hf (fun ls hl => kk H locs ls hP hD hS hl)
theorem g_aload_n (C : Cx J Z cc nL own rt R) {kf : Fin 4} {x : Nat} (j : Nat) (hj : lv[j]? = some ((kf : Nat), .ref x)) (hd : decode cc pc = .ok (.aload_n kf, 1)) (kk : G J Z n k w nL lv (pc + 1) (.ref x :: st)) : G J Z n k w nL lv pc st := by
  obtain ⟨l, D, cy, aK, aV⟩ := J
  obtain ⟨p, e, R0, s, m, args, below, meth, c, A, Q⟩ := Z
  obtain ⟨hx, hb, hml, hown, hts, hKX, hr, hlk, hA, rfl⟩ := C
  have hK := hKX.1
  intro H locs ls hP hD hS hl
  exact lv_aload_n hx hb hd rfl (lv_at hl j hj) (kk H locs ls hP hD hS hl)
theorem g_aload (C : Cx J Z cc nL own rt R) {i : Nat} {x : Nat} (j : Nat) (hj : lv[j]? = some (i, .ref x)) (hd : decode cc pc = .ok (.aload i, 2)) (kk : G J Z n k w nL lv (pc + 2) (.ref x :: st)) : G J Z n k w nL lv pc st := by
  obtain ⟨l, D, cy, aK, aV⟩ := J
  obtain ⟨p, e, R0, s, m, args, below, meth, c, A, Q⟩ := Z
  obtain ⟨hx, hb, hml, hown, hts, hKX, hr, hlk, hA, rfl⟩ := C
  have hK := hKX.1
  intro H locs ls hP hD hS hl
  exact lv_aload hx hb hd (lv_at hl j hj) (kk H locs ls hP hD hS hl)
theorem g_astore_n (C : Cx J Z cc nL own rt R) {kf : Fin 4} {i : Nat} {x : Nat} (lv' : List (Nat × Value)) (hd : decode cc pc = .ok (.astore_n kf, 1)) (hi : (kf : Nat) = i) (hn : i < nL) (hf : (i, Value.ref x) :: lv.filter (fun q => !(q.1 == i) && !(q.1 + 1 == i && q.2.category == 2)) = lv') (kk : G J Z n k w nL lv' (pc + 1) st) : G J Z n k w nL lv pc (.ref x :: st) := by
  obtain ⟨l, D, cy, aK, aV⟩ := J
  obtain ⟨p, e, R0, s, m, args, below, meth, c, A, Q⟩ := Z
  obtain ⟨hx, hb, hml, hown, hts, hKX, hr, hlk, hA, rfl⟩ := C
  have hK := hKX.1
  intro H locs ls hP hD hS hl
  exact lv_astore_n hx hb hd hi hl hn hf (fun ls hl => kk H locs ls hP hD hS hl)
theorem g_astore (C : Cx J Z cc nL own rt R) {i : Nat} {x : Nat} (lv' : List (Nat × Value)) (hd : decode cc pc = .ok (.astore i, 2)) (hn : i < nL) (hf : (i, Value.ref x) :: lv.filter (fun q => !(q.1 == i) && !(q.1 + 1 == i && q.2.category == 2)) = lv') (kk : G J Z n k w nL lv' (pc + 2) st) : G J Z n k w nL lv pc (.ref x :: st) := by
  obtain ⟨l, D, cy, aK, aV⟩ := J
  obtain ⟨p, e, R0, s, m, args, below, meth, c, A, Q⟩ := Z
  obtain ⟨hx, hb, hml, hown, hts, hKX, hr, hlk, hA, rfl⟩ := C
  have hK := hKX.1
  intro H locs ls hP hD hS hl
  exact lv_astore hx hb hd hl hn hf (fun ls hl => kk H locs ls hP hD hS hl)
theorem g_iinc (C : Cx J Z cc nL own rt R) {i j : Nat} {a : Int} {x v : Int32} (lv' : List (Nat × Value)) (hd : decode cc pc = .ok (.iinc i a, 3)) (hj : lv[j]? = some (i, .int x)) (hv : x + Int32.ofInt a = v) (hn : i < nL) (hf : (i, Value.int v) :: lv.filter (fun q => !(q.1 == i) && !(q.1 + 1 == i && q.2.category == 2)) = lv') (kk : G J Z n k w nL lv' (pc + 3) st) : G J Z n k w nL lv pc st := by
  obtain ⟨l, D, cy, aK, aV⟩ := J
  obtain ⟨p, e, R0, s, m, args, below, meth, c, A, Q⟩ := Z
  obtain ⟨hx, hb, hml, hown, hts, hKX, hr, hlk, hA, rfl⟩ := C
  have hK := hKX.1
  intro H locs ls hP hD hS hl
  exact lv_iinc hx hb hd hl hj hv hn hf (fun ls hl => kk H locs ls hP hD hS hl)
theorem g_lv (ks : List Nat) (hk : lv_pick lv ks = lv') (kk : G J Z n k w nL lv' pc st) : G J Z n k w nL lv pc st := by
  obtain ⟨l, D, cy, aK, aV⟩ := J
  obtain ⟨p, e, R0, s, m, args, below, meth, c, A, Q⟩ := Z
  intro H locs ls hP hD hS hl
  exact kk H locs ls hP hD hS (lv_sub hl ks hk)
theorem g_wid {n' k' : Nat} (h1 : n ≤ n') (h2 : k ≤ k') (kk : G J Z n' k' w nL lv pc st) : G J Z n k w nL lv pc st := by
  obtain ⟨l, D, cy, aK, aV⟩ := J
  obtain ⟨p, e, R0, s, m, args, below, meth, c, A, Q⟩ := Z
  intro H locs ls hP hD hS hl
  exact W.widen h1 h2 (kk H locs ls hP hD hS hl)
theorem g_w (is : List Nat) (hn : va_nd is = true) (hs : is.map (fun i => w[i]?) = w'.map some) (kk : G J Z n k w' nL lv pc st) : G J Z n k w nL lv pc st := by
  obtain ⟨l, D, cy, aK, aV⟩ := J
  obtain ⟨p, e, R0, s, m, args, below, meth, c, A, Q⟩ := Z
  intro H locs ls hP hD hS hl
  exact kk H locs ls (hP.sub is (w_sub hs)) (hD.sub is hn hs) hS hl
theorem g_iadd (C : Cx J Z cc nL own rt R) {x y : Int32} (hd : decode cc pc = .ok (.iadd, 1)) (kk : G J Z n k w nL lv (pc + 1) (.int (x + y) :: st)) : G J Z n k w nL lv pc (.int y :: .int x :: st) := by
  obtain ⟨l, D, cy, aK, aV⟩ := J
  obtain ⟨p, e, R0, s, m, args, below, meth, c, A, Q⟩ := Z
  obtain ⟨hx, hb, hml, hown, hts, hKX, hr, hlk, hA, rfl⟩ := C
  have hK := hKX.1
  intro H locs ls hP hD hS hl
  exact lv_iadd hx hb hd (kk H locs ls hP hD hS hl)
theorem g_isub (C : Cx J Z cc nL own rt R) {x y : Int32} (hd : decode cc pc = .ok (.isub, 1)) (kk : G J Z n k w nL lv (pc + 1) (.int (x - y) :: st)) : G J Z n k w nL lv pc (.int y :: .int x :: st) := by
  obtain ⟨l, D, cy, aK, aV⟩ := J
  obtain ⟨p, e, R0, s, m, args, below, meth, c, A, Q⟩ := Z
  obtain ⟨hx, hb, hml, hown, hts, hKX, hr, hlk, hA, rfl⟩ := C
  have hK := hKX.1
  intro H locs ls hP hD hS hl
  exact lv_isub hx hb hd (kk H locs ls hP hD hS hl)
theorem g_imul (C : Cx J Z cc nL own rt R) {x y : Int32} (hd : decode cc pc = .ok (.imul, 1)) (kk : G J Z n k w nL lv (pc + 1) (.int (x * y) :: st)) : G J Z n k w nL lv pc (.int y :: .int x :: st) := by
  obtain ⟨l, D, cy, aK, aV⟩ := J
  obtain ⟨p, e, R0, s, m, args, below, meth, c, A, Q⟩ := Z
  obtain ⟨hx, hb, hml, hown, hts, hKX, hr, hlk, hA, rfl⟩ := C
  have hK := hKX.1
  intro H locs ls hP hD hS hl
  exact lv_imul hx hb hd (kk H locs ls hP hD hS hl)
theorem g_iand (C : Cx J Z cc nL own rt R) {x y : Int32} (hd : decode cc pc = .ok (.iand, 1)) (kk : G J Z n k w nL lv (pc + 1) (.int (x &&& y) :: st)) : G J Z n k w nL lv pc (.int y :: .int x :: st) := by
  obtain ⟨l, D, cy, aK, aV⟩ := J
  obtain ⟨p, e, R0, s, m, args, below, meth, c, A, Q⟩ := Z
  obtain ⟨hx, hb, hml, hown, hts, hKX, hr, hlk, hA, rfl⟩ := C
  have hK := hKX.1
  intro H locs ls hP hD hS hl
  exact lv_iand hx hb hd (kk H locs ls hP hD hS hl)
theorem g_ior (C : Cx J Z cc nL own rt R) {x y : Int32} (hd : decode cc pc = .ok (.ior, 1)) (kk : G J Z n k w nL lv (pc + 1) (.int (x ||| y) :: st)) : G J Z n k w nL lv pc (.int y :: .int x :: st) := by
  obtain ⟨l, D, cy, aK, aV⟩ := J
  obtain ⟨p, e, R0, s, m, args, below, meth, c, A, Q⟩ := Z
  obtain ⟨hx, hb, hml, hown, hts, hKX, hr, hlk, hA, rfl⟩ := C
  have hK := hKX.1
  intro H locs ls hP hD hS hl
  exact lv_ior hx hb hd (kk H locs ls hP hD hS hl)
theorem g_ixor (C : Cx J Z cc nL own rt R) {x y : Int32} (hd : decode cc pc = .ok (.ixor, 1)) (kk : G J Z n k w nL lv (pc + 1) (.int (x ^^^ y) :: st)) : G J Z n k w nL lv pc (.int y :: .int x :: st) := by
  obtain ⟨l, D, cy, aK, aV⟩ := J
  obtain ⟨p, e, R0, s, m, args, below, meth, c, A, Q⟩ := Z
  obtain ⟨hx, hb, hml, hown, hts, hKX, hr, hlk, hA, rfl⟩ := C
  have hK := hKX.1
  intro H locs ls hP hD hS hl
  exact lv_ixor hx hb hd (kk H locs ls hP hD hS hl)
theorem g_ishl (C : Cx J Z cc nL own rt R) {x y : Int32} (hd : decode cc pc = .ok (.ishl, 1)) (kk : G J Z n k w nL lv (pc + 1) (.int (x <<< (y &&& 31)) :: st)) : G J Z n k w nL lv pc (.int y :: .int x :: st) := by
  obtain ⟨l, D, cy, aK, aV⟩ := J
  obtain ⟨p, e, R0, s, m, args, below, meth, c, A, Q⟩ := Z
  obtain ⟨hx, hb, hml, hown, hts, hKX, hr, hlk, hA, rfl⟩ := C
  have hK := hKX.1
  intro H locs ls hP hD hS hl
  exact lv_ishl hx hb hd (kk H locs ls hP hD hS hl)
theorem g_ishr (C : Cx J Z cc nL own rt R) {x y : Int32} (hd : decode cc pc = .ok (.ishr, 1)) (kk : G J Z n k w nL lv (pc + 1) (.int (x >>> (y &&& 31)) :: st)) : G J Z n k w nL lv pc (.int y :: .int x :: st) := by
  obtain ⟨l, D, cy, aK, aV⟩ := J
  obtain ⟨p, e, R0, s, m, args, below, meth, c, A, Q⟩ := Z
  obtain ⟨hx, hb, hml, hown, hts, hKX, hr, hlk, hA, rfl⟩ := C
  have hK := hKX.1
  intro H locs ls hP hD hS hl
  exact lv_ishr hx hb hd (kk H locs ls hP hD hS hl)
theorem g_iushr (C : Cx J Z cc nL own rt R) {x y : Int32} (hd : decode cc pc = .ok (.iushr, 1)) (kk : G J Z n k w nL lv (pc + 1) (.int ((x.toUInt32 >>> (y.toUInt32 &&& Int32.toUInt32 31)).toInt32) :: st)) : G J Z n k w nL lv pc (.int y :: .int x :: st) := by
  obtain ⟨l, D, cy, aK, aV⟩ := J
  obtain ⟨p, e, R0, s, m, args, below, meth, c, A, Q⟩ := Z
  obtain ⟨hx, hb, hml, hown, hts, hKX, hr, hlk, hA, rfl⟩ := C
  have hK := hKX.1
  intro H locs ls hP hD hS hl
  exact lv_iushr hx hb hd rfl (kk H locs ls hP hD hS hl)
theorem g_idiv (C : Cx J Z cc nL own rt R) {x y : Int32} (hd : decode cc pc = .ok (.idiv, 1)) (hy : ¬ y = 0) (kk : G J Z n k w nL lv (pc + 1) (.int (x / y) :: st)) : G J Z n k w nL lv pc (.int y :: .int x :: st) := by
  obtain ⟨l, D, cy, aK, aV⟩ := J
  obtain ⟨p, e, R0, s, m, args, below, meth, c, A, Q⟩ := Z
  obtain ⟨hx, hb, hml, hown, hts, hKX, hr, hlk, hA, rfl⟩ := C
  have hK := hKX.1
  intro H locs ls hP hD hS hl
  exact lv_idiv hx hb hd hy (kk H locs ls hP hD hS hl)
theorem g_irem (C : Cx J Z cc nL own rt R) {x y : Int32} (hd : decode cc pc = .ok (.irem, 1)) (hy : ¬ y = 0) (kk : G J Z n k w nL lv (pc + 1) (.int (x - x / y * y) :: st)) : G J Z n k w nL lv pc (.int y :: .int x :: st) := by
  obtain ⟨l, D, cy, aK, aV⟩ := J
  obtain ⟨p, e, R0, s, m, args, below, meth, c, A, Q⟩ := Z
  obtain ⟨hx, hb, hml, hown, hts, hKX, hr, hlk, hA, rfl⟩ := C
  have hK := hKX.1
  intro H locs ls hP hD hS hl
  exact lv_irem hx hb hd hy (kk H locs ls hP hD hS hl)
theorem g_ladd (C : Cx J Z cc nL own rt R) {x y : Int64} (hd : decode cc pc = .ok (.ladd, 1)) (kk : G J Z n k w nL lv (pc + 1) (.long (x + y) :: st)) : G J Z n k w nL lv pc (.long y :: .long x :: st) := by
  obtain ⟨l, D, cy, aK, aV⟩ := J
  obtain ⟨p, e, R0, s, m, args, below, meth, c, A, Q⟩ := Z
  obtain ⟨hx, hb, hml, hown, hts, hKX, hr, hlk, hA, rfl⟩ := C
  have hK := hKX.1
  intro H locs ls hP hD hS hl
  exact lv_ladd hx hb hd (kk H locs ls hP hD hS hl)
theorem g_lmul (C : Cx J Z cc nL own rt R) {x y : Int64} (hd : decode cc pc = .ok (.lmul, 1)) (kk : G J Z n k w nL lv (pc + 1) (.long (x * y) :: st)) : G J Z n k w nL lv pc (.long y :: .long x :: st) := by
  obtain ⟨l, D, cy, aK, aV⟩ := J
  obtain ⟨p, e, R0, s, m, args, below, meth, c, A, Q⟩ := Z
  obtain ⟨hx, hb, hml, hown, hts, hKX, hr, hlk, hA, rfl⟩ := C
  have hK := hKX.1
  intro H locs ls hP hD hS hl
  exact lv_lmul hx hb hd (kk H locs ls hP hD hS hl)
theorem g_ldiv (C : Cx J Z cc nL own rt R) {x y : Int64} (hd : decode cc pc = .ok (.ldiv, 1)) (hy : ¬ y = 0) (kk : G J Z n k w nL lv (pc + 1) (.long (x / y) :: st)) : G J Z n k w nL lv pc (.long y :: .long x :: st) := by
  obtain ⟨l, D, cy, aK, aV⟩ := J
  obtain ⟨p, e, R0, s, m, args, below, meth, c, A, Q⟩ := Z
  obtain ⟨hx, hb, hml, hown, hts, hKX, hr, hlk, hA, rfl⟩ := C
  have hK := hKX.1
  intro H locs ls hP hD hS hl
  exact lv_ldiv hx hb hd hy (kk H locs ls hP hD hS hl)
theorem g_lrem (C : Cx J Z cc nL own rt R) {x y : Int64} (hd : decode cc pc = .ok (.lrem, 1)) (hy : ¬ y = 0) (kk : G J Z n k w nL lv (pc + 1) (.long (x - x / y * y) :: st)) : G J Z n k w nL lv pc (.long y :: .long x :: st) := by
  obtain ⟨l, D, cy, aK, aV⟩ := J
  obtain ⟨p, e, R0, s, m, args, below, meth, c, A, Q⟩ := Z
  obtain ⟨hx, hb, hml, hown, hts, hKX, hr, hlk, hA, rfl⟩ := C
  have hK := hKX.1
  intro H locs ls hP hD hS hl
  exact lv_lrem hx hb hd hy (kk H locs ls hP hD hS hl)
theorem g_ineg (C : Cx J Z cc nL own rt R) {x : Int32} (hd : decode cc pc = .ok (.ineg, 1)) (kk : G J Z n k w nL lv (pc + 1) (.int (-x) :: st)) : G J Z n k w nL lv pc (.int x :: st) := by
  obtain ⟨l, D, cy, aK, aV⟩ := J
  obtain ⟨p, e, R0, s, m, args, below, meth, c, A, Q⟩ := Z
  obtain ⟨hx, hb, hml, hown, hts, hKX, hr, hlk, hA, rfl⟩ := C
  have hK := hKX.1
  intro H locs ls hP hD hS hl
  exact lv_ineg hx hb hd (kk H locs ls hP hD hS hl)
theorem g_i2l (C : Cx J Z cc nL own rt R) {x : Int32} (hd : decode cc pc = .ok (.i2l, 1)) (kk : G J Z n k w nL lv (pc + 1) (.long x.toInt64 :: st)) : G J Z n k w nL lv pc (.int x :: st) := by
  obtain ⟨l, D, cy, aK, aV⟩ := J
  obtain ⟨p, e, R0, s, m, args, below, meth, c, A, Q⟩ := Z
  obtain ⟨hx, hb, hml, hown, hts, hKX, hr, hlk, hA, rfl⟩ := C
  have hK := hKX.1
  intro H locs ls hP hD hS hl
  exact lv_i2l hx hb hd rfl (kk H locs ls hP hD hS hl)
theorem g_l2i (C : Cx J Z cc nL own rt R) {x : Int64} (hd : decode cc pc = .ok (.l2i, 1)) (kk : G J Z n k w nL lv (pc + 1) (.int x.toInt32 :: st)) : G J Z n k w nL lv pc (.long x :: st) := by
  obtain ⟨l, D, cy, aK, aV⟩ := J
  obtain ⟨p, e, R0, s, m, args, below, meth, c, A, Q⟩ := Z
  obtain ⟨hx, hb, hml, hown, hts, hKX, hr, hlk, hA, rfl⟩ := C
  have hK := hKX.1
  intro H locs ls hP hD hS hl
  exact lv_l2i hx hb hd rfl (kk H locs ls hP hD hS hl)
theorem g_i2b (C : Cx J Z cc nL own rt R) {x : Int32} (hd : decode cc pc = .ok (.i2b, 1)) (kk : G J Z n k w nL lv (pc + 1) (.int x.toInt8.toInt32 :: st)) : G J Z n k w nL lv pc (.int x :: st) := by
  obtain ⟨l, D, cy, aK, aV⟩ := J
  obtain ⟨p, e, R0, s, m, args, below, meth, c, A, Q⟩ := Z
  obtain ⟨hx, hb, hml, hown, hts, hKX, hr, hlk, hA, rfl⟩ := C
  have hK := hKX.1
  intro H locs ls hP hD hS hl
  exact lv_i2b hx hb hd rfl (kk H locs ls hP hD hS hl)
theorem g_dup (C : Cx J Z cc nL own rt R) {v : Value} (hd : decode cc pc = .ok (.dup, 1)) (hv : v.category = 1) (kk : G J Z n k w nL lv (pc + 1) (v :: v :: st)) : G J Z n k w nL lv pc (v :: st) := by
  obtain ⟨l, D, cy, aK, aV⟩ := J
  obtain ⟨p, e, R0, s, m, args, below, meth, c, A, Q⟩ := Z
  obtain ⟨hx, hb, hml, hown, hts, hKX, hr, hlk, hA, rfl⟩ := C
  have hK := hKX.1
  intro H locs ls hP hD hS hl
  exact lv_dup hx hb hd hv (kk H locs ls hP hD hS hl)
theorem g_pop (C : Cx J Z cc nL own rt R) {v : Value} (hd : decode cc pc = .ok (.pop, 1)) (hv : v.category = 1) (kk : G J Z n k w nL lv (pc + 1) st) : G J Z n k w nL lv pc (v :: st) := by
  obtain ⟨l, D, cy, aK, aV⟩ := J
  obtain ⟨p, e, R0, s, m, args, below, meth, c, A, Q⟩ := Z
  obtain ⟨hx, hb, hml, hown, hts, hKX, hr, hlk, hA, rfl⟩ := C
  have hK := hKX.1
  intro H locs ls hP hD hS hl
  exact lv_pop hx hb hd hv (kk H locs ls hP hD hS hl)
theorem g_dup2 (C : Cx J Z cc nL own rt R) {v u : Value} (hd : decode cc pc = .ok (.dup2, 1)) (hv : v.category = 1) (hu : u.category = 1) (kk : G J Z n k w nL lv (pc + 1) (v :: u :: v :: u :: st)) : G J Z n k w nL lv pc (v :: u :: st) := by
  obtain ⟨l, D, cy, aK, aV⟩ := J
  obtain ⟨p, e, R0, s, m, args, below, meth, c, A, Q⟩ := Z
  obtain ⟨hx, hb, hml, hown, hts, hKX, hr, hlk, hA, rfl⟩ := C
  have hK := hKX.1
  intro H locs ls hP hD hS hl
  exact lv_dup2_11 hx hb hd hv hu (kk H locs ls hP hD hS hl)
theorem ite_of {α : Type} {c : Prop} [Decidable c] {P P' : Option α} {o : α} (h : (if c then P else P') = some o) : (c ∧ P = some o) ∨ (¬ c ∧ P' = some o) := by by_cases hc : c; exact Or.inl ⟨hc, by rw [if_pos hc] at h; exact h⟩; exact Or.inr ⟨hc, by rw [if_neg hc] at h; exact h⟩
theorem g_if_ne (C : Cx J Z cc nL own rt R) {α : Type} {P P' : Option α} {oo : α} {x : Int32} {off : Int} {tgt : Nat} (hd : decode cc pc = .ok (.ifCond .ne off, 3)) (ht : (pc : Int) + off = (tgt : Int)) (h : (if x = 0 then P else P') = some oo) (kt : P' = some oo → G J Z n k w nL lv tgt st) (kf : P = some oo → G J Z n k w nL lv (pc + 3) st) : G J Z n k w nL lv pc (.int x :: st) := by
  obtain ⟨l, D, cy, aK, aV⟩ := J
  obtain ⟨p, e, R0, s, m, args, below, meth, c, A, Q⟩ := Z
  obtain ⟨hx, hb, hml, hown, hts, hKX, hr, hlk, hA, rfl⟩ := C
  have hK := hKX.1
  intro H locs ls hP hD hS hl
  exact lv_if_ne hx hb hd ht (fun hc => kt (by rw [if_neg hc] at h; exact h) H locs ls hP hD hS hl) (fun hc => kf (by rw [if_pos hc] at h; exact h) H locs ls hP hD hS hl)
theorem g_icmp_ne (C : Cx J Z cc nL own rt R) {α : Type} {P P' : Option α} {oo : α} {x y : Int32} {off : Int} {tgt : Nat} (hd : decode cc pc = .ok (.if_icmp .ne off, 3)) (ht : (pc : Int) + off = (tgt : Int)) (h : (if x = y then P else P') = some oo) (kt : P' = some oo → G J Z n k w nL lv tgt st) (kf : P = some oo → G J Z n k w nL lv (pc + 3) st) : G J Z n k w nL lv pc (.int y :: .int x :: st) := by
  obtain ⟨l, D, cy, aK, aV⟩ := J
  obtain ⟨p, e, R0, s, m, args, below, meth, c, A, Q⟩ := Z
  obtain ⟨hx, hb, hml, hown, hts, hKX, hr, hlk, hA, rfl⟩ := C
  have hK := hKX.1
  intro H locs ls hP hD hS hl
  exact lv_icmp_ne hx hb hd ht (fun hc => kt (by rw [if_neg hc] at h; exact h) H locs ls hP hD hS hl) (fun hc => kf (by rw [if_pos hc] at h; exact h) H locs ls hP hD hS hl)
theorem g_if_eq (C : Cx J Z cc nL own rt R) {α : Type} {P P' : Option α} {oo : α} {x : Int32} {off : Int} {tgt : Nat} (hd : decode cc pc = .ok (.ifCond .eq off, 3)) (ht : (pc : Int) + off = (tgt : Int)) (h : (if x = 0 then P else P') = some oo) (kt : P = some oo → G J Z n k w nL lv tgt st) (kf : P' = some oo → G J Z n k w nL lv (pc + 3) st) : G J Z n k w nL lv pc (.int x :: st) := by
  obtain ⟨l, D, cy, aK, aV⟩ := J
  obtain ⟨p, e, R0, s, m, args, below, meth, c, A, Q⟩ := Z
  obtain ⟨hx, hb, hml, hown, hts, hKX, hr, hlk, hA, rfl⟩ := C
  have hK := hKX.1
  intro H locs ls hP hD hS hl
  exact lv_if_eq hx hb hd ht (fun hc => kt (by rw [if_pos hc] at h; exact h) H locs ls hP hD hS hl) (fun hc => kf (by rw [if_neg hc] at h; exact h) H locs ls hP hD hS hl)
theorem g_if_lt (C : Cx J Z cc nL own rt R) {α : Type} {P P' : Option α} {oo : α} {x : Int32} {off : Int} {tgt : Nat} (hd : decode cc pc = .ok (.ifCond .lt off, 3)) (ht : (pc : Int) + off = (tgt : Int)) (h : (if x < 0 then P else P') = some oo) (kt : P = some oo → G J Z n k w nL lv tgt st) (kf : P' = some oo → G J Z n k w nL lv (pc + 3) st) : G J Z n k w nL lv pc (.int x :: st) := by
  obtain ⟨l, D, cy, aK, aV⟩ := J
  obtain ⟨p, e, R0, s, m, args, below, meth, c, A, Q⟩ := Z
  obtain ⟨hx, hb, hml, hown, hts, hKX, hr, hlk, hA, rfl⟩ := C
  have hK := hKX.1
  intro H locs ls hP hD hS hl
  exact lv_if_lt hx hb hd ht (fun hc => kt (by rw [if_pos hc] at h; exact h) H locs ls hP hD hS hl) (fun hc => kf (by rw [if_neg hc] at h; exact h) H locs ls hP hD hS hl)
theorem g_if_ge (C : Cx J Z cc nL own rt R) {α : Type} {P P' : Option α} {oo : α} {x : Int32} {off : Int} {tgt : Nat} (hd : decode cc pc = .ok (.ifCond .ge off, 3)) (ht : (pc : Int) + off = (tgt : Int)) (h : (if 0 ≤ x then P else P') = some oo) (kt : P = some oo → G J Z n k w nL lv tgt st) (kf : P' = some oo → G J Z n k w nL lv (pc + 3) st) : G J Z n k w nL lv pc (.int x :: st) := by
  obtain ⟨l, D, cy, aK, aV⟩ := J
  obtain ⟨p, e, R0, s, m, args, below, meth, c, A, Q⟩ := Z
  obtain ⟨hx, hb, hml, hown, hts, hKX, hr, hlk, hA, rfl⟩ := C
  have hK := hKX.1
  intro H locs ls hP hD hS hl
  exact lv_if_ge hx hb hd ht (fun hc => kt (by rw [if_pos hc] at h; exact h) H locs ls hP hD hS hl) (fun hc => kf (by rw [if_neg hc] at h; exact h) H locs ls hP hD hS hl)
theorem g_if_gt (C : Cx J Z cc nL own rt R) {α : Type} {P P' : Option α} {oo : α} {x : Int32} {off : Int} {tgt : Nat} (hd : decode cc pc = .ok (.ifCond .gt off, 3)) (ht : (pc : Int) + off = (tgt : Int)) (h : (if 0 < x then P else P') = some oo) (kt : P = some oo → G J Z n k w nL lv tgt st) (kf : P' = some oo → G J Z n k w nL lv (pc + 3) st) : G J Z n k w nL lv pc (.int x :: st) := by
  obtain ⟨l, D, cy, aK, aV⟩ := J
  obtain ⟨p, e, R0, s, m, args, below, meth, c, A, Q⟩ := Z
  obtain ⟨hx, hb, hml, hown, hts, hKX, hr, hlk, hA, rfl⟩ := C
  have hK := hKX.1
  intro H locs ls hP hD hS hl
  exact lv_if_gt hx hb hd ht (fun hc => kt (by rw [if_pos hc] at h; exact h) H locs ls hP hD hS hl) (fun hc => kf (by rw [if_neg hc] at h; exact h) H locs ls hP hD hS hl)
theorem g_if_le (C : Cx J Z cc nL own rt R) {α : Type} {P P' : Option α} {oo : α} {x : Int32} {off : Int} {tgt : Nat} (hd : decode cc pc = .ok (.ifCond .le off, 3)) (ht : (pc : Int) + off = (tgt : Int)) (h : (if x ≤ 0 then P else P') = some oo) (kt : P = some oo → G J Z n k w nL lv tgt st) (kf : P' = some oo → G J Z n k w nL lv (pc + 3) st) : G J Z n k w nL lv pc (.int x :: st) := by
  obtain ⟨l, D, cy, aK, aV⟩ := J
  obtain ⟨p, e, R0, s, m, args, below, meth, c, A, Q⟩ := Z
  obtain ⟨hx, hb, hml, hown, hts, hKX, hr, hlk, hA, rfl⟩ := C
  have hK := hKX.1
  intro H locs ls hP hD hS hl
  exact lv_if_le hx hb hd ht (fun hc => kt (by rw [if_pos hc] at h; exact h) H locs ls hP hD hS hl) (fun hc => kf (by rw [if_neg hc] at h; exact h) H locs ls hP hD hS hl)
theorem g_icmp_eq (C : Cx J Z cc nL own rt R) {α : Type} {P P' : Option α} {oo : α} {x y : Int32} {off : Int} {tgt : Nat} (hd : decode cc pc = .ok (.if_icmp .eq off, 3)) (ht : (pc : Int) + off = (tgt : Int)) (h : (if x = y then P else P') = some oo) (kt : P = some oo → G J Z n k w nL lv tgt st) (kf : P' = some oo → G J Z n k w nL lv (pc + 3) st) : G J Z n k w nL lv pc (.int y :: .int x :: st) := by
  obtain ⟨l, D, cy, aK, aV⟩ := J
  obtain ⟨p, e, R0, s, m, args, below, meth, c, A, Q⟩ := Z
  obtain ⟨hx, hb, hml, hown, hts, hKX, hr, hlk, hA, rfl⟩ := C
  have hK := hKX.1
  intro H locs ls hP hD hS hl
  exact lv_icmp_eq hx hb hd ht (fun hc => kt (by rw [if_pos hc] at h; exact h) H locs ls hP hD hS hl) (fun hc => kf (by rw [if_neg hc] at h; exact h) H locs ls hP hD hS hl)
theorem g_icmp_lt (C : Cx J Z cc nL own rt R) {α : Type} {P P' : Option α} {oo : α} {x y : Int32} {off : Int} {tgt : Nat} (hd : decode cc pc = .ok (.if_icmp .lt off, 3)) (ht : (pc : Int) + off = (tgt : Int)) (h : (if x < y then P else P') = some oo) (kt : P = some oo → G J Z n k w nL lv tgt st) (kf : P' = some oo → G J Z n k w nL lv (pc + 3) st) : G J Z n k w nL lv pc (.int y :: .int x :: st) := by
  obtain ⟨l, D, cy, aK, aV⟩ := J
  obtain ⟨p, e, R0, s, m, args, below, meth, c, A, Q⟩ := Z
  obtain ⟨hx, hb, hml, hown, hts, hKX, hr, hlk, hA, rfl⟩ := C
  have hK := hKX.1
  intro H locs ls hP hD hS hl
  exact lv_icmp_lt hx hb hd ht (fun hc => kt (by rw [if_pos hc] at h; exact h) H locs ls hP hD hS hl) (fun hc => kf (by rw [if_neg hc] at h; exact h) H locs ls hP hD hS hl)
theorem g_icmp_ge (C : Cx J Z cc nL own rt R) {α : Type} {P P' : Option α} {oo : α} {x y : Int32} {off : Int} {tgt : Nat} (hd : decode cc pc = .ok (.if_icmp .ge off, 3)) (ht : (pc : Int) + off = (tgt : Int)) (h : (if y ≤ x then P else P') = some oo) (kt : P = some oo → G J Z n k w nL lv tgt st) (kf : P' = some oo → G J Z n k w nL lv (pc + 3) st) : G J Z n k w nL lv pc (.int y :: .int x :: st) := by
  obtain ⟨l, D, cy, aK, aV⟩ := J
  obtain ⟨p, e, R0, s, m, args, below, meth, c, A, Q⟩ := Z
  obtain ⟨hx, hb, hml, hown, hts, hKX, hr, hlk, hA, rfl⟩ := C
  have hK := hKX.1
  intro H locs ls hP hD hS hl
  exact lv_icmp_ge hx hb hd ht (fun hc => kt (by rw [if_pos hc] at h; exact h) H locs ls hP hD hS hl) (fun hc => kf (by rw [if_neg hc] at h; exact h) H locs ls hP hD hS hl)
theorem g_icmp_gt (C : Cx J Z cc nL own rt R) {α : Type} {P P' : Option α} {oo : α} {x y : Int32} {off : Int} {tgt : Nat} (hd : decode cc pc = .ok (.if_icmp .gt off, 3)) (ht : (pc : Int) + off = (tgt : Int)) (h : (if y < x then P else P') = some oo) (kt : P = some oo → G J Z n k w nL lv tgt st) (kf : P' = some oo → G J Z n k w nL lv (pc + 3) st) : G J Z n k w nL lv pc (.int y :: .int x :: st) := by
  obtain ⟨l, D, cy, aK, aV⟩ := J
  obtain ⟨p, e, R0, s, m, args, below, meth, c, A, Q⟩ := Z
  obtain ⟨hx, hb, hml, hown, hts, hKX, hr, hlk, hA, rfl⟩ := C
  have hK := hKX.1
  intro H locs ls hP hD hS hl
  exact lv_icmp_gt hx hb hd ht (fun hc => kt (by rw [if_pos hc] at h; exact h) H locs ls hP hD hS hl) (fun hc => kf (by rw [if_neg hc] at h; exact h) H locs ls hP hD hS hl)
theorem g_icmp_le (C : Cx J Z cc nL own rt R) {α : Type} {P P' : Option α} {oo : α} {x y : Int32} {off : Int} {tgt : Nat} (hd : decode cc pc = .ok (.if_icmp .le off, 3)) (ht : (pc : Int) + off = (tgt : Int)) (h : (if x ≤ y then P else P') = some oo) (kt : P = some oo → G J Z n k w nL lv tgt st) (kf : P' = some oo → G J Z n k w nL lv (pc + 3) st) : G J Z n k w nL lv pc (.int y :: .int x :: st) := by
  obtain ⟨l, D, cy, aK, aV⟩ := J
  obtain ⟨p, e, R0, s, m, args, below, meth, c, A, Q⟩ := Z
  obtain ⟨hx, hb, hml, hown, hts, hKX, hr, hlk, hA, rfl⟩ := C
  have hK := hKX.1
  intro H locs ls hP hD hS hl
  exact lv_icmp_le hx hb hd ht (fun hc => kt (by rw [if_pos hc] at h; exact h) H locs ls hP hD hS hl) (fun hc => kf (by rw [if_neg hc] at h; exact h) H locs ls hP hD hS hl)
theorem g_goto (C : Cx J Z cc nL own rt R) {off : Int} {tgt : Nat} (hd : decode cc pc = .ok (.goto off, 3)) (ht : (pc : Int) + off = (tgt : Int)) (kk : G J Z n k w nL lv tgt st) : G J Z n k w nL lv pc st := by
  obtain ⟨l, D, cy, aK, aV⟩ := J
  obtain ⟨p, e, R0, s, m, args, below, meth, c, A, Q⟩ := Z
  obtain ⟨hx, hb, hml, hown, hts, hKX, hr, hlk, hA, rfl⟩ := C
  have hK := hKX.1
  intro H locs ls hP hD hS hl
  exact lv_goto hx hb hd ht (kk H locs ls hP hD hS hl)
theorem g_lcmp (C : Cx J Z cc nL own rt R) {x y : Int64} (hd : decode cc pc = .ok (.lcmp, 1)) (kk : G J Z n k w nL lv (pc + 1) (.int (lg_cmp x y) :: st)) : G J Z n k w nL lv pc (.long y :: .long x :: st) := by
  obtain ⟨l, D, cy, aK, aV⟩ := J
  obtain ⟨p, e, R0, s, m, args, below, meth, c, A, Q⟩ := Z
  obtain ⟨hx, hb, hml, hown, hts, hKX, hr, hlk, hA, rfl⟩ := C
  have hK := hKX.1
  intro H locs ls hP hD hS hl
  exact W.lcmp hx hb hd (kk H locs ls hP hD hS hl)
theorem g_tsIn (C : Cx J Z cc nL own rt R) {x : Int32} {dflt lo hi : Int} {offs : Array Int} {len : Nat} {off : Int} {tgt : Nat} (hd : decode cc pc = .ok (.tableswitch dflt lo hi offs, len)) (h1 : ¬ x.toInt < lo) (h2 : ¬ hi < x.toInt) (ho : offs[(x.toInt - lo).toNat]? = some off) (ht : (pc : Int) + off = (tgt : Int)) (kk : G J Z n k w nL lv tgt st) : G J Z n k w nL lv pc (.int x :: st) := by
  obtain ⟨l, D, cy, aK, aV⟩ := J
  obtain ⟨p, e, R0, s, m, args, below, meth, c, A, Q⟩ := Z
  obtain ⟨hx, hb, hml, hown, hts, hKX, hr, hlk, hA, rfl⟩ := C
  have hK := hKX.1
  intro H locs ls hP hD hS hl
  exact lv_tableIn hx hb hd h1 h2 ho ht (kk H locs ls hP hD hS hl)
theorem g_tsOut (C : Cx J Z cc nL own rt R) {x : Int32} {dflt lo hi : Int} {offs : Array Int} {len : Nat} {tgt : Nat} (hd : decode cc pc = .ok (.tableswitch dflt lo hi offs, len)) (h1 : x.toInt < lo ∨ hi < x.toInt) (ht : (pc : Int) + dflt = (tgt : Int)) (kk : G J Z n k w nL lv tgt st) : G J Z n k w nL lv pc (.int x :: st) := by
  obtain ⟨l, D, cy, aK, aV⟩ := J
  obtain ⟨p, e, R0, s, m, args, below, meth, c, A, Q⟩ := Z
  obtain ⟨hx, hb, hml, hown, hts, hKX, hr, hlk, hA, rfl⟩ := C
  have hK := hKX.1
  intro H locs ls hP hD hS hl
  exact lv_tableOut hx hb hd h1 ht (kk H locs ls hP hD hS hl)
theorem g_lsw (C : Cx J Z cc nL own rt R) {x : Int32} {dflt : Int} {ps : Array (Int × Int)} {len : Nat} {off : Int} {tgt : Nat} (hd : decode cc pc = .ok (.lookupswitch dflt ps, len)) (hp : (ps.toList.zip (ps.toList.drop 1)).all (fun (a, next) => a.1 < next.1) = true) (ho : Op.lookupswitch.offset ps.toList dflt x.toInt = off) (ht : (pc : Int) + off = (tgt : Int)) (kk : G J Z n k w nL lv tgt st) : G J Z n k w nL lv pc (.int x :: st) := by
  obtain ⟨l, D, cy, aK, aV⟩ := J
  obtain ⟨p, e, R0, s, m, args, below, meth, c, A, Q⟩ := Z
  obtain ⟨hx, hb, hml, hown, hts, hKX, hr, hlk, hA, rfl⟩ := C
  have hK := hKX.1
  intro H locs ls hP hD hS hl
  exact lv_lookup hx hb hd hp ho ht (kk H locs ls hP hD hS hl)
/-- an index within its row -/
def ixb (i : Int32) (n : Nat) : Bool := decide (0 ≤ i) && decide (i.toNatClampNeg < n)
theorem ixb_in {i : Int32} {n : Nat} (h : ixb i n = true) : vp_in i n := by
  simp only [ixb, Bool.and_eq_true, decide_eq_true_eq] at h
  rintro (q | q)
  · exact absurd h.1 (Int32.not_le.mpr q)
  · omega
theorem ix_of {α : Type} {i : Int32} {n : Nat} {P : Option α} {o : α} (h : (if ixb i n = true then P else none) = some o) : vp_in i n ∧ P = some o := by
  by_cases hc : ixb i n = true
  · rw [if_pos hc] at h; exact ⟨ixb_in hc, h⟩
  · rw [if_neg hc] at h; cases h
theorem nz_of {α β : Type} {y : β} {z : β} [DecidableEq β] {P : Option α} {o : α} (h : (if y = z then none else P) = some o) : ¬ y = z ∧ P = some o := by
  by_cases hc : y = z
  · rw [if_pos hc] at h; cases h
  · rw [if_neg hc] at h; exact ⟨hc, h⟩
/-- a class's table -/
def FOK (Cn : String) (T : u_T) (N : Nat) (ty : Nat → FieldType) : Prop := (∀ w ∈ u_ws Cn T N, w ∈ LT) ∧ (∀ k, k < N → parseFieldDescriptor (T k).2.2.1 = some (ty k)) ∧ (∀ a, a < N → ∀ b, b < N → a ≠ b → (T a).2.1 ≠ (T b).2.1)
theorem g_get (C : Cx J Z cc nL own rt R) {Cn : String} {T : u_T} {N ci idx a : Nat} {ty : Nat → FieldType} {fs : List Value} {v : Value} (hF : FOK Cn T N ty) (q0 : Nat) (he : w[q0]? = some (a, .inr (ci, fs))) (hc : vwCl[ci]? = some (Cn, T, N)) (j : Nat) (hj : j < N) (hfl : Cond.fieldLink own idx (T j).1 (T j).2.1 (T j).2.2.1 ∈ LT) (hv : fs[j]? = some v) (hd : decode cc pc = .ok (.getfield idx, 3)) (kk : G J Z n k w nL lv (pc + 3) (v :: st)) : G J Z n k w nL lv pc (.ref a :: st) := by
  obtain ⟨l, D, cy, aK, aV⟩ := J
  obtain ⟨p, e, R0, s, m, args, below, meth, c, A, Q⟩ := Z
  obtain ⟨hx, hb, hml, hown, hts, hKX, hr, hlk, hA, rfl⟩ := C
  have hK := hKX.1
  intro H locs ls hP hD hS hl
  exact va_get hx hb hts hF.1 hown hK hP q0 he hc j hj (hts _ hfl) (fun _ h => h) hv hd (kk H locs ls hP hD hS hl)
theorem g_put (C : Cx J Z cc nL own rt R) {Cn : String} {T : u_T} {N ci idx a : Nat} {ty : Nat → FieldType} {fs : List Value} {v : Value} (hF : FOK Cn T N ty) (q0 : Nat) (he : w[q0]? = some (a, .inr (ci, fs))) (hc : vwCl[ci]? = some (Cn, T, N)) (j : Nat) (hj : j < N) (hfl : Cond.fieldLink own idx (T j).1 (T j).2.1 (T j).2.2.1 ∈ LT) (hfin : (T j).2.2.2 = false) (hn : narrow (ty j) v = v) (hfit : fits (ty j) v = true) (hl0 : j < fs.length) (hd : decode cc pc = .ok (.putfield idx, 3)) (hw : w.set q0 (a, .inr (ci, fs.set j v)) = w') (kk : G J Z n k w' nL lv (pc + 3) st) : G J Z n k w nL lv pc (v :: .ref a :: st) := by
  obtain ⟨l, D, cy, aK, aV⟩ := J
  obtain ⟨p, e, R0, s, m, args, below, meth, c, A, Q⟩ := Z
  obtain ⟨hx, hb, hml, hown, hts, hKX, hr, hlk, hA, rfl⟩ := C
  have hK := hKX.1
  intro H locs ls hP hD hS hl
  exact va_put hx hb hts hF.1 ty hF.2.1 hF.2.2 hown hK hP hD hS q0 he hc j hj (hts _ hfl) (fun _ h => h) hfin (hF.2.1 j hj) hn hfit hl0 hd (fun H locs hP hD hS => kk H locs ls (hw ▸ hP) (hw ▸ hD) hS hl)
theorem g_iald (C : Cx J Z cc nL own rt R) {a nn : Nat} {f : Nat → Int32} {i : Int32} (q0 : Nat) (he : w[q0]? = some (a, .inl (J.2.2.1 1, nn, .inl f))) (hin : vp_in i nn) (hd : decode cc pc = .ok (.iaload, 1)) (kk : G J Z n k w nL lv (pc + 1) (.int (f i.toNatClampNeg) :: st)) : G J Z n k w nL lv pc (.int i :: .ref a :: st) := by
  obtain ⟨l, D, cy, aK, aV⟩ := J
  obtain ⟨p, e, R0, s, m, args, below, meth, c, A, Q⟩ := Z
  obtain ⟨hx, hb, hml, hown, hts, hKX, hr, hlk, hA, rfl⟩ := C
  have hK := hKX.1
  intro H locs ls hP hD hS hl
  exact va_iald hx hb hK hP q0 1 he rfl hin hd (kk H locs ls hP hD hS hl)
theorem g_bald (C : Cx J Z cc nL own rt R) {a nn : Nat} {f : Nat → Int32} {i : Int32} (q0 : Nat) (he : w[q0]? = some (a, .inl (J.2.2.1 0, nn, .inl f))) (hin : vp_in i nn) (hd : decode cc pc = .ok (.baload, 1)) (kk : G J Z n k w nL lv (pc + 1) (.int (f i.toNatClampNeg) :: st)) : G J Z n k w nL lv pc (.int i :: .ref a :: st) := by
  obtain ⟨l, D, cy, aK, aV⟩ := J
  obtain ⟨p, e, R0, s, m, args, below, meth, c, A, Q⟩ := Z
  obtain ⟨hx, hb, hml, hown, hts, hKX, hr, hlk, hA, rfl⟩ := C
  have hK := hKX.1
  intro H locs ls hP hD hS hl
  exact va_bald hx hb hK hP q0 0 he rfl hin hd (kk H locs ls hP hD hS hl)
theorem g_lald (C : Cx J Z cc nL own rt R) {a nn : Nat} {f : Nat → Int64} {i : Int32} (q0 : Nat) (he : w[q0]? = some (a, .inl (J.2.2.1 2, nn, .inr (.inl f)))) (hin : vp_in i nn) (hd : decode cc pc = .ok (.laload, 1)) (kk : G J Z n k w nL lv (pc + 1) (.long (f i.toNatClampNeg) :: st)) : G J Z n k w nL lv pc (.int i :: .ref a :: st) := by
  obtain ⟨l, D, cy, aK, aV⟩ := J
  obtain ⟨p, e, R0, s, m, args, below, meth, c, A, Q⟩ := Z
  obtain ⟨hx, hb, hml, hown, hts, hKX, hr, hlk, hA, rfl⟩ := C
  have hK := hKX.1
  intro H locs ls hP hD hS hl
  exact va_lald hx hb hK hP q0 2 he rfl hin hd (kk H locs ls hP hD hS hl)
theorem g_iast (C : Cx J Z cc nL own rt R) {a nn : Nat} {f : Nat → Int32} {i : Int32} {x : Int32} (q0 : Nat) (he : w[q0]? = some (a, .inl (J.2.2.1 1, nn, .inl f))) (hin : vp_in i nn) (hd : decode cc pc = .ok (.iastore, 1)) (hw : w.set q0 (a, .inl (J.2.2.1 1, nn, .inl (upd f i.toNatClampNeg x))) = w') (kk : G J Z n k w' nL lv (pc + 1) st) : G J Z n k w nL lv pc (.int x :: .int i :: .ref a :: st) := by
  obtain ⟨l, D, cy, aK, aV⟩ := J
  obtain ⟨p, e, R0, s, m, args, below, meth, c, A, Q⟩ := Z
  obtain ⟨hx, hb, hml, hown, hts, hKX, hr, hlk, hA, rfl⟩ := C
  have hK := hKX.1
  intro H locs ls hP hD hS hl
  exact va_iast hx hb hK hP hD hS q0 1 he rfl hin hd (fun H locs hP hD hS => kk H locs ls (hw ▸ hP) (hw ▸ hD) hS hl)
theorem g_bast (C : Cx J Z cc nL own rt R) {a nn : Nat} {f : Nat → Int32} {i : Int32} {x : Int32} (q0 : Nat) (he : w[q0]? = some (a, .inl (J.2.2.1 0, nn, .inl f))) (hin : vp_in i nn) (hd : decode cc pc = .ok (.bastore, 1)) (hw : w.set q0 (a, .inl (J.2.2.1 0, nn, .inl (upd f i.toNatClampNeg (vp_nar .byte x)))) = w') (kk : G J Z n k w' nL lv (pc + 1) st) : G J Z n k w nL lv pc (.int x :: .int i :: .ref a :: st) := by
  obtain ⟨l, D, cy, aK, aV⟩ := J
  obtain ⟨p, e, R0, s, m, args, below, meth, c, A, Q⟩ := Z
  obtain ⟨hx, hb, hml, hown, hts, hKX, hr, hlk, hA, rfl⟩ := C
  have hK := hKX.1
  intro H locs ls hP hD hS hl
  exact va_bast hx hb hK hP hD hS q0 0 he rfl hin hd (fun H locs hP hD hS => kk H locs ls (hw ▸ hP) (hw ▸ hD) hS hl)
theorem g_last (C : Cx J Z cc nL own rt R) {a nn : Nat} {f : Nat → Int64} {i : Int32} {x : Int64} (q0 : Nat) (he : w[q0]? = some (a, .inl (J.2.2.1 2, nn, .inr (.inl f)))) (hin : vp_in i nn) (hd : decode cc pc = .ok (.lastore, 1)) (hw : w.set q0 (a, .inl (J.2.2.1 2, nn, .inr (.inl (vp_updL f i.toNatClampNeg x)))) = w') (kk : G J Z n k w' nL lv (pc + 1) st) : G J Z n k w nL lv pc (.long x :: .int i :: .ref a :: st) := by
  obtain ⟨l, D, cy, aK, aV⟩ := J
  obtain ⟨p, e, R0, s, m, args, below, meth, c, A, Q⟩ := Z
  obtain ⟨hx, hb, hml, hown, hts, hKX, hr, hlk, hA, rfl⟩ := C
  have hK := hKX.1
  intro H locs ls hP hD hS hl
  exact va_last hx hb hK hP hD hS q0 2 he rfl hin hd (fun H locs hP hD hS => kk H locs ls (hw ▸ hP) (hw ▸ hD) hS hl)
theorem g_iret {v : Int32} (C : Cx J Z cc nL own (some .int) R) (E : Ez J Z n k (some (.int v)) w) (hd : decode cc pc = .ok (.ireturn, 1)) : G J Z n k w nL lv pc [.int v] := by
  obtain ⟨l, D, cy, aK, aV⟩ := J
  obtain ⟨p, e, R0, s, m, args, below, meth, c, A, Q⟩ := Z
  obtain ⟨hx, hb, hml, hown, hts, hKX, hr, hlk, hA, rfl⟩ := C
  have hK := hKX.1
  intro H locs ls hP hD hS hl
  obtain ⟨w0, rfl, rfl⟩ := E
  exact W.iret hx hb hr (fun t ht hW => ⟨⟨rfl, by rw [ht]; exact hP, hD⟩, hS.F ht⟩) hS.2.2 hd hlk
theorem g_lret {v : Int64} (C : Cx J Z cc nL own (some .long) R) (E : Ez J Z n k (some (.long v)) w) (hd : decode cc pc = .ok (.lreturn, 1)) : G J Z n k w nL lv pc [.long v] := by
  obtain ⟨l, D, cy, aK, aV⟩ := J
  obtain ⟨p, e, R0, s, m, args, below, meth, c, A, Q⟩ := Z
  obtain ⟨hx, hb, hml, hown, hts, hKX, hr, hlk, hA, rfl⟩ := C
  have hK := hKX.1
  intro H locs ls hP hD hS hl
  obtain ⟨w0, rfl, rfl⟩ := E
  exact W.lret hx hb hr (fun t ht hW => ⟨⟨rfl, by rw [ht]; exact hP, hD⟩, hS.F ht⟩) hS.2.2 hd hlk
theorem g_zret {v : Int32} {ty : FieldType} (C : Cx J Z cc nL own (some ty) R) (hn : narrow ty (.int v) = .int v) (E : Ez J Z n k (some (.int v)) w) (hd : decode cc pc = .ok (.ireturn, 1)) : G J Z n k w nL lv pc [.int v] := by
  obtain ⟨l, D, cy, aK, aV⟩ := J
  obtain ⟨p, e, R0, s, m, args, below, meth, c, A, Q⟩ := Z
  obtain ⟨hx, hb, hml, hown, hts, hKX, hr, hlk, hA, rfl⟩ := C
  have hK := hKX.1
  intro H locs ls hP hD hS hl
  obtain ⟨w0, rfl, rfl⟩ := E
  exact W.zret hx hb hr hn (fun t ht hW => ⟨⟨rfl, by rw [ht]; exact hP, hD⟩, hS.F ht⟩) hS.2.2 hd hlk
theorem g_vret (C : Cx J Z cc nL own none R) (E : Ez J Z n k none w) (hd : decode cc pc = .ok (.return_, 1)) : G J Z n k w nL lv pc [] := by
  obtain ⟨l, D, cy, aK, aV⟩ := J
  obtain ⟨p, e, R0, s, m, args, below, meth, c, A, Q⟩ := Z
  obtain ⟨hx, hb, hml, hown, hts, hKX, hr, hlk, hA, rfl⟩ := C
  have hK := hKX.1
  intro H locs ls hP hD hS hl
  obtain ⟨w0, rfl, rfl⟩ := E
  exact W.vret hx hb hr (fun t ht hW => ⟨⟨rfl, by rw [ht]; exact hP, hD⟩, hS.F ht⟩) hS.2.2 hd hlk
def zok (x : Int32) : Bool := x == 0 || x == 1
theorem zok_n {x : Int32} (h : zok x = true) : narrow .boolean (.int x) = .int x := by
  simp only [zok, Bool.or_eq_true, beq_iff_eq] at h
  rcases h with rfl | rfl <;> rfl
theorem zok_of {α : Type} {x : Int32} {P : Option α} {o : α} (h : (if zok x = true then P else none) = some o) : narrow .boolean (.int x) = .int x ∧ P = some o := by
  by_cases hc : zok x = true
  · rw [if_pos hc] at h; exact ⟨zok_n hc, h⟩
  · rw [if_neg hc] at h; cases h
/-- a callee's part of a world: how it is cut out, and how what comes back is put beside the rest -/
def Sub (w wc wc' w' : va_W) : Prop := ∀ (D : va_G) (A : Nat → Prop) (H : Heap), va_P D vwCl w H → va_D A w → (va_P D vwCl wc H ∧ va_D A wc) ∧ ∀ H1 : Heap, (∀ q : Nat, q < H.size → ¬ va_A wc H.size q → H1[q]? = H[q]?) → (∀ q, va_A wc H.size q → A q) → va_P D vwCl wc' H1 → va_D (va_A wc H.size) wc' → va_P D vwCl w' H1 ∧ va_D A w'
theorem Sub.gen {w wc wc' w' : va_W} (isC isR is2 : List Nat) (hC : isC.map (fun i => w[i]?) = wc.map some) (hnC : va_nd isC = true) (hR : isR.map (fun i => w[i]?) = (isR.filterMap (fun i => w[i]?)).map some) (hn : va_nd isR = true) (hdis : ∀ i ∈ isR, i ∉ isC) (h2 : is2.map (fun i => (isR.filterMap (fun i => w[i]?) ++ wc')[i]?) = w'.map some) (hn2 : va_nd is2 = true) : Sub w wc wc' w' := by
  intro D A H hP hD
  refine ⟨⟨hP.sub isC (w_sub hC), hD.sub isC hnC hC⟩, fun H1 hk hF hP1 hD1 => ?_⟩
  obtain ⟨h3, h4⟩ := va_join hP hD isC isR hC hR hn hdis hk hF hP1 hD1
  exact ⟨h3.sub is2 (w_sub h2), h4.sub is2 hn2 h2⟩
theorem Sub.same {w w' : va_W} : Sub w w w' w' := fun _ _ _ hP hD => ⟨⟨hP, hD⟩, fun _ _ hF hP1 hD1 => ⟨hP1, hD1.weaken (fun _ _ _ h => hF _ h)⟩⟩
theorem Sub.nil {w : va_W} : Sub w [] [] w := fun _ _ _ hP hD => ⟨⟨fun k q h => by simp at h, ⟨fun i j p q h => by simp at h, fun k q h => by simp at h⟩⟩, fun _ hk _ _ _ => ⟨hP.kept (fun k q hq => hk q.1 ((hP k q hq).lt) (fun h => by
  rcases h with ⟨k2, e2, h⟩ | h
  · simp at h
  · exact absurd ((hP k q hq).lt) (Nat.not_lt.mpr h))), hD⟩⟩
theorem LT_V {own Cn : String} {idx : Nat} {y : MethodName} {c : Cond} (h1 : Cond.methodLink own idx y ∈ LT) (h2 : Cond.instanceMethod y ∈ LT) (h3 : Cond.selects Cn y y ∈ LT) (h4 : Cond.initialized Cn ∈ LT) (hc : c ∈ LT) : GoodIn LT (wsV own idx Cn y (c :: LT)) := LT_in (fun w0 h0 => by
  rcases List.mem_append.mp h0 with h0 | h0
  · simp only [List.mem_cons, List.not_mem_nil, or_false] at h0
    rcases h0 with rfl | rfl | rfl | rfl
    · exact h1
    · exact h2
    · exact h3
    · exact h4
  · rcases List.mem_cons.mp h0 with rfl | h0
    · exact hc
    · exact h0)
theorem LT_S {own : String} {idx : Nat} {y : MethodName} {c : Cond} (h1 : Cond.methodLink own idx y ∈ LT) (h2 : Cond.static y ∈ LT) (h4 : Cond.initialized own ∈ LT) (hc : c ∈ LT) : GoodIn LT (wsS own idx y (c :: LT)) := LT_in (fun w0 h0 => by
  rcases List.mem_append.mp h0 with h0 | h0
  · simp only [List.mem_cons, List.not_mem_nil, or_false] at h0
    rcases h0 with rfl | rfl | rfl
    · exact h1
    · exact h2
    · exact h4
  · rcases List.mem_cons.mp h0 with rfl | h0
    · exact hc
    · exact h0)
theorem g_callV (C : Cx J Z cc nL own rt R) {y : MethodName} {ccy : ByteArray} {nLy nA : Nat} {rty : Option FieldType} {Ry : Room} {b : Nat} {As : List Value} {wc wc' : va_W} {r : Option Value} {idx : Nat} {Cn : String} {T : u_T} {N ci q0 : Nat} {fs : List Value} (hci : vwCl[ci]? = some (Cn, T, N)) (hrc : w[q0]? = some (b, .inr (ci, fs))) (M : Mt J y ccy nLy rty Ry (.ref b :: As) wc r wc') (S : Sub w wc wc' w') (hl1 : Cond.methodLink own idx y ∈ LT) (hl2 : Cond.instanceMethod y ∈ LT) (hl3 : Cond.selects Cn y y ∈ LT) (hl4 : Cond.initialized Cn ∈ LT) (hyC : y.cls = Cn ∧ y.cls ≠ "java/lang/invoke/MethodHandle" ∧ y.cls ≠ "java/lang/invoke/VarHandle" ∧ (parseMethodDescriptor y.desc).map (fun d => d.parameters.length) = some nA) (hcd : Cond.code y ccy nLy rty ∈ LT) (hnA : As.length = nA) (hr1 : Ry.frames + 1 ≤ R.frames) (hr2 : 8 + (nLy + 11) + Ry.locals ≤ R.locals) (hr3 : n + Ry.cells ≤ R.cells) (hr4 : k + Ry.slots ≤ R.slots) (hst : (st.map fun v => v.category).sum ≤ 8) (hd : decode cc pc = .ok (.invokevirtual idx, 3)) (kk : G J Z (n + Ry.cells) (k + Ry.slots) w' nL lv (pc + 3) (r.toList ++ st)) : G J Z n k w nL lv pc (As.reverse ++ .ref b :: st) := by
  have hJ : J.2.1 = J.2.1 := rfl
  obtain ⟨l, D, cy, aK, aV⟩ := J
  obtain ⟨p, e, R0, s, m, args, below, meth, c, A, Q⟩ := Z
  obtain ⟨hx, hb, hml, hown, hts, hKX, hr, hlk, hA, rfl⟩ := C
  have hK := hKX.1
  intro H locs ls hP hD hS hl
  obtain ⟨⟨hPc, hDc0⟩, hAf⟩ := S D A H hP hD
  have hFc : ∀ q, va_A wc H.size q → A q := fun q h => by
    rcases h with ⟨k2, e2, h⟩ | h
    · exact hDc0.2 k2 _ h
    · exact hA q (Nat.le_trans hS.1 h)
  have hDc : va_D (fun _ => True) wc := ⟨hDc0.1, fun _ _ _ => trivial⟩
  have hKc : KX (l, D, cy, aK, aV) (va_A wc H.size) s H := (hKX.kept (fun a h1 h2 => hS.2.1 a h1 h2)).narrow hFc
  have hcw := LT_in (ws := Cond.code y ccy nLy rty :: LT) (fun w0 h0 => by rcases List.mem_cons.mp h0 with rfl | h0; exact hcd; exact h0)
  intro T hT X
  obtain ⟨v, st₀, t, T', L, h0, X', hL, e1, e2, ⟨⟨hv, hP1, hD1⟩, hz, hk1⟩, sg⟩ := va_runV (g := F0 m pc ls (As.reverse ++ .ref b :: st)) (As := As) (rest := st) ⟨hx, hb, hml, hown, hts⟩ (M H.size) (cwV nA hts (LT_V hl1 hl2 hl3 hl4 hcd) rfl rfl rfl hyC ⟨hr1, hr2⟩) ⟨fun a U g mk q => by obtain ⟨q0, q1, qP, qD, qK⟩ := q; exact ⟨q0, q1, qP, qD, qK.calling g mk a⟩, va_recv hK hP (ci := ci) (q0 := q0) hci hrc, fun U hU hW => ⟨rfl, by rw [hU], by rw [hU]; exact hPc, hDc, by rw [hU]; exact hKc.warm hW⟩⟩ rfl hnA hl.1 rfl (by simpa [JFrame.monitorRoom] using hst) hd ⟨hr3, hr4⟩ T hT X
  cases hv
  rw [h0] at hz hk1
  have hS' : va_S A s.heap T'.heap (locs ++ L) := ⟨Nat.le_trans hS.1 (by rw [e1]; exact hz), fun q q1 q2 => by rw [e1, hk1 q (Nat.lt_of_lt_of_le q1 hS.1) (fun z => q2 (hFc q z))]; exact hS.2.1 q q1 q2, fun q hq => by
    rcases List.mem_append.mp hq with h | h
    · exact hS.2.2 q h
    · exact hFc _ (hL q h)⟩
  obtain ⟨hP2, hD2⟩ := hAf T'.heap (fun q q1 q2 => by rw [e1]; exact hk1 q q1 q2) hFc (by rw [e1]; exact hP1) hD1
  obtain ⟨t2, a1, b1⟩ := kk T'.heap (locs ++ L) ls hP2 hD2 hS' hl T' rfl X'
  exact ⟨t2, sg t2 a1, b1⟩
theorem g_callS (C : Cx J Z cc nL own rt R) {y : MethodName} {ccy : ByteArray} {nLy nA : Nat} {rty : Option FieldType} {Ry : Room} {As : List Value} {wc wc' : va_W} {r : Option Value} {idx : Nat} (M : Mt J y ccy nLy rty Ry (As) wc r wc') (S : Sub w wc wc' w') (hl1 : Cond.methodLink own idx y ∈ LT) (hl2 : Cond.static y ∈ LT) (hl4 : Cond.initialized own ∈ LT) (hyC : y.cls = own ∧ y.cls ≠ "java/lang/invoke/MethodHandle" ∧ y.cls ≠ "java/lang/invoke/VarHandle" ∧ (parseMethodDescriptor y.desc).map (fun d => d.parameters.length) = some nA) (hcd : Cond.code y ccy nLy rty ∈ LT) (hnA : As.length = nA) (hr1 : Ry.frames + 1 ≤ R.frames) (hr2 : 8 + (nLy + 11) + Ry.locals ≤ R.locals) (hr3 : n + Ry.cells ≤ R.cells) (hr4 : k + Ry.slots ≤ R.slots) (hst : (st.map fun v => v.category).sum ≤ 8) (hd : decode cc pc = .ok (.invokestatic idx, 3)) (kk : G J Z (n + Ry.cells) (k + Ry.slots) w' nL lv (pc + 3) (r.toList ++ st)) : G J Z n k w nL lv pc (As.reverse ++ st) := by
  have hJ : J.2.1 = J.2.1 := rfl
  obtain ⟨l, D, cy, aK, aV⟩ := J
  obtain ⟨p, e, R0, s, m, args, below, meth, c, A, Q⟩ := Z
  obtain ⟨hx, hb, hml, hown, hts, hKX, hr, hlk, hA, rfl⟩ := C
  have hK := hKX.1
  intro H locs ls hP hD hS hl
  obtain ⟨⟨hPc, hDc0⟩, hAf⟩ := S D A H hP hD
  have hFc : ∀ q, va_A wc H.size q → A q := fun q h => by
    rcases h with ⟨k2, e2, h⟩ | h
    · exact hDc0.2 k2 _ h
    · exact hA q (Nat.le_trans hS.1 h)
  have hDc : va_D (fun _ => True) wc := ⟨hDc0.1, fun _ _ _ => trivial⟩
  have hKc : KX (l, D, cy, aK, aV) (va_A wc H.size) s H := (hKX.kept (fun a h1 h2 => hS.2.1 a h1 h2)).narrow hFc
  have hcw := LT_in (ws := Cond.code y ccy nLy rty :: LT) (fun w0 h0 => by rcases List.mem_cons.mp h0 with rfl | h0; exact hcd; exact h0)
  intro T hT X
  obtain ⟨v, st₀, t, T', L, h0, X', hL, e1, e2, ⟨⟨hv, hP1, hD1⟩, hz, hk1⟩, sg⟩ := va_runS (g := F0 m pc ls (As.reverse ++ st)) (As := As) (rest := st) ⟨hx, hb, hml, hown, hts⟩ (M H.size) (cwS nA hts (LT_S hl1 hl2 hl4 hcd) rfl rfl rfl hyC ⟨hr1, hr2⟩) ⟨fun a U g mk q => by obtain ⟨q0, q1, qP, qD, qK⟩ := q; exact ⟨q0, q1, qP, qD, qK.calling g mk a⟩, fun U hU hW => ⟨rfl, by rw [hU], by rw [hU]; exact hPc, hDc, by rw [hU]; exact hKc.warm hW⟩⟩ rfl hnA hl.1 rfl (by simpa [JFrame.monitorRoom] using hst) hd ⟨hr3, hr4⟩ T hT X
  cases hv
  rw [h0] at hz hk1
  have hS' : va_S A s.heap T'.heap (locs ++ L) := ⟨Nat.le_trans hS.1 (by rw [e1]; exact hz), fun q q1 q2 => by rw [e1, hk1 q (Nat.lt_of_lt_of_le q1 hS.1) (fun z => q2 (hFc q z))]; exact hS.2.1 q q1 q2, fun q hq => by
    rcases List.mem_append.mp hq with h | h
    · exact hS.2.2 q h
    · exact hFc _ (hL q h)⟩
  obtain ⟨hP2, hD2⟩ := hAf T'.heap (fun q q1 q2 => by rw [e1]; exact hk1 q q1 q2) hFc (by rw [e1]; exact hP1) hD1
  obtain ⟨t2, a1, b1⟩ := kk T'.heap (locs ++ L) ls hP2 hD2 hS' hl T' rfl X'
  exact ⟨t2, sg t2 a1, b1⟩
theorem g_callSN (C : Cx J Z cc nL own rt R) {y : MethodName} {ccy : ByteArray} {nLy nA : Nat} {rty : Option FieldType} {Ry : Room} {As : List Value} {wc wc' : va_W} {r : Option Value} {idx : Nat} (M : Mt J y ccy nLy rty Ry (As) wc r wc') (S : Sub w wc wc' w') (hnst : Cond.methodLinkNest own idx y "LetterScarecrow" ∈ nestW) (hl2 : Cond.static y ∈ LT) (hl4 : Cond.initialized y.cls ∈ LT) (hyC : y.cls ≠ "java/lang/invoke/MethodHandle" ∧ y.cls ≠ "java/lang/invoke/VarHandle" ∧ (parseMethodDescriptor y.desc).map (fun d => d.parameters.length) = some nA) (hcd : Cond.code y ccy nLy rty ∈ LT) (hnA : As.length = nA) (hr1 : Ry.frames + 1 ≤ R.frames) (hr2 : 8 + (nLy + 11) + Ry.locals ≤ R.locals) (hr3 : n + Ry.cells ≤ R.cells) (hr4 : k + Ry.slots ≤ R.slots) (hst : (st.map fun v => v.category).sum ≤ 8) (hd : decode cc pc = .ok (.invokestatic idx, 3)) (kk : G J Z (n + Ry.cells) (k + Ry.slots) w' nL lv (pc + 3) (r.toList ++ st)) : G J Z n k w nL lv pc (As.reverse ++ st) := by
  have hJ : J.2.1 = J.2.1 := rfl
  obtain ⟨l, D, cy, aK, aV⟩ := J
  obtain ⟨p, e, R0, s, m, args, below, meth, c, A, Q⟩ := Z
  obtain ⟨hx, hb, hml, hown, hts, hKX, hr, hlk, hA, rfl⟩ := C
  have hK := hKX.1
  intro H locs ls hP hD hS hl
  obtain ⟨⟨hPc, hDc0⟩, hAf⟩ := S D A H hP hD
  have hFc : ∀ q, va_A wc H.size q → A q := fun q h => by
    rcases h with ⟨k2, e2, h⟩ | h
    · exact hDc0.2 k2 _ h
    · exact hA q (Nat.le_trans hS.1 h)
  have hDc : va_D (fun _ => True) wc := ⟨hDc0.1, fun _ _ _ => trivial⟩
  have hKc : KX (l, D, cy, aK, aV) (va_A wc H.size) s H := (hKX.kept (fun a h1 h2 => hS.2.1 a h1 h2)).narrow hFc
  have hcw := LT_in (ws := Cond.code y ccy nLy rty :: LT) (fun w0 h0 => by rcases List.mem_cons.mp h0 with rfl | h0; exact hcd; exact h0)
  intro T hT X
  obtain ⟨v, st₀, t, T', L, h0, X', hL, e1, e2, ⟨⟨hv, hP1, hD1⟩, hz, hk1⟩, sg⟩ := va_runSN (g := F0 m pc ls (As.reverse ++ st)) (As := As) (rest := st) ⟨hx, hb, hml, hown, hts⟩ (M H.size) ⟨va_cnB nA hts hcw rfl rfl rfl (hKX.2.1.1 _ hnst) (hts _ hl4) hyC ⟨hr1, hr2⟩, hts _ hl2, trivial⟩ ⟨fun a U g mk q => by obtain ⟨q0, q1, qP, qD, qK⟩ := q; exact ⟨q0, q1, qP, qD, qK.calling g mk a⟩, fun U hU hW => ⟨rfl, by rw [hU], by rw [hU]; exact hPc, hDc, by rw [hU]; exact hKc.warm hW⟩⟩ rfl hnA hl.1 rfl (by simpa [JFrame.monitorRoom] using hst) hd ⟨hr3, hr4⟩ T hT X
  cases hv
  rw [h0] at hz hk1
  have hS' : va_S A s.heap T'.heap (locs ++ L) := ⟨Nat.le_trans hS.1 (by rw [e1]; exact hz), fun q q1 q2 => by rw [e1, hk1 q (Nat.lt_of_lt_of_le q1 hS.1) (fun z => q2 (hFc q z))]; exact hS.2.1 q q1 q2, fun q hq => by
    rcases List.mem_append.mp hq with h | h
    · exact hS.2.2 q h
    · exact hFc _ (hL q h)⟩
  obtain ⟨hP2, hD2⟩ := hAf T'.heap (fun q q1 q2 => by rw [e1]; exact hk1 q q1 q2) hFc (by rw [e1]; exact hP1) hD1
  obtain ⟨t2, a1, b1⟩ := kk T'.heap (locs ++ L) ls hP2 hD2 hS' hl T' rfl X'
  exact ⟨t2, sg t2 a1, b1⟩
theorem g_callI (C : Cx J Z cc nL own rt R) {y : MethodName} {ccy : ByteArray} {nLy nA : Nat} {rty : Option FieldType} {Ry : Room} {b : Nat} {As : List Value} {wc wc' : va_W} {r : Option Value} {idx : Nat} (M : Mt J y ccy nLy rty Ry (.ref b :: As) wc r wc') (S : Sub w wc wc' w') (hrt : rty = none) (hl1 : Cond.methodLink own idx y ∈ LT) (hl2 : Cond.instanceMethod y ∈ LT) (hl4 : Cond.initialized y.cls ∈ LT) (hy1 : y.name = "<init>") (hyC : y.cls ≠ "java/lang/invoke/MethodHandle" ∧ y.cls ≠ "java/lang/invoke/VarHandle" ∧ (parseMethodDescriptor y.desc).map (fun d => d.parameters.length) = some nA) (hcd : Cond.code y ccy nLy rty ∈ LT) (hnA : As.length = nA) (hr1 : Ry.frames + 1 ≤ R.frames) (hr2 : 8 + (nLy + 11) + Ry.locals ≤ R.locals) (hr3 : n + Ry.cells ≤ R.cells) (hr4 : k + Ry.slots ≤ R.slots) (hst : (st.map fun v => v.category).sum ≤ 8) (hd : decode cc pc = .ok (.invokespecial idx, 3)) (kk : G J Z (n + Ry.cells) (k + Ry.slots) w' nL lv (pc + 3) (r.toList ++ st)) : G J Z n k w nL lv pc (As.reverse ++ .ref b :: st) := by
  have hJ : J.2.1 = J.2.1 := rfl
  obtain ⟨l, D, cy, aK, aV⟩ := J
  obtain ⟨p, e, R0, s, m, args, below, meth, c, A, Q⟩ := Z
  obtain ⟨hx, hb, hml, hown, hts, hKX, hr, hlk, hA, rfl⟩ := C
  have hK := hKX.1
  intro H locs ls hP hD hS hl
  obtain ⟨⟨hPc, hDc0⟩, hAf⟩ := S D A H hP hD
  have hFc : ∀ q, va_A wc H.size q → A q := fun q h => by
    rcases h with ⟨k2, e2, h⟩ | h
    · exact hDc0.2 k2 _ h
    · exact hA q (Nat.le_trans hS.1 h)
  have hDc : va_D (fun _ => True) wc := ⟨hDc0.1, fun _ _ _ => trivial⟩
  have hKc : KX (l, D, cy, aK, aV) (va_A wc H.size) s H := (hKX.kept (fun a h1 h2 => hS.2.1 a h1 h2)).narrow hFc
  have hcw := LT_in (ws := Cond.code y ccy nLy rty :: LT) (fun w0 h0 => by rcases List.mem_cons.mp h0 with rfl | h0; exact hcd; exact h0)
  intro T hT X
  obtain ⟨v, st₀, t, T', L, h0, X', hL, e1, e2, ⟨⟨hv, hP1, hD1⟩, hz, hk1⟩, sg⟩ := va_runI (g := F0 m pc ls (As.reverse ++ .ref b :: st)) (As := As) (rest := st) ⟨hx, hb, hml, hown, hts⟩ (hrt ▸ M H.size) (cwI nA hts (hrt ▸ hcw) rfl rfl rfl (hts _ hl4) (hts _ hl1) (hts _ hl2) hy1 hyC ⟨hr1, hr2⟩) ⟨fun a U g mk q => by obtain ⟨q0, q1, qP, qD, qK⟩ := q; exact ⟨q0, q1, qP, qD, qK.calling g mk a⟩, fun U hU hW => ⟨rfl, by rw [hU], by rw [hU]; exact hPc, hDc, by rw [hU]; exact hKc.warm hW⟩⟩ rfl hnA hl.1 rfl (by simpa [JFrame.monitorRoom] using hst) hd ⟨hr3, hr4⟩ T hT X
  cases hv
  rw [h0] at hz hk1
  have hS' : va_S A s.heap T'.heap (locs ++ L) := ⟨Nat.le_trans hS.1 (by rw [e1]; exact hz), fun q q1 q2 => by rw [e1, hk1 q (Nat.lt_of_lt_of_le q1 hS.1) (fun z => q2 (hFc q z))]; exact hS.2.1 q q1 q2, fun q hq => by
    rcases List.mem_append.mp hq with h | h
    · exact hS.2.2 q h
    · exact hFc _ (hL q h)⟩
  obtain ⟨hP2, hD2⟩ := hAf T'.heap (fun q q1 q2 => by rw [e1]; exact hk1 q q1 q2) hFc (by rw [e1]; exact hP1) hD1
  obtain ⟨t2, a1, b1⟩ := kk T'.heap (locs ++ L) ls hP2 hD2 hS' hl T' rfl X'
  exact ⟨t2, sg t2 a1, b1⟩
theorem g_callIN (C : Cx J Z cc nL own rt R) {y : MethodName} {ccy : ByteArray} {nLy nA : Nat} {rty : Option FieldType} {Ry : Room} {b : Nat} {As : List Value} {wc wc' : va_W} {r : Option Value} {idx : Nat} (M : Mt J y ccy nLy rty Ry (.ref b :: As) wc r wc') (S : Sub w wc wc' w') (hrt : rty = none) (hnst : Cond.methodLinkNest own idx y "LetterScarecrow" ∈ nestW) (hl2 : Cond.instanceMethod y ∈ LT) (hl4 : Cond.initialized y.cls ∈ LT) (hy1 : y.name = "<init>") (hyC : y.cls ≠ "java/lang/invoke/MethodHandle" ∧ y.cls ≠ "java/lang/invoke/VarHandle" ∧ (parseMethodDescriptor y.desc).map (fun d => d.parameters.length) = some nA) (hcd : Cond.code y ccy nLy rty ∈ LT) (hnA : As.length = nA) (hr1 : Ry.frames + 1 ≤ R.frames) (hr2 : 8 + (nLy + 11) + Ry.locals ≤ R.locals) (hr3 : n + Ry.cells ≤ R.cells) (hr4 : k + Ry.slots ≤ R.slots) (hst : (st.map fun v => v.category).sum ≤ 8) (hd : decode cc pc = .ok (.invokespecial idx, 3)) (kk : G J Z (n + Ry.cells) (k + Ry.slots) w' nL lv (pc + 3) (r.toList ++ st)) : G J Z n k w nL lv pc (As.reverse ++ .ref b :: st) := by
  have hJ : J.2.1 = J.2.1 := rfl
  obtain ⟨l, D, cy, aK, aV⟩ := J
  obtain ⟨p, e, R0, s, m, args, below, meth, c, A, Q⟩ := Z
  obtain ⟨hx, hb, hml, hown, hts, hKX, hr, hlk, hA, rfl⟩ := C
  have hK := hKX.1
  intro H locs ls hP hD hS hl
  obtain ⟨⟨hPc, hDc0⟩, hAf⟩ := S D A H hP hD
  have hFc : ∀ q, va_A wc H.size q → A q := fun q h => by
    rcases h with ⟨k2, e2, h⟩ | h
    · exact hDc0.2 k2 _ h
    · exact hA q (Nat.le_trans hS.1 h)
  have hDc : va_D (fun _ => True) wc := ⟨hDc0.1, fun _ _ _ => trivial⟩
  have hKc : KX (l, D, cy, aK, aV) (va_A wc H.size) s H := (hKX.kept (fun a h1 h2 => hS.2.1 a h1 h2)).narrow hFc
  have hcw := LT_in (ws := Cond.code y ccy nLy rty :: LT) (fun w0 h0 => by rcases List.mem_cons.mp h0 with rfl | h0; exact hcd; exact h0)
  intro T hT X
  obtain ⟨v, st₀, t, T', L, h0, X', hL, e1, e2, ⟨⟨hv, hP1, hD1⟩, hz, hk1⟩, sg⟩ := va_runIN (g := F0 m pc ls (As.reverse ++ .ref b :: st)) (As := As) (rest := st) ⟨hx, hb, hml, hown, hts⟩ (hrt ▸ M H.size) ⟨va_cnB nA hts (hrt ▸ hcw) rfl rfl rfl (hKX.2.1.1 _ hnst) (hts _ hl4) hyC ⟨hr1, hr2⟩, hy1, hts _ hl2⟩ ⟨fun a U g mk q => by obtain ⟨q0, q1, qP, qD, qK⟩ := q; exact ⟨q0, q1, qP, qD, qK.calling g mk a⟩, fun U hU hW => ⟨rfl, by rw [hU], by rw [hU]; exact hPc, hDc, by rw [hU]; exact hKc.warm hW⟩⟩ rfl hnA hl.1 rfl (by simpa [JFrame.monitorRoom] using hst) hd ⟨hr3, hr4⟩ T hT X
  cases hv
  rw [h0] at hz hk1
  have hS' : va_S A s.heap T'.heap (locs ++ L) := ⟨Nat.le_trans hS.1 (by rw [e1]; exact hz), fun q q1 q2 => by rw [e1, hk1 q (Nat.lt_of_lt_of_le q1 hS.1) (fun z => q2 (hFc q z))]; exact hS.2.1 q q1 q2, fun q hq => by
    rcases List.mem_append.mp hq with h | h
    · exact hS.2.2 q h
    · exact hFc _ (hL q h)⟩
  obtain ⟨hP2, hD2⟩ := hAf T'.heap (fun q q1 q2 => by rw [e1]; exact hk1 q q1 q2) hFc (by rw [e1]; exact hP1) hD1
  obtain ⟨t2, a1, b1⟩ := kk T'.heap (locs ++ L) ls hP2 hD2 hS' hl T' rfl X'
  exact ⟨t2, sg t2 a1, b1⟩
def imax (x y : Int32) : Int32 := if x < y then y else x
def imin (x y : Int32) : Int32 := if y < x then y else x
theorem g_imax (C : Cx J Z cc nL own rt R) {x y : Int32} {idx : Nat} (hlink : Cond.methodLink own idx Lib.Math.max.name ∈ LT) (hstat : Cond.static Lib.Math.max.name ∈ LT) (hini : Cond.initialized "java/lang/Math" ∈ LT) (hcode : Cond.code Lib.Math.max.name Lib.Math.max.code 2 (some .int) ∈ LT) (hf : 1 ≤ R.frames) (hl0 : (st.map fun v => v.category).sum + 13 ≤ R.locals) (hc0 : n ≤ R.cells) (hs0 : k ≤ R.slots) (hd : decode cc pc = .ok (.invokestatic idx, 3)) (kk : G J Z n k w nL lv (pc + 3) (.int (imax x y) :: st)) : G J Z n k w nL lv pc (.int y :: .int x :: st) := by
  obtain ⟨l, D, cy, aK, aV⟩ := J
  obtain ⟨p, e, R0, s, m, args, below, meth, c, A, Q⟩ := Z
  obtain ⟨hx, hb, hml, hown, hts, hKX, hr, hlk, hA, rfl⟩ := C
  have hK := hKX.1
  intro H locs ls hP hD hS hl
  exact va_mmax hx hb (by rw [hml]; exact hl.1.symm) hown (hts _ hlink) (hts _ hstat) (hts _ hini) (hts _ hcode) hf hl0 hc0 hs0 hd (kk H locs ls hP hD hS hl)
theorem g_imin (C : Cx J Z cc nL own rt R) {x y : Int32} {idx : Nat} (hlink : Cond.methodLink own idx Lib.Math.min.name ∈ LT) (hstat : Cond.static Lib.Math.min.name ∈ LT) (hini : Cond.initialized "java/lang/Math" ∈ LT) (hcode : Cond.code Lib.Math.min.name Lib.Math.min.code 2 (some .int) ∈ LT) (hf : 1 ≤ R.frames) (hl0 : (st.map fun v => v.category).sum + 13 ≤ R.locals) (hc0 : n ≤ R.cells) (hs0 : k ≤ R.slots) (hd : decode cc pc = .ok (.invokestatic idx, 3)) (kk : G J Z n k w nL lv (pc + 3) (.int (imin x y) :: st)) : G J Z n k w nL lv pc (.int y :: .int x :: st) := by
  obtain ⟨l, D, cy, aK, aV⟩ := J
  obtain ⟨p, e, R0, s, m, args, below, meth, c, A, Q⟩ := Z
  obtain ⟨hx, hb, hml, hown, hts, hKX, hr, hlk, hA, rfl⟩ := C
  have hK := hKX.1
  intro H locs ls hP hD hS hl
  exact va_mmin hx hb (by rw [hml]; exact hl.1.symm) hown (hts _ hlink) (hts _ hstat) (hts _ hini) (hts _ hcode) hf hl0 hc0 hs0 hd (kk H locs ls hP hD hS hl)
def cpb (sp dp m : Int32) (n0 n1 : Nat) : Bool := decide (0 ≤ sp) && (decide (0 ≤ dp) && (decide (0 ≤ m) && (decide (sp.toNatClampNeg + m.toNatClampNeg ≤ n0) && decide (dp.toNatClampNeg + m.toNatClampNeg ≤ n1))))
theorem cp_of {α : Type} {sp dp m : Int32} {n0 n1 : Nat} {P : Option α} {o : α} (h : (if cpb sp dp m n0 n1 = true then P else none) = some o) : (¬ sp < 0 ∧ ¬ dp < 0 ∧ ¬ m < 0 ∧ sp.toNatClampNeg + m.toNatClampNeg ≤ n0 ∧ dp.toNatClampNeg + m.toNatClampNeg ≤ n1) ∧ P = some o := by
  by_cases hc : cpb sp dp m n0 n1 = true
  · rw [if_pos hc] at h
    simp only [cpb, Bool.and_eq_true, decide_eq_true_eq] at hc
    exact ⟨⟨Int32.not_lt.mpr hc.1, Int32.not_lt.mpr hc.2.1, Int32.not_lt.mpr hc.2.2.1, hc.2.2.2.1, hc.2.2.2.2⟩, h⟩
  · rw [if_neg hc] at h; cases h
theorem g_copyi (C : Cx J Z cc nL own rt R) {idx a0 a1 n0 n1 : Nat} {f g : Nat → Int32} {sp dp mm : Int32} (hlink : Cond.methodLink own idx arraycopyName ∈ LT) (hnat : Cond.native arraycopyName ∈ LT) (hstat : Cond.static arraycopyName ∈ LT) (hini : Cond.initialized "java/lang/System" ∈ LT) (q0 q1 : Nat) (ha0 : w[q0]? = some (a0, .inl (J.2.2.1 1, n0, .inl f))) (ha1 : w[q1]? = some (a1, .inl (J.2.2.1 1, n1, .inl g))) (hi : ¬ sp < 0 ∧ ¬ dp < 0 ∧ ¬ mm < 0 ∧ sp.toNatClampNeg + mm.toNatClampNeg ≤ n0 ∧ dp.toNatClampNeg + mm.toNatClampNeg ≤ n1) (hf : 1 ≤ R.frames) (hl0 : (st.map fun v => v.category).sum + (nativeFrameWords "java/lang/System" "arraycopy" 5 + 11) ≤ R.locals) (hd : decode cc pc = .ok (.invokestatic idx, 3)) (hw : w.set q1 (a1, .inl (J.2.2.1 1, n1, .inl (va_cpy f g sp.toNatClampNeg dp.toNatClampNeg mm.toNatClampNeg))) = w') (kk : G J Z n k w' nL lv (pc + 3) st) : G J Z n k w nL lv pc (.int mm :: .int dp :: .ref a1 :: .int sp :: .ref a0 :: st) := by
  obtain ⟨l, D, cy, aK, aV⟩ := J
  obtain ⟨p, e, R0, s, m, args, below, meth, c, A, Q⟩ := Z
  obtain ⟨hx, hb, hml, hown, hts, hKX, hr, hlk, hA, rfl⟩ := C
  have hK := hKX.1
  intro H locs ls hP hD hS hl
  exact va_copyi (ty := .int) hx hb (by rw [hml]; exact hl.1.symm) hown (hts _ hlink) (hts _ hnat) (hts _ hstat) (hts _ hini) hK hP hD hS q0 q1 1 1 ha0 ha1 rfl rfl rfl hi.1 hi.2.1 hi.2.2.1 hi.2.2.2.1 hi.2.2.2.2 (fun _ _ => rfl) hf hl0 hd (fun H locs hP hD hS => kk H locs ls (hw ▸ hP) (hw ▸ hD) hS hl)
theorem g_ldcS (C : Cx J Z cc nL own rt R) {i idx : Nat} {tx : String} (hq : stT[i]? = some (own, idx, tx)) (hd : decode cc pc = .ok (.ldc idx, 2)) (kk : G J Z n k w nL lv (pc + 2) (.ref (J.2.2.2.1 i) :: st)) : G J Z n k w nL lv pc st := by
  obtain ⟨l, D, cy, aK, aV⟩ := J
  obtain ⟨p, e, R0, s, m, args, below, meth, c, A, Q⟩ := Z
  obtain ⟨hx, hb, hml, hown, hts, hKX, hr, hlk, hA, rfl⟩ := C
  have hK := hKX.1
  intro H locs ls hP hD hS hl
  exact va_ldcS hx hb hown (hKX.2.2.1 i _ hq) hd (kk H locs ls hP hD hS hl)
theorem LT_X {own : String} {idx : Nat} {y : MethodName} {c : Cond} (h1 : Cond.methodLink own idx y ∈ LT) (h2 : Cond.static y ∈ LT) (h4 : Cond.initialized y.cls ∈ LT) (hc : c ∈ LT) : GoodIn LT (va_wsS own idx y (c :: LT)) := LT_in (fun w0 h0 => by
  rcases List.mem_append.mp h0 with h0 | h0
  · simp only [List.mem_cons, List.not_mem_nil, or_false] at h0
    rcases h0 with rfl | rfl | rfl
    · exact h1
    · exact h2
    · exact h4
  · rcases List.mem_cons.mp h0 with rfl | h0
    · exact hc
    · exact h0)
theorem g_callSX (C : Cx J Z cc nL own rt R) {y : MethodName} {ccy : ByteArray} {nLy nA : Nat} {rty : Option FieldType} {Ry : Room} {As : List Value} {wc wc' : va_W} {r : Option Value} {idx : Nat} (M : Mt J y ccy nLy rty Ry (As) wc r wc') (S : Sub w wc wc' w') (hl1 : Cond.methodLink own idx y ∈ LT) (hl2 : Cond.static y ∈ LT) (hl4 : Cond.initialized y.cls ∈ LT) (hyC : y.cls ≠ "java/lang/invoke/MethodHandle" ∧ y.cls ≠ "java/lang/invoke/VarHandle" ∧ (parseMethodDescriptor y.desc).map (fun d => d.parameters.length) = some nA) (hcd : Cond.code y ccy nLy rty ∈ LT) (hnA : As.length = nA) (hr1 : Ry.frames + 1 ≤ R.frames) (hr2 : 8 + (nLy + 11) + Ry.locals ≤ R.locals) (hr3 : n + Ry.cells ≤ R.cells) (hr4 : k + Ry.slots ≤ R.slots) (hst : (st.map fun v => v.category).sum ≤ 8) (hd : decode cc pc = .ok (.invokestatic idx, 3)) (kk : G J Z (n + Ry.cells) (k + Ry.slots) w' nL lv (pc + 3) (r.toList ++ st)) : G J Z n k w nL lv pc (As.reverse ++ st) := by
  have hJ : J.2.1 = J.2.1 := rfl
  obtain ⟨l, D, cy, aK, aV⟩ := J
  obtain ⟨p, e, R0, s, m, args, below, meth, c, A, Q⟩ := Z
  obtain ⟨hx, hb, hml, hown, hts, hKX, hr, hlk, hA, rfl⟩ := C
  have hK := hKX.1
  intro H locs ls hP hD hS hl
  obtain ⟨⟨hPc, hDc0⟩, hAf⟩ := S D A H hP hD
  have hFc : ∀ q, va_A wc H.size q → A q := fun q h => by
    rcases h with ⟨k2, e2, h⟩ | h
    · exact hDc0.2 k2 _ h
    · exact hA q (Nat.le_trans hS.1 h)
  have hDc : va_D (fun _ => True) wc := ⟨hDc0.1, fun _ _ _ => trivial⟩
  have hKc : KX (l, D, cy, aK, aV) (va_A wc H.size) s H := (hKX.kept (fun a h1 h2 => hS.2.1 a h1 h2)).narrow hFc
  have hcw := LT_in (ws := Cond.code y ccy nLy rty :: LT) (fun w0 h0 => by rcases List.mem_cons.mp h0 with rfl | h0; exact hcd; exact h0)
  intro T hT X
  obtain ⟨v, st₀, t, T', L, h0, X', hL, e1, e2, ⟨⟨hv, hP1, hD1⟩, hz, hk1⟩, sg⟩ := va_runS (g := F0 m pc ls (As.reverse ++ st)) (As := As) (rest := st) ⟨hx, hb, hml, hown, hts⟩ (M H.size) (va_cwS nA hts (LT_X hl1 hl2 hl4 hcd) rfl rfl rfl hyC ⟨hr1, hr2⟩) ⟨fun a U g mk q => by obtain ⟨q0, q1, qP, qD, qK⟩ := q; exact ⟨q0, q1, qP, qD, qK.calling g mk a⟩, fun U hU hW => ⟨rfl, by rw [hU], by rw [hU]; exact hPc, hDc, by rw [hU]; exact hKc.warm hW⟩⟩ rfl hnA hl.1 rfl (by simpa [JFrame.monitorRoom] using hst) hd ⟨hr3, hr4⟩ T hT X
  cases hv
  rw [h0] at hz hk1
  have hS' : va_S A s.heap T'.heap (locs ++ L) := ⟨Nat.le_trans hS.1 (by rw [e1]; exact hz), fun q q1 q2 => by rw [e1, hk1 q (Nat.lt_of_lt_of_le q1 hS.1) (fun z => q2 (hFc q z))]; exact hS.2.1 q q1 q2, fun q hq => by
    rcases List.mem_append.mp hq with h | h
    · exact hS.2.2 q h
    · exact hFc _ (hL q h)⟩
  obtain ⟨hP2, hD2⟩ := hAf T'.heap (fun q q1 q2 => by rw [e1]; exact hk1 q q1 q2) hFc (by rw [e1]; exact hP1) hD1
  obtain ⟨t2, a1, b1⟩ := kk T'.heap (locs ++ L) ls hP2 hD2 hS' hl T' rfl X'
  exact ⟨t2, sg t2 a1, b1⟩
theorem g_callVS (C : Cx J Z cc nL own rt R) {y : MethodName} {ccy : ByteArray} {nLy nA : Nat} {rty : Option FieldType} {Ry : Room} {As : List Value} {wc wc' : va_W} {r : Option Value} {idx : Nat} {i : Nat} (hi35 : i < 35) (M : Mt J y ccy nLy rty Ry (.ref (J.2.2.2.1 i) :: As) wc r wc') (S : Sub w wc wc' w') (hl1 : Cond.methodLink own idx y ∈ LT) (hl2 : Cond.instanceMethod y ∈ LT) (hl3 : Cond.selects "java/lang/String" y y ∈ LT) (hl4 : Cond.initialized "java/lang/String" ∈ LT) (hyC : y.cls = "java/lang/String" ∧ y.cls ≠ "java/lang/invoke/MethodHandle" ∧ y.cls ≠ "java/lang/invoke/VarHandle" ∧ (parseMethodDescriptor y.desc).map (fun d => d.parameters.length) = some nA) (hcd : Cond.code y ccy nLy rty ∈ LT) (hnA : As.length = nA) (hr1 : Ry.frames + 1 ≤ R.frames) (hr2 : 8 + (nLy + 11) + Ry.locals ≤ R.locals) (hr3 : n + Ry.cells ≤ R.cells) (hr4 : k + Ry.slots ≤ R.slots) (hst : (st.map fun v => v.category).sum ≤ 8) (hd : decode cc pc = .ok (.invokevirtual idx, 3)) (kk : G J Z (n + Ry.cells) (k + Ry.slots) w' nL lv (pc + 3) (r.toList ++ st)) : G J Z n k w nL lv pc (As.reverse ++ .ref (J.2.2.2.1 i) :: st) := by
  have hJ : J.2.1 = J.2.1 := rfl
  obtain ⟨l, D, cy, aK, aV⟩ := J
  obtain ⟨p, e, R0, s, m, args, below, meth, c, A, Q⟩ := Z
  obtain ⟨hx, hb, hml, hown, hts, hKX, hr, hlk, hA, rfl⟩ := C
  have hK := hKX.1
  intro H locs ls hP hD hS hl
  obtain ⟨⟨hPc, hDc0⟩, hAf⟩ := S D A H hP hD
  have hFc : ∀ q, va_A wc H.size q → A q := fun q h => by
    rcases h with ⟨k2, e2, h⟩ | h
    · exact hDc0.2 k2 _ h
    · exact hA q (Nat.le_trans hS.1 h)
  have hDc : va_D (fun _ => True) wc := ⟨hDc0.1, fun _ _ _ => trivial⟩
  have hKc : KX (l, D, cy, aK, aV) (va_A wc H.size) s H := (hKX.kept (fun a h1 h2 => hS.2.1 a h1 h2)).narrow hFc
  have hcw := LT_in (ws := Cond.code y ccy nLy rty :: LT) (fun w0 h0 => by rcases List.mem_cons.mp h0 with rfl | h0; exact hcd; exact h0)
  intro T hT X
  obtain ⟨v, st₀, t, T', L, h0, X', hL, e1, e2, ⟨⟨hv, hP1, hD1⟩, hz, hk1⟩, sg⟩ := va_runV (g := F0 m pc ls (As.reverse ++ .ref (aK i) :: st)) (As := As) (rest := st) ⟨hx, hb, hml, hown, hts⟩ (M H.size) (cwV nA hts (LT_V hl1 hl2 hl3 hl4 hcd) rfl rfl rfl hyC ⟨hr1, hr2⟩) ⟨fun a U g mk q => by obtain ⟨q0, q1, qP, qD, qK⟩ := q; exact ⟨q0, q1, qP, qD, qK.calling g mk a⟩, (by obtain ⟨cell, g1, g2, g3, -⟩ := ((hKX.2.2.2.1 i hi35).1).kept hS.2.1; exact ⟨cell, g1, g2, g3⟩), fun U hU hW => ⟨rfl, by rw [hU], by rw [hU]; exact hPc, hDc, by rw [hU]; exact hKc.warm hW⟩⟩ rfl hnA hl.1 rfl (by simpa [JFrame.monitorRoom] using hst) hd ⟨hr3, hr4⟩ T hT X
  cases hv
  rw [h0] at hz hk1
  have hS' : va_S A s.heap T'.heap (locs ++ L) := ⟨Nat.le_trans hS.1 (by rw [e1]; exact hz), fun q q1 q2 => by rw [e1, hk1 q (Nat.lt_of_lt_of_le q1 hS.1) (fun z => q2 (hFc q z))]; exact hS.2.1 q q1 q2, fun q hq => by
    rcases List.mem_append.mp hq with h | h
    · exact hS.2.2 q h
    · exact hFc _ (hL q h)⟩
  obtain ⟨hP2, hD2⟩ := hAf T'.heap (fun q q1 q2 => by rw [e1]; exact hk1 q q1 q2) hFc (by rw [e1]; exact hP1) hD1
  obtain ⟨t2, a1, b1⟩ := kk T'.heap (locs ++ L) ls hP2 hD2 hS' hl T' rfl X'
  exact ⟨t2, sg t2 a1, b1⟩
theorem g_getSc (C : Cx J Z cc nL own rt R) {i idx : Nat} (hi35 : i < 35) (hfl : Cond.fieldLink own idx "java/lang/String" "coder" "B" ∈ LT) (hd : decode cc pc = .ok (.getfield idx, 3)) (kk : G J Z n k w nL lv (pc + 3) (.int 0 :: st)) : G J Z n k w nL lv pc (.ref (J.2.2.2.1 i) :: st) := by
  obtain ⟨l, D, cy, aK, aV⟩ := J
  obtain ⟨p, e, R0, s, m, args, below, meth, c, A, Q⟩ := Z
  obtain ⟨hx, hb, hml, hown, hts, hKX, hr, hlk, hA, rfl⟩ := C
  have hK := hKX.1
  intro H locs ls hP hD hS hl
  exact vk_getf hx hb (hKX.2.2.2.1 i hi35).2.1 hS hown (hts _ hfl) (fun _ h => h) hd (kk H locs ls hP hD hS hl)
theorem g_getSv (C : Cx J Z cc nL own rt R) {i idx : Nat} (hi35 : i < 35) (hfl : Cond.fieldLink own idx "java/lang/String" "value" "[B" ∈ LT) (hd : decode cc pc = .ok (.getfield idx, 3)) (kk : G J Z n k w nL lv (pc + 3) (.ref (J.2.2.2.2 i) :: st)) : G J Z n k w nL lv pc (.ref (J.2.2.2.1 i) :: st) := by
  obtain ⟨l, D, cy, aK, aV⟩ := J
  obtain ⟨p, e, R0, s, m, args, below, meth, c, A, Q⟩ := Z
  obtain ⟨hx, hb, hml, hown, hts, hKX, hr, hlk, hA, rfl⟩ := C
  have hK := hKX.1
  intro H locs ls hP hD hS hl
  exact vk_getf hx hb (hKX.2.2.2.1 i hi35).2.2.1 hS hown (hts _ hfl) (fun _ h => h) hd (kk H locs ls hP hD hS hl)
theorem g_getsC (C : Cx J Z cc nL own rt R) {idx : Nat} (hfl : Cond.fieldLink own idx "java/lang/String" "COMPACT_STRINGS" "Z" ∈ LT) (hd : decode cc pc = .ok (.getstatic idx, 3)) (kk : G J Z n k w nL lv (pc + 3) (.int 1 :: st)) : G J Z n k w nL lv pc st := by
  obtain ⟨l, D, cy, aK, aV⟩ := J
  obtain ⟨p, e, R0, s, m, args, below, meth, c, A, Q⟩ := Z
  obtain ⟨hx, hb, hml, hown, hts, hKX, hr, hlk, hA, rfl⟩ := C
  have hK := hKX.1
  intro H locs ls hP hD hS hl
  exact va_gets hx hb hKX.2.2.2.2.1 hS hown (hts _ hfl) (fun _ h => h) hd (kk H locs ls hP hD hS hl)
theorem g_getsF (C : Cx J Z cc nL own rt R) {idx : Nat} (hfl : Cond.fieldLink own idx "jdk/internal/util/Preconditions" "SIOOBE_FORMATTER" "Ljava/util/function/BiFunction;" ∈ LT) (hd : decode cc pc = .ok (.getstatic idx, 3)) (kk : ∀ v : Value, v.category = 1 → G J Z n k w nL lv (pc + 3) (v :: st)) : G J Z n k w nL lv pc st := by
  obtain ⟨l, D, cy, aK, aV⟩ := J
  obtain ⟨p, e, R0, s, m, args, below, meth, c, A, Q⟩ := Z
  obtain ⟨hx, hb, hml, hown, hts, hKX, hr, hlk, hA, rfl⟩ := C
  have hK := hKX.1
  intro H locs ls hP hD hS hl
  rcases hKX.2.2.2.2.2.2.2 with h | ⟨t, h⟩
  · exact va_gets hx hb h hS hown (hts _ hfl) (fun _ h => h) hd (kk _ rfl H locs ls hP hD hS hl)
  · exact va_gets hx hb h hS hown (hts _ hfl) (fun _ h => h) hd (kk _ rfl H locs ls hP hD hS hl)
theorem g_tlen (C : Cx J Z cc nL own rt R) {i : Nat} (hi35 : i < 35) (hd : decode cc pc = .ok (.arraylength, 1)) (kk : G J Z n k w nL lv (pc + 1) (.int (nI (stL i)) :: st)) : G J Z n k w nL lv pc (.ref (J.2.2.2.2 i) :: st) := by
  obtain ⟨l, D, cy, aK, aV⟩ := J
  obtain ⟨p, e, R0, s, m, args, below, meth, c, A, Q⟩ := Z
  obtain ⟨hx, hb, hml, hown, hts, hKX, hr, hlk, hA, rfl⟩ := C
  have hK := hKX.1
  intro H locs ls hP hD hS hl
  exact va_tlen hx hb (hKX.2.2.2.1 i hi35).2.2.2 hS rfl hd (kk H locs ls hP hD hS hl)
theorem g_tb (C : Cx J Z cc nL own rt R) {i : Nat} {x : Int32} (hi35 : i < 35) (hin : vp_in x (stL i)) (hd : decode cc pc = .ok (.baload, 1)) (kk : G J Z n k w nL lv (pc + 1) (.int (stC i x.toNatClampNeg) :: st)) : G J Z n k w nL lv pc (.int x :: .ref (J.2.2.2.2 i) :: st) := by
  obtain ⟨l, D, cy, aK, aV⟩ := J
  obtain ⟨p, e, R0, s, m, args, below, meth, c, A, Q⟩ := Z
  obtain ⟨hx, hb, hml, hown, hts, hKX, hr, hlk, hA, rfl⟩ := C
  have hK := hKX.1
  intro H locs ls hP hD hS hl
  exact va_tb hx hb (hKX.2.2.2.1 i hi35).2.2.2 hS hin rfl hd (kk H locs ls hP hD hS hl)
theorem g_i2c (C : Cx J Z cc nL own rt R) {x : Int32} (hd : decode cc pc = .ok (.i2c, 1)) (kk : G J Z n k w nL lv (pc + 1) (.int ((x.toUInt32 % 65536).toInt32) :: st)) : G J Z n k w nL lv pc (.int x :: st) := by
  obtain ⟨l, D, cy, aK, aV⟩ := J
  obtain ⟨p, e, R0, s, m, args, below, meth, c, A, Q⟩ := Z
  obtain ⟨hx, hb, hml, hown, hts, hKX, hr, hlk, hA, rfl⟩ := C
  have hK := hKX.1
  intro H locs ls hP hD hS hl
  exact lv_i2c hx hb hd rfl (kk H locs ls hP hD hS hl)
end GG
def b1 {α0 β : Type} (x : Option (α0)) (k : α0 → Option β) : Option β := x.bind (fun q => k q)
theorem b1_of {α0 β : Type} {x : Option (α0)} {k : α0 → Option β} {o : β} (h : b1 x k = some o) : ∃ a0, x = some a0 ∧ k a0 = some o := by
  cases x with
  | none => cases h
  | some q => exact ⟨q, rfl, h⟩
theorem b1_s {α0 β : Type} {k : α0 → Option β} (a0 : α0) : b1 (some a0) k = k a0 := rfl
def b2 {α0 α1 β : Type} (x : Option (α0 × α1)) (k : α0 → α1 → Option β) : Option β := x.bind (fun q => k q.1 q.2)
theorem b2_of {α0 α1 β : Type} {x : Option (α0 × α1)} {k : α0 → α1 → Option β} {o : β} (h : b2 x k = some o) : ∃ a0 a1, x = some (a0, a1) ∧ k a0 a1 = some o := by
  cases x with
  | none => cases h
  | some q => exact ⟨q.1, q.2, rfl, h⟩
theorem b2_s {α0 α1 β : Type} {k : α0 → α1 → Option β} (a0 : α0) (a1 : α1) : b2 (some (a0, a1)) k = k a0 a1 := rfl
def b3 {α0 α1 α2 β : Type} (x : Option (α0 × α1 × α2)) (k : α0 → α1 → α2 → Option β) : Option β := x.bind (fun q => k q.1 q.2.1 q.2.2)
theorem b3_of {α0 α1 α2 β : Type} {x : Option (α0 × α1 × α2)} {k : α0 → α1 → α2 → Option β} {o : β} (h : b3 x k = some o) : ∃ a0 a1 a2, x = some (a0, a1, a2) ∧ k a0 a1 a2 = some o := by
  cases x with
  | none => cases h
  | some q => exact ⟨q.1, q.2.1, q.2.2, rfl, h⟩
theorem b3_s {α0 α1 α2 β : Type} {k : α0 → α1 → α2 → Option β} (a0 : α0) (a1 : α1) (a2 : α2) : b3 (some (a0, a1, a2)) k = k a0 a1 a2 := rfl
def b4 {α0 α1 α2 α3 β : Type} (x : Option (α0 × α1 × α2 × α3)) (k : α0 → α1 → α2 → α3 → Option β) : Option β := x.bind (fun q => k q.1 q.2.1 q.2.2.1 q.2.2.2)
theorem b4_of {α0 α1 α2 α3 β : Type} {x : Option (α0 × α1 × α2 × α3)} {k : α0 → α1 → α2 → α3 → Option β} {o : β} (h : b4 x k = some o) : ∃ a0 a1 a2 a3, x = some (a0, a1, a2, a3) ∧ k a0 a1 a2 a3 = some o := by
  cases x with
  | none => cases h
  | some q => exact ⟨q.1, q.2.1, q.2.2.1, q.2.2.2, rfl, h⟩
theorem b4_s {α0 α1 α2 α3 β : Type} {k : α0 → α1 → α2 → α3 → Option β} (a0 : α0) (a1 : α1) (a2 : α2) (a3 : α3) : b4 (some (a0, a1, a2, a3)) k = k a0 a1 a2 a3 := rfl
def b5 {α0 α1 α2 α3 α4 β : Type} (x : Option (α0 × α1 × α2 × α3 × α4)) (k : α0 → α1 → α2 → α3 → α4 → Option β) : Option β := x.bind (fun q => k q.1 q.2.1 q.2.2.1 q.2.2.2.1 q.2.2.2.2)
theorem b5_of {α0 α1 α2 α3 α4 β : Type} {x : Option (α0 × α1 × α2 × α3 × α4)} {k : α0 → α1 → α2 → α3 → α4 → Option β} {o : β} (h : b5 x k = some o) : ∃ a0 a1 a2 a3 a4, x = some (a0, a1, a2, a3, a4) ∧ k a0 a1 a2 a3 a4 = some o := by
  cases x with
  | none => cases h
  | some q => exact ⟨q.1, q.2.1, q.2.2.1, q.2.2.2.1, q.2.2.2.2, rfl, h⟩
theorem b5_s {α0 α1 α2 α3 α4 β : Type} {k : α0 → α1 → α2 → α3 → α4 → Option β} (a0 : α0) (a1 : α1) (a2 : α2) (a3 : α3) (a4 : α4) : b5 (some (a0, a1, a2, a3, a4)) k = k a0 a1 a2 a3 a4 := rfl
def b6 {α0 α1 α2 α3 α4 α5 β : Type} (x : Option (α0 × α1 × α2 × α3 × α4 × α5)) (k : α0 → α1 → α2 → α3 → α4 → α5 → Option β) : Option β := x.bind (fun q => k q.1 q.2.1 q.2.2.1 q.2.2.2.1 q.2.2.2.2.1 q.2.2.2.2.2)
theorem b6_of {α0 α1 α2 α3 α4 α5 β : Type} {x : Option (α0 × α1 × α2 × α3 × α4 × α5)} {k : α0 → α1 → α2 → α3 → α4 → α5 → Option β} {o : β} (h : b6 x k = some o) : ∃ a0 a1 a2 a3 a4 a5, x = some (a0, a1, a2, a3, a4, a5) ∧ k a0 a1 a2 a3 a4 a5 = some o := by
  cases x with
  | none => cases h
  | some q => exact ⟨q.1, q.2.1, q.2.2.1, q.2.2.2.1, q.2.2.2.2.1, q.2.2.2.2.2, rfl, h⟩
theorem b6_s {α0 α1 α2 α3 α4 α5 β : Type} {k : α0 → α1 → α2 → α3 → α4 → α5 → Option β} (a0 : α0) (a1 : α1) (a2 : α2) (a3 : α3) (a4 : α4) (a5 : α5) : b6 (some (a0, a1, a2, a3, a4, a5)) k = k a0 a1 a2 a3 a4 a5 := rfl
def b7 {α0 α1 α2 α3 α4 α5 α6 β : Type} (x : Option (α0 × α1 × α2 × α3 × α4 × α5 × α6)) (k : α0 → α1 → α2 → α3 → α4 → α5 → α6 → Option β) : Option β := x.bind (fun q => k q.1 q.2.1 q.2.2.1 q.2.2.2.1 q.2.2.2.2.1 q.2.2.2.2.2.1 q.2.2.2.2.2.2)
theorem b7_of {α0 α1 α2 α3 α4 α5 α6 β : Type} {x : Option (α0 × α1 × α2 × α3 × α4 × α5 × α6)} {k : α0 → α1 → α2 → α3 → α4 → α5 → α6 → Option β} {o : β} (h : b7 x k = some o) : ∃ a0 a1 a2 a3 a4 a5 a6, x = some (a0, a1, a2, a3, a4, a5, a6) ∧ k a0 a1 a2 a3 a4 a5 a6 = some o := by
  cases x with
  | none => cases h
  | some q => exact ⟨q.1, q.2.1, q.2.2.1, q.2.2.2.1, q.2.2.2.2.1, q.2.2.2.2.2.1, q.2.2.2.2.2.2, rfl, h⟩
theorem b7_s {α0 α1 α2 α3 α4 α5 α6 β : Type} {k : α0 → α1 → α2 → α3 → α4 → α5 → α6 → Option β} (a0 : α0) (a1 : α1) (a2 : α2) (a3 : α3) (a4 : α4) (a5 : α5) (a6 : α6) : b7 (some (a0, a1, a2, a3, a4, a5, a6)) k = k a0 a1 a2 a3 a4 a5 a6 := rfl
def b8 {α0 α1 α2 α3 α4 α5 α6 α7 β : Type} (x : Option (α0 × α1 × α2 × α3 × α4 × α5 × α6 × α7)) (k : α0 → α1 → α2 → α3 → α4 → α5 → α6 → α7 → Option β) : Option β := x.bind (fun q => k q.1 q.2.1 q.2.2.1 q.2.2.2.1 q.2.2.2.2.1 q.2.2.2.2.2.1 q.2.2.2.2.2.2.1 q.2.2.2.2.2.2.2)
theorem b8_of {α0 α1 α2 α3 α4 α5 α6 α7 β : Type} {x : Option (α0 × α1 × α2 × α3 × α4 × α5 × α6 × α7)} {k : α0 → α1 → α2 → α3 → α4 → α5 → α6 → α7 → Option β} {o : β} (h : b8 x k = some o) : ∃ a0 a1 a2 a3 a4 a5 a6 a7, x = some (a0, a1, a2, a3, a4, a5, a6, a7) ∧ k a0 a1 a2 a3 a4 a5 a6 a7 = some o := by
  cases x with
  | none => cases h
  | some q => exact ⟨q.1, q.2.1, q.2.2.1, q.2.2.2.1, q.2.2.2.2.1, q.2.2.2.2.2.1, q.2.2.2.2.2.2.1, q.2.2.2.2.2.2.2, rfl, h⟩
theorem b8_s {α0 α1 α2 α3 α4 α5 α6 α7 β : Type} {k : α0 → α1 → α2 → α3 → α4 → α5 → α6 → α7 → Option β} (a0 : α0) (a1 : α1) (a2 : α2) (a3 : α3) (a4 : α4) (a5 : α5) (a6 : α6) (a7 : α7) : b8 (some (a0, a1, a2, a3, a4, a5, a6, a7)) k = k a0 a1 a2 a3 a4 a5 a6 a7 := rfl
def b9 {α0 α1 α2 α3 α4 α5 α6 α7 α8 β : Type} (x : Option (α0 × α1 × α2 × α3 × α4 × α5 × α6 × α7 × α8)) (k : α0 → α1 → α2 → α3 → α4 → α5 → α6 → α7 → α8 → Option β) : Option β := x.bind (fun q => k q.1 q.2.1 q.2.2.1 q.2.2.2.1 q.2.2.2.2.1 q.2.2.2.2.2.1 q.2.2.2.2.2.2.1 q.2.2.2.2.2.2.2.1 q.2.2.2.2.2.2.2.2)
theorem b9_of {α0 α1 α2 α3 α4 α5 α6 α7 α8 β : Type} {x : Option (α0 × α1 × α2 × α3 × α4 × α5 × α6 × α7 × α8)} {k : α0 → α1 → α2 → α3 → α4 → α5 → α6 → α7 → α8 → Option β} {o : β} (h : b9 x k = some o) : ∃ a0 a1 a2 a3 a4 a5 a6 a7 a8, x = some (a0, a1, a2, a3, a4, a5, a6, a7, a8) ∧ k a0 a1 a2 a3 a4 a5 a6 a7 a8 = some o := by
  cases x with
  | none => cases h
  | some q => exact ⟨q.1, q.2.1, q.2.2.1, q.2.2.2.1, q.2.2.2.2.1, q.2.2.2.2.2.1, q.2.2.2.2.2.2.1, q.2.2.2.2.2.2.2.1, q.2.2.2.2.2.2.2.2, rfl, h⟩
theorem b9_s {α0 α1 α2 α3 α4 α5 α6 α7 α8 β : Type} {k : α0 → α1 → α2 → α3 → α4 → α5 → α6 → α7 → α8 → Option β} (a0 : α0) (a1 : α1) (a2 : α2) (a3 : α3) (a4 : α4) (a5 : α5) (a6 : α6) (a7 : α7) (a8 : α8) : b9 (some (a0, a1, a2, a3, a4, a5, a6, a7, a8)) k = k a0 a1 a2 a3 a4 a5 a6 a7 a8 := rfl
def b10 {α0 α1 α2 α3 α4 α5 α6 α7 α8 α9 β : Type} (x : Option (α0 × α1 × α2 × α3 × α4 × α5 × α6 × α7 × α8 × α9)) (k : α0 → α1 → α2 → α3 → α4 → α5 → α6 → α7 → α8 → α9 → Option β) : Option β := x.bind (fun q => k q.1 q.2.1 q.2.2.1 q.2.2.2.1 q.2.2.2.2.1 q.2.2.2.2.2.1 q.2.2.2.2.2.2.1 q.2.2.2.2.2.2.2.1 q.2.2.2.2.2.2.2.2.1 q.2.2.2.2.2.2.2.2.2)
theorem b10_of {α0 α1 α2 α3 α4 α5 α6 α7 α8 α9 β : Type} {x : Option (α0 × α1 × α2 × α3 × α4 × α5 × α6 × α7 × α8 × α9)} {k : α0 → α1 → α2 → α3 → α4 → α5 → α6 → α7 → α8 → α9 → Option β} {o : β} (h : b10 x k = some o) : ∃ a0 a1 a2 a3 a4 a5 a6 a7 a8 a9, x = some (a0, a1, a2, a3, a4, a5, a6, a7, a8, a9) ∧ k a0 a1 a2 a3 a4 a5 a6 a7 a8 a9 = some o := by
  cases x with
  | none => cases h
  | some q => exact ⟨q.1, q.2.1, q.2.2.1, q.2.2.2.1, q.2.2.2.2.1, q.2.2.2.2.2.1, q.2.2.2.2.2.2.1, q.2.2.2.2.2.2.2.1, q.2.2.2.2.2.2.2.2.1, q.2.2.2.2.2.2.2.2.2, rfl, h⟩
theorem b10_s {α0 α1 α2 α3 α4 α5 α6 α7 α8 α9 β : Type} {k : α0 → α1 → α2 → α3 → α4 → α5 → α6 → α7 → α8 → α9 → Option β} (a0 : α0) (a1 : α1) (a2 : α2) (a3 : α3) (a4 : α4) (a5 : α5) (a6 : α6) (a7 : α7) (a8 : α8) (a9 : α9) : b10 (some (a0, a1, a2, a3, a4, a5, a6, a7, a8, a9)) k = k a0 a1 a2 a3 a4 a5 a6 a7 a8 a9 := rfl
def b11 {α0 α1 α2 α3 α4 α5 α6 α7 α8 α9 α10 β : Type} (x : Option (α0 × α1 × α2 × α3 × α4 × α5 × α6 × α7 × α8 × α9 × α10)) (k : α0 → α1 → α2 → α3 → α4 → α5 → α6 → α7 → α8 → α9 → α10 → Option β) : Option β := x.bind (fun q => k q.1 q.2.1 q.2.2.1 q.2.2.2.1 q.2.2.2.2.1 q.2.2.2.2.2.1 q.2.2.2.2.2.2.1 q.2.2.2.2.2.2.2.1 q.2.2.2.2.2.2.2.2.1 q.2.2.2.2.2.2.2.2.2.1 q.2.2.2.2.2.2.2.2.2.2)
theorem b11_of {α0 α1 α2 α3 α4 α5 α6 α7 α8 α9 α10 β : Type} {x : Option (α0 × α1 × α2 × α3 × α4 × α5 × α6 × α7 × α8 × α9 × α10)} {k : α0 → α1 → α2 → α3 → α4 → α5 → α6 → α7 → α8 → α9 → α10 → Option β} {o : β} (h : b11 x k = some o) : ∃ a0 a1 a2 a3 a4 a5 a6 a7 a8 a9 a10, x = some (a0, a1, a2, a3, a4, a5, a6, a7, a8, a9, a10) ∧ k a0 a1 a2 a3 a4 a5 a6 a7 a8 a9 a10 = some o := by
  cases x with
  | none => cases h
  | some q => exact ⟨q.1, q.2.1, q.2.2.1, q.2.2.2.1, q.2.2.2.2.1, q.2.2.2.2.2.1, q.2.2.2.2.2.2.1, q.2.2.2.2.2.2.2.1, q.2.2.2.2.2.2.2.2.1, q.2.2.2.2.2.2.2.2.2.1, q.2.2.2.2.2.2.2.2.2.2, rfl, h⟩
theorem b11_s {α0 α1 α2 α3 α4 α5 α6 α7 α8 α9 α10 β : Type} {k : α0 → α1 → α2 → α3 → α4 → α5 → α6 → α7 → α8 → α9 → α10 → Option β} (a0 : α0) (a1 : α1) (a2 : α2) (a3 : α3) (a4 : α4) (a5 : α5) (a6 : α6) (a7 : α7) (a8 : α8) (a9 : α9) (a10 : α10) : b11 (some (a0, a1, a2, a3, a4, a5, a6, a7, a8, a9, a10)) k = k a0 a1 a2 a3 a4 a5 a6 a7 a8 a9 a10 := rfl
def b12 {α0 α1 α2 α3 α4 α5 α6 α7 α8 α9 α10 α11 β : Type} (x : Option (α0 × α1 × α2 × α3 × α4 × α5 × α6 × α7 × α8 × α9 × α10 × α11)) (k : α0 → α1 → α2 → α3 → α4 → α5 → α6 → α7 → α8 → α9 → α10 → α11 → Option β) : Option β := x.bind (fun q => k q.1 q.2.1 q.2.2.1 q.2.2.2.1 q.2.2.2.2.1 q.2.2.2.2.2.1 q.2.2.2.2.2.2.1 q.2.2.2.2.2.2.2.1 q.2.2.2.2.2.2.2.2.1 q.2.2.2.2.2.2.2.2.2.1 q.2.2.2.2.2.2.2.2.2.2.1 q.2.2.2.2.2.2.2.2.2.2.2)
theorem b12_of {α0 α1 α2 α3 α4 α5 α6 α7 α8 α9 α10 α11 β : Type} {x : Option (α0 × α1 × α2 × α3 × α4 × α5 × α6 × α7 × α8 × α9 × α10 × α11)} {k : α0 → α1 → α2 → α3 → α4 → α5 → α6 → α7 → α8 → α9 → α10 → α11 → Option β} {o : β} (h : b12 x k = some o) : ∃ a0 a1 a2 a3 a4 a5 a6 a7 a8 a9 a10 a11, x = some (a0, a1, a2, a3, a4, a5, a6, a7, a8, a9, a10, a11) ∧ k a0 a1 a2 a3 a4 a5 a6 a7 a8 a9 a10 a11 = some o := by
  cases x with
  | none => cases h
  | some q => exact ⟨q.1, q.2.1, q.2.2.1, q.2.2.2.1, q.2.2.2.2.1, q.2.2.2.2.2.1, q.2.2.2.2.2.2.1, q.2.2.2.2.2.2.2.1, q.2.2.2.2.2.2.2.2.1, q.2.2.2.2.2.2.2.2.2.1, q.2.2.2.2.2.2.2.2.2.2.1, q.2.2.2.2.2.2.2.2.2.2.2, rfl, h⟩
theorem b12_s {α0 α1 α2 α3 α4 α5 α6 α7 α8 α9 α10 α11 β : Type} {k : α0 → α1 → α2 → α3 → α4 → α5 → α6 → α7 → α8 → α9 → α10 → α11 → Option β} (a0 : α0) (a1 : α1) (a2 : α2) (a3 : α3) (a4 : α4) (a5 : α5) (a6 : α6) (a7 : α7) (a8 : α8) (a9 : α9) (a10 : α10) (a11 : α11) : b12 (some (a0, a1, a2, a3, a4, a5, a6, a7, a8, a9, a10, a11)) k = k a0 a1 a2 a3 a4 a5 a6 a7 a8 a9 a10 a11 := rfl
def b13 {α0 α1 α2 α3 α4 α5 α6 α7 α8 α9 α10 α11 α12 β : Type} (x : Option (α0 × α1 × α2 × α3 × α4 × α5 × α6 × α7 × α8 × α9 × α10 × α11 × α12)) (k : α0 → α1 → α2 → α3 → α4 → α5 → α6 → α7 → α8 → α9 → α10 → α11 → α12 → Option β) : Option β := x.bind (fun q => k q.1 q.2.1 q.2.2.1 q.2.2.2.1 q.2.2.2.2.1 q.2.2.2.2.2.1 q.2.2.2.2.2.2.1 q.2.2.2.2.2.2.2.1 q.2.2.2.2.2.2.2.2.1 q.2.2.2.2.2.2.2.2.2.1 q.2.2.2.2.2.2.2.2.2.2.1 q.2.2.2.2.2.2.2.2.2.2.2.1 q.2.2.2.2.2.2.2.2.2.2.2.2)
theorem b13_of {α0 α1 α2 α3 α4 α5 α6 α7 α8 α9 α10 α11 α12 β : Type} {x : Option (α0 × α1 × α2 × α3 × α4 × α5 × α6 × α7 × α8 × α9 × α10 × α11 × α12)} {k : α0 → α1 → α2 → α3 → α4 → α5 → α6 → α7 → α8 → α9 → α10 → α11 → α12 → Option β} {o : β} (h : b13 x k = some o) : ∃ a0 a1 a2 a3 a4 a5 a6 a7 a8 a9 a10 a11 a12, x = some (a0, a1, a2, a3, a4, a5, a6, a7, a8, a9, a10, a11, a12) ∧ k a0 a1 a2 a3 a4 a5 a6 a7 a8 a9 a10 a11 a12 = some o := by
  cases x with
  | none => cases h
  | some q => exact ⟨q.1, q.2.1, q.2.2.1, q.2.2.2.1, q.2.2.2.2.1, q.2.2.2.2.2.1, q.2.2.2.2.2.2.1, q.2.2.2.2.2.2.2.1, q.2.2.2.2.2.2.2.2.1, q.2.2.2.2.2.2.2.2.2.1, q.2.2.2.2.2.2.2.2.2.2.1, q.2.2.2.2.2.2.2.2.2.2.2.1, q.2.2.2.2.2.2.2.2.2.2.2.2, rfl, h⟩
theorem b13_s {α0 α1 α2 α3 α4 α5 α6 α7 α8 α9 α10 α11 α12 β : Type} {k : α0 → α1 → α2 → α3 → α4 → α5 → α6 → α7 → α8 → α9 → α10 → α11 → α12 → Option β} (a0 : α0) (a1 : α1) (a2 : α2) (a3 : α3) (a4 : α4) (a5 : α5) (a6 : α6) (a7 : α7) (a8 : α8) (a9 : α9) (a10 : α10) (a11 : α11) (a12 : α12) : b13 (some (a0, a1, a2, a3, a4, a5, a6, a7, a8, a9, a10, a11, a12)) k = k a0 a1 a2 a3 a4 a5 a6 a7 a8 a9 a10 a11 a12 := rfl
def b14 {α0 α1 α2 α3 α4 α5 α6 α7 α8 α9 α10 α11 α12 α13 β : Type} (x : Option (α0 × α1 × α2 × α3 × α4 × α5 × α6 × α7 × α8 × α9 × α10 × α11 × α12 × α13)) (k : α0 → α1 → α2 → α3 → α4 → α5 → α6 → α7 → α8 → α9 → α10 → α11 → α12 → α13 → Option β) : Option β := x.bind (fun q => k q.1 q.2.1 q.2.2.1 q.2.2.2.1 q.2.2.2.2.1 q.2.2.2.2.2.1 q.2.2.2.2.2.2.1 q.2.2.2.2.2.2.2.1 q.2.2.2.2.2.2.2.2.1 q.2.2.2.2.2.2.2.2.2.1 q.2.2.2.2.2.2.2.2.2.2.1 q.2.2.2.2.2.2.2.2.2.2.2.1 q.2.2.2.2.2.2.2.2.2.2.2.2.1 q.2.2.2.2.2.2.2.2.2.2.2.2.2)
theorem b14_of {α0 α1 α2 α3 α4 α5 α6 α7 α8 α9 α10 α11 α12 α13 β : Type} {x : Option (α0 × α1 × α2 × α3 × α4 × α5 × α6 × α7 × α8 × α9 × α10 × α11 × α12 × α13)} {k : α0 → α1 → α2 → α3 → α4 → α5 → α6 → α7 → α8 → α9 → α10 → α11 → α12 → α13 → Option β} {o : β} (h : b14 x k = some o) : ∃ a0 a1 a2 a3 a4 a5 a6 a7 a8 a9 a10 a11 a12 a13, x = some (a0, a1, a2, a3, a4, a5, a6, a7, a8, a9, a10, a11, a12, a13) ∧ k a0 a1 a2 a3 a4 a5 a6 a7 a8 a9 a10 a11 a12 a13 = some o := by
  cases x with
  | none => cases h
  | some q => exact ⟨q.1, q.2.1, q.2.2.1, q.2.2.2.1, q.2.2.2.2.1, q.2.2.2.2.2.1, q.2.2.2.2.2.2.1, q.2.2.2.2.2.2.2.1, q.2.2.2.2.2.2.2.2.1, q.2.2.2.2.2.2.2.2.2.1, q.2.2.2.2.2.2.2.2.2.2.1, q.2.2.2.2.2.2.2.2.2.2.2.1, q.2.2.2.2.2.2.2.2.2.2.2.2.1, q.2.2.2.2.2.2.2.2.2.2.2.2.2, rfl, h⟩
theorem b14_s {α0 α1 α2 α3 α4 α5 α6 α7 α8 α9 α10 α11 α12 α13 β : Type} {k : α0 → α1 → α2 → α3 → α4 → α5 → α6 → α7 → α8 → α9 → α10 → α11 → α12 → α13 → Option β} (a0 : α0) (a1 : α1) (a2 : α2) (a3 : α3) (a4 : α4) (a5 : α5) (a6 : α6) (a7 : α7) (a8 : α8) (a9 : α9) (a10 : α10) (a11 : α11) (a12 : α12) (a13 : α13) : b14 (some (a0, a1, a2, a3, a4, a5, a6, a7, a8, a9, a10, a11, a12, a13)) k = k a0 a1 a2 a3 a4 a5 a6 a7 a8 a9 a10 a11 a12 a13 := rfl
def b15 {α0 α1 α2 α3 α4 α5 α6 α7 α8 α9 α10 α11 α12 α13 α14 β : Type} (x : Option (α0 × α1 × α2 × α3 × α4 × α5 × α6 × α7 × α8 × α9 × α10 × α11 × α12 × α13 × α14)) (k : α0 → α1 → α2 → α3 → α4 → α5 → α6 → α7 → α8 → α9 → α10 → α11 → α12 → α13 → α14 → Option β) : Option β := x.bind (fun q => k q.1 q.2.1 q.2.2.1 q.2.2.2.1 q.2.2.2.2.1 q.2.2.2.2.2.1 q.2.2.2.2.2.2.1 q.2.2.2.2.2.2.2.1 q.2.2.2.2.2.2.2.2.1 q.2.2.2.2.2.2.2.2.2.1 q.2.2.2.2.2.2.2.2.2.2.1 q.2.2.2.2.2.2.2.2.2.2.2.1 q.2.2.2.2.2.2.2.2.2.2.2.2.1 q.2.2.2.2.2.2.2.2.2.2.2.2.2.1 q.2.2.2.2.2.2.2.2.2.2.2.2.2.2)
theorem b15_of {α0 α1 α2 α3 α4 α5 α6 α7 α8 α9 α10 α11 α12 α13 α14 β : Type} {x : Option (α0 × α1 × α2 × α3 × α4 × α5 × α6 × α7 × α8 × α9 × α10 × α11 × α12 × α13 × α14)} {k : α0 → α1 → α2 → α3 → α4 → α5 → α6 → α7 → α8 → α9 → α10 → α11 → α12 → α13 → α14 → Option β} {o : β} (h : b15 x k = some o) : ∃ a0 a1 a2 a3 a4 a5 a6 a7 a8 a9 a10 a11 a12 a13 a14, x = some (a0, a1, a2, a3, a4, a5, a6, a7, a8, a9, a10, a11, a12, a13, a14) ∧ k a0 a1 a2 a3 a4 a5 a6 a7 a8 a9 a10 a11 a12 a13 a14 = some o := by
  cases x with
  | none => cases h
  | some q => exact ⟨q.1, q.2.1, q.2.2.1, q.2.2.2.1, q.2.2.2.2.1, q.2.2.2.2.2.1, q.2.2.2.2.2.2.1, q.2.2.2.2.2.2.2.1, q.2.2.2.2.2.2.2.2.1, q.2.2.2.2.2.2.2.2.2.1, q.2.2.2.2.2.2.2.2.2.2.1, q.2.2.2.2.2.2.2.2.2.2.2.1, q.2.2.2.2.2.2.2.2.2.2.2.2.1, q.2.2.2.2.2.2.2.2.2.2.2.2.2.1, q.2.2.2.2.2.2.2.2.2.2.2.2.2.2, rfl, h⟩
theorem b15_s {α0 α1 α2 α3 α4 α5 α6 α7 α8 α9 α10 α11 α12 α13 α14 β : Type} {k : α0 → α1 → α2 → α3 → α4 → α5 → α6 → α7 → α8 → α9 → α10 → α11 → α12 → α13 → α14 → Option β} (a0 : α0) (a1 : α1) (a2 : α2) (a3 : α3) (a4 : α4) (a5 : α5) (a6 : α6) (a7 : α7) (a8 : α8) (a9 : α9) (a10 : α10) (a11 : α11) (a12 : α12) (a13 : α13) (a14 : α14) : b15 (some (a0, a1, a2, a3, a4, a5, a6, a7, a8, a9, a10, a11, a12, a13, a14)) k = k a0 a1 a2 a3 a4 a5 a6 a7 a8 a9 a10 a11 a12 a13 a14 := rfl
def b16 {α0 α1 α2 α3 α4 α5 α6 α7 α8 α9 α10 α11 α12 α13 α14 α15 β : Type} (x : Option (α0 × α1 × α2 × α3 × α4 × α5 × α6 × α7 × α8 × α9 × α10 × α11 × α12 × α13 × α14 × α15)) (k : α0 → α1 → α2 → α3 → α4 → α5 → α6 → α7 → α8 → α9 → α10 → α11 → α12 → α13 → α14 → α15 → Option β) : Option β := x.bind (fun q => k q.1 q.2.1 q.2.2.1 q.2.2.2.1 q.2.2.2.2.1 q.2.2.2.2.2.1 q.2.2.2.2.2.2.1 q.2.2.2.2.2.2.2.1 q.2.2.2.2.2.2.2.2.1 q.2.2.2.2.2.2.2.2.2.1 q.2.2.2.2.2.2.2.2.2.2.1 q.2.2.2.2.2.2.2.2.2.2.2.1 q.2.2.2.2.2.2.2.2.2.2.2.2.1 q.2.2.2.2.2.2.2.2.2.2.2.2.2.1 q.2.2.2.2.2.2.2.2.2.2.2.2.2.2.1 q.2.2.2.2.2.2.2.2.2.2.2.2.2.2.2)
theorem b16_of {α0 α1 α2 α3 α4 α5 α6 α7 α8 α9 α10 α11 α12 α13 α14 α15 β : Type} {x : Option (α0 × α1 × α2 × α3 × α4 × α5 × α6 × α7 × α8 × α9 × α10 × α11 × α12 × α13 × α14 × α15)} {k : α0 → α1 → α2 → α3 → α4 → α5 → α6 → α7 → α8 → α9 → α10 → α11 → α12 → α13 → α14 → α15 → Option β} {o : β} (h : b16 x k = some o) : ∃ a0 a1 a2 a3 a4 a5 a6 a7 a8 a9 a10 a11 a12 a13 a14 a15, x = some (a0, a1, a2, a3, a4, a5, a6, a7, a8, a9, a10, a11, a12, a13, a14, a15) ∧ k a0 a1 a2 a3 a4 a5 a6 a7 a8 a9 a10 a11 a12 a13 a14 a15 = some o := by
  cases x with
  | none => cases h
  | some q => exact ⟨q.1, q.2.1, q.2.2.1, q.2.2.2.1, q.2.2.2.2.1, q.2.2.2.2.2.1, q.2.2.2.2.2.2.1, q.2.2.2.2.2.2.2.1, q.2.2.2.2.2.2.2.2.1, q.2.2.2.2.2.2.2.2.2.1, q.2.2.2.2.2.2.2.2.2.2.1, q.2.2.2.2.2.2.2.2.2.2.2.1, q.2.2.2.2.2.2.2.2.2.2.2.2.1, q.2.2.2.2.2.2.2.2.2.2.2.2.2.1, q.2.2.2.2.2.2.2.2.2.2.2.2.2.2.1, q.2.2.2.2.2.2.2.2.2.2.2.2.2.2.2, rfl, h⟩
theorem b16_s {α0 α1 α2 α3 α4 α5 α6 α7 α8 α9 α10 α11 α12 α13 α14 α15 β : Type} {k : α0 → α1 → α2 → α3 → α4 → α5 → α6 → α7 → α8 → α9 → α10 → α11 → α12 → α13 → α14 → α15 → Option β} (a0 : α0) (a1 : α1) (a2 : α2) (a3 : α3) (a4 : α4) (a5 : α5) (a6 : α6) (a7 : α7) (a8 : α8) (a9 : α9) (a10 : α10) (a11 : α11) (a12 : α12) (a13 : α13) (a14 : α14) (a15 : α15) : b16 (some (a0, a1, a2, a3, a4, a5, a6, a7, a8, a9, a10, a11, a12, a13, a14, a15)) k = k a0 a1 a2 a3 a4 a5 a6 a7 a8 a9 a10 a11 a12 a13 a14 a15 := rfl
def b17 {α0 α1 α2 α3 α4 α5 α6 α7 α8 α9 α10 α11 α12 α13 α14 α15 α16 β : Type} (x : Option (α0 × α1 × α2 × α3 × α4 × α5 × α6 × α7 × α8 × α9 × α10 × α11 × α12 × α13 × α14 × α15 × α16)) (k : α0 → α1 → α2 → α3 → α4 → α5 → α6 → α7 → α8 → α9 → α10 → α11 → α12 → α13 → α14 → α15 → α16 → Option β) : Option β := x.bind (fun q => k q.1 q.2.1 q.2.2.1 q.2.2.2.1 q.2.2.2.2.1 q.2.2.2.2.2.1 q.2.2.2.2.2.2.1 q.2.2.2.2.2.2.2.1 q.2.2.2.2.2.2.2.2.1 q.2.2.2.2.2.2.2.2.2.1 q.2.2.2.2.2.2.2.2.2.2.1 q.2.2.2.2.2.2.2.2.2.2.2.1 q.2.2.2.2.2.2.2.2.2.2.2.2.1 q.2.2.2.2.2.2.2.2.2.2.2.2.2.1 q.2.2.2.2.2.2.2.2.2.2.2.2.2.2.1 q.2.2.2.2.2.2.2.2.2.2.2.2.2.2.2.1 q.2.2.2.2.2.2.2.2.2.2.2.2.2.2.2.2)
theorem b17_of {α0 α1 α2 α3 α4 α5 α6 α7 α8 α9 α10 α11 α12 α13 α14 α15 α16 β : Type} {x : Option (α0 × α1 × α2 × α3 × α4 × α5 × α6 × α7 × α8 × α9 × α10 × α11 × α12 × α13 × α14 × α15 × α16)} {k : α0 → α1 → α2 → α3 → α4 → α5 → α6 → α7 → α8 → α9 → α10 → α11 → α12 → α13 → α14 → α15 → α16 → Option β} {o : β} (h : b17 x k = some o) : ∃ a0 a1 a2 a3 a4 a5 a6 a7 a8 a9 a10 a11 a12 a13 a14 a15 a16, x = some (a0, a1, a2, a3, a4, a5, a6, a7, a8, a9, a10, a11, a12, a13, a14, a15, a16) ∧ k a0 a1 a2 a3 a4 a5 a6 a7 a8 a9 a10 a11 a12 a13 a14 a15 a16 = some o := by
  cases x with
  | none => cases h
  | some q => exact ⟨q.1, q.2.1, q.2.2.1, q.2.2.2.1, q.2.2.2.2.1, q.2.2.2.2.2.1, q.2.2.2.2.2.2.1, q.2.2.2.2.2.2.2.1, q.2.2.2.2.2.2.2.2.1, q.2.2.2.2.2.2.2.2.2.1, q.2.2.2.2.2.2.2.2.2.2.1, q.2.2.2.2.2.2.2.2.2.2.2.1, q.2.2.2.2.2.2.2.2.2.2.2.2.1, q.2.2.2.2.2.2.2.2.2.2.2.2.2.1, q.2.2.2.2.2.2.2.2.2.2.2.2.2.2.1, q.2.2.2.2.2.2.2.2.2.2.2.2.2.2.2.1, q.2.2.2.2.2.2.2.2.2.2.2.2.2.2.2.2, rfl, h⟩
theorem b17_s {α0 α1 α2 α3 α4 α5 α6 α7 α8 α9 α10 α11 α12 α13 α14 α15 α16 β : Type} {k : α0 → α1 → α2 → α3 → α4 → α5 → α6 → α7 → α8 → α9 → α10 → α11 → α12 → α13 → α14 → α15 → α16 → Option β} (a0 : α0) (a1 : α1) (a2 : α2) (a3 : α3) (a4 : α4) (a5 : α5) (a6 : α6) (a7 : α7) (a8 : α8) (a9 : α9) (a10 : α10) (a11 : α11) (a12 : α12) (a13 : α13) (a14 : α14) (a15 : α15) (a16 : α16) : b17 (some (a0, a1, a2, a3, a4, a5, a6, a7, a8, a9, a10, a11, a12, a13, a14, a15, a16)) k = k a0 a1 a2 a3 a4 a5 a6 a7 a8 a9 a10 a11 a12 a13 a14 a15 a16 := rfl
def b18 {α0 α1 α2 α3 α4 α5 α6 α7 α8 α9 α10 α11 α12 α13 α14 α15 α16 α17 β : Type} (x : Option (α0 × α1 × α2 × α3 × α4 × α5 × α6 × α7 × α8 × α9 × α10 × α11 × α12 × α13 × α14 × α15 × α16 × α17)) (k : α0 → α1 → α2 → α3 → α4 → α5 → α6 → α7 → α8 → α9 → α10 → α11 → α12 → α13 → α14 → α15 → α16 → α17 → Option β) : Option β := x.bind (fun q => k q.1 q.2.1 q.2.2.1 q.2.2.2.1 q.2.2.2.2.1 q.2.2.2.2.2.1 q.2.2.2.2.2.2.1 q.2.2.2.2.2.2.2.1 q.2.2.2.2.2.2.2.2.1 q.2.2.2.2.2.2.2.2.2.1 q.2.2.2.2.2.2.2.2.2.2.1 q.2.2.2.2.2.2.2.2.2.2.2.1 q.2.2.2.2.2.2.2.2.2.2.2.2.1 q.2.2.2.2.2.2.2.2.2.2.2.2.2.1 q.2.2.2.2.2.2.2.2.2.2.2.2.2.2.1 q.2.2.2.2.2.2.2.2.2.2.2.2.2.2.2.1 q.2.2.2.2.2.2.2.2.2.2.2.2.2.2.2.2.1 q.2.2.2.2.2.2.2.2.2.2.2.2.2.2.2.2.2)
theorem b18_of {α0 α1 α2 α3 α4 α5 α6 α7 α8 α9 α10 α11 α12 α13 α14 α15 α16 α17 β : Type} {x : Option (α0 × α1 × α2 × α3 × α4 × α5 × α6 × α7 × α8 × α9 × α10 × α11 × α12 × α13 × α14 × α15 × α16 × α17)} {k : α0 → α1 → α2 → α3 → α4 → α5 → α6 → α7 → α8 → α9 → α10 → α11 → α12 → α13 → α14 → α15 → α16 → α17 → Option β} {o : β} (h : b18 x k = some o) : ∃ a0 a1 a2 a3 a4 a5 a6 a7 a8 a9 a10 a11 a12 a13 a14 a15 a16 a17, x = some (a0, a1, a2, a3, a4, a5, a6, a7, a8, a9, a10, a11, a12, a13, a14, a15, a16, a17) ∧ k a0 a1 a2 a3 a4 a5 a6 a7 a8 a9 a10 a11 a12 a13 a14 a15 a16 a17 = some o := by
  cases x with
  | none => cases h
  | some q => exact ⟨q.1, q.2.1, q.2.2.1, q.2.2.2.1, q.2.2.2.2.1, q.2.2.2.2.2.1, q.2.2.2.2.2.2.1, q.2.2.2.2.2.2.2.1, q.2.2.2.2.2.2.2.2.1, q.2.2.2.2.2.2.2.2.2.1, q.2.2.2.2.2.2.2.2.2.2.1, q.2.2.2.2.2.2.2.2.2.2.2.1, q.2.2.2.2.2.2.2.2.2.2.2.2.1, q.2.2.2.2.2.2.2.2.2.2.2.2.2.1, q.2.2.2.2.2.2.2.2.2.2.2.2.2.2.1, q.2.2.2.2.2.2.2.2.2.2.2.2.2.2.2.1, q.2.2.2.2.2.2.2.2.2.2.2.2.2.2.2.2.1, q.2.2.2.2.2.2.2.2.2.2.2.2.2.2.2.2.2, rfl, h⟩
theorem b18_s {α0 α1 α2 α3 α4 α5 α6 α7 α8 α9 α10 α11 α12 α13 α14 α15 α16 α17 β : Type} {k : α0 → α1 → α2 → α3 → α4 → α5 → α6 → α7 → α8 → α9 → α10 → α11 → α12 → α13 → α14 → α15 → α16 → α17 → Option β} (a0 : α0) (a1 : α1) (a2 : α2) (a3 : α3) (a4 : α4) (a5 : α5) (a6 : α6) (a7 : α7) (a8 : α8) (a9 : α9) (a10 : α10) (a11 : α11) (a12 : α12) (a13 : α13) (a14 : α14) (a15 : α15) (a16 : α16) (a17 : α17) : b18 (some (a0, a1, a2, a3, a4, a5, a6, a7, a8, a9, a10, a11, a12, a13, a14, a15, a16, a17)) k = k a0 a1 a2 a3 a4 a5 a6 a7 a8 a9 a10 a11 a12 a13 a14 a15 a16 a17 := rfl
def b19 {α0 α1 α2 α3 α4 α5 α6 α7 α8 α9 α10 α11 α12 α13 α14 α15 α16 α17 α18 β : Type} (x : Option (α0 × α1 × α2 × α3 × α4 × α5 × α6 × α7 × α8 × α9 × α10 × α11 × α12 × α13 × α14 × α15 × α16 × α17 × α18)) (k : α0 → α1 → α2 → α3 → α4 → α5 → α6 → α7 → α8 → α9 → α10 → α11 → α12 → α13 → α14 → α15 → α16 → α17 → α18 → Option β) : Option β := x.bind (fun q => k q.1 q.2.1 q.2.2.1 q.2.2.2.1 q.2.2.2.2.1 q.2.2.2.2.2.1 q.2.2.2.2.2.2.1 q.2.2.2.2.2.2.2.1 q.2.2.2.2.2.2.2.2.1 q.2.2.2.2.2.2.2.2.2.1 q.2.2.2.2.2.2.2.2.2.2.1 q.2.2.2.2.2.2.2.2.2.2.2.1 q.2.2.2.2.2.2.2.2.2.2.2.2.1 q.2.2.2.2.2.2.2.2.2.2.2.2.2.1 q.2.2.2.2.2.2.2.2.2.2.2.2.2.2.1 q.2.2.2.2.2.2.2.2.2.2.2.2.2.2.2.1 q.2.2.2.2.2.2.2.2.2.2.2.2.2.2.2.2.1 q.2.2.2.2.2.2.2.2.2.2.2.2.2.2.2.2.2.1 q.2.2.2.2.2.2.2.2.2.2.2.2.2.2.2.2.2.2)
theorem b19_of {α0 α1 α2 α3 α4 α5 α6 α7 α8 α9 α10 α11 α12 α13 α14 α15 α16 α17 α18 β : Type} {x : Option (α0 × α1 × α2 × α3 × α4 × α5 × α6 × α7 × α8 × α9 × α10 × α11 × α12 × α13 × α14 × α15 × α16 × α17 × α18)} {k : α0 → α1 → α2 → α3 → α4 → α5 → α6 → α7 → α8 → α9 → α10 → α11 → α12 → α13 → α14 → α15 → α16 → α17 → α18 → Option β} {o : β} (h : b19 x k = some o) : ∃ a0 a1 a2 a3 a4 a5 a6 a7 a8 a9 a10 a11 a12 a13 a14 a15 a16 a17 a18, x = some (a0, a1, a2, a3, a4, a5, a6, a7, a8, a9, a10, a11, a12, a13, a14, a15, a16, a17, a18) ∧ k a0 a1 a2 a3 a4 a5 a6 a7 a8 a9 a10 a11 a12 a13 a14 a15 a16 a17 a18 = some o := by
  cases x with
  | none => cases h
  | some q => exact ⟨q.1, q.2.1, q.2.2.1, q.2.2.2.1, q.2.2.2.2.1, q.2.2.2.2.2.1, q.2.2.2.2.2.2.1, q.2.2.2.2.2.2.2.1, q.2.2.2.2.2.2.2.2.1, q.2.2.2.2.2.2.2.2.2.1, q.2.2.2.2.2.2.2.2.2.2.1, q.2.2.2.2.2.2.2.2.2.2.2.1, q.2.2.2.2.2.2.2.2.2.2.2.2.1, q.2.2.2.2.2.2.2.2.2.2.2.2.2.1, q.2.2.2.2.2.2.2.2.2.2.2.2.2.2.1, q.2.2.2.2.2.2.2.2.2.2.2.2.2.2.2.1, q.2.2.2.2.2.2.2.2.2.2.2.2.2.2.2.2.1, q.2.2.2.2.2.2.2.2.2.2.2.2.2.2.2.2.2.1, q.2.2.2.2.2.2.2.2.2.2.2.2.2.2.2.2.2.2, rfl, h⟩
theorem b19_s {α0 α1 α2 α3 α4 α5 α6 α7 α8 α9 α10 α11 α12 α13 α14 α15 α16 α17 α18 β : Type} {k : α0 → α1 → α2 → α3 → α4 → α5 → α6 → α7 → α8 → α9 → α10 → α11 → α12 → α13 → α14 → α15 → α16 → α17 → α18 → Option β} (a0 : α0) (a1 : α1) (a2 : α2) (a3 : α3) (a4 : α4) (a5 : α5) (a6 : α6) (a7 : α7) (a8 : α8) (a9 : α9) (a10 : α10) (a11 : α11) (a12 : α12) (a13 : α13) (a14 : α14) (a15 : α15) (a16 : α16) (a17 : α17) (a18 : α18) : b19 (some (a0, a1, a2, a3, a4, a5, a6, a7, a8, a9, a10, a11, a12, a13, a14, a15, a16, a17, a18)) k = k a0 a1 a2 a3 a4 a5 a6 a7 a8 a9 a10 a11 a12 a13 a14 a15 a16 a17 a18 := rfl
def b20 {α0 α1 α2 α3 α4 α5 α6 α7 α8 α9 α10 α11 α12 α13 α14 α15 α16 α17 α18 α19 β : Type} (x : Option (α0 × α1 × α2 × α3 × α4 × α5 × α6 × α7 × α8 × α9 × α10 × α11 × α12 × α13 × α14 × α15 × α16 × α17 × α18 × α19)) (k : α0 → α1 → α2 → α3 → α4 → α5 → α6 → α7 → α8 → α9 → α10 → α11 → α12 → α13 → α14 → α15 → α16 → α17 → α18 → α19 → Option β) : Option β := x.bind (fun q => k q.1 q.2.1 q.2.2.1 q.2.2.2.1 q.2.2.2.2.1 q.2.2.2.2.2.1 q.2.2.2.2.2.2.1 q.2.2.2.2.2.2.2.1 q.2.2.2.2.2.2.2.2.1 q.2.2.2.2.2.2.2.2.2.1 q.2.2.2.2.2.2.2.2.2.2.1 q.2.2.2.2.2.2.2.2.2.2.2.1 q.2.2.2.2.2.2.2.2.2.2.2.2.1 q.2.2.2.2.2.2.2.2.2.2.2.2.2.1 q.2.2.2.2.2.2.2.2.2.2.2.2.2.2.1 q.2.2.2.2.2.2.2.2.2.2.2.2.2.2.2.1 q.2.2.2.2.2.2.2.2.2.2.2.2.2.2.2.2.1 q.2.2.2.2.2.2.2.2.2.2.2.2.2.2.2.2.2.1 q.2.2.2.2.2.2.2.2.2.2.2.2.2.2.2.2.2.2.1 q.2.2.2.2.2.2.2.2.2.2.2.2.2.2.2.2.2.2.2)
theorem b20_of {α0 α1 α2 α3 α4 α5 α6 α7 α8 α9 α10 α11 α12 α13 α14 α15 α16 α17 α18 α19 β : Type} {x : Option (α0 × α1 × α2 × α3 × α4 × α5 × α6 × α7 × α8 × α9 × α10 × α11 × α12 × α13 × α14 × α15 × α16 × α17 × α18 × α19)} {k : α0 → α1 → α2 → α3 → α4 → α5 → α6 → α7 → α8 → α9 → α10 → α11 → α12 → α13 → α14 → α15 → α16 → α17 → α18 → α19 → Option β} {o : β} (h : b20 x k = some o) : ∃ a0 a1 a2 a3 a4 a5 a6 a7 a8 a9 a10 a11 a12 a13 a14 a15 a16 a17 a18 a19, x = some (a0, a1, a2, a3, a4, a5, a6, a7, a8, a9, a10, a11, a12, a13, a14, a15, a16, a17, a18, a19) ∧ k a0 a1 a2 a3 a4 a5 a6 a7 a8 a9 a10 a11 a12 a13 a14 a15 a16 a17 a18 a19 = some o := by
  cases x with
  | none => cases h
  | some q => exact ⟨q.1, q.2.1, q.2.2.1, q.2.2.2.1, q.2.2.2.2.1, q.2.2.2.2.2.1, q.2.2.2.2.2.2.1, q.2.2.2.2.2.2.2.1, q.2.2.2.2.2.2.2.2.1, q.2.2.2.2.2.2.2.2.2.1, q.2.2.2.2.2.2.2.2.2.2.1, q.2.2.2.2.2.2.2.2.2.2.2.1, q.2.2.2.2.2.2.2.2.2.2.2.2.1, q.2.2.2.2.2.2.2.2.2.2.2.2.2.1, q.2.2.2.2.2.2.2.2.2.2.2.2.2.2.1, q.2.2.2.2.2.2.2.2.2.2.2.2.2.2.2.1, q.2.2.2.2.2.2.2.2.2.2.2.2.2.2.2.2.1, q.2.2.2.2.2.2.2.2.2.2.2.2.2.2.2.2.2.1, q.2.2.2.2.2.2.2.2.2.2.2.2.2.2.2.2.2.2.1, q.2.2.2.2.2.2.2.2.2.2.2.2.2.2.2.2.2.2.2, rfl, h⟩
theorem b20_s {α0 α1 α2 α3 α4 α5 α6 α7 α8 α9 α10 α11 α12 α13 α14 α15 α16 α17 α18 α19 β : Type} {k : α0 → α1 → α2 → α3 → α4 → α5 → α6 → α7 → α8 → α9 → α10 → α11 → α12 → α13 → α14 → α15 → α16 → α17 → α18 → α19 → Option β} (a0 : α0) (a1 : α1) (a2 : α2) (a3 : α3) (a4 : α4) (a5 : α5) (a6 : α6) (a7 : α7) (a8 : α8) (a9 : α9) (a10 : α10) (a11 : α11) (a12 : α12) (a13 : α13) (a14 : α14) (a15 : α15) (a16 : α16) (a17 : α17) (a18 : α18) (a19 : α19) : b20 (some (a0, a1, a2, a3, a4, a5, a6, a7, a8, a9, a10, a11, a12, a13, a14, a15, a16, a17, a18, a19)) k = k a0 a1 a2 a3 a4 a5 a6 a7 a8 a9 a10 a11 a12 a13 a14 a15 a16 a17 a18 a19 := rfl
theorem FU_ex : ∃ n : Nat, 1000000 ≤ n := ⟨1000000, Nat.le_refl _⟩
/-- enough for every loop -/
noncomputable def FU : Nat := Classical.choose FU_ex
theorem FU_big : 1000000 ≤ FU := Classical.choose_spec FU_ex
