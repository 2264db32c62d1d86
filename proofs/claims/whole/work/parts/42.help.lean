/-! ===== methods with handlers ===== -/
def tblZ (Z : Zt) : List ExceptionTableEntry := Z.2.2.2.2.2.2.2.2.1.exceptionTable.toList
def NX : String → State → State → Prop := fun _ _ _ => False
def MtH {ι : Type} (J : Jt) (y : MethodName) (cc : ByteArray) (nL : Nat) (rt : Option FieldType) (hh : List (Nat × Nat × Nat × Nat)) (R : Room) (av : List Value) (w : va_W) (r : Option Value) (w' : ι → va_W) : Prop := ∀ sz : Nat, vx_Met J.1 y (.codeWith y cc nL rt hh :: LT) R (va_Pc av (fun U => U.heap.size = sz ∧ va_P J.2.1 vwCl w U.heap ∧ va_D (fun _ => True) w ∧ KX J (va_A w sz) U U.heap)) (QN J.2.1 w sz r w') NX R.cells R.slots (va_A w sz)
def EzH {ι : Type} (J : Jt) (Z : Zt) (mc ms : Nat) (r : Option Value) (w' : ι → va_W) : Prop := match J, Z with
  | (_, D, _, _, _), (_, _, _, s, _, args, below, _, _, A, Q) => ∃ w0 : va_W, A = va_A w0 s.heap.size ∧ Q = vx_MQ below (QN D w0 s.heap.size r w') NX args s mc ms A
section GH
variable {ι : Type} {J : Jt} {Z : Zt} {cc : ByteArray} {nL : Nat} {own : String} {rt : Option FieldType} {R : Room} {n k : Nat} {w w' : va_W} {lv lv' : List (Nat × Value)} {pc : Nat} {st : List Value} {wf : ι → va_W}
theorem MtH_of {y : MethodName} {av : List Value} {r : Option Value} {hh : List (Nat × Nat × Nat × Nat)} (hy : plainName y.cls = true) (ho : y.cls = own) (hav : (lg_sl av).length ≤ nL) (hlv : lv_args 0 av = lv)
    (body : ∀ Z : Zt, Cx J Z cc nL own rt R → EzH J Z R.cells R.slots r wf → tblZ Z = tableOf hh → G J Z 0 0 w nL lv 0 []) : MtH J y cc nL rt hh R av w r wf := by
  intro sz
  obtain ⟨l, D, cy, aK, aV⟩ := J
  refine vx_ofWH (cc := cc) (maxL := nL) (ret := rt) hy rfl ?_
  intro p e s m args below meth c s₁ B hml hv
  obtain ⟨rfl, hsz, hP, hD0, hKX⟩ := hv
  subst hsz
  have hts := atoms_spec (ws := .codeWith y cc nL rt hh :: LT) B.pre
  have htb := vx_table (x := y) B (hts _ List.mem_cons_self)
  have hown : s.vm.findClass own = some m.cls := by rw [← ho]; exact findClass_of_methodNamed B.named
  have hlocks : meth.locks = false := B.notSynchronized
  have hD := hD0.self (sz := s.heap.size)
  have hl := lv_entry av (n := nL) hav
  rw [lg_entry_eq]
  rw [hlv] at hl
  exact body (p, e, (headSpec (.codeWith y cc nL rt hh :: LT) R).room, s, m, av.toArray, below, meth, c, va_A w s.heap.size, vx_MQ below (QN D w s.heap.size r wf) NX av.toArray s R.cells R.slots (va_A w s.heap.size))
    ⟨B.exec, B.bytes, hml, hown, fun w0 h0 => hts w0 (List.mem_cons_of_mem _ h0), hKX, B.returns, hlocks, fun q h => Or.inr h, rfl⟩ ⟨w, rfl, rfl⟩ htb s.heap [] _ hP hD va_S.rf hl
theorem g_iretH {v : Int32} (C : Cx J Z cc nL own (some .int) R) (E : EzH J Z n k (some (.int v)) wf) (x : ι) (hw : wf x = w) (hd : decode cc pc = .ok (.ireturn, 1)) : G J Z n k w nL lv pc [.int v] := by
  obtain ⟨l, D, cy, aK, aV⟩ := J
  obtain ⟨p, e, R0, s, m, args, below, meth, c, A, Q⟩ := Z
  obtain ⟨hx, hb, hml, hown, hts, hKX, hr, hlk, hA, rfl⟩ := C
  obtain ⟨w0, rfl, rfl⟩ := E
  subst hw
  intro H locs ls hP hD hS hl
  exact vx_ret (W.iret hx hb hr (fun t ht hW => ⟨⟨rfl, x, by rw [ht]; exact hP, hD⟩, hS.F ht⟩) hS.2.2 hd hlk)
theorem gt_catch1 (C : Cx J Z cc nL own rt R) {hh : List (Nat × Nat × Nat × Nat)} (ht : tblZ Z = tableOf hh) {E : String} {q0 : Nat × Nat × Nat × Nat} {suf : List (Nat × Nat × Nat × Nat)} (hs : hh = q0 :: suf) (hx : covers ⟨q0.1, q0.2.1, q0.2.2.1, q0.2.2.2⟩ pc = true) (h0 : q0.2.2.2 ≠ 0) (hlink : Cond.classLink own q0.2.2.2 E ∈ LT) (hE : E ∈ cwC) (kk : ∀ q : Nat, G J Z n k w nL lv q0.2.2.1 [.ref q]) : GT J Z n k w nL lv pc st E := by
  obtain ⟨l, D, cy, aK, aV⟩ := J
  obtain ⟨p, e, R0, s, m, args, below, meth, c, A, Q⟩ := Z
  obtain ⟨hx0, hb, hml, hown, hts, hKX, hr, hlk, hA, rfl⟩ := C
  intro H locs ls q ce hP hD hS hl hq hv hcl
  subst hs
  exact vx_catch (name := E) hown [] ⟨q0.1, q0.2.1, q0.2.2.1, q0.2.2.2⟩ (tableOf suf) ht (fun z hz => by cases hz) hx h0 (hts _ hlink) (va_Nw.use rfl (hKX.2.1.2.2.1 _ hE)) hq hv hcl (kk q H locs ls hP hD hS hl)
theorem gt_catch2 (C : Cx J Z cc nL own rt R) {hh : List (Nat × Nat × Nat × Nat)} (ht : tblZ Z = tableOf hh) {q1 q0 : Nat × Nat × Nat × Nat} {suf : List (Nat × Nat × Nat × Nat)} (hs : hh = q1 :: q0 :: suf) (h1 : q1.2.2.2 ≠ 0) (hl1 : Cond.classLink own q1.2.2.2 "java/util/NoSuchElementException" ∈ LT) (hx : covers ⟨q0.1, q0.2.1, q0.2.2.1, q0.2.2.2⟩ pc = true) (h0 : q0.2.2.2 ≠ 0) (hlink : Cond.classLink own q0.2.2.2 "java/lang/IllegalArgumentException" ∈ LT) (kk : ∀ q : Nat, G J Z n k w nL lv q0.2.2.1 [.ref q]) : GT J Z n k w nL lv pc st "java/lang/IllegalArgumentException" := by
  obtain ⟨l, D, cy, aK, aV⟩ := J
  obtain ⟨p, e, R0, s, m, args, below, meth, c, A, Q⟩ := Z
  obtain ⟨hx0, hb, hml, hown, hts, hKX, hr, hlk, hA, rfl⟩ := C
  intro H locs ls q ce hP hD hS hl hq hv hcl
  subst hs
  refine vx_catch (name := "java/lang/IllegalArgumentException") hown [⟨q1.1, q1.2.1, q1.2.2.1, q1.2.2.2⟩] ⟨q0.1, q0.2.1, q0.2.2.1, q0.2.2.2⟩ (tableOf suf) ht (fun z hz => ?_) hx h0 (hts _ hlink) (va_Nw.use rfl (hKX.2.1.2.2.1 _ (by simp [cwC]))) hq hv hcl (kk q H locs ls hP hD hS hl)
  rw [List.mem_singleton.mp hz]
  exact Or.inr ⟨h1, _, hts _ hl1, hKX.2.1.2.2.2.1⟩
theorem g_callH (C : Cx J Z cc nL own rt R) {y : MethodName} {ccy : ByteArray} {nLy nA : Nat} {rty : Option FieldType} {hh : List (Nat × Nat × Nat × Nat)} {Ry : Room} {As : List Value} {wc : va_W} {wcf : ι → va_W} {r : Option Value} {idx : Nat} (M : MtH J y ccy nLy rty hh Ry As wc r wcf) (hsub : ∀ (D : va_G) (A : Nat → Prop) (H : Heap), va_P D vwCl w H → va_D A w → va_P D vwCl wc H ∧ va_D A wc) (S : ∀ x, Sub w wc (wcf x) (wf x)) (hl1 : Cond.methodLink own idx y ∈ LT) (hl2 : Cond.static y ∈ LT) (hl4 : Cond.initialized y.cls ∈ LT) (hyC : y.cls ≠ "java/lang/invoke/MethodHandle" ∧ y.cls ≠ "java/lang/invoke/VarHandle" ∧ (parseMethodDescriptor y.desc).map (fun d => d.parameters.length) = some nA) (hcd : Cond.codeWith y ccy nLy rty hh ∈ LT) (hnA : As.length = nA) (hr1 : Ry.frames + 1 ≤ R.frames) (hr2 : 8 + (nLy + 11) + Ry.locals ≤ R.locals) (hr3 : n + Ry.cells ≤ R.cells) (hr4 : k + Ry.slots ≤ R.slots) (hst : (st.map fun v => v.category).sum ≤ 8) (hd : decode cc pc = .ok (.invokestatic idx, 3)) (kk : ∀ x, G J Z (n + Ry.cells) (k + Ry.slots) (wf x) nL lv (pc + 3) (r.toList ++ st)) : G J Z n k w nL lv pc (As.reverse ++ st) := by
  obtain ⟨l, D, cy, aK, aV⟩ := J
  obtain ⟨p, e, R0, s, m, args, below, meth, c, A, Q⟩ := Z
  obtain ⟨hx, hb, hml, hown, hts, hKX, hr, hlk, hA, rfl⟩ := C
  have hK := hKX.1
  intro H locs ls hP hD hS hl
  obtain ⟨hPc, hDc0⟩ : va_P D vwCl wc H ∧ va_D A wc := hsub D A H hP hD
  have hFc : ∀ q, va_A wc H.size q → A q := fun q h => by
    rcases h with ⟨k2, e2, h⟩ | h
    · exact hDc0.2 k2 _ h
    · exact hA q (Nat.le_trans hS.1 h)
  have hDc : va_D (fun _ => True) wc := ⟨hDc0.1, fun _ _ _ => trivial⟩
  have hKc : KX (l, D, cy, aK, aV) (va_A wc H.size) s H := (hKX.kept (fun a h1 h2 => hS.2.1 a h1 h2)).narrow hFc
  intro T hT X
  rcases vx_runSX (hh := hh) (bytes := ccy) (maxL := nLy) (ret := rty) (g := F0 m pc ls (As.reverse ++ st)) (As := As) (rest := st) (Ts := LT) ⟨hx, hb, hml, hown, hts⟩ (M H.size) (vx_cwSW nA hts (LT_X hl1 hl2 hl4 hcd) rfl rfl rfl hyC ⟨hr1, hr2⟩) ⟨fun a U g mk q => by obtain ⟨q0, q1, qP, qD, qK⟩ := q; exact ⟨q0, q1, qP, qD, qK.calling g mk a⟩, fun U hU hW => ⟨rfl, by rw [hU], by rw [hU]; exact hPc, hDc, by rw [hU]; exact hKc.warm hW⟩⟩ rfl hnA hl.1 rfl (by simpa [JFrame.monitorRoom] using hst) hd ⟨hr3, hr4⟩ T hT X with ⟨v, st₀, t, T', L, h0, X', hL, e1, e2, ⟨⟨hv, x, hP1, hD1⟩, hz, hk1⟩, sg⟩ | ⟨q9, st₀, t, T', L, E9, ce, h0, X', hL, e1, e2, hno, hce, hcv, hcl, sg⟩
  · cases hv
    rw [h0] at hz hk1
    have hS' : va_S A s.heap T'.heap (locs ++ L) := ⟨Nat.le_trans hS.1 (by rw [e1]; exact hz), fun q q1 q2 => by rw [e1, hk1 q (Nat.lt_of_lt_of_le q1 hS.1) (fun z => q2 (hFc q z))]; exact hS.2.1 q q1 q2, fun q hq => by
      rcases List.mem_append.mp hq with h | h
      · exact hS.2.2 q h
      · exact hFc _ (hL q h)⟩
    obtain ⟨hP2, hD2⟩ := (S x D A H hP hD).2 T'.heap (fun q q1 q2 => by rw [e1]; exact hk1 q q1 q2) hFc (by rw [e1]; exact hP1) hD1
    obtain ⟨t2, a1, b1⟩ := kk x T'.heap (locs ++ L) ls hP2 hD2 hS' hl T' rfl X'
    exact ⟨t2, sg t2 a1, b1⟩
  · exact hno.elim
theorem g_perm (hp : w.Perm w') (kk : G J Z n k w' nL lv pc st) : G J Z n k w nL lv pc st := by
  obtain ⟨l, D, cy, aK, aV⟩ := J
  obtain ⟨p, e, R0, s, m, args, below, meth, c, A, Q⟩ := Z
  intro H locs ls hP hD hS hl
  obtain ⟨h1, h2⟩ := va_PD_perm hp hP hD
  exact kk H locs ls h1 h2 hS hl
end GH
theorem gt_wid {J : Jt} {Z : Zt} {n k n' k' nL pc : Nat} {w : va_W} {lv : List (Nat × Value)} {st : List Value} {E : String} (h1 : n ≤ n') (h2 : k ≤ k') (kk : GT J Z n' k' w nL lv pc st E) : GT J Z n k w nL lv pc st E := by
  obtain ⟨l, D, cy, aK, aV⟩ := J
  obtain ⟨p, e, R0, s, m, args, below, meth, c, A, Q⟩ := Z
  intro H locs ls q ce hP hD hS hl hq hv hcl
  exact vx_widen h1 h2 (kk H locs ls q ce hP hD hS hl hq hv hcl)
theorem kwh_L_garden : Cond.codeWith yL_garden cL_garden 4 (some .int) [(0, 9, 12, 13)] ∈ LT := LT_of 532 (by decide +kernel) (by decide +kernel)
theorem kwh_L_law : Cond.codeWith yL_law cL_law 4 (some .int) [(0, 9, 12, 13)] ∈ LT := LT_of 750 (by decide +kernel) (by decide +kernel)
theorem kwh_L_work : Cond.codeWith yL_work cL_work 4 (some .int) [(0, 9, 12, 13)] ∈ LT := LT_of 804 (by decide +kernel) (by decide +kernel)
theorem kwh_L_book : Cond.codeWith yL_book cL_book 4 (some .int) [(0, 9, 12, 13)] ∈ LT := LT_of 920 (by decide +kernel) (by decide +kernel)
theorem kwh_L_told : Cond.codeWith yL_told cL_told 4 (some .int) [(0, 9, 12, 13)] ∈ LT := LT_of 935 (by decide +kernel) (by decide +kernel)
theorem kwh_L_letter : Cond.codeWith yL_letter cL_letter 5 (some .int) [(0, 10, 13, 31), (0, 10, 17, 13)] ∈ LT := LT_of 950 (by decide +kernel) (by decide +kernel)
theorem kwh_L_word : Cond.codeWith yL_word cL_word 5 (some .int) [(0, 10, 13, 31), (0, 10, 17, 13)] ∈ LT := LT_of 980 (by decide +kernel) (by decide +kernel)
theorem kwh_L_bed : Cond.codeWith yL_bed cL_bed 5 (some .int) [(0, 10, 13, 31), (0, 10, 17, 13)] ∈ LT := LT_of 988 (by decide +kernel) (by decide +kernel)
theorem kwh_L_lies : Cond.codeWith yL_lies cL_lies 5 (some .int) [(0, 10, 13, 31), (0, 10, 17, 13)] ∈ LT := LT_of 1001 (by decide +kernel) (by decide +kernel)
theorem kwh_L_reader : Cond.codeWith yL_reader cL_reader 5 (some .int) [(0, 10, 13, 31), (0, 10, 17, 13)] ∈ LT := LT_of 1012 (by decide +kernel) (by decide +kernel)
theorem kwh_L_grown : Cond.codeWith yL_grown cL_grown 4 (some .int) [(0, 9, 12, 13)] ∈ LT := LT_of 1019 (by decide +kernel) (by decide +kernel)
theorem kwh_L_runs : Cond.codeWith yL_runs cL_runs 5 (some .int) [(0, 10, 13, 31), (0, 10, 17, 13)] ∈ LT := LT_of 1026 (by decide +kernel) (by decide +kernel)
theorem kwh_L_would : Cond.codeWith yL_would cL_would 10 (some .int) [(0, 20, 23, 13)] ∈ LT := LT_of 1035 (by decide +kernel) (by decide +kernel)
theorem kwh_L_ahead : Cond.codeWith yL_ahead cL_ahead 5 (some .int) [(0, 10, 13, 13)] ∈ LT := LT_of 1043 (by decide +kernel) (by decide +kernel)
theorem kwh_L_rains : Cond.codeWith yL_rains cL_rains 6 (some .int) [(0, 12, 15, 31), (0, 12, 19, 13)] ∈ LT := LT_of 1051 (by decide +kernel) (by decide +kernel)
theorem kwh_L_stuffed : Cond.codeWith yL_stuffed cL_stuffed 4 (some .int) [(0, 9, 12, 13)] ∈ LT := LT_of 1060 (by decide +kernel) (by decide +kernel)
theorem kwh_L_all : Cond.codeWith yL_all cL_all 4 (some .int) [(0, 9, 12, 13)] ∈ LT := LT_of 1067 (by decide +kernel) (by decide +kernel)
theorem kwh_L_tour : Cond.codeWith yL_tour cL_tour 4 (some .int) [(0, 9, 12, 31)] ∈ LT := LT_of 1085 (by decide +kernel) (by decide +kernel)
theorem kwh_L_fits : Cond.codeWith yL_fits cL_fits 4 (some .int) [(0, 9, 12, 13)] ∈ LT := LT_of 1096 (by decide +kernel) (by decide +kernel)
theorem kwh_L_look : Cond.codeWith yL_look cL_look 4 (some .int) [(0, 9, 12, 13)] ∈ LT := LT_of 1111 (by decide +kernel) (by decide +kernel)
theorem kwh_L_pods : Cond.codeWith yL_pods cL_pods 7 (some .int) [(0, 13, 16, 13)] ∈ LT := LT_of 1126 (by decide +kernel) (by decide +kernel)
theorem kwh_L_she : Cond.codeWith yL_she cL_she 6 (some .int) [(0, 12, 15, 13)] ∈ LT := LT_of 1137 (by decide +kernel) (by decide +kernel)
theorem kwh_L_seed : Cond.codeWith yL_seed cL_seed 6 (some .int) [(0, 12, 15, 31), (0, 12, 19, 13)] ∈ LT := LT_of 1150 (by decide +kernel) (by decide +kernel)
theorem kwh_L_often : Cond.codeWith yL_often cL_often 4 (some .int) [(0, 9, 12, 13)] ∈ LT := LT_of 1161 (by decide +kernel) (by decide +kernel)
theorem kwh_L_hearers : Cond.codeWith yL_hearers cL_hearers 4 (some .int) [(0, 9, 12, 13)] ∈ LT := LT_of 1172 (by decide +kernel) (by decide +kernel)
theorem kwh_L_news : Cond.codeWith yL_news cL_news 5 (some .int) [(0, 10, 13, 31), (0, 10, 17, 13)] ∈ LT := LT_of 1179 (by decide +kernel) (by decide +kernel)
theorem kwh_L_full : Cond.codeWith yL_full cL_full 4 (some .int) [(0, 9, 12, 13)] ∈ LT := LT_of 1187 (by decide +kernel) (by decide +kernel)
theorem kwh_L_drains : Cond.codeWith yL_drains cL_drains 4 (some .int) [(0, 9, 12, 31)] ∈ LT := LT_of 1194 (by decide +kernel) (by decide +kernel)
theorem kwh_L_unread : Cond.codeWith yL_unread cL_unread 4 (some .int) [(0, 9, 12, 31)] ∈ LT := LT_of 1201 (by decide +kernel) (by decide +kernel)
theorem kwh_L_coming : Cond.codeWith yL_coming cL_coming 5 (some .int) [(0, 10, 13, 31), (0, 10, 17, 13)] ∈ LT := LT_of 1208 (by decide +kernel) (by decide +kernel)
theorem kwh_L_shared : Cond.codeWith yL_shared cL_shared 5 (some .int) [(0, 10, 13, 31)] ∈ LT := LT_of 1215 (by decide +kernel) (by decide +kernel)
theorem kwh_L_summer : Cond.codeWith yL_summer cL_summer 7 (some .int) [(0, 14, 17, 13)] ∈ LT := LT_of 1222 (by decide +kernel) (by decide +kernel)
theorem kwh_L_span : Cond.codeWith yL_span cL_span 9 (some .int) [(0, 18, 21, 13)] ∈ LT := LT_of 1250 (by decide +kernel) (by decide +kernel)
def rm_L_garden : Room := { frames := 12, cells := 1, slots := 6, locals := 229 }
set_option maxRecDepth 100000 in
set_option maxHeartbeats 1000000 in
theorem t_L_garden {ι : Type} {J : Jt} {w : va_W} {wf : ι → va_W} {x oa ex : Nat} {ofn : Nat → Int64} {p1 : Int32} {r : Int32} {kr : Int32} {fs : List Value} (M : MtX J yX9_garden cX9_garden 3 (some .int) rm_X9_garden [.ref x, .int p1] w ex (some (.int r)) wf) (hx : w[0]? = some (x, .inr (9, fs))) (hk : (ex = 0 ∧ kr = 0) ∨ (ex = 2 ∧ kr = 1)) : MtH J yL_garden cL_garden 4 (some .int) [(0, 9, 12, 13)] rm_L_garden [.ref x, .int p1, .ref oa] (w ++ [(oa, .inl (J.2.2.1 2, 1, .inr (.inl ofn)))]) (some (.int kr)) (fun i => wf i ++ (if ex = 0 then [(oa, .inl (J.2.2.1 2, 1, .inr (.inl (vp_updL ofn 0 r.toInt64))))] else [(oa, .inl (J.2.2.1 2, 1, .inr (.inl ofn)))])) := by
  refine MtH_of (own := RL) (by decide) rfl (Nat.le_of_ble_eq_true rfl) rfl (fun Z C E ht => ?_)
  show G J Z 0 0 (w ++ [(oa, .inl (J.2.2.1 2, 1, .inr (.inl ofn)))]) 4 [(0, .ref x), (1, .int p1), (2, .ref oa)] 0 []
  refine g_aload_n (pc := 0) C 2 rfl dL_garden_0 ?_
  refine g_iconst (pc := 1) C dL_garden_1 ci_0 ?_
  refine g_aload_n (pc := 2) C 0 rfl dL_garden_2 ?_
  refine g_iload_n (pc := 3) C 1 rfl dL_garden_3 ?_
  refine g_xcallV (pc := 4) (wf := fun i => wf i ++ [(oa, .inl (J.2.2.1 2, 1, .inr (.inl ofn)))]) C (As := [.int p1]) (st := [.int 0, .ref oa]) (ci := 9) (q0 := 0) rfl (by rw [List.getElem?_append_left (List.getElem?_eq_some_iff.mp hx).1]; exact hx) M (fun D A H hP hD => ((Sub.app Sub.same : Sub (w ++ [(oa, .inl (J.2.2.1 2, 1, .inr (.inl ofn)))]) w w (w ++ [(oa, .inl (J.2.2.1 2, 1, .inr (.inl ofn)))])) D A H hP hD).1) (fun i => Sub.app Sub.same) kw_534 kw_535 kw_536 kw_86 hy_X9_garden kw_537 rfl (Nat.le_of_ble_eq_true rfl) (Nat.le_of_ble_eq_true rfl) (Nat.le_of_ble_eq_true rfl) (Nat.le_of_ble_eq_true rfl) (Nat.le_of_ble_eq_true rfl) dL_garden_4 (fun he i => ?_) (fun he i => ?_)
  · subst he
    rcases hk with ⟨_, rfl⟩ | ⟨h9, _⟩
    · refine g_wid (n' := 1) (k' := 6) (Nat.le_of_ble_eq_true rfl) (Nat.le_of_ble_eq_true rfl) ?_
      refine g_i2l (pc := 7) C dL_garden_7 ?_
      refine g_last (pc := 8) (w' := wf i ++ [(oa, .inl (J.2.2.1 2, 1, .inr (.inl (vp_updL ofn 0 r.toInt64))))]) C (wf i).length (by rw [List.getElem?_append_right (Nat.le_refl _), Nat.sub_self]; rfl) (ixb_in (by decide)) dL_garden_8 (by rw [List.set_append_right _ _ (Nat.le_refl _), Nat.sub_self]; rfl) ?_
      refine g_goto (pc := 9) C (tgt := 15) dL_garden_9 rfl ?_
      refine g_iconst (pc := 15) C dL_garden_15 ci_0 ?_
      exact g_iretH (pc := 16) C E i (by rw [if_pos rfl]) dL_garden_16
    · cases h9
  · rcases hk with ⟨h9, _⟩ | ⟨rfl, rfl⟩
    · exact absurd h9 he
    · refine (fun (kk : GT J Z 1 6 _ 4 _ 4 _ _) => gt_wid (Nat.le_of_ble_eq_true rfl) (Nat.le_of_ble_eq_true rfl) kk) ?_
      refine gt_catch1 (pc := 4) C ht (q0 := (0, 9, 12, 13)) rfl (by decide) (by decide) kw_533 (by decide) (fun q => ?_)
      show G J Z 1 6 (wf i ++ [(oa, .inl (J.2.2.1 2, 1, .inr (.inl ofn)))]) 4 [(0, .ref x), (1, .int p1), (2, .ref oa)] 12 [.ref q]
      refine g_astore_n (pc := 12) C [(3, .ref q), (0, .ref x), (1, .int p1), (2, .ref oa)] dL_garden_12 rfl (by decide) rfl ?_
      refine g_iconst (pc := 13) C dL_garden_13 ci_1 ?_
      exact g_iretH (pc := 14) C E i (by rw [if_neg he]) dL_garden_14
def rm_L_law : Room := { frames := 49, cells := 1, slots := 6, locals := 1213 }
set_option maxRecDepth 100000 in
set_option maxHeartbeats 1000000 in
theorem t_L_law {ι : Type} {J : Jt} {w : va_W} {wf : ι → va_W} {x oa ex : Nat} {ofn : Nat → Int64} {p1 : Int32} {r : Int32} {kr : Int32} {fs : List Value} (M : MtX J yX9_law cX9_law 3 (some .int) rm_X9_law [.ref x, .int p1] w ex (some (.int r)) wf) (hx : w[0]? = some (x, .inr (9, fs))) (hk : (ex = 0 ∧ kr = 0) ∨ (ex = 2 ∧ kr = 1)) : MtH J yL_law cL_law 4 (some .int) [(0, 9, 12, 13)] rm_L_law [.ref x, .int p1, .ref oa] (w ++ [(oa, .inl (J.2.2.1 2, 1, .inr (.inl ofn)))]) (some (.int kr)) (fun i => wf i ++ (if ex = 0 then [(oa, .inl (J.2.2.1 2, 1, .inr (.inl (vp_updL ofn 0 r.toInt64))))] else [(oa, .inl (J.2.2.1 2, 1, .inr (.inl ofn)))])) := by
  refine MtH_of (own := RL) (by decide) rfl (Nat.le_of_ble_eq_true rfl) rfl (fun Z C E ht => ?_)
  show G J Z 0 0 (w ++ [(oa, .inl (J.2.2.1 2, 1, .inr (.inl ofn)))]) 4 [(0, .ref x), (1, .int p1), (2, .ref oa)] 0 []
  refine g_aload_n (pc := 0) C 2 rfl dL_law_0 ?_
  refine g_iconst (pc := 1) C dL_law_1 ci_0 ?_
  refine g_aload_n (pc := 2) C 0 rfl dL_law_2 ?_
  refine g_iload_n (pc := 3) C 1 rfl dL_law_3 ?_
  refine g_xcallV (pc := 4) (wf := fun i => wf i ++ [(oa, .inl (J.2.2.1 2, 1, .inr (.inl ofn)))]) C (As := [.int p1]) (st := [.int 0, .ref oa]) (ci := 9) (q0 := 0) rfl (by rw [List.getElem?_append_left (List.getElem?_eq_some_iff.mp hx).1]; exact hx) M (fun D A H hP hD => ((Sub.app Sub.same : Sub (w ++ [(oa, .inl (J.2.2.1 2, 1, .inr (.inl ofn)))]) w w (w ++ [(oa, .inl (J.2.2.1 2, 1, .inr (.inl ofn)))])) D A H hP hD).1) (fun i => Sub.app Sub.same) kw_751 kw_752 kw_753 kw_86 hy_X9_law kw_754 rfl (Nat.le_of_ble_eq_true rfl) (Nat.le_of_ble_eq_true rfl) (Nat.le_of_ble_eq_true rfl) (Nat.le_of_ble_eq_true rfl) (Nat.le_of_ble_eq_true rfl) dL_law_4 (fun he i => ?_) (fun he i => ?_)
  · subst he
    rcases hk with ⟨_, rfl⟩ | ⟨h9, _⟩
    · refine g_wid (n' := 1) (k' := 6) (Nat.le_of_ble_eq_true rfl) (Nat.le_of_ble_eq_true rfl) ?_
      refine g_i2l (pc := 7) C dL_law_7 ?_
      refine g_last (pc := 8) (w' := wf i ++ [(oa, .inl (J.2.2.1 2, 1, .inr (.inl (vp_updL ofn 0 r.toInt64))))]) C (wf i).length (by rw [List.getElem?_append_right (Nat.le_refl _), Nat.sub_self]; rfl) (ixb_in (by decide)) dL_law_8 (by rw [List.set_append_right _ _ (Nat.le_refl _), Nat.sub_self]; rfl) ?_
      refine g_goto (pc := 9) C (tgt := 15) dL_law_9 rfl ?_
      refine g_iconst (pc := 15) C dL_law_15 ci_0 ?_
      exact g_iretH (pc := 16) C E i (by rw [if_pos rfl]) dL_law_16
    · cases h9
  · rcases hk with ⟨h9, _⟩ | ⟨rfl, rfl⟩
    · exact absurd h9 he
    · refine (fun (kk : GT J Z 1 6 _ 4 _ 4 _ _) => gt_wid (Nat.le_of_ble_eq_true rfl) (Nat.le_of_ble_eq_true rfl) kk) ?_
      refine gt_catch1 (pc := 4) C ht (q0 := (0, 9, 12, 13)) rfl (by decide) (by decide) kw_533 (by decide) (fun q => ?_)
      show G J Z 1 6 (wf i ++ [(oa, .inl (J.2.2.1 2, 1, .inr (.inl ofn)))]) 4 [(0, .ref x), (1, .int p1), (2, .ref oa)] 12 [.ref q]
      refine g_astore_n (pc := 12) C [(3, .ref q), (0, .ref x), (1, .int p1), (2, .ref oa)] dL_law_12 rfl (by decide) rfl ?_
      refine g_iconst (pc := 13) C dL_law_13 ci_1 ?_
      exact g_iretH (pc := 14) C E i (by rw [if_neg he]) dL_law_14
def rm_L_work : Room := { frames := 51, cells := 10, slots := 200, locals := 1222 }
set_option maxRecDepth 100000 in
set_option maxHeartbeats 1000000 in
theorem t_L_work {ι : Type} {J : Jt} {w : va_W} {wf : ι → va_W} {x oa ex : Nat} {ofn : Nat → Int64} {p1 : Int32} {r : Int32} {kr : Int32} {fs : List Value} (M : MtX J yX9_work cX9_work 3 (some .int) rm_X9_work [.ref x, .int p1] w ex (some (.int r)) wf) (hx : w[0]? = some (x, .inr (9, fs))) (hk : (ex = 0 ∧ kr = 0) ∨ (ex = 2 ∧ kr = 1)) : MtH J yL_work cL_work 4 (some .int) [(0, 9, 12, 13)] rm_L_work [.ref x, .int p1, .ref oa] (w ++ [(oa, .inl (J.2.2.1 2, 1, .inr (.inl ofn)))]) (some (.int kr)) (fun i => wf i ++ (if ex = 0 then [(oa, .inl (J.2.2.1 2, 1, .inr (.inl (vp_updL ofn 0 r.toInt64))))] else [(oa, .inl (J.2.2.1 2, 1, .inr (.inl ofn)))])) := by
  refine MtH_of (own := RL) (by decide) rfl (Nat.le_of_ble_eq_true rfl) rfl (fun Z C E ht => ?_)
  show G J Z 0 0 (w ++ [(oa, .inl (J.2.2.1 2, 1, .inr (.inl ofn)))]) 4 [(0, .ref x), (1, .int p1), (2, .ref oa)] 0 []
  refine g_aload_n (pc := 0) C 2 rfl dL_work_0 ?_
  refine g_iconst (pc := 1) C dL_work_1 ci_0 ?_
  refine g_aload_n (pc := 2) C 0 rfl dL_work_2 ?_
  refine g_iload_n (pc := 3) C 1 rfl dL_work_3 ?_
  refine g_xcallV (pc := 4) (wf := fun i => wf i ++ [(oa, .inl (J.2.2.1 2, 1, .inr (.inl ofn)))]) C (As := [.int p1]) (st := [.int 0, .ref oa]) (ci := 9) (q0 := 0) rfl (by rw [List.getElem?_append_left (List.getElem?_eq_some_iff.mp hx).1]; exact hx) M (fun D A H hP hD => ((Sub.app Sub.same : Sub (w ++ [(oa, .inl (J.2.2.1 2, 1, .inr (.inl ofn)))]) w w (w ++ [(oa, .inl (J.2.2.1 2, 1, .inr (.inl ofn)))])) D A H hP hD).1) (fun i => Sub.app Sub.same) kw_805 kw_806 kw_807 kw_86 hy_X9_work kw_808 rfl (Nat.le_of_ble_eq_true rfl) (Nat.le_of_ble_eq_true rfl) (Nat.le_of_ble_eq_true rfl) (Nat.le_of_ble_eq_true rfl) (Nat.le_of_ble_eq_true rfl) dL_work_4 (fun he i => ?_) (fun he i => ?_)
  · subst he
    rcases hk with ⟨_, rfl⟩ | ⟨h9, _⟩
    · refine g_wid (n' := 10) (k' := 200) (Nat.le_of_ble_eq_true rfl) (Nat.le_of_ble_eq_true rfl) ?_
      refine g_i2l (pc := 7) C dL_work_7 ?_
      refine g_last (pc := 8) (w' := wf i ++ [(oa, .inl (J.2.2.1 2, 1, .inr (.inl (vp_updL ofn 0 r.toInt64))))]) C (wf i).length (by rw [List.getElem?_append_right (Nat.le_refl _), Nat.sub_self]; rfl) (ixb_in (by decide)) dL_work_8 (by rw [List.set_append_right _ _ (Nat.le_refl _), Nat.sub_self]; rfl) ?_
      refine g_goto (pc := 9) C (tgt := 15) dL_work_9 rfl ?_
      refine g_iconst (pc := 15) C dL_work_15 ci_0 ?_
      exact g_iretH (pc := 16) C E i (by rw [if_pos rfl]) dL_work_16
    · cases h9
  · rcases hk with ⟨h9, _⟩ | ⟨rfl, rfl⟩
    · exact absurd h9 he
    · refine (fun (kk : GT J Z 10 200 _ 4 _ 4 _ _) => gt_wid (Nat.le_of_ble_eq_true rfl) (Nat.le_of_ble_eq_true rfl) kk) ?_
      refine gt_catch1 (pc := 4) C ht (q0 := (0, 9, 12, 13)) rfl (by decide) (by decide) kw_533 (by decide) (fun q => ?_)
      show G J Z 10 200 (wf i ++ [(oa, .inl (J.2.2.1 2, 1, .inr (.inl ofn)))]) 4 [(0, .ref x), (1, .int p1), (2, .ref oa)] 12 [.ref q]
      refine g_astore_n (pc := 12) C [(3, .ref q), (0, .ref x), (1, .int p1), (2, .ref oa)] dL_work_12 rfl (by decide) rfl ?_
      refine g_iconst (pc := 13) C dL_work_13 ci_1 ?_
      exact g_iretH (pc := 14) C E i (by rw [if_neg he]) dL_work_14
def rm_L_book : Room := { frames := 12, cells := 1, slots := 6, locals := 187 }
set_option maxRecDepth 100000 in
set_option maxHeartbeats 1000000 in
theorem t_L_book {ι : Type} {J : Jt} {w : va_W} {wf : ι → va_W} {x oa ex : Nat} {ofn : Nat → Int64} {p1 : Int32} {r : Int32} {kr : Int32} {fs : List Value} (M : MtX J yX9_book cX9_book 3 (some .int) rm_X9_book [.ref x, .int p1] w ex (some (.int r)) wf) (hx : w[0]? = some (x, .inr (9, fs))) (hk : (ex = 0 ∧ kr = 0) ∨ (ex = 2 ∧ kr = 1)) : MtH J yL_book cL_book 4 (some .int) [(0, 9, 12, 13)] rm_L_book [.ref x, .int p1, .ref oa] (w ++ [(oa, .inl (J.2.2.1 2, 1, .inr (.inl ofn)))]) (some (.int kr)) (fun i => wf i ++ (if ex = 0 then [(oa, .inl (J.2.2.1 2, 1, .inr (.inl (vp_updL ofn 0 r.toInt64))))] else [(oa, .inl (J.2.2.1 2, 1, .inr (.inl ofn)))])) := by
  refine MtH_of (own := RL) (by decide) rfl (Nat.le_of_ble_eq_true rfl) rfl (fun Z C E ht => ?_)
  show G J Z 0 0 (w ++ [(oa, .inl (J.2.2.1 2, 1, .inr (.inl ofn)))]) 4 [(0, .ref x), (1, .int p1), (2, .ref oa)] 0 []
  refine g_aload_n (pc := 0) C 2 rfl dL_book_0 ?_
  refine g_iconst (pc := 1) C dL_book_1 ci_0 ?_
  refine g_aload_n (pc := 2) C 0 rfl dL_book_2 ?_
  refine g_iload_n (pc := 3) C 1 rfl dL_book_3 ?_
  refine g_xcallV (pc := 4) (wf := fun i => wf i ++ [(oa, .inl (J.2.2.1 2, 1, .inr (.inl ofn)))]) C (As := [.int p1]) (st := [.int 0, .ref oa]) (ci := 9) (q0 := 0) rfl (by rw [List.getElem?_append_left (List.getElem?_eq_some_iff.mp hx).1]; exact hx) M (fun D A H hP hD => ((Sub.app Sub.same : Sub (w ++ [(oa, .inl (J.2.2.1 2, 1, .inr (.inl ofn)))]) w w (w ++ [(oa, .inl (J.2.2.1 2, 1, .inr (.inl ofn)))])) D A H hP hD).1) (fun i => Sub.app Sub.same) kw_921 kw_922 kw_923 kw_86 hy_X9_book kw_924 rfl (Nat.le_of_ble_eq_true rfl) (Nat.le_of_ble_eq_true rfl) (Nat.le_of_ble_eq_true rfl) (Nat.le_of_ble_eq_true rfl) (Nat.le_of_ble_eq_true rfl) dL_book_4 (fun he i => ?_) (fun he i => ?_)
  · subst he
    rcases hk with ⟨_, rfl⟩ | ⟨h9, _⟩
    · refine g_wid (n' := 1) (k' := 6) (Nat.le_of_ble_eq_true rfl) (Nat.le_of_ble_eq_true rfl) ?_
      refine g_i2l (pc := 7) C dL_book_7 ?_
      refine g_last (pc := 8) (w' := wf i ++ [(oa, .inl (J.2.2.1 2, 1, .inr (.inl (vp_updL ofn 0 r.toInt64))))]) C (wf i).length (by rw [List.getElem?_append_right (Nat.le_refl _), Nat.sub_self]; rfl) (ixb_in (by decide)) dL_book_8 (by rw [List.set_append_right _ _ (Nat.le_refl _), Nat.sub_self]; rfl) ?_
      refine g_goto (pc := 9) C (tgt := 15) dL_book_9 rfl ?_
      refine g_iconst (pc := 15) C dL_book_15 ci_0 ?_
      exact g_iretH (pc := 16) C E i (by rw [if_pos rfl]) dL_book_16
    · cases h9
  · rcases hk with ⟨h9, _⟩ | ⟨rfl, rfl⟩
    · exact absurd h9 he
    · refine (fun (kk : GT J Z 1 6 _ 4 _ 4 _ _) => gt_wid (Nat.le_of_ble_eq_true rfl) (Nat.le_of_ble_eq_true rfl) kk) ?_
      refine gt_catch1 (pc := 4) C ht (q0 := (0, 9, 12, 13)) rfl (by decide) (by decide) kw_533 (by decide) (fun q => ?_)
      show G J Z 1 6 (wf i ++ [(oa, .inl (J.2.2.1 2, 1, .inr (.inl ofn)))]) 4 [(0, .ref x), (1, .int p1), (2, .ref oa)] 12 [.ref q]
      refine g_astore_n (pc := 12) C [(3, .ref q), (0, .ref x), (1, .int p1), (2, .ref oa)] dL_book_12 rfl (by decide) rfl ?_
      refine g_iconst (pc := 13) C dL_book_13 ci_1 ?_
      exact g_iretH (pc := 14) C E i (by rw [if_neg he]) dL_book_14
def rm_L_told : Room := { frames := 11, cells := 1, slots := 6, locals := 164 }
set_option maxRecDepth 100000 in
set_option maxHeartbeats 1000000 in
theorem t_L_told {ι : Type} {J : Jt} {w : va_W} {wf : ι → va_W} {x oa ex : Nat} {ofn : Nat → Int64} {p1 : Int32} {r : Int32} {kr : Int32} {fs : List Value} (M : MtX J yX9_told cX9_told 2 (some .int) rm_X9_told [.ref x, .int p1] w ex (some (.int r)) wf) (hx : w[0]? = some (x, .inr (9, fs))) (hk : (ex = 0 ∧ kr = 0) ∨ (ex = 2 ∧ kr = 1)) : MtH J yL_told cL_told 4 (some .int) [(0, 9, 12, 13)] rm_L_told [.ref x, .int p1, .ref oa] (w ++ [(oa, .inl (J.2.2.1 2, 1, .inr (.inl ofn)))]) (some (.int kr)) (fun i => wf i ++ (if ex = 0 then [(oa, .inl (J.2.2.1 2, 1, .inr (.inl (vp_updL ofn 0 r.toInt64))))] else [(oa, .inl (J.2.2.1 2, 1, .inr (.inl ofn)))])) := by
  refine MtH_of (own := RL) (by decide) rfl (Nat.le_of_ble_eq_true rfl) rfl (fun Z C E ht => ?_)
  show G J Z 0 0 (w ++ [(oa, .inl (J.2.2.1 2, 1, .inr (.inl ofn)))]) 4 [(0, .ref x), (1, .int p1), (2, .ref oa)] 0 []
  refine g_aload_n (pc := 0) C 2 rfl dL_told_0 ?_
  refine g_iconst (pc := 1) C dL_told_1 ci_0 ?_
  refine g_aload_n (pc := 2) C 0 rfl dL_told_2 ?_
  refine g_iload_n (pc := 3) C 1 rfl dL_told_3 ?_
  refine g_xcallV (pc := 4) (wf := fun i => wf i ++ [(oa, .inl (J.2.2.1 2, 1, .inr (.inl ofn)))]) C (As := [.int p1]) (st := [.int 0, .ref oa]) (ci := 9) (q0 := 0) rfl (by rw [List.getElem?_append_left (List.getElem?_eq_some_iff.mp hx).1]; exact hx) M (fun D A H hP hD => ((Sub.app Sub.same : Sub (w ++ [(oa, .inl (J.2.2.1 2, 1, .inr (.inl ofn)))]) w w (w ++ [(oa, .inl (J.2.2.1 2, 1, .inr (.inl ofn)))])) D A H hP hD).1) (fun i => Sub.app Sub.same) kw_936 kw_937 kw_938 kw_86 hy_X9_told kw_939 rfl (Nat.le_of_ble_eq_true rfl) (Nat.le_of_ble_eq_true rfl) (Nat.le_of_ble_eq_true rfl) (Nat.le_of_ble_eq_true rfl) (Nat.le_of_ble_eq_true rfl) dL_told_4 (fun he i => ?_) (fun he i => ?_)
  · subst he
    rcases hk with ⟨_, rfl⟩ | ⟨h9, _⟩
    · refine g_wid (n' := 1) (k' := 6) (Nat.le_of_ble_eq_true rfl) (Nat.le_of_ble_eq_true rfl) ?_
      refine g_i2l (pc := 7) C dL_told_7 ?_
      refine g_last (pc := 8) (w' := wf i ++ [(oa, .inl (J.2.2.1 2, 1, .inr (.inl (vp_updL ofn 0 r.toInt64))))]) C (wf i).length (by rw [List.getElem?_append_right (Nat.le_refl _), Nat.sub_self]; rfl) (ixb_in (by decide)) dL_told_8 (by rw [List.set_append_right _ _ (Nat.le_refl _), Nat.sub_self]; rfl) ?_
      refine g_goto (pc := 9) C (tgt := 15) dL_told_9 rfl ?_
      refine g_iconst (pc := 15) C dL_told_15 ci_0 ?_
      exact g_iretH (pc := 16) C E i (by rw [if_pos rfl]) dL_told_16
    · cases h9
  · rcases hk with ⟨h9, _⟩ | ⟨rfl, rfl⟩
    · exact absurd h9 he
    · refine (fun (kk : GT J Z 1 6 _ 4 _ 4 _ _) => gt_wid (Nat.le_of_ble_eq_true rfl) (Nat.le_of_ble_eq_true rfl) kk) ?_
      refine gt_catch1 (pc := 4) C ht (q0 := (0, 9, 12, 13)) rfl (by decide) (by decide) kw_533 (by decide) (fun q => ?_)
      show G J Z 1 6 (wf i ++ [(oa, .inl (J.2.2.1 2, 1, .inr (.inl ofn)))]) 4 [(0, .ref x), (1, .int p1), (2, .ref oa)] 12 [.ref q]
      refine g_astore_n (pc := 12) C [(3, .ref q), (0, .ref x), (1, .int p1), (2, .ref oa)] dL_told_12 rfl (by decide) rfl ?_
      refine g_iconst (pc := 13) C dL_told_13 ci_1 ?_
      exact g_iretH (pc := 14) C E i (by rw [if_neg he]) dL_told_14
def rm_L_letter : Room := { frames := 11, cells := 2, slots := 12, locals := 165 }
set_option maxRecDepth 100000 in
set_option maxHeartbeats 1000000 in
theorem t_L_letter {ι : Type} {J : Jt} {w : va_W} {wf : ι → va_W} {x oa ex : Nat} {ofn : Nat → Int64} {p1 : Int32} {p2 : Int32} {r : Int32} {kr : Int32} {fs : List Value} (M : MtX J yX9_letter cX9_letter 3 (some .int) rm_X9_letter [.ref x, .int p1, .int p2] w ex (some (.int r)) wf) (hx : w[0]? = some (x, .inr (9, fs))) (hk : (ex = 0 ∧ kr = 0) ∨ (ex = 1 ∧ kr = 1) ∨ (ex = 2 ∧ kr = 2)) : MtH J yL_letter cL_letter 5 (some .int) [(0, 10, 13, 31), (0, 10, 17, 13)] rm_L_letter [.ref x, .int p1, .int p2, .ref oa] (w ++ [(oa, .inl (J.2.2.1 2, 1, .inr (.inl ofn)))]) (some (.int kr)) (fun i => wf i ++ (if ex = 0 then [(oa, .inl (J.2.2.1 2, 1, .inr (.inl (vp_updL ofn 0 r.toInt64))))] else [(oa, .inl (J.2.2.1 2, 1, .inr (.inl ofn)))])) := by
  refine MtH_of (own := RL) (by decide) rfl (Nat.le_of_ble_eq_true rfl) rfl (fun Z C E ht => ?_)
  show G J Z 0 0 (w ++ [(oa, .inl (J.2.2.1 2, 1, .inr (.inl ofn)))]) 5 [(0, .ref x), (1, .int p1), (2, .int p2), (3, .ref oa)] 0 []
  refine g_aload_n (pc := 0) C 3 rfl dL_letter_0 ?_
  refine g_iconst (pc := 1) C dL_letter_1 ci_0 ?_
  refine g_aload_n (pc := 2) C 0 rfl dL_letter_2 ?_
  refine g_iload_n (pc := 3) C 1 rfl dL_letter_3 ?_
  refine g_iload_n (pc := 4) C 2 rfl dL_letter_4 ?_
  refine g_xcallV (pc := 5) (wf := fun i => wf i ++ [(oa, .inl (J.2.2.1 2, 1, .inr (.inl ofn)))]) C (As := [.int p1, .int p2]) (st := [.int 0, .ref oa]) (ci := 9) (q0 := 0) rfl (by rw [List.getElem?_append_left (List.getElem?_eq_some_iff.mp hx).1]; exact hx) M (fun D A H hP hD => ((Sub.app Sub.same : Sub (w ++ [(oa, .inl (J.2.2.1 2, 1, .inr (.inl ofn)))]) w w (w ++ [(oa, .inl (J.2.2.1 2, 1, .inr (.inl ofn)))])) D A H hP hD).1) (fun i => Sub.app Sub.same) kw_952 kw_953 kw_954 kw_86 hy_X9_letter kw_955 rfl (Nat.le_of_ble_eq_true rfl) (Nat.le_of_ble_eq_true rfl) (Nat.le_of_ble_eq_true rfl) (Nat.le_of_ble_eq_true rfl) (Nat.le_of_ble_eq_true rfl) dL_letter_5 (fun he i => ?_) (fun he i => ?_)
  · subst he
    rcases hk with ⟨_, rfl⟩ | ⟨h9, _⟩ | ⟨h9, _⟩
    · refine g_wid (n' := 2) (k' := 12) (Nat.le_of_ble_eq_true rfl) (Nat.le_of_ble_eq_true rfl) ?_
      refine g_i2l (pc := 8) C dL_letter_8 ?_
      refine g_last (pc := 9) (w' := wf i ++ [(oa, .inl (J.2.2.1 2, 1, .inr (.inl (vp_updL ofn 0 r.toInt64))))]) C (wf i).length (by rw [List.getElem?_append_right (Nat.le_refl _), Nat.sub_self]; rfl) (ixb_in (by decide)) dL_letter_9 (by rw [List.set_append_right _ _ (Nat.le_refl _), Nat.sub_self]; rfl) ?_
      refine g_goto (pc := 10) C (tgt := 21) dL_letter_10 rfl ?_
      refine g_iconst (pc := 21) C dL_letter_21 ci_0 ?_
      exact g_iretH (pc := 22) C E i (by rw [if_pos rfl]) dL_letter_22
    · cases h9
    · cases h9
  · rcases hk with ⟨h9, _⟩ | ⟨rfl, rfl⟩ | ⟨rfl, rfl⟩
    · exact absurd h9 he
    · refine (fun (kk : GT J Z 2 12 _ 5 _ 5 _ _) => gt_wid (Nat.le_of_ble_eq_true rfl) (Nat.le_of_ble_eq_true rfl) kk) ?_
      refine gt_catch1 (pc := 5) C ht (q0 := (0, 10, 13, 31)) rfl (by decide) (by decide) kw_951 (by decide) (fun q => ?_)
      show G J Z 2 12 (wf i ++ [(oa, .inl (J.2.2.1 2, 1, .inr (.inl ofn)))]) 5 [(0, .ref x), (1, .int p1), (2, .int p2), (3, .ref oa)] 13 [.ref q]
      refine g_astore (pc := 13) C [(4, .ref q), (0, .ref x), (1, .int p1), (2, .int p2), (3, .ref oa)] dL_letter_13 (by decide) rfl ?_
      refine g_iconst (pc := 15) C dL_letter_15 ci_1 ?_
      exact g_iretH (pc := 16) C E i (by rw [if_neg he]) dL_letter_16
    · refine (fun (kk : GT J Z 2 12 _ 5 _ 5 _ _) => gt_wid (Nat.le_of_ble_eq_true rfl) (Nat.le_of_ble_eq_true rfl) kk) ?_
      refine gt_catch2 (pc := 5) C ht (q1 := (0, 10, 13, 31)) (q0 := (0, 10, 17, 13)) rfl (by decide) kw_951 (by decide) (by decide) kw_533 (fun q => ?_)
      show G J Z 2 12 (wf i ++ [(oa, .inl (J.2.2.1 2, 1, .inr (.inl ofn)))]) 5 [(0, .ref x), (1, .int p1), (2, .int p2), (3, .ref oa)] 17 [.ref q]
      refine g_astore (pc := 17) C [(4, .ref q), (0, .ref x), (1, .int p1), (2, .int p2), (3, .ref oa)] dL_letter_17 (by decide) rfl ?_
      refine g_iconst (pc := 19) C dL_letter_19 ci_2 ?_
      exact g_iretH (pc := 20) C E i (by rw [if_neg he]) dL_letter_20
def rm_L_word : Room := { frames := 11, cells := 2, slots := 12, locals := 165 }
set_option maxRecDepth 100000 in
set_option maxHeartbeats 1000000 in
theorem t_L_word {ι : Type} {J : Jt} {w : va_W} {wf : ι → va_W} {x oa ex : Nat} {ofn : Nat → Int64} {p1 : Int32} {p2 : Int32} {r : Int32} {kr : Int32} {fs : List Value} (M : MtX J yX9_word cX9_word 3 (some .int) rm_X9_word [.ref x, .int p1, .int p2] w ex (some (.int r)) wf) (hx : w[0]? = some (x, .inr (9, fs))) (hk : (ex = 0 ∧ kr = 0) ∨ (ex = 1 ∧ kr = 1) ∨ (ex = 2 ∧ kr = 2)) : MtH J yL_word cL_word 5 (some .int) [(0, 10, 13, 31), (0, 10, 17, 13)] rm_L_word [.ref x, .int p1, .int p2, .ref oa] (w ++ [(oa, .inl (J.2.2.1 2, 1, .inr (.inl ofn)))]) (some (.int kr)) (fun i => wf i ++ (if ex = 0 then [(oa, .inl (J.2.2.1 2, 1, .inr (.inl (vp_updL ofn 0 r.toInt64))))] else [(oa, .inl (J.2.2.1 2, 1, .inr (.inl ofn)))])) := by
  refine MtH_of (own := RL) (by decide) rfl (Nat.le_of_ble_eq_true rfl) rfl (fun Z C E ht => ?_)
  show G J Z 0 0 (w ++ [(oa, .inl (J.2.2.1 2, 1, .inr (.inl ofn)))]) 5 [(0, .ref x), (1, .int p1), (2, .int p2), (3, .ref oa)] 0 []
  refine g_aload_n (pc := 0) C 3 rfl dL_word_0 ?_
  refine g_iconst (pc := 1) C dL_word_1 ci_0 ?_
  refine g_aload_n (pc := 2) C 0 rfl dL_word_2 ?_
  refine g_iload_n (pc := 3) C 1 rfl dL_word_3 ?_
  refine g_iload_n (pc := 4) C 2 rfl dL_word_4 ?_
  refine g_xcallV (pc := 5) (wf := fun i => wf i ++ [(oa, .inl (J.2.2.1 2, 1, .inr (.inl ofn)))]) C (As := [.int p1, .int p2]) (st := [.int 0, .ref oa]) (ci := 9) (q0 := 0) rfl (by rw [List.getElem?_append_left (List.getElem?_eq_some_iff.mp hx).1]; exact hx) M (fun D A H hP hD => ((Sub.app Sub.same : Sub (w ++ [(oa, .inl (J.2.2.1 2, 1, .inr (.inl ofn)))]) w w (w ++ [(oa, .inl (J.2.2.1 2, 1, .inr (.inl ofn)))])) D A H hP hD).1) (fun i => Sub.app Sub.same) kw_981 kw_982 kw_983 kw_86 hy_X9_word kw_984 rfl (Nat.le_of_ble_eq_true rfl) (Nat.le_of_ble_eq_true rfl) (Nat.le_of_ble_eq_true rfl) (Nat.le_of_ble_eq_true rfl) (Nat.le_of_ble_eq_true rfl) dL_word_5 (fun he i => ?_) (fun he i => ?_)
  · subst he
    rcases hk with ⟨_, rfl⟩ | ⟨h9, _⟩ | ⟨h9, _⟩
    · refine g_wid (n' := 2) (k' := 12) (Nat.le_of_ble_eq_true rfl) (Nat.le_of_ble_eq_true rfl) ?_
      refine g_i2l (pc := 8) C dL_word_8 ?_
      refine g_last (pc := 9) (w' := wf i ++ [(oa, .inl (J.2.2.1 2, 1, .inr (.inl (vp_updL ofn 0 r.toInt64))))]) C (wf i).length (by rw [List.getElem?_append_right (Nat.le_refl _), Nat.sub_self]; rfl) (ixb_in (by decide)) dL_word_9 (by rw [List.set_append_right _ _ (Nat.le_refl _), Nat.sub_self]; rfl) ?_
      refine g_goto (pc := 10) C (tgt := 21) dL_word_10 rfl ?_
      refine g_iconst (pc := 21) C dL_word_21 ci_0 ?_
      exact g_iretH (pc := 22) C E i (by rw [if_pos rfl]) dL_word_22
    · cases h9
    · cases h9
  · rcases hk with ⟨h9, _⟩ | ⟨rfl, rfl⟩ | ⟨rfl, rfl⟩
    · exact absurd h9 he
    · refine (fun (kk : GT J Z 2 12 _ 5 _ 5 _ _) => gt_wid (Nat.le_of_ble_eq_true rfl) (Nat.le_of_ble_eq_true rfl) kk) ?_
      refine gt_catch1 (pc := 5) C ht (q0 := (0, 10, 13, 31)) rfl (by decide) (by decide) kw_951 (by decide) (fun q => ?_)
      show G J Z 2 12 (wf i ++ [(oa, .inl (J.2.2.1 2, 1, .inr (.inl ofn)))]) 5 [(0, .ref x), (1, .int p1), (2, .int p2), (3, .ref oa)] 13 [.ref q]
      refine g_astore (pc := 13) C [(4, .ref q), (0, .ref x), (1, .int p1), (2, .int p2), (3, .ref oa)] dL_word_13 (by decide) rfl ?_
      refine g_iconst (pc := 15) C dL_word_15 ci_1 ?_
      exact g_iretH (pc := 16) C E i (by rw [if_neg he]) dL_word_16
    · refine (fun (kk : GT J Z 2 12 _ 5 _ 5 _ _) => gt_wid (Nat.le_of_ble_eq_true rfl) (Nat.le_of_ble_eq_true rfl) kk) ?_
      refine gt_catch2 (pc := 5) C ht (q1 := (0, 10, 13, 31)) (q0 := (0, 10, 17, 13)) rfl (by decide) kw_951 (by decide) (by decide) kw_533 (fun q => ?_)
      show G J Z 2 12 (wf i ++ [(oa, .inl (J.2.2.1 2, 1, .inr (.inl ofn)))]) 5 [(0, .ref x), (1, .int p1), (2, .int p2), (3, .ref oa)] 17 [.ref q]
      refine g_astore (pc := 17) C [(4, .ref q), (0, .ref x), (1, .int p1), (2, .int p2), (3, .ref oa)] dL_word_17 (by decide) rfl ?_
      refine g_iconst (pc := 19) C dL_word_19 ci_2 ?_
      exact g_iretH (pc := 20) C E i (by rw [if_neg he]) dL_word_20
def rm_L_bed : Room := { frames := 11, cells := 2, slots := 12, locals := 165 }
set_option maxRecDepth 100000 in
set_option maxHeartbeats 1000000 in
theorem t_L_bed {ι : Type} {J : Jt} {w : va_W} {wf : ι → va_W} {x oa ex : Nat} {ofn : Nat → Int64} {p1 : Int32} {p2 : Int32} {r : Int32} {kr : Int32} {fs : List Value} (M : MtX J yX9_bed cX9_bed 3 (some .int) rm_X9_bed [.ref x, .int p1, .int p2] w ex (some (.int r)) wf) (hx : w[0]? = some (x, .inr (9, fs))) (hk : (ex = 0 ∧ kr = 0) ∨ (ex = 1 ∧ kr = 1) ∨ (ex = 2 ∧ kr = 2)) : MtH J yL_bed cL_bed 5 (some .int) [(0, 10, 13, 31), (0, 10, 17, 13)] rm_L_bed [.ref x, .int p1, .int p2, .ref oa] (w ++ [(oa, .inl (J.2.2.1 2, 1, .inr (.inl ofn)))]) (some (.int kr)) (fun i => wf i ++ (if ex = 0 then [(oa, .inl (J.2.2.1 2, 1, .inr (.inl (vp_updL ofn 0 r.toInt64))))] else [(oa, .inl (J.2.2.1 2, 1, .inr (.inl ofn)))])) := by
  refine MtH_of (own := RL) (by decide) rfl (Nat.le_of_ble_eq_true rfl) rfl (fun Z C E ht => ?_)
  show G J Z 0 0 (w ++ [(oa, .inl (J.2.2.1 2, 1, .inr (.inl ofn)))]) 5 [(0, .ref x), (1, .int p1), (2, .int p2), (3, .ref oa)] 0 []
  refine g_aload_n (pc := 0) C 3 rfl dL_bed_0 ?_
  refine g_iconst (pc := 1) C dL_bed_1 ci_0 ?_
  refine g_aload_n (pc := 2) C 0 rfl dL_bed_2 ?_
  refine g_iload_n (pc := 3) C 1 rfl dL_bed_3 ?_
  refine g_iload_n (pc := 4) C 2 rfl dL_bed_4 ?_
  refine g_xcallV (pc := 5) (wf := fun i => wf i ++ [(oa, .inl (J.2.2.1 2, 1, .inr (.inl ofn)))]) C (As := [.int p1, .int p2]) (st := [.int 0, .ref oa]) (ci := 9) (q0 := 0) rfl (by rw [List.getElem?_append_left (List.getElem?_eq_some_iff.mp hx).1]; exact hx) M (fun D A H hP hD => ((Sub.app Sub.same : Sub (w ++ [(oa, .inl (J.2.2.1 2, 1, .inr (.inl ofn)))]) w w (w ++ [(oa, .inl (J.2.2.1 2, 1, .inr (.inl ofn)))])) D A H hP hD).1) (fun i => Sub.app Sub.same) kw_989 kw_990 kw_991 kw_86 hy_X9_bed kw_992 rfl (Nat.le_of_ble_eq_true rfl) (Nat.le_of_ble_eq_true rfl) (Nat.le_of_ble_eq_true rfl) (Nat.le_of_ble_eq_true rfl) (Nat.le_of_ble_eq_true rfl) dL_bed_5 (fun he i => ?_) (fun he i => ?_)
  · subst he
    rcases hk with ⟨_, rfl⟩ | ⟨h9, _⟩ | ⟨h9, _⟩
    · refine g_wid (n' := 2) (k' := 12) (Nat.le_of_ble_eq_true rfl) (Nat.le_of_ble_eq_true rfl) ?_
      refine g_i2l (pc := 8) C dL_bed_8 ?_
      refine g_last (pc := 9) (w' := wf i ++ [(oa, .inl (J.2.2.1 2, 1, .inr (.inl (vp_updL ofn 0 r.toInt64))))]) C (wf i).length (by rw [List.getElem?_append_right (Nat.le_refl _), Nat.sub_self]; rfl) (ixb_in (by decide)) dL_bed_9 (by rw [List.set_append_right _ _ (Nat.le_refl _), Nat.sub_self]; rfl) ?_
      refine g_goto (pc := 10) C (tgt := 21) dL_bed_10 rfl ?_
      refine g_iconst (pc := 21) C dL_bed_21 ci_0 ?_
      exact g_iretH (pc := 22) C E i (by rw [if_pos rfl]) dL_bed_22
    · cases h9
    · cases h9
  · rcases hk with ⟨h9, _⟩ | ⟨rfl, rfl⟩ | ⟨rfl, rfl⟩
    · exact absurd h9 he
    · refine (fun (kk : GT J Z 2 12 _ 5 _ 5 _ _) => gt_wid (Nat.le_of_ble_eq_true rfl) (Nat.le_of_ble_eq_true rfl) kk) ?_
      refine gt_catch1 (pc := 5) C ht (q0 := (0, 10, 13, 31)) rfl (by decide) (by decide) kw_951 (by decide) (fun q => ?_)
      show G J Z 2 12 (wf i ++ [(oa, .inl (J.2.2.1 2, 1, .inr (.inl ofn)))]) 5 [(0, .ref x), (1, .int p1), (2, .int p2), (3, .ref oa)] 13 [.ref q]
      refine g_astore (pc := 13) C [(4, .ref q), (0, .ref x), (1, .int p1), (2, .int p2), (3, .ref oa)] dL_bed_13 (by decide) rfl ?_
      refine g_iconst (pc := 15) C dL_bed_15 ci_1 ?_
      exact g_iretH (pc := 16) C E i (by rw [if_neg he]) dL_bed_16
    · refine (fun (kk : GT J Z 2 12 _ 5 _ 5 _ _) => gt_wid (Nat.le_of_ble_eq_true rfl) (Nat.le_of_ble_eq_true rfl) kk) ?_
      refine gt_catch2 (pc := 5) C ht (q1 := (0, 10, 13, 31)) (q0 := (0, 10, 17, 13)) rfl (by decide) kw_951 (by decide) (by decide) kw_533 (fun q => ?_)
      show G J Z 2 12 (wf i ++ [(oa, .inl (J.2.2.1 2, 1, .inr (.inl ofn)))]) 5 [(0, .ref x), (1, .int p1), (2, .int p2), (3, .ref oa)] 17 [.ref q]
      refine g_astore (pc := 17) C [(4, .ref q), (0, .ref x), (1, .int p1), (2, .int p2), (3, .ref oa)] dL_bed_17 (by decide) rfl ?_
      refine g_iconst (pc := 19) C dL_bed_19 ci_2 ?_
      exact g_iretH (pc := 20) C E i (by rw [if_neg he]) dL_bed_20
def rm_L_lies : Room := { frames := 11, cells := 2, slots := 12, locals := 164 }
set_option maxRecDepth 100000 in
set_option maxHeartbeats 1000000 in
theorem t_L_lies {ι : Type} {J : Jt} {w : va_W} {wf : ι → va_W} {x oa ex : Nat} {ofn : Nat → Int64} {p1 : Int32} {p2 : Int32} {r : Int32} {kr : Int32} {fs : List Value} (M : MtX J yX9_lies cX9_lies 3 (some .int) rm_X9_lies [.ref x, .int p1, .int p2] w ex (some (.int r)) wf) (hx : w[0]? = some (x, .inr (9, fs))) (hk : (ex = 0 ∧ kr = 0) ∨ (ex = 1 ∧ kr = 1) ∨ (ex = 2 ∧ kr = 2)) : MtH J yL_lies cL_lies 5 (some .int) [(0, 10, 13, 31), (0, 10, 17, 13)] rm_L_lies [.ref x, .int p1, .int p2, .ref oa] (w ++ [(oa, .inl (J.2.2.1 2, 1, .inr (.inl ofn)))]) (some (.int kr)) (fun i => wf i ++ (if ex = 0 then [(oa, .inl (J.2.2.1 2, 1, .inr (.inl (vp_updL ofn 0 r.toInt64))))] else [(oa, .inl (J.2.2.1 2, 1, .inr (.inl ofn)))])) := by
  refine MtH_of (own := RL) (by decide) rfl (Nat.le_of_ble_eq_true rfl) rfl (fun Z C E ht => ?_)
  show G J Z 0 0 (w ++ [(oa, .inl (J.2.2.1 2, 1, .inr (.inl ofn)))]) 5 [(0, .ref x), (1, .int p1), (2, .int p2), (3, .ref oa)] 0 []
  refine g_aload_n (pc := 0) C 3 rfl dL_lies_0 ?_
  refine g_iconst (pc := 1) C dL_lies_1 ci_0 ?_
  refine g_aload_n (pc := 2) C 0 rfl dL_lies_2 ?_
  refine g_iload_n (pc := 3) C 1 rfl dL_lies_3 ?_
  refine g_iload_n (pc := 4) C 2 rfl dL_lies_4 ?_
  refine g_xcallV (pc := 5) (wf := fun i => wf i ++ [(oa, .inl (J.2.2.1 2, 1, .inr (.inl ofn)))]) C (As := [.int p1, .int p2]) (st := [.int 0, .ref oa]) (ci := 9) (q0 := 0) rfl (by rw [List.getElem?_append_left (List.getElem?_eq_some_iff.mp hx).1]; exact hx) M (fun D A H hP hD => ((Sub.app Sub.same : Sub (w ++ [(oa, .inl (J.2.2.1 2, 1, .inr (.inl ofn)))]) w w (w ++ [(oa, .inl (J.2.2.1 2, 1, .inr (.inl ofn)))])) D A H hP hD).1) (fun i => Sub.app Sub.same) kw_1002 kw_1003 kw_1004 kw_86 hy_X9_lies kw_1005 rfl (Nat.le_of_ble_eq_true rfl) (Nat.le_of_ble_eq_true rfl) (Nat.le_of_ble_eq_true rfl) (Nat.le_of_ble_eq_true rfl) (Nat.le_of_ble_eq_true rfl) dL_lies_5 (fun he i => ?_) (fun he i => ?_)
  · subst he
    rcases hk with ⟨_, rfl⟩ | ⟨h9, _⟩ | ⟨h9, _⟩
    · refine g_wid (n' := 2) (k' := 12) (Nat.le_of_ble_eq_true rfl) (Nat.le_of_ble_eq_true rfl) ?_
      refine g_i2l (pc := 8) C dL_lies_8 ?_
      refine g_last (pc := 9) (w' := wf i ++ [(oa, .inl (J.2.2.1 2, 1, .inr (.inl (vp_updL ofn 0 r.toInt64))))]) C (wf i).length (by rw [List.getElem?_append_right (Nat.le_refl _), Nat.sub_self]; rfl) (ixb_in (by decide)) dL_lies_9 (by rw [List.set_append_right _ _ (Nat.le_refl _), Nat.sub_self]; rfl) ?_
      refine g_goto (pc := 10) C (tgt := 21) dL_lies_10 rfl ?_
      refine g_iconst (pc := 21) C dL_lies_21 ci_0 ?_
      exact g_iretH (pc := 22) C E i (by rw [if_pos rfl]) dL_lies_22
    · cases h9
    · cases h9
  · rcases hk with ⟨h9, _⟩ | ⟨rfl, rfl⟩ | ⟨rfl, rfl⟩
    · exact absurd h9 he
    · refine (fun (kk : GT J Z 2 12 _ 5 _ 5 _ _) => gt_wid (Nat.le_of_ble_eq_true rfl) (Nat.le_of_ble_eq_true rfl) kk) ?_
      refine gt_catch1 (pc := 5) C ht (q0 := (0, 10, 13, 31)) rfl (by decide) (by decide) kw_951 (by decide) (fun q => ?_)
      show G J Z 2 12 (wf i ++ [(oa, .inl (J.2.2.1 2, 1, .inr (.inl ofn)))]) 5 [(0, .ref x), (1, .int p1), (2, .int p2), (3, .ref oa)] 13 [.ref q]
      refine g_astore (pc := 13) C [(4, .ref q), (0, .ref x), (1, .int p1), (2, .int p2), (3, .ref oa)] dL_lies_13 (by decide) rfl ?_
      refine g_iconst (pc := 15) C dL_lies_15 ci_1 ?_
      exact g_iretH (pc := 16) C E i (by rw [if_neg he]) dL_lies_16
    · refine (fun (kk : GT J Z 2 12 _ 5 _ 5 _ _) => gt_wid (Nat.le_of_ble_eq_true rfl) (Nat.le_of_ble_eq_true rfl) kk) ?_
      refine gt_catch2 (pc := 5) C ht (q1 := (0, 10, 13, 31)) (q0 := (0, 10, 17, 13)) rfl (by decide) kw_951 (by decide) (by decide) kw_533 (fun q => ?_)
      show G J Z 2 12 (wf i ++ [(oa, .inl (J.2.2.1 2, 1, .inr (.inl ofn)))]) 5 [(0, .ref x), (1, .int p1), (2, .int p2), (3, .ref oa)] 17 [.ref q]
      refine g_astore (pc := 17) C [(4, .ref q), (0, .ref x), (1, .int p1), (2, .int p2), (3, .ref oa)] dL_lies_17 (by decide) rfl ?_
      refine g_iconst (pc := 19) C dL_lies_19 ci_2 ?_
      exact g_iretH (pc := 20) C E i (by rw [if_neg he]) dL_lies_20
def rm_L_reader : Room := { frames := 11, cells := 2, slots := 12, locals := 165 }
set_option maxRecDepth 100000 in
set_option maxHeartbeats 1000000 in
theorem t_L_reader {ι : Type} {J : Jt} {w : va_W} {wf : ι → va_W} {x oa ex : Nat} {ofn : Nat → Int64} {p1 : Int32} {p2 : Int32} {r : Int32} {kr : Int32} {fs : List Value} (M : MtX J yX9_reader cX9_reader 3 (some .int) rm_X9_reader [.ref x, .int p1, .int p2] w ex (some (.int r)) wf) (hx : w[0]? = some (x, .inr (9, fs))) (hk : (ex = 0 ∧ kr = 0) ∨ (ex = 1 ∧ kr = 1) ∨ (ex = 2 ∧ kr = 2)) : MtH J yL_reader cL_reader 5 (some .int) [(0, 10, 13, 31), (0, 10, 17, 13)] rm_L_reader [.ref x, .int p1, .int p2, .ref oa] (w ++ [(oa, .inl (J.2.2.1 2, 1, .inr (.inl ofn)))]) (some (.int kr)) (fun i => wf i ++ (if ex = 0 then [(oa, .inl (J.2.2.1 2, 1, .inr (.inl (vp_updL ofn 0 r.toInt64))))] else [(oa, .inl (J.2.2.1 2, 1, .inr (.inl ofn)))])) := by
  refine MtH_of (own := RL) (by decide) rfl (Nat.le_of_ble_eq_true rfl) rfl (fun Z C E ht => ?_)
  show G J Z 0 0 (w ++ [(oa, .inl (J.2.2.1 2, 1, .inr (.inl ofn)))]) 5 [(0, .ref x), (1, .int p1), (2, .int p2), (3, .ref oa)] 0 []
  refine g_aload_n (pc := 0) C 3 rfl dL_reader_0 ?_
  refine g_iconst (pc := 1) C dL_reader_1 ci_0 ?_
  refine g_aload_n (pc := 2) C 0 rfl dL_reader_2 ?_
  refine g_iload_n (pc := 3) C 1 rfl dL_reader_3 ?_
  refine g_iload_n (pc := 4) C 2 rfl dL_reader_4 ?_
  refine g_xcallV (pc := 5) (wf := fun i => wf i ++ [(oa, .inl (J.2.2.1 2, 1, .inr (.inl ofn)))]) C (As := [.int p1, .int p2]) (st := [.int 0, .ref oa]) (ci := 9) (q0 := 0) rfl (by rw [List.getElem?_append_left (List.getElem?_eq_some_iff.mp hx).1]; exact hx) M (fun D A H hP hD => ((Sub.app Sub.same : Sub (w ++ [(oa, .inl (J.2.2.1 2, 1, .inr (.inl ofn)))]) w w (w ++ [(oa, .inl (J.2.2.1 2, 1, .inr (.inl ofn)))])) D A H hP hD).1) (fun i => Sub.app Sub.same) kw_1013 kw_1014 kw_1015 kw_86 hy_X9_reader kw_1016 rfl (Nat.le_of_ble_eq_true rfl) (Nat.le_of_ble_eq_true rfl) (Nat.le_of_ble_eq_true rfl) (Nat.le_of_ble_eq_true rfl) (Nat.le_of_ble_eq_true rfl) dL_reader_5 (fun he i => ?_) (fun he i => ?_)
  · subst he
    rcases hk with ⟨_, rfl⟩ | ⟨h9, _⟩ | ⟨h9, _⟩
    · refine g_wid (n' := 2) (k' := 12) (Nat.le_of_ble_eq_true rfl) (Nat.le_of_ble_eq_true rfl) ?_
      refine g_i2l (pc := 8) C dL_reader_8 ?_
      refine g_last (pc := 9) (w' := wf i ++ [(oa, .inl (J.2.2.1 2, 1, .inr (.inl (vp_updL ofn 0 r.toInt64))))]) C (wf i).length (by rw [List.getElem?_append_right (Nat.le_refl _), Nat.sub_self]; rfl) (ixb_in (by decide)) dL_reader_9 (by rw [List.set_append_right _ _ (Nat.le_refl _), Nat.sub_self]; rfl) ?_
      refine g_goto (pc := 10) C (tgt := 21) dL_reader_10 rfl ?_
      refine g_iconst (pc := 21) C dL_reader_21 ci_0 ?_
      exact g_iretH (pc := 22) C E i (by rw [if_pos rfl]) dL_reader_22
    · cases h9
    · cases h9
  · rcases hk with ⟨h9, _⟩ | ⟨rfl, rfl⟩ | ⟨rfl, rfl⟩
    · exact absurd h9 he
    · refine (fun (kk : GT J Z 2 12 _ 5 _ 5 _ _) => gt_wid (Nat.le_of_ble_eq_true rfl) (Nat.le_of_ble_eq_true rfl) kk) ?_
      refine gt_catch1 (pc := 5) C ht (q0 := (0, 10, 13, 31)) rfl (by decide) (by decide) kw_951 (by decide) (fun q => ?_)
      show G J Z 2 12 (wf i ++ [(oa, .inl (J.2.2.1 2, 1, .inr (.inl ofn)))]) 5 [(0, .ref x), (1, .int p1), (2, .int p2), (3, .ref oa)] 13 [.ref q]
      refine g_astore (pc := 13) C [(4, .ref q), (0, .ref x), (1, .int p1), (2, .int p2), (3, .ref oa)] dL_reader_13 (by decide) rfl ?_
      refine g_iconst (pc := 15) C dL_reader_15 ci_1 ?_
      exact g_iretH (pc := 16) C E i (by rw [if_neg he]) dL_reader_16
    · refine (fun (kk : GT J Z 2 12 _ 5 _ 5 _ _) => gt_wid (Nat.le_of_ble_eq_true rfl) (Nat.le_of_ble_eq_true rfl) kk) ?_
      refine gt_catch2 (pc := 5) C ht (q1 := (0, 10, 13, 31)) (q0 := (0, 10, 17, 13)) rfl (by decide) kw_951 (by decide) (by decide) kw_533 (fun q => ?_)
      show G J Z 2 12 (wf i ++ [(oa, .inl (J.2.2.1 2, 1, .inr (.inl ofn)))]) 5 [(0, .ref x), (1, .int p1), (2, .int p2), (3, .ref oa)] 17 [.ref q]
      refine g_astore (pc := 17) C [(4, .ref q), (0, .ref x), (1, .int p1), (2, .int p2), (3, .ref oa)] dL_reader_17 (by decide) rfl ?_
      refine g_iconst (pc := 19) C dL_reader_19 ci_2 ?_
      exact g_iretH (pc := 20) C E i (by rw [if_neg he]) dL_reader_20
def rm_L_grown : Room := { frames := 11, cells := 1, slots := 6, locals := 162 }
set_option maxRecDepth 100000 in
set_option maxHeartbeats 1000000 in
theorem t_L_grown {ι : Type} {J : Jt} {w : va_W} {wf : ι → va_W} {x oa ex : Nat} {ofn : Nat → Int64} {p1 : Int32} {r : Int32} {kr : Int32} {fs : List Value} (M : MtX J yX9_grown cX9_grown 2 (some .int) rm_X9_grown [.ref x, .int p1] w ex (some (.int r)) wf) (hx : w[0]? = some (x, .inr (9, fs))) (hk : (ex = 0 ∧ kr = 0) ∨ (ex = 2 ∧ kr = 1)) : MtH J yL_grown cL_grown 4 (some .int) [(0, 9, 12, 13)] rm_L_grown [.ref x, .int p1, .ref oa] (w ++ [(oa, .inl (J.2.2.1 2, 1, .inr (.inl ofn)))]) (some (.int kr)) (fun i => wf i ++ (if ex = 0 then [(oa, .inl (J.2.2.1 2, 1, .inr (.inl (vp_updL ofn 0 r.toInt64))))] else [(oa, .inl (J.2.2.1 2, 1, .inr (.inl ofn)))])) := by
  refine MtH_of (own := RL) (by decide) rfl (Nat.le_of_ble_eq_true rfl) rfl (fun Z C E ht => ?_)
  show G J Z 0 0 (w ++ [(oa, .inl (J.2.2.1 2, 1, .inr (.inl ofn)))]) 4 [(0, .ref x), (1, .int p1), (2, .ref oa)] 0 []
  refine g_aload_n (pc := 0) C 2 rfl dL_grown_0 ?_
  refine g_iconst (pc := 1) C dL_grown_1 ci_0 ?_
  refine g_aload_n (pc := 2) C 0 rfl dL_grown_2 ?_
  refine g_iload_n (pc := 3) C 1 rfl dL_grown_3 ?_
  refine g_xcallV (pc := 4) (wf := fun i => wf i ++ [(oa, .inl (J.2.2.1 2, 1, .inr (.inl ofn)))]) C (As := [.int p1]) (st := [.int 0, .ref oa]) (ci := 9) (q0 := 0) rfl (by rw [List.getElem?_append_left (List.getElem?_eq_some_iff.mp hx).1]; exact hx) M (fun D A H hP hD => ((Sub.app Sub.same : Sub (w ++ [(oa, .inl (J.2.2.1 2, 1, .inr (.inl ofn)))]) w w (w ++ [(oa, .inl (J.2.2.1 2, 1, .inr (.inl ofn)))])) D A H hP hD).1) (fun i => Sub.app Sub.same) kw_1020 kw_1021 kw_1022 kw_86 hy_X9_grown kw_1023 rfl (Nat.le_of_ble_eq_true rfl) (Nat.le_of_ble_eq_true rfl) (Nat.le_of_ble_eq_true rfl) (Nat.le_of_ble_eq_true rfl) (Nat.le_of_ble_eq_true rfl) dL_grown_4 (fun he i => ?_) (fun he i => ?_)
  · subst he
    rcases hk with ⟨_, rfl⟩ | ⟨h9, _⟩
    · refine g_wid (n' := 1) (k' := 6) (Nat.le_of_ble_eq_true rfl) (Nat.le_of_ble_eq_true rfl) ?_
      refine g_i2l (pc := 7) C dL_grown_7 ?_
      refine g_last (pc := 8) (w' := wf i ++ [(oa, .inl (J.2.2.1 2, 1, .inr (.inl (vp_updL ofn 0 r.toInt64))))]) C (wf i).length (by rw [List.getElem?_append_right (Nat.le_refl _), Nat.sub_self]; rfl) (ixb_in (by decide)) dL_grown_8 (by rw [List.set_append_right _ _ (Nat.le_refl _), Nat.sub_self]; rfl) ?_
      refine g_goto (pc := 9) C (tgt := 15) dL_grown_9 rfl ?_
      refine g_iconst (pc := 15) C dL_grown_15 ci_0 ?_
      exact g_iretH (pc := 16) C E i (by rw [if_pos rfl]) dL_grown_16
    · cases h9
  · rcases hk with ⟨h9, _⟩ | ⟨rfl, rfl⟩
    · exact absurd h9 he
    · refine (fun (kk : GT J Z 1 6 _ 4 _ 4 _ _) => gt_wid (Nat.le_of_ble_eq_true rfl) (Nat.le_of_ble_eq_true rfl) kk) ?_
      refine gt_catch1 (pc := 4) C ht (q0 := (0, 9, 12, 13)) rfl (by decide) (by decide) kw_533 (by decide) (fun q => ?_)
      show G J Z 1 6 (wf i ++ [(oa, .inl (J.2.2.1 2, 1, .inr (.inl ofn)))]) 4 [(0, .ref x), (1, .int p1), (2, .ref oa)] 12 [.ref q]
      refine g_astore_n (pc := 12) C [(3, .ref q), (0, .ref x), (1, .int p1), (2, .ref oa)] dL_grown_12 rfl (by decide) rfl ?_
      refine g_iconst (pc := 13) C dL_grown_13 ci_1 ?_
      exact g_iretH (pc := 14) C E i (by rw [if_neg he]) dL_grown_14
def rm_L_runs : Room := { frames := 11, cells := 2, slots := 12, locals := 165 }
set_option maxRecDepth 100000 in
set_option maxHeartbeats 1000000 in
theorem t_L_runs {ι : Type} {J : Jt} {w : va_W} {wf : ι → va_W} {x oa ex : Nat} {ofn : Nat → Int64} {p1 : Int32} {p2 : Int32} {r : Int32} {kr : Int32} {fs : List Value} (M : MtX J yX9_runs cX9_runs 3 (some .int) rm_X9_runs [.ref x, .int p1, .int p2] w ex (some (.int r)) wf) (hx : w[0]? = some (x, .inr (9, fs))) (hk : (ex = 0 ∧ kr = 0) ∨ (ex = 1 ∧ kr = 1) ∨ (ex = 2 ∧ kr = 2)) : MtH J yL_runs cL_runs 5 (some .int) [(0, 10, 13, 31), (0, 10, 17, 13)] rm_L_runs [.ref x, .int p1, .int p2, .ref oa] (w ++ [(oa, .inl (J.2.2.1 2, 1, .inr (.inl ofn)))]) (some (.int kr)) (fun i => wf i ++ (if ex = 0 then [(oa, .inl (J.2.2.1 2, 1, .inr (.inl (vp_updL ofn 0 r.toInt64))))] else [(oa, .inl (J.2.2.1 2, 1, .inr (.inl ofn)))])) := by
  refine MtH_of (own := RL) (by decide) rfl (Nat.le_of_ble_eq_true rfl) rfl (fun Z C E ht => ?_)
  show G J Z 0 0 (w ++ [(oa, .inl (J.2.2.1 2, 1, .inr (.inl ofn)))]) 5 [(0, .ref x), (1, .int p1), (2, .int p2), (3, .ref oa)] 0 []
  refine g_aload_n (pc := 0) C 3 rfl dL_runs_0 ?_
  refine g_iconst (pc := 1) C dL_runs_1 ci_0 ?_
  refine g_aload_n (pc := 2) C 0 rfl dL_runs_2 ?_
  refine g_iload_n (pc := 3) C 1 rfl dL_runs_3 ?_
  refine g_iload_n (pc := 4) C 2 rfl dL_runs_4 ?_
  refine g_xcallV (pc := 5) (wf := fun i => wf i ++ [(oa, .inl (J.2.2.1 2, 1, .inr (.inl ofn)))]) C (As := [.int p1, .int p2]) (st := [.int 0, .ref oa]) (ci := 9) (q0 := 0) rfl (by rw [List.getElem?_append_left (List.getElem?_eq_some_iff.mp hx).1]; exact hx) M (fun D A H hP hD => ((Sub.app Sub.same : Sub (w ++ [(oa, .inl (J.2.2.1 2, 1, .inr (.inl ofn)))]) w w (w ++ [(oa, .inl (J.2.2.1 2, 1, .inr (.inl ofn)))])) D A H hP hD).1) (fun i => Sub.app Sub.same) kw_1027 kw_1028 kw_1029 kw_86 hy_X9_runs kw_1030 rfl (Nat.le_of_ble_eq_true rfl) (Nat.le_of_ble_eq_true rfl) (Nat.le_of_ble_eq_true rfl) (Nat.le_of_ble_eq_true rfl) (Nat.le_of_ble_eq_true rfl) dL_runs_5 (fun he i => ?_) (fun he i => ?_)
  · subst he
    rcases hk with ⟨_, rfl⟩ | ⟨h9, _⟩ | ⟨h9, _⟩
    · refine g_wid (n' := 2) (k' := 12) (Nat.le_of_ble_eq_true rfl) (Nat.le_of_ble_eq_true rfl) ?_
      refine g_i2l (pc := 8) C dL_runs_8 ?_
      refine g_last (pc := 9) (w' := wf i ++ [(oa, .inl (J.2.2.1 2, 1, .inr (.inl (vp_updL ofn 0 r.toInt64))))]) C (wf i).length (by rw [List.getElem?_append_right (Nat.le_refl _), Nat.sub_self]; rfl) (ixb_in (by decide)) dL_runs_9 (by rw [List.set_append_right _ _ (Nat.le_refl _), Nat.sub_self]; rfl) ?_
      refine g_goto (pc := 10) C (tgt := 21) dL_runs_10 rfl ?_
      refine g_iconst (pc := 21) C dL_runs_21 ci_0 ?_
      exact g_iretH (pc := 22) C E i (by rw [if_pos rfl]) dL_runs_22
    · cases h9
    · cases h9
  · rcases hk with ⟨h9, _⟩ | ⟨rfl, rfl⟩ | ⟨rfl, rfl⟩
    · exact absurd h9 he
    · refine (fun (kk : GT J Z 2 12 _ 5 _ 5 _ _) => gt_wid (Nat.le_of_ble_eq_true rfl) (Nat.le_of_ble_eq_true rfl) kk) ?_
      refine gt_catch1 (pc := 5) C ht (q0 := (0, 10, 13, 31)) rfl (by decide) (by decide) kw_951 (by decide) (fun q => ?_)
      show G J Z 2 12 (wf i ++ [(oa, .inl (J.2.2.1 2, 1, .inr (.inl ofn)))]) 5 [(0, .ref x), (1, .int p1), (2, .int p2), (3, .ref oa)] 13 [.ref q]
      refine g_astore (pc := 13) C [(4, .ref q), (0, .ref x), (1, .int p1), (2, .int p2), (3, .ref oa)] dL_runs_13 (by decide) rfl ?_
      refine g_iconst (pc := 15) C dL_runs_15 ci_1 ?_
      exact g_iretH (pc := 16) C E i (by rw [if_neg he]) dL_runs_16
    · refine (fun (kk : GT J Z 2 12 _ 5 _ 5 _ _) => gt_wid (Nat.le_of_ble_eq_true rfl) (Nat.le_of_ble_eq_true rfl) kk) ?_
      refine gt_catch2 (pc := 5) C ht (q1 := (0, 10, 13, 31)) (q0 := (0, 10, 17, 13)) rfl (by decide) kw_951 (by decide) (by decide) kw_533 (fun q => ?_)
      show G J Z 2 12 (wf i ++ [(oa, .inl (J.2.2.1 2, 1, .inr (.inl ofn)))]) 5 [(0, .ref x), (1, .int p1), (2, .int p2), (3, .ref oa)] 17 [.ref q]
      refine g_astore (pc := 17) C [(4, .ref q), (0, .ref x), (1, .int p1), (2, .int p2), (3, .ref oa)] dL_runs_17 (by decide) rfl ?_
      refine g_iconst (pc := 19) C dL_runs_19 ci_2 ?_
      exact g_iretH (pc := 20) C E i (by rw [if_neg he]) dL_runs_20
def rm_L_would : Room := { frames := 11, cells := 7, slots := 42, locals := 170 }
set_option maxRecDepth 100000 in
set_option maxHeartbeats 1000000 in
theorem t_L_would {ι : Type} {J : Jt} {w : va_W} {wf : ι → va_W} {x oa ex : Nat} {ofn : Nat → Int64} {p1 : Int32} {p2 : Int32} {p3 : Int32} {p4 : Int32} {p5 : Int32} {p6 : Int32} {p7 : Int32} {r : Int32} {kr : Int32} {fs : List Value} (M : MtX J yX9_would cX9_would 8 (some .int) rm_X9_would [.ref x, .int p1, .int p2, .int p3, .int p4, .int p5, .int p6, .int p7] w ex (some (.int r)) wf) (hx : w[0]? = some (x, .inr (9, fs))) (hk : (ex = 0 ∧ kr = 0) ∨ (ex = 2 ∧ kr = 1)) : MtH J yL_would cL_would 10 (some .int) [(0, 20, 23, 13)] rm_L_would [.ref x, .int p1, .int p2, .int p3, .int p4, .int p5, .int p6, .int p7, .ref oa] (w ++ [(oa, .inl (J.2.2.1 2, 1, .inr (.inl ofn)))]) (some (.int kr)) (fun i => wf i ++ (if ex = 0 then [(oa, .inl (J.2.2.1 2, 1, .inr (.inl (vp_updL ofn 0 r.toInt64))))] else [(oa, .inl (J.2.2.1 2, 1, .inr (.inl ofn)))])) := by
  refine MtH_of (own := RL) (by decide) rfl (Nat.le_of_ble_eq_true rfl) rfl (fun Z C E ht => ?_)
  show G J Z 0 0 (w ++ [(oa, .inl (J.2.2.1 2, 1, .inr (.inl ofn)))]) 10 [(0, .ref x), (1, .int p1), (2, .int p2), (3, .int p3), (4, .int p4), (5, .int p5), (6, .int p6), (7, .int p7), (8, .ref oa)] 0 []
  refine g_aload (pc := 0) C 8 rfl dL_would_0 ?_
  refine g_iconst (pc := 2) C dL_would_2 ci_0 ?_
  refine g_aload_n (pc := 3) C 0 rfl dL_would_3 ?_
  refine g_iload_n (pc := 4) C 1 rfl dL_would_4 ?_
  refine g_iload_n (pc := 5) C 2 rfl dL_would_5 ?_
  refine g_iload_n (pc := 6) C 3 rfl dL_would_6 ?_
  refine g_iload (pc := 7) C 4 rfl dL_would_7 ?_
  refine g_iload (pc := 9) C 5 rfl dL_would_9 ?_
  refine g_iload (pc := 11) C 6 rfl dL_would_11 ?_
  refine g_iload (pc := 13) C 7 rfl dL_would_13 ?_
  refine g_xcallV (pc := 15) (wf := fun i => wf i ++ [(oa, .inl (J.2.2.1 2, 1, .inr (.inl ofn)))]) C (As := [.int p1, .int p2, .int p3, .int p4, .int p5, .int p6, .int p7]) (st := [.int 0, .ref oa]) (ci := 9) (q0 := 0) rfl (by rw [List.getElem?_append_left (List.getElem?_eq_some_iff.mp hx).1]; exact hx) M (fun D A H hP hD => ((Sub.app Sub.same : Sub (w ++ [(oa, .inl (J.2.2.1 2, 1, .inr (.inl ofn)))]) w w (w ++ [(oa, .inl (J.2.2.1 2, 1, .inr (.inl ofn)))])) D A H hP hD).1) (fun i => Sub.app Sub.same) kw_1036 kw_1037 kw_1038 kw_86 hy_X9_would kw_1039 rfl (Nat.le_of_ble_eq_true rfl) (Nat.le_of_ble_eq_true rfl) (Nat.le_of_ble_eq_true rfl) (Nat.le_of_ble_eq_true rfl) (Nat.le_of_ble_eq_true rfl) dL_would_15 (fun he i => ?_) (fun he i => ?_)
  · subst he
    rcases hk with ⟨_, rfl⟩ | ⟨h9, _⟩
    · refine g_wid (n' := 7) (k' := 42) (Nat.le_of_ble_eq_true rfl) (Nat.le_of_ble_eq_true rfl) ?_
      refine g_i2l (pc := 18) C dL_would_18 ?_
      refine g_last (pc := 19) (w' := wf i ++ [(oa, .inl (J.2.2.1 2, 1, .inr (.inl (vp_updL ofn 0 r.toInt64))))]) C (wf i).length (by rw [List.getElem?_append_right (Nat.le_refl _), Nat.sub_self]; rfl) (ixb_in (by decide)) dL_would_19 (by rw [List.set_append_right _ _ (Nat.le_refl _), Nat.sub_self]; rfl) ?_
      refine g_goto (pc := 20) C (tgt := 27) dL_would_20 rfl ?_
      refine g_iconst (pc := 27) C dL_would_27 ci_0 ?_
      exact g_iretH (pc := 28) C E i (by rw [if_pos rfl]) dL_would_28
    · cases h9
  · rcases hk with ⟨h9, _⟩ | ⟨rfl, rfl⟩
    · exact absurd h9 he
    · refine (fun (kk : GT J Z 7 42 _ 10 _ 15 _ _) => gt_wid (Nat.le_of_ble_eq_true rfl) (Nat.le_of_ble_eq_true rfl) kk) ?_
      refine gt_catch1 (pc := 15) C ht (q0 := (0, 20, 23, 13)) rfl (by decide) (by decide) kw_533 (by decide) (fun q => ?_)
      show G J Z 7 42 (wf i ++ [(oa, .inl (J.2.2.1 2, 1, .inr (.inl ofn)))]) 10 [(0, .ref x), (1, .int p1), (2, .int p2), (3, .int p3), (4, .int p4), (5, .int p5), (6, .int p6), (7, .int p7), (8, .ref oa)] 23 [.ref q]
      refine g_astore (pc := 23) C [(9, .ref q), (0, .ref x), (1, .int p1), (2, .int p2), (3, .int p3), (4, .int p4), (5, .int p5), (6, .int p6), (7, .int p7), (8, .ref oa)] dL_would_23 (by decide) rfl ?_
      refine g_iconst (pc := 25) C dL_would_25 ci_1 ?_
      exact g_iretH (pc := 26) C E i (by rw [if_neg he]) dL_would_26
def rm_L_ahead : Room := { frames := 11, cells := 2, slots := 12, locals := 166 }
set_option maxRecDepth 100000 in
set_option maxHeartbeats 1000000 in
theorem t_L_ahead {ι : Type} {J : Jt} {w : va_W} {wf : ι → va_W} {x oa ex : Nat} {ofn : Nat → Int64} {p1 : Int32} {p2 : Int32} {r : Int32} {kr : Int32} {fs : List Value} (M : MtX J yX9_ahead cX9_ahead 4 (some .int) rm_X9_ahead [.ref x, .int p1, .int p2] w ex (some (.int r)) wf) (hx : w[0]? = some (x, .inr (9, fs))) (hk : (ex = 0 ∧ kr = 0) ∨ (ex = 2 ∧ kr = 1)) : MtH J yL_ahead cL_ahead 5 (some .int) [(0, 10, 13, 13)] rm_L_ahead [.ref x, .int p1, .int p2, .ref oa] (w ++ [(oa, .inl (J.2.2.1 2, 1, .inr (.inl ofn)))]) (some (.int kr)) (fun i => wf i ++ (if ex = 0 then [(oa, .inl (J.2.2.1 2, 1, .inr (.inl (vp_updL ofn 0 r.toInt64))))] else [(oa, .inl (J.2.2.1 2, 1, .inr (.inl ofn)))])) := by
  refine MtH_of (own := RL) (by decide) rfl (Nat.le_of_ble_eq_true rfl) rfl (fun Z C E ht => ?_)
  show G J Z 0 0 (w ++ [(oa, .inl (J.2.2.1 2, 1, .inr (.inl ofn)))]) 5 [(0, .ref x), (1, .int p1), (2, .int p2), (3, .ref oa)] 0 []
  refine g_aload_n (pc := 0) C 3 rfl dL_ahead_0 ?_
  refine g_iconst (pc := 1) C dL_ahead_1 ci_0 ?_
  refine g_aload_n (pc := 2) C 0 rfl dL_ahead_2 ?_
  refine g_iload_n (pc := 3) C 1 rfl dL_ahead_3 ?_
  refine g_iload_n (pc := 4) C 2 rfl dL_ahead_4 ?_
  refine g_xcallV (pc := 5) (wf := fun i => wf i ++ [(oa, .inl (J.2.2.1 2, 1, .inr (.inl ofn)))]) C (As := [.int p1, .int p2]) (st := [.int 0, .ref oa]) (ci := 9) (q0 := 0) rfl (by rw [List.getElem?_append_left (List.getElem?_eq_some_iff.mp hx).1]; exact hx) M (fun D A H hP hD => ((Sub.app Sub.same : Sub (w ++ [(oa, .inl (J.2.2.1 2, 1, .inr (.inl ofn)))]) w w (w ++ [(oa, .inl (J.2.2.1 2, 1, .inr (.inl ofn)))])) D A H hP hD).1) (fun i => Sub.app Sub.same) kw_1044 kw_1045 kw_1046 kw_86 hy_X9_ahead kw_1047 rfl (Nat.le_of_ble_eq_true rfl) (Nat.le_of_ble_eq_true rfl) (Nat.le_of_ble_eq_true rfl) (Nat.le_of_ble_eq_true rfl) (Nat.le_of_ble_eq_true rfl) dL_ahead_5 (fun he i => ?_) (fun he i => ?_)
  · subst he
    rcases hk with ⟨_, rfl⟩ | ⟨h9, _⟩
    · refine g_wid (n' := 2) (k' := 12) (Nat.le_of_ble_eq_true rfl) (Nat.le_of_ble_eq_true rfl) ?_
      refine g_i2l (pc := 8) C dL_ahead_8 ?_
      refine g_last (pc := 9) (w' := wf i ++ [(oa, .inl (J.2.2.1 2, 1, .inr (.inl (vp_updL ofn 0 r.toInt64))))]) C (wf i).length (by rw [List.getElem?_append_right (Nat.le_refl _), Nat.sub_self]; rfl) (ixb_in (by decide)) dL_ahead_9 (by rw [List.set_append_right _ _ (Nat.le_refl _), Nat.sub_self]; rfl) ?_
      refine g_goto (pc := 10) C (tgt := 17) dL_ahead_10 rfl ?_
      refine g_iconst (pc := 17) C dL_ahead_17 ci_0 ?_
      exact g_iretH (pc := 18) C E i (by rw [if_pos rfl]) dL_ahead_18
    · cases h9
  · rcases hk with ⟨h9, _⟩ | ⟨rfl, rfl⟩
    · exact absurd h9 he
    · refine (fun (kk : GT J Z 2 12 _ 5 _ 5 _ _) => gt_wid (Nat.le_of_ble_eq_true rfl) (Nat.le_of_ble_eq_true rfl) kk) ?_
      refine gt_catch1 (pc := 5) C ht (q0 := (0, 10, 13, 13)) rfl (by decide) (by decide) kw_533 (by decide) (fun q => ?_)
      show G J Z 2 12 (wf i ++ [(oa, .inl (J.2.2.1 2, 1, .inr (.inl ofn)))]) 5 [(0, .ref x), (1, .int p1), (2, .int p2), (3, .ref oa)] 13 [.ref q]
      refine g_astore (pc := 13) C [(4, .ref q), (0, .ref x), (1, .int p1), (2, .int p2), (3, .ref oa)] dL_ahead_13 (by decide) rfl ?_
      refine g_iconst (pc := 15) C dL_ahead_15 ci_1 ?_
      exact g_iretH (pc := 16) C E i (by rw [if_neg he]) dL_ahead_16
def rm_L_rains : Room := { frames := 11, cells := 3, slots := 18, locals := 167 }
set_option maxRecDepth 100000 in
set_option maxHeartbeats 1000000 in
theorem t_L_rains {ι : Type} {J : Jt} {w : va_W} {wf : ι → va_W} {x oa ex : Nat} {ofn : Nat → Int64} {p1 : Int32} {p2 : Int32} {p3 : Int32} {r : Int32} {kr : Int32} {fs : List Value} (M : MtX J yX9_rains cX9_rains 5 (some .int) rm_X9_rains [.ref x, .int p1, .int p2, .int p3] w ex (some (.int r)) wf) (hx : w[0]? = some (x, .inr (9, fs))) (hk : (ex = 0 ∧ kr = 0) ∨ (ex = 1 ∧ kr = 1) ∨ (ex = 2 ∧ kr = 2)) : MtH J yL_rains cL_rains 6 (some .int) [(0, 12, 15, 31), (0, 12, 19, 13)] rm_L_rains [.ref x, .int p1, .int p2, .int p3, .ref oa] (w ++ [(oa, .inl (J.2.2.1 2, 1, .inr (.inl ofn)))]) (some (.int kr)) (fun i => wf i ++ (if ex = 0 then [(oa, .inl (J.2.2.1 2, 1, .inr (.inl (vp_updL ofn 0 r.toInt64))))] else [(oa, .inl (J.2.2.1 2, 1, .inr (.inl ofn)))])) := by
  refine MtH_of (own := RL) (by decide) rfl (Nat.le_of_ble_eq_true rfl) rfl (fun Z C E ht => ?_)
  show G J Z 0 0 (w ++ [(oa, .inl (J.2.2.1 2, 1, .inr (.inl ofn)))]) 6 [(0, .ref x), (1, .int p1), (2, .int p2), (3, .int p3), (4, .ref oa)] 0 []
  refine g_aload (pc := 0) C 4 rfl dL_rains_0 ?_
  refine g_iconst (pc := 2) C dL_rains_2 ci_0 ?_
  refine g_aload_n (pc := 3) C 0 rfl dL_rains_3 ?_
  refine g_iload_n (pc := 4) C 1 rfl dL_rains_4 ?_
  refine g_iload_n (pc := 5) C 2 rfl dL_rains_5 ?_
  refine g_iload_n (pc := 6) C 3 rfl dL_rains_6 ?_
  refine g_xcallV (pc := 7) (wf := fun i => wf i ++ [(oa, .inl (J.2.2.1 2, 1, .inr (.inl ofn)))]) C (As := [.int p1, .int p2, .int p3]) (st := [.int 0, .ref oa]) (ci := 9) (q0 := 0) rfl (by rw [List.getElem?_append_left (List.getElem?_eq_some_iff.mp hx).1]; exact hx) M (fun D A H hP hD => ((Sub.app Sub.same : Sub (w ++ [(oa, .inl (J.2.2.1 2, 1, .inr (.inl ofn)))]) w w (w ++ [(oa, .inl (J.2.2.1 2, 1, .inr (.inl ofn)))])) D A H hP hD).1) (fun i => Sub.app Sub.same) kw_1052 kw_1053 kw_1054 kw_86 hy_X9_rains kw_1055 rfl (Nat.le_of_ble_eq_true rfl) (Nat.le_of_ble_eq_true rfl) (Nat.le_of_ble_eq_true rfl) (Nat.le_of_ble_eq_true rfl) (Nat.le_of_ble_eq_true rfl) dL_rains_7 (fun he i => ?_) (fun he i => ?_)
  · subst he
    rcases hk with ⟨_, rfl⟩ | ⟨h9, _⟩ | ⟨h9, _⟩
    · refine g_wid (n' := 3) (k' := 18) (Nat.le_of_ble_eq_true rfl) (Nat.le_of_ble_eq_true rfl) ?_
      refine g_i2l (pc := 10) C dL_rains_10 ?_
      refine g_last (pc := 11) (w' := wf i ++ [(oa, .inl (J.2.2.1 2, 1, .inr (.inl (vp_updL ofn 0 r.toInt64))))]) C (wf i).length (by rw [List.getElem?_append_right (Nat.le_refl _), Nat.sub_self]; rfl) (ixb_in (by decide)) dL_rains_11 (by rw [List.set_append_right _ _ (Nat.le_refl _), Nat.sub_self]; rfl) ?_
      refine g_goto (pc := 12) C (tgt := 23) dL_rains_12 rfl ?_
      refine g_iconst (pc := 23) C dL_rains_23 ci_0 ?_
      exact g_iretH (pc := 24) C E i (by rw [if_pos rfl]) dL_rains_24
    · cases h9
    · cases h9
  · rcases hk with ⟨h9, _⟩ | ⟨rfl, rfl⟩ | ⟨rfl, rfl⟩
    · exact absurd h9 he
    · refine (fun (kk : GT J Z 3 18 _ 6 _ 7 _ _) => gt_wid (Nat.le_of_ble_eq_true rfl) (Nat.le_of_ble_eq_true rfl) kk) ?_
      refine gt_catch1 (pc := 7) C ht (q0 := (0, 12, 15, 31)) rfl (by decide) (by decide) kw_951 (by decide) (fun q => ?_)
      show G J Z 3 18 (wf i ++ [(oa, .inl (J.2.2.1 2, 1, .inr (.inl ofn)))]) 6 [(0, .ref x), (1, .int p1), (2, .int p2), (3, .int p3), (4, .ref oa)] 15 [.ref q]
      refine g_astore (pc := 15) C [(5, .ref q), (0, .ref x), (1, .int p1), (2, .int p2), (3, .int p3), (4, .ref oa)] dL_rains_15 (by decide) rfl ?_
      refine g_iconst (pc := 17) C dL_rains_17 ci_1 ?_
      exact g_iretH (pc := 18) C E i (by rw [if_neg he]) dL_rains_18
    · refine (fun (kk : GT J Z 3 18 _ 6 _ 7 _ _) => gt_wid (Nat.le_of_ble_eq_true rfl) (Nat.le_of_ble_eq_true rfl) kk) ?_
      refine gt_catch2 (pc := 7) C ht (q1 := (0, 12, 15, 31)) (q0 := (0, 12, 19, 13)) rfl (by decide) kw_951 (by decide) (by decide) kw_533 (fun q => ?_)
      show G J Z 3 18 (wf i ++ [(oa, .inl (J.2.2.1 2, 1, .inr (.inl ofn)))]) 6 [(0, .ref x), (1, .int p1), (2, .int p2), (3, .int p3), (4, .ref oa)] 19 [.ref q]
      refine g_astore (pc := 19) C [(5, .ref q), (0, .ref x), (1, .int p1), (2, .int p2), (3, .int p3), (4, .ref oa)] dL_rains_19 (by decide) rfl ?_
      refine g_iconst (pc := 21) C dL_rains_21 ci_2 ?_
      exact g_iretH (pc := 22) C E i (by rw [if_neg he]) dL_rains_22
def rm_L_stuffed : Room := { frames := 11, cells := 1, slots := 6, locals := 162 }
set_option maxRecDepth 100000 in
set_option maxHeartbeats 1000000 in
theorem t_L_stuffed {ι : Type} {J : Jt} {w : va_W} {wf : ι → va_W} {x oa ex : Nat} {ofn : Nat → Int64} {p1 : Int32} {r : Int32} {kr : Int32} {fs : List Value} (M : MtX J yX9_stuffed cX9_stuffed 2 (some .int) rm_X9_stuffed [.ref x, .int p1] w ex (some (.int r)) wf) (hx : w[0]? = some (x, .inr (9, fs))) (hk : (ex = 0 ∧ kr = 0) ∨ (ex = 2 ∧ kr = 1)) : MtH J yL_stuffed cL_stuffed 4 (some .int) [(0, 9, 12, 13)] rm_L_stuffed [.ref x, .int p1, .ref oa] (w ++ [(oa, .inl (J.2.2.1 2, 1, .inr (.inl ofn)))]) (some (.int kr)) (fun i => wf i ++ (if ex = 0 then [(oa, .inl (J.2.2.1 2, 1, .inr (.inl (vp_updL ofn 0 r.toInt64))))] else [(oa, .inl (J.2.2.1 2, 1, .inr (.inl ofn)))])) := by
  refine MtH_of (own := RL) (by decide) rfl (Nat.le_of_ble_eq_true rfl) rfl (fun Z C E ht => ?_)
  show G J Z 0 0 (w ++ [(oa, .inl (J.2.2.1 2, 1, .inr (.inl ofn)))]) 4 [(0, .ref x), (1, .int p1), (2, .ref oa)] 0 []
  refine g_aload_n (pc := 0) C 2 rfl dL_stuffed_0 ?_
  refine g_iconst (pc := 1) C dL_stuffed_1 ci_0 ?_
  refine g_aload_n (pc := 2) C 0 rfl dL_stuffed_2 ?_
  refine g_iload_n (pc := 3) C 1 rfl dL_stuffed_3 ?_
  refine g_xcallV (pc := 4) (wf := fun i => wf i ++ [(oa, .inl (J.2.2.1 2, 1, .inr (.inl ofn)))]) C (As := [.int p1]) (st := [.int 0, .ref oa]) (ci := 9) (q0 := 0) rfl (by rw [List.getElem?_append_left (List.getElem?_eq_some_iff.mp hx).1]; exact hx) M (fun D A H hP hD => ((Sub.app Sub.same : Sub (w ++ [(oa, .inl (J.2.2.1 2, 1, .inr (.inl ofn)))]) w w (w ++ [(oa, .inl (J.2.2.1 2, 1, .inr (.inl ofn)))])) D A H hP hD).1) (fun i => Sub.app Sub.same) kw_1061 kw_1062 kw_1063 kw_86 hy_X9_stuffed kw_1064 rfl (Nat.le_of_ble_eq_true rfl) (Nat.le_of_ble_eq_true rfl) (Nat.le_of_ble_eq_true rfl) (Nat.le_of_ble_eq_true rfl) (Nat.le_of_ble_eq_true rfl) dL_stuffed_4 (fun he i => ?_) (fun he i => ?_)
  · subst he
    rcases hk with ⟨_, rfl⟩ | ⟨h9, _⟩
    · refine g_wid (n' := 1) (k' := 6) (Nat.le_of_ble_eq_true rfl) (Nat.le_of_ble_eq_true rfl) ?_
      refine g_i2l (pc := 7) C dL_stuffed_7 ?_
      refine g_last (pc := 8) (w' := wf i ++ [(oa, .inl (J.2.2.1 2, 1, .inr (.inl (vp_updL ofn 0 r.toInt64))))]) C (wf i).length (by rw [List.getElem?_append_right (Nat.le_refl _), Nat.sub_self]; rfl) (ixb_in (by decide)) dL_stuffed_8 (by rw [List.set_append_right _ _ (Nat.le_refl _), Nat.sub_self]; rfl) ?_
      refine g_goto (pc := 9) C (tgt := 15) dL_stuffed_9 rfl ?_
      refine g_iconst (pc := 15) C dL_stuffed_15 ci_0 ?_
      exact g_iretH (pc := 16) C E i (by rw [if_pos rfl]) dL_stuffed_16
    · cases h9
  · rcases hk with ⟨h9, _⟩ | ⟨rfl, rfl⟩
    · exact absurd h9 he
    · refine (fun (kk : GT J Z 1 6 _ 4 _ 4 _ _) => gt_wid (Nat.le_of_ble_eq_true rfl) (Nat.le_of_ble_eq_true rfl) kk) ?_
      refine gt_catch1 (pc := 4) C ht (q0 := (0, 9, 12, 13)) rfl (by decide) (by decide) kw_533 (by decide) (fun q => ?_)
      show G J Z 1 6 (wf i ++ [(oa, .inl (J.2.2.1 2, 1, .inr (.inl ofn)))]) 4 [(0, .ref x), (1, .int p1), (2, .ref oa)] 12 [.ref q]
      refine g_astore_n (pc := 12) C [(3, .ref q), (0, .ref x), (1, .int p1), (2, .ref oa)] dL_stuffed_12 rfl (by decide) rfl ?_
      refine g_iconst (pc := 13) C dL_stuffed_13 ci_1 ?_
      exact g_iretH (pc := 14) C E i (by rw [if_neg he]) dL_stuffed_14
def rm_L_all : Room := { frames := 11, cells := 1, slots := 6, locals := 164 }
set_option maxRecDepth 100000 in
set_option maxHeartbeats 1000000 in
theorem t_L_all {ι : Type} {J : Jt} {w : va_W} {wf : ι → va_W} {x oa ex : Nat} {ofn : Nat → Int64} {p1 : Int32} {r : Int32} {kr : Int32} {fs : List Value} (M : MtX J yX9_all cX9_all 2 (some .int) rm_X9_all [.ref x, .int p1] w ex (some (.int r)) wf) (hx : w[0]? = some (x, .inr (9, fs))) (hk : (ex = 0 ∧ kr = 0) ∨ (ex = 2 ∧ kr = 1)) : MtH J yL_all cL_all 4 (some .int) [(0, 9, 12, 13)] rm_L_all [.ref x, .int p1, .ref oa] (w ++ [(oa, .inl (J.2.2.1 2, 1, .inr (.inl ofn)))]) (some (.int kr)) (fun i => wf i ++ (if ex = 0 then [(oa, .inl (J.2.2.1 2, 1, .inr (.inl (vp_updL ofn 0 r.toInt64))))] else [(oa, .inl (J.2.2.1 2, 1, .inr (.inl ofn)))])) := by
  refine MtH_of (own := RL) (by decide) rfl (Nat.le_of_ble_eq_true rfl) rfl (fun Z C E ht => ?_)
  show G J Z 0 0 (w ++ [(oa, .inl (J.2.2.1 2, 1, .inr (.inl ofn)))]) 4 [(0, .ref x), (1, .int p1), (2, .ref oa)] 0 []
  refine g_aload_n (pc := 0) C 2 rfl dL_all_0 ?_
  refine g_iconst (pc := 1) C dL_all_1 ci_0 ?_
  refine g_aload_n (pc := 2) C 0 rfl dL_all_2 ?_
  refine g_iload_n (pc := 3) C 1 rfl dL_all_3 ?_
  refine g_xcallV (pc := 4) (wf := fun i => wf i ++ [(oa, .inl (J.2.2.1 2, 1, .inr (.inl ofn)))]) C (As := [.int p1]) (st := [.int 0, .ref oa]) (ci := 9) (q0 := 0) rfl (by rw [List.getElem?_append_left (List.getElem?_eq_some_iff.mp hx).1]; exact hx) M (fun D A H hP hD => ((Sub.app Sub.same : Sub (w ++ [(oa, .inl (J.2.2.1 2, 1, .inr (.inl ofn)))]) w w (w ++ [(oa, .inl (J.2.2.1 2, 1, .inr (.inl ofn)))])) D A H hP hD).1) (fun i => Sub.app Sub.same) kw_1068 kw_1069 kw_1070 kw_86 hy_X9_all kw_1071 rfl (Nat.le_of_ble_eq_true rfl) (Nat.le_of_ble_eq_true rfl) (Nat.le_of_ble_eq_true rfl) (Nat.le_of_ble_eq_true rfl) (Nat.le_of_ble_eq_true rfl) dL_all_4 (fun he i => ?_) (fun he i => ?_)
  · subst he
    rcases hk with ⟨_, rfl⟩ | ⟨h9, _⟩
    · refine g_wid (n' := 1) (k' := 6) (Nat.le_of_ble_eq_true rfl) (Nat.le_of_ble_eq_true rfl) ?_
      refine g_i2l (pc := 7) C dL_all_7 ?_
      refine g_last (pc := 8) (w' := wf i ++ [(oa, .inl (J.2.2.1 2, 1, .inr (.inl (vp_updL ofn 0 r.toInt64))))]) C (wf i).length (by rw [List.getElem?_append_right (Nat.le_refl _), Nat.sub_self]; rfl) (ixb_in (by decide)) dL_all_8 (by rw [List.set_append_right _ _ (Nat.le_refl _), Nat.sub_self]; rfl) ?_
      refine g_goto (pc := 9) C (tgt := 15) dL_all_9 rfl ?_
      refine g_iconst (pc := 15) C dL_all_15 ci_0 ?_
      exact g_iretH (pc := 16) C E i (by rw [if_pos rfl]) dL_all_16
    · cases h9
  · rcases hk with ⟨h9, _⟩ | ⟨rfl, rfl⟩
    · exact absurd h9 he
    · refine (fun (kk : GT J Z 1 6 _ 4 _ 4 _ _) => gt_wid (Nat.le_of_ble_eq_true rfl) (Nat.le_of_ble_eq_true rfl) kk) ?_
      refine gt_catch1 (pc := 4) C ht (q0 := (0, 9, 12, 13)) rfl (by decide) (by decide) kw_533 (by decide) (fun q => ?_)
      show G J Z 1 6 (wf i ++ [(oa, .inl (J.2.2.1 2, 1, .inr (.inl ofn)))]) 4 [(0, .ref x), (1, .int p1), (2, .ref oa)] 12 [.ref q]
      refine g_astore_n (pc := 12) C [(3, .ref q), (0, .ref x), (1, .int p1), (2, .ref oa)] dL_all_12 rfl (by decide) rfl ?_
      refine g_iconst (pc := 13) C dL_all_13 ci_1 ?_
      exact g_iretH (pc := 14) C E i (by rw [if_neg he]) dL_all_14
def rm_L_tour : Room := { frames := 11, cells := 1, slots := 6, locals := 163 }
set_option maxRecDepth 100000 in
set_option maxHeartbeats 1000000 in
theorem t_L_tour {ι : Type} {J : Jt} {w : va_W} {wf : ι → va_W} {x oa ex : Nat} {ofn : Nat → Int64} {p1 : Int32} {r : Int32} {kr : Int32} {fs : List Value} (M : MtX J yX9_tour cX9_tour 2 (some .int) rm_X9_tour [.ref x, .int p1] w ex (some (.int r)) wf) (hx : w[0]? = some (x, .inr (9, fs))) (hk : (ex = 0 ∧ kr = 0) ∨ (ex = 1 ∧ kr = 1)) : MtH J yL_tour cL_tour 4 (some .int) [(0, 9, 12, 31)] rm_L_tour [.ref x, .int p1, .ref oa] (w ++ [(oa, .inl (J.2.2.1 2, 1, .inr (.inl ofn)))]) (some (.int kr)) (fun i => wf i ++ (if ex = 0 then [(oa, .inl (J.2.2.1 2, 1, .inr (.inl (vp_updL ofn 0 r.toInt64))))] else [(oa, .inl (J.2.2.1 2, 1, .inr (.inl ofn)))])) := by
  refine MtH_of (own := RL) (by decide) rfl (Nat.le_of_ble_eq_true rfl) rfl (fun Z C E ht => ?_)
  show G J Z 0 0 (w ++ [(oa, .inl (J.2.2.1 2, 1, .inr (.inl ofn)))]) 4 [(0, .ref x), (1, .int p1), (2, .ref oa)] 0 []
  refine g_aload_n (pc := 0) C 2 rfl dL_tour_0 ?_
  refine g_iconst (pc := 1) C dL_tour_1 ci_0 ?_
  refine g_aload_n (pc := 2) C 0 rfl dL_tour_2 ?_
  refine g_iload_n (pc := 3) C 1 rfl dL_tour_3 ?_
  refine g_xcallV (pc := 4) (wf := fun i => wf i ++ [(oa, .inl (J.2.2.1 2, 1, .inr (.inl ofn)))]) C (As := [.int p1]) (st := [.int 0, .ref oa]) (ci := 9) (q0 := 0) rfl (by rw [List.getElem?_append_left (List.getElem?_eq_some_iff.mp hx).1]; exact hx) M (fun D A H hP hD => ((Sub.app Sub.same : Sub (w ++ [(oa, .inl (J.2.2.1 2, 1, .inr (.inl ofn)))]) w w (w ++ [(oa, .inl (J.2.2.1 2, 1, .inr (.inl ofn)))])) D A H hP hD).1) (fun i => Sub.app Sub.same) kw_1086 kw_1087 kw_1088 kw_86 hy_X9_tour kw_1089 rfl (Nat.le_of_ble_eq_true rfl) (Nat.le_of_ble_eq_true rfl) (Nat.le_of_ble_eq_true rfl) (Nat.le_of_ble_eq_true rfl) (Nat.le_of_ble_eq_true rfl) dL_tour_4 (fun he i => ?_) (fun he i => ?_)
  · subst he
    rcases hk with ⟨_, rfl⟩ | ⟨h9, _⟩
    · refine g_wid (n' := 1) (k' := 6) (Nat.le_of_ble_eq_true rfl) (Nat.le_of_ble_eq_true rfl) ?_
      refine g_i2l (pc := 7) C dL_tour_7 ?_
      refine g_last (pc := 8) (w' := wf i ++ [(oa, .inl (J.2.2.1 2, 1, .inr (.inl (vp_updL ofn 0 r.toInt64))))]) C (wf i).length (by rw [List.getElem?_append_right (Nat.le_refl _), Nat.sub_self]; rfl) (ixb_in (by decide)) dL_tour_8 (by rw [List.set_append_right _ _ (Nat.le_refl _), Nat.sub_self]; rfl) ?_
      refine g_goto (pc := 9) C (tgt := 15) dL_tour_9 rfl ?_
      refine g_iconst (pc := 15) C dL_tour_15 ci_0 ?_
      exact g_iretH (pc := 16) C E i (by rw [if_pos rfl]) dL_tour_16
    · cases h9
  · rcases hk with ⟨h9, _⟩ | ⟨rfl, rfl⟩
    · exact absurd h9 he
    · refine (fun (kk : GT J Z 1 6 _ 4 _ 4 _ _) => gt_wid (Nat.le_of_ble_eq_true rfl) (Nat.le_of_ble_eq_true rfl) kk) ?_
      refine gt_catch1 (pc := 4) C ht (q0 := (0, 9, 12, 31)) rfl (by decide) (by decide) kw_951 (by decide) (fun q => ?_)
      show G J Z 1 6 (wf i ++ [(oa, .inl (J.2.2.1 2, 1, .inr (.inl ofn)))]) 4 [(0, .ref x), (1, .int p1), (2, .ref oa)] 12 [.ref q]
      refine g_astore_n (pc := 12) C [(3, .ref q), (0, .ref x), (1, .int p1), (2, .ref oa)] dL_tour_12 rfl (by decide) rfl ?_
      refine g_iconst (pc := 13) C dL_tour_13 ci_1 ?_
      exact g_iretH (pc := 14) C E i (by rw [if_neg he]) dL_tour_14
def rm_L_fits : Room := { frames := 11, cells := 1, slots := 6, locals := 168 }
set_option maxRecDepth 100000 in
set_option maxHeartbeats 1000000 in
theorem t_L_fits {ι : Type} {J : Jt} {w : va_W} {wf : ι → va_W} {x oa ex : Nat} {ofn : Nat → Int64} {p1 : Int32} {r : Int32} {kr : Int32} {fs : List Value} (M : MtX J yX9_fits cX9_fits 6 (some .int) rm_X9_fits [.ref x, .int p1] w ex (some (.int r)) wf) (hx : w[0]? = some (x, .inr (9, fs))) (hk : (ex = 0 ∧ kr = 0) ∨ (ex = 2 ∧ kr = 1)) : MtH J yL_fits cL_fits 4 (some .int) [(0, 9, 12, 13)] rm_L_fits [.ref x, .int p1, .ref oa] (w ++ [(oa, .inl (J.2.2.1 2, 1, .inr (.inl ofn)))]) (some (.int kr)) (fun i => wf i ++ (if ex = 0 then [(oa, .inl (J.2.2.1 2, 1, .inr (.inl (vp_updL ofn 0 r.toInt64))))] else [(oa, .inl (J.2.2.1 2, 1, .inr (.inl ofn)))])) := by
  refine MtH_of (own := RL) (by decide) rfl (Nat.le_of_ble_eq_true rfl) rfl (fun Z C E ht => ?_)
  show G J Z 0 0 (w ++ [(oa, .inl (J.2.2.1 2, 1, .inr (.inl ofn)))]) 4 [(0, .ref x), (1, .int p1), (2, .ref oa)] 0 []
  refine g_aload_n (pc := 0) C 2 rfl dL_fits_0 ?_
  refine g_iconst (pc := 1) C dL_fits_1 ci_0 ?_
  refine g_aload_n (pc := 2) C 0 rfl dL_fits_2 ?_
  refine g_iload_n (pc := 3) C 1 rfl dL_fits_3 ?_
  refine g_xcallV (pc := 4) (wf := fun i => wf i ++ [(oa, .inl (J.2.2.1 2, 1, .inr (.inl ofn)))]) C (As := [.int p1]) (st := [.int 0, .ref oa]) (ci := 9) (q0 := 0) rfl (by rw [List.getElem?_append_left (List.getElem?_eq_some_iff.mp hx).1]; exact hx) M (fun D A H hP hD => ((Sub.app Sub.same : Sub (w ++ [(oa, .inl (J.2.2.1 2, 1, .inr (.inl ofn)))]) w w (w ++ [(oa, .inl (J.2.2.1 2, 1, .inr (.inl ofn)))])) D A H hP hD).1) (fun i => Sub.app Sub.same) kw_1097 kw_1098 kw_1099 kw_86 hy_X9_fits kw_1100 rfl (Nat.le_of_ble_eq_true rfl) (Nat.le_of_ble_eq_true rfl) (Nat.le_of_ble_eq_true rfl) (Nat.le_of_ble_eq_true rfl) (Nat.le_of_ble_eq_true rfl) dL_fits_4 (fun he i => ?_) (fun he i => ?_)
  · subst he
    rcases hk with ⟨_, rfl⟩ | ⟨h9, _⟩
    · refine g_wid (n' := 1) (k' := 6) (Nat.le_of_ble_eq_true rfl) (Nat.le_of_ble_eq_true rfl) ?_
      refine g_i2l (pc := 7) C dL_fits_7 ?_
      refine g_last (pc := 8) (w' := wf i ++ [(oa, .inl (J.2.2.1 2, 1, .inr (.inl (vp_updL ofn 0 r.toInt64))))]) C (wf i).length (by rw [List.getElem?_append_right (Nat.le_refl _), Nat.sub_self]; rfl) (ixb_in (by decide)) dL_fits_8 (by rw [List.set_append_right _ _ (Nat.le_refl _), Nat.sub_self]; rfl) ?_
      refine g_goto (pc := 9) C (tgt := 15) dL_fits_9 rfl ?_
      refine g_iconst (pc := 15) C dL_fits_15 ci_0 ?_
      exact g_iretH (pc := 16) C E i (by rw [if_pos rfl]) dL_fits_16
    · cases h9
  · rcases hk with ⟨h9, _⟩ | ⟨rfl, rfl⟩
    · exact absurd h9 he
    · refine (fun (kk : GT J Z 1 6 _ 4 _ 4 _ _) => gt_wid (Nat.le_of_ble_eq_true rfl) (Nat.le_of_ble_eq_true rfl) kk) ?_
      refine gt_catch1 (pc := 4) C ht (q0 := (0, 9, 12, 13)) rfl (by decide) (by decide) kw_533 (by decide) (fun q => ?_)
      show G J Z 1 6 (wf i ++ [(oa, .inl (J.2.2.1 2, 1, .inr (.inl ofn)))]) 4 [(0, .ref x), (1, .int p1), (2, .ref oa)] 12 [.ref q]
      refine g_astore_n (pc := 12) C [(3, .ref q), (0, .ref x), (1, .int p1), (2, .ref oa)] dL_fits_12 rfl (by decide) rfl ?_
      refine g_iconst (pc := 13) C dL_fits_13 ci_1 ?_
      exact g_iretH (pc := 14) C E i (by rw [if_neg he]) dL_fits_14
def rm_L_look : Room := { frames := 11, cells := 1, slots := 6, locals := 168 }
set_option maxRecDepth 100000 in
set_option maxHeartbeats 1000000 in
theorem t_L_look {ι : Type} {J : Jt} {w : va_W} {wf : ι → va_W} {x oa ex : Nat} {ofn : Nat → Int64} {p1 : Int32} {r : Int32} {kr : Int32} {fs : List Value} (M : MtX J yX9_look cX9_look 6 (some .int) rm_X9_look [.ref x, .int p1] w ex (some (.int r)) wf) (hx : w[0]? = some (x, .inr (9, fs))) (hk : (ex = 0 ∧ kr = 0) ∨ (ex = 2 ∧ kr = 1)) : MtH J yL_look cL_look 4 (some .int) [(0, 9, 12, 13)] rm_L_look [.ref x, .int p1, .ref oa] (w ++ [(oa, .inl (J.2.2.1 2, 1, .inr (.inl ofn)))]) (some (.int kr)) (fun i => wf i ++ (if ex = 0 then [(oa, .inl (J.2.2.1 2, 1, .inr (.inl (vp_updL ofn 0 r.toInt64))))] else [(oa, .inl (J.2.2.1 2, 1, .inr (.inl ofn)))])) := by
  refine MtH_of (own := RL) (by decide) rfl (Nat.le_of_ble_eq_true rfl) rfl (fun Z C E ht => ?_)
  show G J Z 0 0 (w ++ [(oa, .inl (J.2.2.1 2, 1, .inr (.inl ofn)))]) 4 [(0, .ref x), (1, .int p1), (2, .ref oa)] 0 []
  refine g_aload_n (pc := 0) C 2 rfl dL_look_0 ?_
  refine g_iconst (pc := 1) C dL_look_1 ci_0 ?_
  refine g_aload_n (pc := 2) C 0 rfl dL_look_2 ?_
  refine g_iload_n (pc := 3) C 1 rfl dL_look_3 ?_
  refine g_xcallV (pc := 4) (wf := fun i => wf i ++ [(oa, .inl (J.2.2.1 2, 1, .inr (.inl ofn)))]) C (As := [.int p1]) (st := [.int 0, .ref oa]) (ci := 9) (q0 := 0) rfl (by rw [List.getElem?_append_left (List.getElem?_eq_some_iff.mp hx).1]; exact hx) M (fun D A H hP hD => ((Sub.app Sub.same : Sub (w ++ [(oa, .inl (J.2.2.1 2, 1, .inr (.inl ofn)))]) w w (w ++ [(oa, .inl (J.2.2.1 2, 1, .inr (.inl ofn)))])) D A H hP hD).1) (fun i => Sub.app Sub.same) kw_1112 kw_1113 kw_1114 kw_86 hy_X9_look kw_1115 rfl (Nat.le_of_ble_eq_true rfl) (Nat.le_of_ble_eq_true rfl) (Nat.le_of_ble_eq_true rfl) (Nat.le_of_ble_eq_true rfl) (Nat.le_of_ble_eq_true rfl) dL_look_4 (fun he i => ?_) (fun he i => ?_)
  · subst he
    rcases hk with ⟨_, rfl⟩ | ⟨h9, _⟩
    · refine g_wid (n' := 1) (k' := 6) (Nat.le_of_ble_eq_true rfl) (Nat.le_of_ble_eq_true rfl) ?_
      refine g_i2l (pc := 7) C dL_look_7 ?_
      refine g_last (pc := 8) (w' := wf i ++ [(oa, .inl (J.2.2.1 2, 1, .inr (.inl (vp_updL ofn 0 r.toInt64))))]) C (wf i).length (by rw [List.getElem?_append_right (Nat.le_refl _), Nat.sub_self]; rfl) (ixb_in (by decide)) dL_look_8 (by rw [List.set_append_right _ _ (Nat.le_refl _), Nat.sub_self]; rfl) ?_
      refine g_goto (pc := 9) C (tgt := 15) dL_look_9 rfl ?_
      refine g_iconst (pc := 15) C dL_look_15 ci_0 ?_
      exact g_iretH (pc := 16) C E i (by rw [if_pos rfl]) dL_look_16
    · cases h9
  · rcases hk with ⟨h9, _⟩ | ⟨rfl, rfl⟩
    · exact absurd h9 he
    · refine (fun (kk : GT J Z 1 6 _ 4 _ 4 _ _) => gt_wid (Nat.le_of_ble_eq_true rfl) (Nat.le_of_ble_eq_true rfl) kk) ?_
      refine gt_catch1 (pc := 4) C ht (q0 := (0, 9, 12, 13)) rfl (by decide) (by decide) kw_533 (by decide) (fun q => ?_)
      show G J Z 1 6 (wf i ++ [(oa, .inl (J.2.2.1 2, 1, .inr (.inl ofn)))]) 4 [(0, .ref x), (1, .int p1), (2, .ref oa)] 12 [.ref q]
      refine g_astore_n (pc := 12) C [(3, .ref q), (0, .ref x), (1, .int p1), (2, .ref oa)] dL_look_12 rfl (by decide) rfl ?_
      refine g_iconst (pc := 13) C dL_look_13 ci_1 ?_
      exact g_iretH (pc := 14) C E i (by rw [if_neg he]) dL_look_14
def rm_L_pods : Room := { frames := 11, cells := 4, slots := 24, locals := 174 }
set_option maxRecDepth 100000 in
set_option maxHeartbeats 1000000 in
theorem t_L_pods {ι : Type} {J : Jt} {w : va_W} {wf : ι → va_W} {x oa ex : Nat} {ofn : Nat → Int64} {p1 : Int32} {p2 : Int32} {p3 : Int32} {p4 : Int32} {r : Int64} {kr : Int32} {fs : List Value} (M : MtX J yX9_pods cX9_pods 12 (some .long) rm_X9_pods [.ref x, .int p1, .int p2, .int p3, .int p4] w ex (some (.long r)) wf) (hx : w[0]? = some (x, .inr (9, fs))) (hk : (ex = 0 ∧ kr = 0) ∨ (ex = 2 ∧ kr = 1)) : MtH J yL_pods cL_pods 7 (some .int) [(0, 13, 16, 13)] rm_L_pods [.ref x, .int p1, .int p2, .int p3, .int p4, .ref oa] (w ++ [(oa, .inl (J.2.2.1 2, 1, .inr (.inl ofn)))]) (some (.int kr)) (fun i => wf i ++ (if ex = 0 then [(oa, .inl (J.2.2.1 2, 1, .inr (.inl (vp_updL ofn 0 r))))] else [(oa, .inl (J.2.2.1 2, 1, .inr (.inl ofn)))])) := by
  refine MtH_of (own := RL) (by decide) rfl (Nat.le_of_ble_eq_true rfl) rfl (fun Z C E ht => ?_)
  show G J Z 0 0 (w ++ [(oa, .inl (J.2.2.1 2, 1, .inr (.inl ofn)))]) 7 [(0, .ref x), (1, .int p1), (2, .int p2), (3, .int p3), (4, .int p4), (5, .ref oa)] 0 []
  refine g_aload (pc := 0) C 5 rfl dL_pods_0 ?_
  refine g_iconst (pc := 2) C dL_pods_2 ci_0 ?_
  refine g_aload_n (pc := 3) C 0 rfl dL_pods_3 ?_
  refine g_iload_n (pc := 4) C 1 rfl dL_pods_4 ?_
  refine g_iload_n (pc := 5) C 2 rfl dL_pods_5 ?_
  refine g_iload_n (pc := 6) C 3 rfl dL_pods_6 ?_
  refine g_iload (pc := 7) C 4 rfl dL_pods_7 ?_
  refine g_xcallV (pc := 9) (wf := fun i => wf i ++ [(oa, .inl (J.2.2.1 2, 1, .inr (.inl ofn)))]) C (As := [.int p1, .int p2, .int p3, .int p4]) (st := [.int 0, .ref oa]) (ci := 9) (q0 := 0) rfl (by rw [List.getElem?_append_left (List.getElem?_eq_some_iff.mp hx).1]; exact hx) M (fun D A H hP hD => ((Sub.app Sub.same : Sub (w ++ [(oa, .inl (J.2.2.1 2, 1, .inr (.inl ofn)))]) w w (w ++ [(oa, .inl (J.2.2.1 2, 1, .inr (.inl ofn)))])) D A H hP hD).1) (fun i => Sub.app Sub.same) kw_1127 kw_1128 kw_1129 kw_86 hy_X9_pods kw_1130 rfl (Nat.le_of_ble_eq_true rfl) (Nat.le_of_ble_eq_true rfl) (Nat.le_of_ble_eq_true rfl) (Nat.le_of_ble_eq_true rfl) (Nat.le_of_ble_eq_true rfl) dL_pods_9 (fun he i => ?_) (fun he i => ?_)
  · subst he
    rcases hk with ⟨_, rfl⟩ | ⟨h9, _⟩
    · refine g_wid (n' := 4) (k' := 24) (Nat.le_of_ble_eq_true rfl) (Nat.le_of_ble_eq_true rfl) ?_
      refine g_last (pc := 12) (w' := wf i ++ [(oa, .inl (J.2.2.1 2, 1, .inr (.inl (vp_updL ofn 0 r))))]) C (wf i).length (by rw [List.getElem?_append_right (Nat.le_refl _), Nat.sub_self]; rfl) (ixb_in (by decide)) dL_pods_12 (by rw [List.set_append_right _ _ (Nat.le_refl _), Nat.sub_self]; rfl) ?_
      refine g_goto (pc := 13) C (tgt := 20) dL_pods_13 rfl ?_
      refine g_iconst (pc := 20) C dL_pods_20 ci_0 ?_
      exact g_iretH (pc := 21) C E i (by rw [if_pos rfl]) dL_pods_21
    · cases h9
  · rcases hk with ⟨h9, _⟩ | ⟨rfl, rfl⟩
    · exact absurd h9 he
    · refine (fun (kk : GT J Z 4 24 _ 7 _ 9 _ _) => gt_wid (Nat.le_of_ble_eq_true rfl) (Nat.le_of_ble_eq_true rfl) kk) ?_
      refine gt_catch1 (pc := 9) C ht (q0 := (0, 13, 16, 13)) rfl (by decide) (by decide) kw_533 (by decide) (fun q => ?_)
      show G J Z 4 24 (wf i ++ [(oa, .inl (J.2.2.1 2, 1, .inr (.inl ofn)))]) 7 [(0, .ref x), (1, .int p1), (2, .int p2), (3, .int p3), (4, .int p4), (5, .ref oa)] 16 [.ref q]
      refine g_astore (pc := 16) C [(6, .ref q), (0, .ref x), (1, .int p1), (2, .int p2), (3, .int p3), (4, .int p4), (5, .ref oa)] dL_pods_16 (by decide) rfl ?_
      refine g_iconst (pc := 18) C dL_pods_18 ci_1 ?_
      exact g_iretH (pc := 19) C E i (by rw [if_neg he]) dL_pods_19
def rm_L_she : Room := { frames := 11, cells := 3, slots := 18, locals := 171 }
set_option maxRecDepth 100000 in
set_option maxHeartbeats 1000000 in
theorem t_L_she {ι : Type} {J : Jt} {w : va_W} {wf : ι → va_W} {x oa ex : Nat} {ofn : Nat → Int64} {p1 : Int32} {p2 : Int32} {p3 : Int32} {r : Int32} {kr : Int32} {fs : List Value} (M : MtX J yX9_she cX9_she 9 (some .int) rm_X9_she [.ref x, .int p1, .int p2, .int p3] w ex (some (.int r)) wf) (hx : w[0]? = some (x, .inr (9, fs))) (hk : (ex = 0 ∧ kr = 0) ∨ (ex = 2 ∧ kr = 1)) : MtH J yL_she cL_she 6 (some .int) [(0, 12, 15, 13)] rm_L_she [.ref x, .int p1, .int p2, .int p3, .ref oa] (w ++ [(oa, .inl (J.2.2.1 2, 1, .inr (.inl ofn)))]) (some (.int kr)) (fun i => wf i ++ (if ex = 0 then [(oa, .inl (J.2.2.1 2, 1, .inr (.inl (vp_updL ofn 0 r.toInt64))))] else [(oa, .inl (J.2.2.1 2, 1, .inr (.inl ofn)))])) := by
  refine MtH_of (own := RL) (by decide) rfl (Nat.le_of_ble_eq_true rfl) rfl (fun Z C E ht => ?_)
  show G J Z 0 0 (w ++ [(oa, .inl (J.2.2.1 2, 1, .inr (.inl ofn)))]) 6 [(0, .ref x), (1, .int p1), (2, .int p2), (3, .int p3), (4, .ref oa)] 0 []
  refine g_aload (pc := 0) C 4 rfl dL_she_0 ?_
  refine g_iconst (pc := 2) C dL_she_2 ci_0 ?_
  refine g_aload_n (pc := 3) C 0 rfl dL_she_3 ?_
  refine g_iload_n (pc := 4) C 1 rfl dL_she_4 ?_
  refine g_iload_n (pc := 5) C 2 rfl dL_she_5 ?_
  refine g_iload_n (pc := 6) C 3 rfl dL_she_6 ?_
  refine g_xcallV (pc := 7) (wf := fun i => wf i ++ [(oa, .inl (J.2.2.1 2, 1, .inr (.inl ofn)))]) C (As := [.int p1, .int p2, .int p3]) (st := [.int 0, .ref oa]) (ci := 9) (q0 := 0) rfl (by rw [List.getElem?_append_left (List.getElem?_eq_some_iff.mp hx).1]; exact hx) M (fun D A H hP hD => ((Sub.app Sub.same : Sub (w ++ [(oa, .inl (J.2.2.1 2, 1, .inr (.inl ofn)))]) w w (w ++ [(oa, .inl (J.2.2.1 2, 1, .inr (.inl ofn)))])) D A H hP hD).1) (fun i => Sub.app Sub.same) kw_1138 kw_1139 kw_1140 kw_86 hy_X9_she kw_1141 rfl (Nat.le_of_ble_eq_true rfl) (Nat.le_of_ble_eq_true rfl) (Nat.le_of_ble_eq_true rfl) (Nat.le_of_ble_eq_true rfl) (Nat.le_of_ble_eq_true rfl) dL_she_7 (fun he i => ?_) (fun he i => ?_)
  · subst he
    rcases hk with ⟨_, rfl⟩ | ⟨h9, _⟩
    · refine g_wid (n' := 3) (k' := 18) (Nat.le_of_ble_eq_true rfl) (Nat.le_of_ble_eq_true rfl) ?_
      refine g_i2l (pc := 10) C dL_she_10 ?_
      refine g_last (pc := 11) (w' := wf i ++ [(oa, .inl (J.2.2.1 2, 1, .inr (.inl (vp_updL ofn 0 r.toInt64))))]) C (wf i).length (by rw [List.getElem?_append_right (Nat.le_refl _), Nat.sub_self]; rfl) (ixb_in (by decide)) dL_she_11 (by rw [List.set_append_right _ _ (Nat.le_refl _), Nat.sub_self]; rfl) ?_
      refine g_goto (pc := 12) C (tgt := 19) dL_she_12 rfl ?_
      refine g_iconst (pc := 19) C dL_she_19 ci_0 ?_
      exact g_iretH (pc := 20) C E i (by rw [if_pos rfl]) dL_she_20
    · cases h9
  · rcases hk with ⟨h9, _⟩ | ⟨rfl, rfl⟩
    · exact absurd h9 he
    · refine (fun (kk : GT J Z 3 18 _ 6 _ 7 _ _) => gt_wid (Nat.le_of_ble_eq_true rfl) (Nat.le_of_ble_eq_true rfl) kk) ?_
      refine gt_catch1 (pc := 7) C ht (q0 := (0, 12, 15, 13)) rfl (by decide) (by decide) kw_533 (by decide) (fun q => ?_)
      show G J Z 3 18 (wf i ++ [(oa, .inl (J.2.2.1 2, 1, .inr (.inl ofn)))]) 6 [(0, .ref x), (1, .int p1), (2, .int p2), (3, .int p3), (4, .ref oa)] 15 [.ref q]
      refine g_astore (pc := 15) C [(5, .ref q), (0, .ref x), (1, .int p1), (2, .int p2), (3, .int p3), (4, .ref oa)] dL_she_15 (by decide) rfl ?_
      refine g_iconst (pc := 17) C dL_she_17 ci_1 ?_
      exact g_iretH (pc := 18) C E i (by rw [if_neg he]) dL_she_18
def rm_L_seed : Room := { frames := 11, cells := 3, slots := 18, locals := 167 }
set_option maxRecDepth 100000 in
set_option maxHeartbeats 1000000 in
theorem t_L_seed {ι : Type} {J : Jt} {w : va_W} {wf : ι → va_W} {x oa ex : Nat} {ofn : Nat → Int64} {p1 : Int32} {p2 : Int32} {p3 : Int32} {r : Int32} {kr : Int32} {fs : List Value} (M : MtX J yX9_seed cX9_seed 5 (some .int) rm_X9_seed [.ref x, .int p1, .int p2, .int p3] w ex (some (.int r)) wf) (hx : w[0]? = some (x, .inr (9, fs))) (hk : (ex = 0 ∧ kr = 0) ∨ (ex = 1 ∧ kr = 1) ∨ (ex = 2 ∧ kr = 2)) : MtH J yL_seed cL_seed 6 (some .int) [(0, 12, 15, 31), (0, 12, 19, 13)] rm_L_seed [.ref x, .int p1, .int p2, .int p3, .ref oa] (w ++ [(oa, .inl (J.2.2.1 2, 1, .inr (.inl ofn)))]) (some (.int kr)) (fun i => wf i ++ (if ex = 0 then [(oa, .inl (J.2.2.1 2, 1, .inr (.inl (vp_updL ofn 0 r.toInt64))))] else [(oa, .inl (J.2.2.1 2, 1, .inr (.inl ofn)))])) := by
  refine MtH_of (own := RL) (by decide) rfl (Nat.le_of_ble_eq_true rfl) rfl (fun Z C E ht => ?_)
  show G J Z 0 0 (w ++ [(oa, .inl (J.2.2.1 2, 1, .inr (.inl ofn)))]) 6 [(0, .ref x), (1, .int p1), (2, .int p2), (3, .int p3), (4, .ref oa)] 0 []
  refine g_aload (pc := 0) C 4 rfl dL_seed_0 ?_
  refine g_iconst (pc := 2) C dL_seed_2 ci_0 ?_
  refine g_aload_n (pc := 3) C 0 rfl dL_seed_3 ?_
  refine g_iload_n (pc := 4) C 1 rfl dL_seed_4 ?_
  refine g_iload_n (pc := 5) C 2 rfl dL_seed_5 ?_
  refine g_iload_n (pc := 6) C 3 rfl dL_seed_6 ?_
  refine g_xcallV (pc := 7) (wf := fun i => wf i ++ [(oa, .inl (J.2.2.1 2, 1, .inr (.inl ofn)))]) C (As := [.int p1, .int p2, .int p3]) (st := [.int 0, .ref oa]) (ci := 9) (q0 := 0) rfl (by rw [List.getElem?_append_left (List.getElem?_eq_some_iff.mp hx).1]; exact hx) M (fun D A H hP hD => ((Sub.app Sub.same : Sub (w ++ [(oa, .inl (J.2.2.1 2, 1, .inr (.inl ofn)))]) w w (w ++ [(oa, .inl (J.2.2.1 2, 1, .inr (.inl ofn)))])) D A H hP hD).1) (fun i => Sub.app Sub.same) kw_1151 kw_1152 kw_1153 kw_86 hy_X9_seed kw_1154 rfl (Nat.le_of_ble_eq_true rfl) (Nat.le_of_ble_eq_true rfl) (Nat.le_of_ble_eq_true rfl) (Nat.le_of_ble_eq_true rfl) (Nat.le_of_ble_eq_true rfl) dL_seed_7 (fun he i => ?_) (fun he i => ?_)
  · subst he
    rcases hk with ⟨_, rfl⟩ | ⟨h9, _⟩ | ⟨h9, _⟩
    · refine g_wid (n' := 3) (k' := 18) (Nat.le_of_ble_eq_true rfl) (Nat.le_of_ble_eq_true rfl) ?_
      refine g_i2l (pc := 10) C dL_seed_10 ?_
      refine g_last (pc := 11) (w' := wf i ++ [(oa, .inl (J.2.2.1 2, 1, .inr (.inl (vp_updL ofn 0 r.toInt64))))]) C (wf i).length (by rw [List.getElem?_append_right (Nat.le_refl _), Nat.sub_self]; rfl) (ixb_in (by decide)) dL_seed_11 (by rw [List.set_append_right _ _ (Nat.le_refl _), Nat.sub_self]; rfl) ?_
      refine g_goto (pc := 12) C (tgt := 23) dL_seed_12 rfl ?_
      refine g_iconst (pc := 23) C dL_seed_23 ci_0 ?_
      exact g_iretH (pc := 24) C E i (by rw [if_pos rfl]) dL_seed_24
    · cases h9
    · cases h9
  · rcases hk with ⟨h9, _⟩ | ⟨rfl, rfl⟩ | ⟨rfl, rfl⟩
    · exact absurd h9 he
    · refine (fun (kk : GT J Z 3 18 _ 6 _ 7 _ _) => gt_wid (Nat.le_of_ble_eq_true rfl) (Nat.le_of_ble_eq_true rfl) kk) ?_
      refine gt_catch1 (pc := 7) C ht (q0 := (0, 12, 15, 31)) rfl (by decide) (by decide) kw_951 (by decide) (fun q => ?_)
      show G J Z 3 18 (wf i ++ [(oa, .inl (J.2.2.1 2, 1, .inr (.inl ofn)))]) 6 [(0, .ref x), (1, .int p1), (2, .int p2), (3, .int p3), (4, .ref oa)] 15 [.ref q]
      refine g_astore (pc := 15) C [(5, .ref q), (0, .ref x), (1, .int p1), (2, .int p2), (3, .int p3), (4, .ref oa)] dL_seed_15 (by decide) rfl ?_
      refine g_iconst (pc := 17) C dL_seed_17 ci_1 ?_
      exact g_iretH (pc := 18) C E i (by rw [if_neg he]) dL_seed_18
    · refine (fun (kk : GT J Z 3 18 _ 6 _ 7 _ _) => gt_wid (Nat.le_of_ble_eq_true rfl) (Nat.le_of_ble_eq_true rfl) kk) ?_
      refine gt_catch2 (pc := 7) C ht (q1 := (0, 12, 15, 31)) (q0 := (0, 12, 19, 13)) rfl (by decide) kw_951 (by decide) (by decide) kw_533 (fun q => ?_)
      show G J Z 3 18 (wf i ++ [(oa, .inl (J.2.2.1 2, 1, .inr (.inl ofn)))]) 6 [(0, .ref x), (1, .int p1), (2, .int p2), (3, .int p3), (4, .ref oa)] 19 [.ref q]
      refine g_astore (pc := 19) C [(5, .ref q), (0, .ref x), (1, .int p1), (2, .int p2), (3, .int p3), (4, .ref oa)] dL_seed_19 (by decide) rfl ?_
      refine g_iconst (pc := 21) C dL_seed_21 ci_2 ?_
      exact g_iretH (pc := 22) C E i (by rw [if_neg he]) dL_seed_22
def rm_L_often : Room := { frames := 11, cells := 1, slots := 6, locals := 168 }
set_option maxRecDepth 100000 in
set_option maxHeartbeats 1000000 in
theorem t_L_often {ι : Type} {J : Jt} {w : va_W} {wf : ι → va_W} {x oa ex : Nat} {ofn : Nat → Int64} {p1 : Int32} {r : Int32} {kr : Int32} {fs : List Value} (M : MtX J yX9_often cX9_often 6 (some .int) rm_X9_often [.ref x, .int p1] w ex (some (.int r)) wf) (hx : w[0]? = some (x, .inr (9, fs))) (hk : (ex = 0 ∧ kr = 0) ∨ (ex = 2 ∧ kr = 1)) : MtH J yL_often cL_often 4 (some .int) [(0, 9, 12, 13)] rm_L_often [.ref x, .int p1, .ref oa] (w ++ [(oa, .inl (J.2.2.1 2, 1, .inr (.inl ofn)))]) (some (.int kr)) (fun i => wf i ++ (if ex = 0 then [(oa, .inl (J.2.2.1 2, 1, .inr (.inl (vp_updL ofn 0 r.toInt64))))] else [(oa, .inl (J.2.2.1 2, 1, .inr (.inl ofn)))])) := by
  refine MtH_of (own := RL) (by decide) rfl (Nat.le_of_ble_eq_true rfl) rfl (fun Z C E ht => ?_)
  show G J Z 0 0 (w ++ [(oa, .inl (J.2.2.1 2, 1, .inr (.inl ofn)))]) 4 [(0, .ref x), (1, .int p1), (2, .ref oa)] 0 []
  refine g_aload_n (pc := 0) C 2 rfl dL_often_0 ?_
  refine g_iconst (pc := 1) C dL_often_1 ci_0 ?_
  refine g_aload_n (pc := 2) C 0 rfl dL_often_2 ?_
  refine g_iload_n (pc := 3) C 1 rfl dL_often_3 ?_
  refine g_xcallV (pc := 4) (wf := fun i => wf i ++ [(oa, .inl (J.2.2.1 2, 1, .inr (.inl ofn)))]) C (As := [.int p1]) (st := [.int 0, .ref oa]) (ci := 9) (q0 := 0) rfl (by rw [List.getElem?_append_left (List.getElem?_eq_some_iff.mp hx).1]; exact hx) M (fun D A H hP hD => ((Sub.app Sub.same : Sub (w ++ [(oa, .inl (J.2.2.1 2, 1, .inr (.inl ofn)))]) w w (w ++ [(oa, .inl (J.2.2.1 2, 1, .inr (.inl ofn)))])) D A H hP hD).1) (fun i => Sub.app Sub.same) kw_1162 kw_1163 kw_1164 kw_86 hy_X9_often kw_1165 rfl (Nat.le_of_ble_eq_true rfl) (Nat.le_of_ble_eq_true rfl) (Nat.le_of_ble_eq_true rfl) (Nat.le_of_ble_eq_true rfl) (Nat.le_of_ble_eq_true rfl) dL_often_4 (fun he i => ?_) (fun he i => ?_)
  · subst he
    rcases hk with ⟨_, rfl⟩ | ⟨h9, _⟩
    · refine g_wid (n' := 1) (k' := 6) (Nat.le_of_ble_eq_true rfl) (Nat.le_of_ble_eq_true rfl) ?_
      refine g_i2l (pc := 7) C dL_often_7 ?_
      refine g_last (pc := 8) (w' := wf i ++ [(oa, .inl (J.2.2.1 2, 1, .inr (.inl (vp_updL ofn 0 r.toInt64))))]) C (wf i).length (by rw [List.getElem?_append_right (Nat.le_refl _), Nat.sub_self]; rfl) (ixb_in (by decide)) dL_often_8 (by rw [List.set_append_right _ _ (Nat.le_refl _), Nat.sub_self]; rfl) ?_
      refine g_goto (pc := 9) C (tgt := 15) dL_often_9 rfl ?_
      refine g_iconst (pc := 15) C dL_often_15 ci_0 ?_
      exact g_iretH (pc := 16) C E i (by rw [if_pos rfl]) dL_often_16
    · cases h9
  · rcases hk with ⟨h9, _⟩ | ⟨rfl, rfl⟩
    · exact absurd h9 he
    · refine (fun (kk : GT J Z 1 6 _ 4 _ 4 _ _) => gt_wid (Nat.le_of_ble_eq_true rfl) (Nat.le_of_ble_eq_true rfl) kk) ?_
      refine gt_catch1 (pc := 4) C ht (q0 := (0, 9, 12, 13)) rfl (by decide) (by decide) kw_533 (by decide) (fun q => ?_)
      show G J Z 1 6 (wf i ++ [(oa, .inl (J.2.2.1 2, 1, .inr (.inl ofn)))]) 4 [(0, .ref x), (1, .int p1), (2, .ref oa)] 12 [.ref q]
      refine g_astore_n (pc := 12) C [(3, .ref q), (0, .ref x), (1, .int p1), (2, .ref oa)] dL_often_12 rfl (by decide) rfl ?_
      refine g_iconst (pc := 13) C dL_often_13 ci_1 ?_
      exact g_iretH (pc := 14) C E i (by rw [if_neg he]) dL_often_14
def rm_L_hearers : Room := { frames := 11, cells := 1, slots := 6, locals := 166 }
set_option maxRecDepth 100000 in
set_option maxHeartbeats 1000000 in
theorem t_L_hearers {ι : Type} {J : Jt} {w : va_W} {wf : ι → va_W} {x oa ex : Nat} {ofn : Nat → Int64} {p1 : Int32} {r : Int32} {kr : Int32} {fs : List Value} (M : MtX J yX9_hearers cX9_hearers 4 (some .int) rm_X9_hearers [.ref x, .int p1] w ex (some (.int r)) wf) (hx : w[0]? = some (x, .inr (9, fs))) (hk : (ex = 0 ∧ kr = 0) ∨ (ex = 2 ∧ kr = 1)) : MtH J yL_hearers cL_hearers 4 (some .int) [(0, 9, 12, 13)] rm_L_hearers [.ref x, .int p1, .ref oa] (w ++ [(oa, .inl (J.2.2.1 2, 1, .inr (.inl ofn)))]) (some (.int kr)) (fun i => wf i ++ (if ex = 0 then [(oa, .inl (J.2.2.1 2, 1, .inr (.inl (vp_updL ofn 0 r.toInt64))))] else [(oa, .inl (J.2.2.1 2, 1, .inr (.inl ofn)))])) := by
  refine MtH_of (own := RL) (by decide) rfl (Nat.le_of_ble_eq_true rfl) rfl (fun Z C E ht => ?_)
  show G J Z 0 0 (w ++ [(oa, .inl (J.2.2.1 2, 1, .inr (.inl ofn)))]) 4 [(0, .ref x), (1, .int p1), (2, .ref oa)] 0 []
  refine g_aload_n (pc := 0) C 2 rfl dL_hearers_0 ?_
  refine g_iconst (pc := 1) C dL_hearers_1 ci_0 ?_
  refine g_aload_n (pc := 2) C 0 rfl dL_hearers_2 ?_
  refine g_iload_n (pc := 3) C 1 rfl dL_hearers_3 ?_
  refine g_xcallV (pc := 4) (wf := fun i => wf i ++ [(oa, .inl (J.2.2.1 2, 1, .inr (.inl ofn)))]) C (As := [.int p1]) (st := [.int 0, .ref oa]) (ci := 9) (q0 := 0) rfl (by rw [List.getElem?_append_left (List.getElem?_eq_some_iff.mp hx).1]; exact hx) M (fun D A H hP hD => ((Sub.app Sub.same : Sub (w ++ [(oa, .inl (J.2.2.1 2, 1, .inr (.inl ofn)))]) w w (w ++ [(oa, .inl (J.2.2.1 2, 1, .inr (.inl ofn)))])) D A H hP hD).1) (fun i => Sub.app Sub.same) kw_1173 kw_1174 kw_1175 kw_86 hy_X9_hearers kw_1176 rfl (Nat.le_of_ble_eq_true rfl) (Nat.le_of_ble_eq_true rfl) (Nat.le_of_ble_eq_true rfl) (Nat.le_of_ble_eq_true rfl) (Nat.le_of_ble_eq_true rfl) dL_hearers_4 (fun he i => ?_) (fun he i => ?_)
  · subst he
    rcases hk with ⟨_, rfl⟩ | ⟨h9, _⟩
    · refine g_wid (n' := 1) (k' := 6) (Nat.le_of_ble_eq_true rfl) (Nat.le_of_ble_eq_true rfl) ?_
      refine g_i2l (pc := 7) C dL_hearers_7 ?_
      refine g_last (pc := 8) (w' := wf i ++ [(oa, .inl (J.2.2.1 2, 1, .inr (.inl (vp_updL ofn 0 r.toInt64))))]) C (wf i).length (by rw [List.getElem?_append_right (Nat.le_refl _), Nat.sub_self]; rfl) (ixb_in (by decide)) dL_hearers_8 (by rw [List.set_append_right _ _ (Nat.le_refl _), Nat.sub_self]; rfl) ?_
      refine g_goto (pc := 9) C (tgt := 15) dL_hearers_9 rfl ?_
      refine g_iconst (pc := 15) C dL_hearers_15 ci_0 ?_
      exact g_iretH (pc := 16) C E i (by rw [if_pos rfl]) dL_hearers_16
    · cases h9
  · rcases hk with ⟨h9, _⟩ | ⟨rfl, rfl⟩
    · exact absurd h9 he
    · refine (fun (kk : GT J Z 1 6 _ 4 _ 4 _ _) => gt_wid (Nat.le_of_ble_eq_true rfl) (Nat.le_of_ble_eq_true rfl) kk) ?_
      refine gt_catch1 (pc := 4) C ht (q0 := (0, 9, 12, 13)) rfl (by decide) (by decide) kw_533 (by decide) (fun q => ?_)
      show G J Z 1 6 (wf i ++ [(oa, .inl (J.2.2.1 2, 1, .inr (.inl ofn)))]) 4 [(0, .ref x), (1, .int p1), (2, .ref oa)] 12 [.ref q]
      refine g_astore_n (pc := 12) C [(3, .ref q), (0, .ref x), (1, .int p1), (2, .ref oa)] dL_hearers_12 rfl (by decide) rfl ?_
      refine g_iconst (pc := 13) C dL_hearers_13 ci_1 ?_
      exact g_iretH (pc := 14) C E i (by rw [if_neg he]) dL_hearers_14
def rm_L_news : Room := { frames := 11, cells := 2, slots := 12, locals := 165 }
set_option maxRecDepth 100000 in
set_option maxHeartbeats 1000000 in
theorem t_L_news {ι : Type} {J : Jt} {w : va_W} {wf : ι → va_W} {x oa ex : Nat} {ofn : Nat → Int64} {p1 : Int32} {p2 : Int32} {r : Int32} {kr : Int32} {fs : List Value} (M : MtX J yX9_news cX9_news 3 (some .int) rm_X9_news [.ref x, .int p1, .int p2] w ex (some (.int r)) wf) (hx : w[0]? = some (x, .inr (9, fs))) (hk : (ex = 0 ∧ kr = 0) ∨ (ex = 1 ∧ kr = 1) ∨ (ex = 2 ∧ kr = 2)) : MtH J yL_news cL_news 5 (some .int) [(0, 10, 13, 31), (0, 10, 17, 13)] rm_L_news [.ref x, .int p1, .int p2, .ref oa] (w ++ [(oa, .inl (J.2.2.1 2, 1, .inr (.inl ofn)))]) (some (.int kr)) (fun i => wf i ++ (if ex = 0 then [(oa, .inl (J.2.2.1 2, 1, .inr (.inl (vp_updL ofn 0 r.toInt64))))] else [(oa, .inl (J.2.2.1 2, 1, .inr (.inl ofn)))])) := by
  refine MtH_of (own := RL) (by decide) rfl (Nat.le_of_ble_eq_true rfl) rfl (fun Z C E ht => ?_)
  show G J Z 0 0 (w ++ [(oa, .inl (J.2.2.1 2, 1, .inr (.inl ofn)))]) 5 [(0, .ref x), (1, .int p1), (2, .int p2), (3, .ref oa)] 0 []
  refine g_aload_n (pc := 0) C 3 rfl dL_news_0 ?_
  refine g_iconst (pc := 1) C dL_news_1 ci_0 ?_
  refine g_aload_n (pc := 2) C 0 rfl dL_news_2 ?_
  refine g_iload_n (pc := 3) C 1 rfl dL_news_3 ?_
  refine g_iload_n (pc := 4) C 2 rfl dL_news_4 ?_
  refine g_xcallV (pc := 5) (wf := fun i => wf i ++ [(oa, .inl (J.2.2.1 2, 1, .inr (.inl ofn)))]) C (As := [.int p1, .int p2]) (st := [.int 0, .ref oa]) (ci := 9) (q0 := 0) rfl (by rw [List.getElem?_append_left (List.getElem?_eq_some_iff.mp hx).1]; exact hx) M (fun D A H hP hD => ((Sub.app Sub.same : Sub (w ++ [(oa, .inl (J.2.2.1 2, 1, .inr (.inl ofn)))]) w w (w ++ [(oa, .inl (J.2.2.1 2, 1, .inr (.inl ofn)))])) D A H hP hD).1) (fun i => Sub.app Sub.same) kw_1180 kw_1181 kw_1182 kw_86 hy_X9_news kw_1183 rfl (Nat.le_of_ble_eq_true rfl) (Nat.le_of_ble_eq_true rfl) (Nat.le_of_ble_eq_true rfl) (Nat.le_of_ble_eq_true rfl) (Nat.le_of_ble_eq_true rfl) dL_news_5 (fun he i => ?_) (fun he i => ?_)
  · subst he
    rcases hk with ⟨_, rfl⟩ | ⟨h9, _⟩ | ⟨h9, _⟩
    · refine g_wid (n' := 2) (k' := 12) (Nat.le_of_ble_eq_true rfl) (Nat.le_of_ble_eq_true rfl) ?_
      refine g_i2l (pc := 8) C dL_news_8 ?_
      refine g_last (pc := 9) (w' := wf i ++ [(oa, .inl (J.2.2.1 2, 1, .inr (.inl (vp_updL ofn 0 r.toInt64))))]) C (wf i).length (by rw [List.getElem?_append_right (Nat.le_refl _), Nat.sub_self]; rfl) (ixb_in (by decide)) dL_news_9 (by rw [List.set_append_right _ _ (Nat.le_refl _), Nat.sub_self]; rfl) ?_
      refine g_goto (pc := 10) C (tgt := 21) dL_news_10 rfl ?_
      refine g_iconst (pc := 21) C dL_news_21 ci_0 ?_
      exact g_iretH (pc := 22) C E i (by rw [if_pos rfl]) dL_news_22
    · cases h9
    · cases h9
  · rcases hk with ⟨h9, _⟩ | ⟨rfl, rfl⟩ | ⟨rfl, rfl⟩
    · exact absurd h9 he
    · refine (fun (kk : GT J Z 2 12 _ 5 _ 5 _ _) => gt_wid (Nat.le_of_ble_eq_true rfl) (Nat.le_of_ble_eq_true rfl) kk) ?_
      refine gt_catch1 (pc := 5) C ht (q0 := (0, 10, 13, 31)) rfl (by decide) (by decide) kw_951 (by decide) (fun q => ?_)
      show G J Z 2 12 (wf i ++ [(oa, .inl (J.2.2.1 2, 1, .inr (.inl ofn)))]) 5 [(0, .ref x), (1, .int p1), (2, .int p2), (3, .ref oa)] 13 [.ref q]
      refine g_astore (pc := 13) C [(4, .ref q), (0, .ref x), (1, .int p1), (2, .int p2), (3, .ref oa)] dL_news_13 (by decide) rfl ?_
      refine g_iconst (pc := 15) C dL_news_15 ci_1 ?_
      exact g_iretH (pc := 16) C E i (by rw [if_neg he]) dL_news_16
    · refine (fun (kk : GT J Z 2 12 _ 5 _ 5 _ _) => gt_wid (Nat.le_of_ble_eq_true rfl) (Nat.le_of_ble_eq_true rfl) kk) ?_
      refine gt_catch2 (pc := 5) C ht (q1 := (0, 10, 13, 31)) (q0 := (0, 10, 17, 13)) rfl (by decide) kw_951 (by decide) (by decide) kw_533 (fun q => ?_)
      show G J Z 2 12 (wf i ++ [(oa, .inl (J.2.2.1 2, 1, .inr (.inl ofn)))]) 5 [(0, .ref x), (1, .int p1), (2, .int p2), (3, .ref oa)] 17 [.ref q]
      refine g_astore (pc := 17) C [(4, .ref q), (0, .ref x), (1, .int p1), (2, .int p2), (3, .ref oa)] dL_news_17 (by decide) rfl ?_
      refine g_iconst (pc := 19) C dL_news_19 ci_2 ?_
      exact g_iretH (pc := 20) C E i (by rw [if_neg he]) dL_news_20
def rm_L_full : Room := { frames := 11, cells := 1, slots := 6, locals := 167 }
set_option maxRecDepth 100000 in
set_option maxHeartbeats 1000000 in
theorem t_L_full {ι : Type} {J : Jt} {w : va_W} {wf : ι → va_W} {x oa ex : Nat} {ofn : Nat → Int64} {p1 : Int32} {r : Int32} {kr : Int32} {fs : List Value} (M : MtX J yX9_full cX9_full 5 (some .int) rm_X9_full [.ref x, .int p1] w ex (some (.int r)) wf) (hx : w[0]? = some (x, .inr (9, fs))) (hk : (ex = 0 ∧ kr = 0) ∨ (ex = 2 ∧ kr = 1)) : MtH J yL_full cL_full 4 (some .int) [(0, 9, 12, 13)] rm_L_full [.ref x, .int p1, .ref oa] (w ++ [(oa, .inl (J.2.2.1 2, 1, .inr (.inl ofn)))]) (some (.int kr)) (fun i => wf i ++ (if ex = 0 then [(oa, .inl (J.2.2.1 2, 1, .inr (.inl (vp_updL ofn 0 r.toInt64))))] else [(oa, .inl (J.2.2.1 2, 1, .inr (.inl ofn)))])) := by
  refine MtH_of (own := RL) (by decide) rfl (Nat.le_of_ble_eq_true rfl) rfl (fun Z C E ht => ?_)
  show G J Z 0 0 (w ++ [(oa, .inl (J.2.2.1 2, 1, .inr (.inl ofn)))]) 4 [(0, .ref x), (1, .int p1), (2, .ref oa)] 0 []
  refine g_aload_n (pc := 0) C 2 rfl dL_full_0 ?_
  refine g_iconst (pc := 1) C dL_full_1 ci_0 ?_
  refine g_aload_n (pc := 2) C 0 rfl dL_full_2 ?_
  refine g_iload_n (pc := 3) C 1 rfl dL_full_3 ?_
  refine g_xcallV (pc := 4) (wf := fun i => wf i ++ [(oa, .inl (J.2.2.1 2, 1, .inr (.inl ofn)))]) C (As := [.int p1]) (st := [.int 0, .ref oa]) (ci := 9) (q0 := 0) rfl (by rw [List.getElem?_append_left (List.getElem?_eq_some_iff.mp hx).1]; exact hx) M (fun D A H hP hD => ((Sub.app Sub.same : Sub (w ++ [(oa, .inl (J.2.2.1 2, 1, .inr (.inl ofn)))]) w w (w ++ [(oa, .inl (J.2.2.1 2, 1, .inr (.inl ofn)))])) D A H hP hD).1) (fun i => Sub.app Sub.same) kw_1188 kw_1189 kw_1190 kw_86 hy_X9_full kw_1191 rfl (Nat.le_of_ble_eq_true rfl) (Nat.le_of_ble_eq_true rfl) (Nat.le_of_ble_eq_true rfl) (Nat.le_of_ble_eq_true rfl) (Nat.le_of_ble_eq_true rfl) dL_full_4 (fun he i => ?_) (fun he i => ?_)
  · subst he
    rcases hk with ⟨_, rfl⟩ | ⟨h9, _⟩
    · refine g_wid (n' := 1) (k' := 6) (Nat.le_of_ble_eq_true rfl) (Nat.le_of_ble_eq_true rfl) ?_
      refine g_i2l (pc := 7) C dL_full_7 ?_
      refine g_last (pc := 8) (w' := wf i ++ [(oa, .inl (J.2.2.1 2, 1, .inr (.inl (vp_updL ofn 0 r.toInt64))))]) C (wf i).length (by rw [List.getElem?_append_right (Nat.le_refl _), Nat.sub_self]; rfl) (ixb_in (by decide)) dL_full_8 (by rw [List.set_append_right _ _ (Nat.le_refl _), Nat.sub_self]; rfl) ?_
      refine g_goto (pc := 9) C (tgt := 15) dL_full_9 rfl ?_
      refine g_iconst (pc := 15) C dL_full_15 ci_0 ?_
      exact g_iretH (pc := 16) C E i (by rw [if_pos rfl]) dL_full_16
    · cases h9
  · rcases hk with ⟨h9, _⟩ | ⟨rfl, rfl⟩
    · exact absurd h9 he
    · refine (fun (kk : GT J Z 1 6 _ 4 _ 4 _ _) => gt_wid (Nat.le_of_ble_eq_true rfl) (Nat.le_of_ble_eq_true rfl) kk) ?_
      refine gt_catch1 (pc := 4) C ht (q0 := (0, 9, 12, 13)) rfl (by decide) (by decide) kw_533 (by decide) (fun q => ?_)
      show G J Z 1 6 (wf i ++ [(oa, .inl (J.2.2.1 2, 1, .inr (.inl ofn)))]) 4 [(0, .ref x), (1, .int p1), (2, .ref oa)] 12 [.ref q]
      refine g_astore_n (pc := 12) C [(3, .ref q), (0, .ref x), (1, .int p1), (2, .ref oa)] dL_full_12 rfl (by decide) rfl ?_
      refine g_iconst (pc := 13) C dL_full_13 ci_1 ?_
      exact g_iretH (pc := 14) C E i (by rw [if_neg he]) dL_full_14
def rm_L_drains : Room := { frames := 11, cells := 1, slots := 6, locals := 165 }
set_option maxRecDepth 100000 in
set_option maxHeartbeats 1000000 in
theorem t_L_drains {ι : Type} {J : Jt} {w : va_W} {wf : ι → va_W} {x oa ex : Nat} {ofn : Nat → Int64} {p1 : Int32} {r : Int32} {kr : Int32} {fs : List Value} (M : MtX J yX9_drains cX9_drains 4 (some .int) rm_X9_drains [.ref x, .int p1] w ex (some (.int r)) wf) (hx : w[0]? = some (x, .inr (9, fs))) (hk : (ex = 0 ∧ kr = 0) ∨ (ex = 1 ∧ kr = 1)) : MtH J yL_drains cL_drains 4 (some .int) [(0, 9, 12, 31)] rm_L_drains [.ref x, .int p1, .ref oa] (w ++ [(oa, .inl (J.2.2.1 2, 1, .inr (.inl ofn)))]) (some (.int kr)) (fun i => wf i ++ (if ex = 0 then [(oa, .inl (J.2.2.1 2, 1, .inr (.inl (vp_updL ofn 0 r.toInt64))))] else [(oa, .inl (J.2.2.1 2, 1, .inr (.inl ofn)))])) := by
  refine MtH_of (own := RL) (by decide) rfl (Nat.le_of_ble_eq_true rfl) rfl (fun Z C E ht => ?_)
  show G J Z 0 0 (w ++ [(oa, .inl (J.2.2.1 2, 1, .inr (.inl ofn)))]) 4 [(0, .ref x), (1, .int p1), (2, .ref oa)] 0 []
  refine g_aload_n (pc := 0) C 2 rfl dL_drains_0 ?_
  refine g_iconst (pc := 1) C dL_drains_1 ci_0 ?_
  refine g_aload_n (pc := 2) C 0 rfl dL_drains_2 ?_
  refine g_iload_n (pc := 3) C 1 rfl dL_drains_3 ?_
  refine g_xcallV (pc := 4) (wf := fun i => wf i ++ [(oa, .inl (J.2.2.1 2, 1, .inr (.inl ofn)))]) C (As := [.int p1]) (st := [.int 0, .ref oa]) (ci := 9) (q0 := 0) rfl (by rw [List.getElem?_append_left (List.getElem?_eq_some_iff.mp hx).1]; exact hx) M (fun D A H hP hD => ((Sub.app Sub.same : Sub (w ++ [(oa, .inl (J.2.2.1 2, 1, .inr (.inl ofn)))]) w w (w ++ [(oa, .inl (J.2.2.1 2, 1, .inr (.inl ofn)))])) D A H hP hD).1) (fun i => Sub.app Sub.same) kw_1195 kw_1196 kw_1197 kw_86 hy_X9_drains kw_1198 rfl (Nat.le_of_ble_eq_true rfl) (Nat.le_of_ble_eq_true rfl) (Nat.le_of_ble_eq_true rfl) (Nat.le_of_ble_eq_true rfl) (Nat.le_of_ble_eq_true rfl) dL_drains_4 (fun he i => ?_) (fun he i => ?_)
  · subst he
    rcases hk with ⟨_, rfl⟩ | ⟨h9, _⟩
    · refine g_wid (n' := 1) (k' := 6) (Nat.le_of_ble_eq_true rfl) (Nat.le_of_ble_eq_true rfl) ?_
      refine g_i2l (pc := 7) C dL_drains_7 ?_
      refine g_last (pc := 8) (w' := wf i ++ [(oa, .inl (J.2.2.1 2, 1, .inr (.inl (vp_updL ofn 0 r.toInt64))))]) C (wf i).length (by rw [List.getElem?_append_right (Nat.le_refl _), Nat.sub_self]; rfl) (ixb_in (by decide)) dL_drains_8 (by rw [List.set_append_right _ _ (Nat.le_refl _), Nat.sub_self]; rfl) ?_
      refine g_goto (pc := 9) C (tgt := 15) dL_drains_9 rfl ?_
      refine g_iconst (pc := 15) C dL_drains_15 ci_0 ?_
      exact g_iretH (pc := 16) C E i (by rw [if_pos rfl]) dL_drains_16
    · cases h9
  · rcases hk with ⟨h9, _⟩ | ⟨rfl, rfl⟩
    · exact absurd h9 he
    · refine (fun (kk : GT J Z 1 6 _ 4 _ 4 _ _) => gt_wid (Nat.le_of_ble_eq_true rfl) (Nat.le_of_ble_eq_true rfl) kk) ?_
      refine gt_catch1 (pc := 4) C ht (q0 := (0, 9, 12, 31)) rfl (by decide) (by decide) kw_951 (by decide) (fun q => ?_)
      show G J Z 1 6 (wf i ++ [(oa, .inl (J.2.2.1 2, 1, .inr (.inl ofn)))]) 4 [(0, .ref x), (1, .int p1), (2, .ref oa)] 12 [.ref q]
      refine g_astore_n (pc := 12) C [(3, .ref q), (0, .ref x), (1, .int p1), (2, .ref oa)] dL_drains_12 rfl (by decide) rfl ?_
      refine g_iconst (pc := 13) C dL_drains_13 ci_1 ?_
      exact g_iretH (pc := 14) C E i (by rw [if_neg he]) dL_drains_14
def rm_L_unread : Room := { frames := 11, cells := 1, slots := 6, locals := 163 }
set_option maxRecDepth 100000 in
set_option maxHeartbeats 1000000 in
theorem t_L_unread {ι : Type} {J : Jt} {w : va_W} {wf : ι → va_W} {x oa ex : Nat} {ofn : Nat → Int64} {p1 : Int32} {r : Int32} {kr : Int32} {fs : List Value} (M : MtX J yX9_unread cX9_unread 2 (some .int) rm_X9_unread [.ref x, .int p1] w ex (some (.int r)) wf) (hx : w[0]? = some (x, .inr (9, fs))) (hk : (ex = 0 ∧ kr = 0) ∨ (ex = 1 ∧ kr = 1)) : MtH J yL_unread cL_unread 4 (some .int) [(0, 9, 12, 31)] rm_L_unread [.ref x, .int p1, .ref oa] (w ++ [(oa, .inl (J.2.2.1 2, 1, .inr (.inl ofn)))]) (some (.int kr)) (fun i => wf i ++ (if ex = 0 then [(oa, .inl (J.2.2.1 2, 1, .inr (.inl (vp_updL ofn 0 r.toInt64))))] else [(oa, .inl (J.2.2.1 2, 1, .inr (.inl ofn)))])) := by
  refine MtH_of (own := RL) (by decide) rfl (Nat.le_of_ble_eq_true rfl) rfl (fun Z C E ht => ?_)
  show G J Z 0 0 (w ++ [(oa, .inl (J.2.2.1 2, 1, .inr (.inl ofn)))]) 4 [(0, .ref x), (1, .int p1), (2, .ref oa)] 0 []
  refine g_aload_n (pc := 0) C 2 rfl dL_unread_0 ?_
  refine g_iconst (pc := 1) C dL_unread_1 ci_0 ?_
  refine g_aload_n (pc := 2) C 0 rfl dL_unread_2 ?_
  refine g_iload_n (pc := 3) C 1 rfl dL_unread_3 ?_
  refine g_xcallV (pc := 4) (wf := fun i => wf i ++ [(oa, .inl (J.2.2.1 2, 1, .inr (.inl ofn)))]) C (As := [.int p1]) (st := [.int 0, .ref oa]) (ci := 9) (q0 := 0) rfl (by rw [List.getElem?_append_left (List.getElem?_eq_some_iff.mp hx).1]; exact hx) M (fun D A H hP hD => ((Sub.app Sub.same : Sub (w ++ [(oa, .inl (J.2.2.1 2, 1, .inr (.inl ofn)))]) w w (w ++ [(oa, .inl (J.2.2.1 2, 1, .inr (.inl ofn)))])) D A H hP hD).1) (fun i => Sub.app Sub.same) kw_1202 kw_1203 kw_1204 kw_86 hy_X9_unread kw_1205 rfl (Nat.le_of_ble_eq_true rfl) (Nat.le_of_ble_eq_true rfl) (Nat.le_of_ble_eq_true rfl) (Nat.le_of_ble_eq_true rfl) (Nat.le_of_ble_eq_true rfl) dL_unread_4 (fun he i => ?_) (fun he i => ?_)
  · subst he
    rcases hk with ⟨_, rfl⟩ | ⟨h9, _⟩
    · refine g_wid (n' := 1) (k' := 6) (Nat.le_of_ble_eq_true rfl) (Nat.le_of_ble_eq_true rfl) ?_
      refine g_i2l (pc := 7) C dL_unread_7 ?_
      refine g_last (pc := 8) (w' := wf i ++ [(oa, .inl (J.2.2.1 2, 1, .inr (.inl (vp_updL ofn 0 r.toInt64))))]) C (wf i).length (by rw [List.getElem?_append_right (Nat.le_refl _), Nat.sub_self]; rfl) (ixb_in (by decide)) dL_unread_8 (by rw [List.set_append_right _ _ (Nat.le_refl _), Nat.sub_self]; rfl) ?_
      refine g_goto (pc := 9) C (tgt := 15) dL_unread_9 rfl ?_
      refine g_iconst (pc := 15) C dL_unread_15 ci_0 ?_
      exact g_iretH (pc := 16) C E i (by rw [if_pos rfl]) dL_unread_16
    · cases h9
  · rcases hk with ⟨h9, _⟩ | ⟨rfl, rfl⟩
    · exact absurd h9 he
    · refine (fun (kk : GT J Z 1 6 _ 4 _ 4 _ _) => gt_wid (Nat.le_of_ble_eq_true rfl) (Nat.le_of_ble_eq_true rfl) kk) ?_
      refine gt_catch1 (pc := 4) C ht (q0 := (0, 9, 12, 31)) rfl (by decide) (by decide) kw_951 (by decide) (fun q => ?_)
      show G J Z 1 6 (wf i ++ [(oa, .inl (J.2.2.1 2, 1, .inr (.inl ofn)))]) 4 [(0, .ref x), (1, .int p1), (2, .ref oa)] 12 [.ref q]
      refine g_astore_n (pc := 12) C [(3, .ref q), (0, .ref x), (1, .int p1), (2, .ref oa)] dL_unread_12 rfl (by decide) rfl ?_
      refine g_iconst (pc := 13) C dL_unread_13 ci_1 ?_
      exact g_iretH (pc := 14) C E i (by rw [if_neg he]) dL_unread_14
def rm_L_coming : Room := { frames := 11, cells := 2, slots := 12, locals := 167 }
set_option maxRecDepth 100000 in
set_option maxHeartbeats 1000000 in
theorem t_L_coming {ι : Type} {J : Jt} {w : va_W} {wf : ι → va_W} {x oa ex : Nat} {ofn : Nat → Int64} {p1 : Int32} {p2 : Int32} {r : Int32} {kr : Int32} {fs : List Value} (M : MtX J yX9_coming cX9_coming 5 (some .int) rm_X9_coming [.ref x, .int p1, .int p2] w ex (some (.int r)) wf) (hx : w[0]? = some (x, .inr (9, fs))) (hk : (ex = 0 ∧ kr = 0) ∨ (ex = 1 ∧ kr = 1) ∨ (ex = 2 ∧ kr = 2)) : MtH J yL_coming cL_coming 5 (some .int) [(0, 10, 13, 31), (0, 10, 17, 13)] rm_L_coming [.ref x, .int p1, .int p2, .ref oa] (w ++ [(oa, .inl (J.2.2.1 2, 1, .inr (.inl ofn)))]) (some (.int kr)) (fun i => wf i ++ (if ex = 0 then [(oa, .inl (J.2.2.1 2, 1, .inr (.inl (vp_updL ofn 0 r.toInt64))))] else [(oa, .inl (J.2.2.1 2, 1, .inr (.inl ofn)))])) := by
  refine MtH_of (own := RL) (by decide) rfl (Nat.le_of_ble_eq_true rfl) rfl (fun Z C E ht => ?_)
  show G J Z 0 0 (w ++ [(oa, .inl (J.2.2.1 2, 1, .inr (.inl ofn)))]) 5 [(0, .ref x), (1, .int p1), (2, .int p2), (3, .ref oa)] 0 []
  refine g_aload_n (pc := 0) C 3 rfl dL_coming_0 ?_
  refine g_iconst (pc := 1) C dL_coming_1 ci_0 ?_
  refine g_aload_n (pc := 2) C 0 rfl dL_coming_2 ?_
  refine g_iload_n (pc := 3) C 1 rfl dL_coming_3 ?_
  refine g_iload_n (pc := 4) C 2 rfl dL_coming_4 ?_
  refine g_xcallV (pc := 5) (wf := fun i => wf i ++ [(oa, .inl (J.2.2.1 2, 1, .inr (.inl ofn)))]) C (As := [.int p1, .int p2]) (st := [.int 0, .ref oa]) (ci := 9) (q0 := 0) rfl (by rw [List.getElem?_append_left (List.getElem?_eq_some_iff.mp hx).1]; exact hx) M (fun D A H hP hD => ((Sub.app Sub.same : Sub (w ++ [(oa, .inl (J.2.2.1 2, 1, .inr (.inl ofn)))]) w w (w ++ [(oa, .inl (J.2.2.1 2, 1, .inr (.inl ofn)))])) D A H hP hD).1) (fun i => Sub.app Sub.same) kw_1209 kw_1210 kw_1211 kw_86 hy_X9_coming kw_1212 rfl (Nat.le_of_ble_eq_true rfl) (Nat.le_of_ble_eq_true rfl) (Nat.le_of_ble_eq_true rfl) (Nat.le_of_ble_eq_true rfl) (Nat.le_of_ble_eq_true rfl) dL_coming_5 (fun he i => ?_) (fun he i => ?_)
  · subst he
    rcases hk with ⟨_, rfl⟩ | ⟨h9, _⟩ | ⟨h9, _⟩
    · refine g_wid (n' := 2) (k' := 12) (Nat.le_of_ble_eq_true rfl) (Nat.le_of_ble_eq_true rfl) ?_
      refine g_i2l (pc := 8) C dL_coming_8 ?_
      refine g_last (pc := 9) (w' := wf i ++ [(oa, .inl (J.2.2.1 2, 1, .inr (.inl (vp_updL ofn 0 r.toInt64))))]) C (wf i).length (by rw [List.getElem?_append_right (Nat.le_refl _), Nat.sub_self]; rfl) (ixb_in (by decide)) dL_coming_9 (by rw [List.set_append_right _ _ (Nat.le_refl _), Nat.sub_self]; rfl) ?_
      refine g_goto (pc := 10) C (tgt := 21) dL_coming_10 rfl ?_
      refine g_iconst (pc := 21) C dL_coming_21 ci_0 ?_
      exact g_iretH (pc := 22) C E i (by rw [if_pos rfl]) dL_coming_22
    · cases h9
    · cases h9
  · rcases hk with ⟨h9, _⟩ | ⟨rfl, rfl⟩ | ⟨rfl, rfl⟩
    · exact absurd h9 he
    · refine (fun (kk : GT J Z 2 12 _ 5 _ 5 _ _) => gt_wid (Nat.le_of_ble_eq_true rfl) (Nat.le_of_ble_eq_true rfl) kk) ?_
      refine gt_catch1 (pc := 5) C ht (q0 := (0, 10, 13, 31)) rfl (by decide) (by decide) kw_951 (by decide) (fun q => ?_)
      show G J Z 2 12 (wf i ++ [(oa, .inl (J.2.2.1 2, 1, .inr (.inl ofn)))]) 5 [(0, .ref x), (1, .int p1), (2, .int p2), (3, .ref oa)] 13 [.ref q]
      refine g_astore (pc := 13) C [(4, .ref q), (0, .ref x), (1, .int p1), (2, .int p2), (3, .ref oa)] dL_coming_13 (by decide) rfl ?_
      refine g_iconst (pc := 15) C dL_coming_15 ci_1 ?_
      exact g_iretH (pc := 16) C E i (by rw [if_neg he]) dL_coming_16
    · refine (fun (kk : GT J Z 2 12 _ 5 _ 5 _ _) => gt_wid (Nat.le_of_ble_eq_true rfl) (Nat.le_of_ble_eq_true rfl) kk) ?_
      refine gt_catch2 (pc := 5) C ht (q1 := (0, 10, 13, 31)) (q0 := (0, 10, 17, 13)) rfl (by decide) kw_951 (by decide) (by decide) kw_533 (fun q => ?_)
      show G J Z 2 12 (wf i ++ [(oa, .inl (J.2.2.1 2, 1, .inr (.inl ofn)))]) 5 [(0, .ref x), (1, .int p1), (2, .int p2), (3, .ref oa)] 17 [.ref q]
      refine g_astore (pc := 17) C [(4, .ref q), (0, .ref x), (1, .int p1), (2, .int p2), (3, .ref oa)] dL_coming_17 (by decide) rfl ?_
      refine g_iconst (pc := 19) C dL_coming_19 ci_2 ?_
      exact g_iretH (pc := 20) C E i (by rw [if_neg he]) dL_coming_20
def rm_L_shared : Room := { frames := 11, cells := 2, slots := 12, locals := 164 }
set_option maxRecDepth 100000 in
set_option maxHeartbeats 1000000 in
theorem t_L_shared {ι : Type} {J : Jt} {w : va_W} {wf : ι → va_W} {x oa ex : Nat} {ofn : Nat → Int64} {p1 : Int32} {p2 : Int32} {r : Int32} {kr : Int32} {fs : List Value} (M : MtX J yX9_shared cX9_shared 3 (some .int) rm_X9_shared [.ref x, .int p1, .int p2] w ex (some (.int r)) wf) (hx : w[0]? = some (x, .inr (9, fs))) (hk : (ex = 0 ∧ kr = 0) ∨ (ex = 1 ∧ kr = 1)) : MtH J yL_shared cL_shared 5 (some .int) [(0, 10, 13, 31)] rm_L_shared [.ref x, .int p1, .int p2, .ref oa] (w ++ [(oa, .inl (J.2.2.1 2, 1, .inr (.inl ofn)))]) (some (.int kr)) (fun i => wf i ++ (if ex = 0 then [(oa, .inl (J.2.2.1 2, 1, .inr (.inl (vp_updL ofn 0 r.toInt64))))] else [(oa, .inl (J.2.2.1 2, 1, .inr (.inl ofn)))])) := by
  refine MtH_of (own := RL) (by decide) rfl (Nat.le_of_ble_eq_true rfl) rfl (fun Z C E ht => ?_)
  show G J Z 0 0 (w ++ [(oa, .inl (J.2.2.1 2, 1, .inr (.inl ofn)))]) 5 [(0, .ref x), (1, .int p1), (2, .int p2), (3, .ref oa)] 0 []
  refine g_aload_n (pc := 0) C 3 rfl dL_shared_0 ?_
  refine g_iconst (pc := 1) C dL_shared_1 ci_0 ?_
  refine g_aload_n (pc := 2) C 0 rfl dL_shared_2 ?_
  refine g_iload_n (pc := 3) C 1 rfl dL_shared_3 ?_
  refine g_iload_n (pc := 4) C 2 rfl dL_shared_4 ?_
  refine g_xcallV (pc := 5) (wf := fun i => wf i ++ [(oa, .inl (J.2.2.1 2, 1, .inr (.inl ofn)))]) C (As := [.int p1, .int p2]) (st := [.int 0, .ref oa]) (ci := 9) (q0 := 0) rfl (by rw [List.getElem?_append_left (List.getElem?_eq_some_iff.mp hx).1]; exact hx) M (fun D A H hP hD => ((Sub.app Sub.same : Sub (w ++ [(oa, .inl (J.2.2.1 2, 1, .inr (.inl ofn)))]) w w (w ++ [(oa, .inl (J.2.2.1 2, 1, .inr (.inl ofn)))])) D A H hP hD).1) (fun i => Sub.app Sub.same) kw_1216 kw_1217 kw_1218 kw_86 hy_X9_shared kw_1219 rfl (Nat.le_of_ble_eq_true rfl) (Nat.le_of_ble_eq_true rfl) (Nat.le_of_ble_eq_true rfl) (Nat.le_of_ble_eq_true rfl) (Nat.le_of_ble_eq_true rfl) dL_shared_5 (fun he i => ?_) (fun he i => ?_)
  · subst he
    rcases hk with ⟨_, rfl⟩ | ⟨h9, _⟩
    · refine g_wid (n' := 2) (k' := 12) (Nat.le_of_ble_eq_true rfl) (Nat.le_of_ble_eq_true rfl) ?_
      refine g_i2l (pc := 8) C dL_shared_8 ?_
      refine g_last (pc := 9) (w' := wf i ++ [(oa, .inl (J.2.2.1 2, 1, .inr (.inl (vp_updL ofn 0 r.toInt64))))]) C (wf i).length (by rw [List.getElem?_append_right (Nat.le_refl _), Nat.sub_self]; rfl) (ixb_in (by decide)) dL_shared_9 (by rw [List.set_append_right _ _ (Nat.le_refl _), Nat.sub_self]; rfl) ?_
      refine g_goto (pc := 10) C (tgt := 17) dL_shared_10 rfl ?_
      refine g_iconst (pc := 17) C dL_shared_17 ci_0 ?_
      exact g_iretH (pc := 18) C E i (by rw [if_pos rfl]) dL_shared_18
    · cases h9
  · rcases hk with ⟨h9, _⟩ | ⟨rfl, rfl⟩
    · exact absurd h9 he
    · refine (fun (kk : GT J Z 2 12 _ 5 _ 5 _ _) => gt_wid (Nat.le_of_ble_eq_true rfl) (Nat.le_of_ble_eq_true rfl) kk) ?_
      refine gt_catch1 (pc := 5) C ht (q0 := (0, 10, 13, 31)) rfl (by decide) (by decide) kw_951 (by decide) (fun q => ?_)
      show G J Z 2 12 (wf i ++ [(oa, .inl (J.2.2.1 2, 1, .inr (.inl ofn)))]) 5 [(0, .ref x), (1, .int p1), (2, .int p2), (3, .ref oa)] 13 [.ref q]
      refine g_astore (pc := 13) C [(4, .ref q), (0, .ref x), (1, .int p1), (2, .int p2), (3, .ref oa)] dL_shared_13 (by decide) rfl ?_
      refine g_iconst (pc := 15) C dL_shared_15 ci_1 ?_
      exact g_iretH (pc := 16) C E i (by rw [if_neg he]) dL_shared_16
def rm_L_summer : Room := { frames := 11, cells := 3, slots := 18, locals := 180 }
set_option maxRecDepth 100000 in
set_option maxHeartbeats 1000000 in
theorem t_L_summer {ι : Type} {J : Jt} {w : va_W} {wf : ι → va_W} {x oa ex : Nat} {ofn : Nat → Int64} {p1 : Int32} {p2 : Int32} {p3 : Int32} {p4 : Int32} {r : Int32} {kr : Int32} {fs : List Value} (M : MtX J yX9_summer cX9_summer 5 (some .int) rm_X9_summer [.ref x, .int p1, .int p2, .int p3, .int p4] w ex (some (.int r)) wf) (hx : w[0]? = some (x, .inr (9, fs))) (hk : (ex = 0 ∧ kr = 0) ∨ (ex = 2 ∧ kr = 1)) : MtH J yL_summer cL_summer 7 (some .int) [(0, 14, 17, 13)] rm_L_summer [.ref x, .int p1, .int p2, .int p3, .int p4, .ref oa] (w ++ [(oa, .inl (J.2.2.1 2, 1, .inr (.inl ofn)))]) (some (.int kr)) (fun i => wf i ++ (if ex = 0 then [(oa, .inl (J.2.2.1 2, 1, .inr (.inl (vp_updL ofn 0 r.toInt64))))] else [(oa, .inl (J.2.2.1 2, 1, .inr (.inl ofn)))])) := by
  refine MtH_of (own := RL) (by decide) rfl (Nat.le_of_ble_eq_true rfl) rfl (fun Z C E ht => ?_)
  show G J Z 0 0 (w ++ [(oa, .inl (J.2.2.1 2, 1, .inr (.inl ofn)))]) 7 [(0, .ref x), (1, .int p1), (2, .int p2), (3, .int p3), (4, .int p4), (5, .ref oa)] 0 []
  refine g_aload (pc := 0) C 5 rfl dL_summer_0 ?_
  refine g_iconst (pc := 2) C dL_summer_2 ci_0 ?_
  refine g_aload_n (pc := 3) C 0 rfl dL_summer_3 ?_
  refine g_iload_n (pc := 4) C 1 rfl dL_summer_4 ?_
  refine g_iload_n (pc := 5) C 2 rfl dL_summer_5 ?_
  refine g_iload_n (pc := 6) C 3 rfl dL_summer_6 ?_
  refine g_iload (pc := 7) C 4 rfl dL_summer_7 ?_
  refine g_xcallV (pc := 9) (wf := fun i => wf i ++ [(oa, .inl (J.2.2.1 2, 1, .inr (.inl ofn)))]) C (As := [.int p1, .int p2, .int p3, .int p4]) (st := [.int 0, .ref oa]) (ci := 9) (q0 := 0) rfl (by rw [List.getElem?_append_left (List.getElem?_eq_some_iff.mp hx).1]; exact hx) M (fun D A H hP hD => ((Sub.app Sub.same : Sub (w ++ [(oa, .inl (J.2.2.1 2, 1, .inr (.inl ofn)))]) w w (w ++ [(oa, .inl (J.2.2.1 2, 1, .inr (.inl ofn)))])) D A H hP hD).1) (fun i => Sub.app Sub.same) kw_1223 kw_1224 kw_1225 kw_86 hy_X9_summer kw_1226 rfl (Nat.le_of_ble_eq_true rfl) (Nat.le_of_ble_eq_true rfl) (Nat.le_of_ble_eq_true rfl) (Nat.le_of_ble_eq_true rfl) (Nat.le_of_ble_eq_true rfl) dL_summer_9 (fun he i => ?_) (fun he i => ?_)
  · subst he
    rcases hk with ⟨_, rfl⟩ | ⟨h9, _⟩
    · refine g_wid (n' := 3) (k' := 18) (Nat.le_of_ble_eq_true rfl) (Nat.le_of_ble_eq_true rfl) ?_
      refine g_i2l (pc := 12) C dL_summer_12 ?_
      refine g_last (pc := 13) (w' := wf i ++ [(oa, .inl (J.2.2.1 2, 1, .inr (.inl (vp_updL ofn 0 r.toInt64))))]) C (wf i).length (by rw [List.getElem?_append_right (Nat.le_refl _), Nat.sub_self]; rfl) (ixb_in (by decide)) dL_summer_13 (by rw [List.set_append_right _ _ (Nat.le_refl _), Nat.sub_self]; rfl) ?_
      refine g_goto (pc := 14) C (tgt := 21) dL_summer_14 rfl ?_
      refine g_iconst (pc := 21) C dL_summer_21 ci_0 ?_
      exact g_iretH (pc := 22) C E i (by rw [if_pos rfl]) dL_summer_22
    · cases h9
  · rcases hk with ⟨h9, _⟩ | ⟨rfl, rfl⟩
    · exact absurd h9 he
    · refine (fun (kk : GT J Z 3 18 _ 7 _ 9 _ _) => gt_wid (Nat.le_of_ble_eq_true rfl) (Nat.le_of_ble_eq_true rfl) kk) ?_
      refine gt_catch1 (pc := 9) C ht (q0 := (0, 14, 17, 13)) rfl (by decide) (by decide) kw_533 (by decide) (fun q => ?_)
      show G J Z 3 18 (wf i ++ [(oa, .inl (J.2.2.1 2, 1, .inr (.inl ofn)))]) 7 [(0, .ref x), (1, .int p1), (2, .int p2), (3, .int p3), (4, .int p4), (5, .ref oa)] 17 [.ref q]
      refine g_astore (pc := 17) C [(6, .ref q), (0, .ref x), (1, .int p1), (2, .int p2), (3, .int p3), (4, .int p4), (5, .ref oa)] dL_summer_17 (by decide) rfl ?_
      refine g_iconst (pc := 19) C dL_summer_19 ci_1 ?_
      exact g_iretH (pc := 20) C E i (by rw [if_neg he]) dL_summer_20
def rm_L_span : Room := { frames := 11, cells := 5, slots := 30, locals := 186 }
set_option maxRecDepth 100000 in
set_option maxHeartbeats 1000000 in
theorem t_L_span {ι : Type} {J : Jt} {w : va_W} {wf : ι → va_W} {x oa ex : Nat} {ofn : Nat → Int64} {p1 : Int32} {p2 : Int32} {p3 : Int32} {p4 : Int32} {p5 : Int32} {p6 : Int32} {r : Int32} {kr : Int32} {fs : List Value} (M : MtX J yX9_span cX9_span 11 (some .int) rm_X9_span [.ref x, .int p1, .int p2, .int p3, .int p4, .int p5, .int p6] w ex (some (.int r)) wf) (hx : w[0]? = some (x, .inr (9, fs))) (hk : (ex = 0 ∧ kr = 0) ∨ (ex = 2 ∧ kr = 1)) : MtH J yL_span cL_span 9 (some .int) [(0, 18, 21, 13)] rm_L_span [.ref x, .int p1, .int p2, .int p3, .int p4, .int p5, .int p6, .ref oa] (w ++ [(oa, .inl (J.2.2.1 2, 1, .inr (.inl ofn)))]) (some (.int kr)) (fun i => wf i ++ (if ex = 0 then [(oa, .inl (J.2.2.1 2, 1, .inr (.inl (vp_updL ofn 0 r.toInt64))))] else [(oa, .inl (J.2.2.1 2, 1, .inr (.inl ofn)))])) := by
  refine MtH_of (own := RL) (by decide) rfl (Nat.le_of_ble_eq_true rfl) rfl (fun Z C E ht => ?_)
  show G J Z 0 0 (w ++ [(oa, .inl (J.2.2.1 2, 1, .inr (.inl ofn)))]) 9 [(0, .ref x), (1, .int p1), (2, .int p2), (3, .int p3), (4, .int p4), (5, .int p5), (6, .int p6), (7, .ref oa)] 0 []
  refine g_aload (pc := 0) C 7 rfl dL_span_0 ?_
  refine g_iconst (pc := 2) C dL_span_2 ci_0 ?_
  refine g_aload_n (pc := 3) C 0 rfl dL_span_3 ?_
  refine g_iload_n (pc := 4) C 1 rfl dL_span_4 ?_
  refine g_iload_n (pc := 5) C 2 rfl dL_span_5 ?_
  refine g_iload_n (pc := 6) C 3 rfl dL_span_6 ?_
  refine g_iload (pc := 7) C 4 rfl dL_span_7 ?_
  refine g_iload (pc := 9) C 5 rfl dL_span_9 ?_
  refine g_iload (pc := 11) C 6 rfl dL_span_11 ?_
  refine g_xcallV (pc := 13) (wf := fun i => wf i ++ [(oa, .inl (J.2.2.1 2, 1, .inr (.inl ofn)))]) C (As := [.int p1, .int p2, .int p3, .int p4, .int p5, .int p6]) (st := [.int 0, .ref oa]) (ci := 9) (q0 := 0) rfl (by rw [List.getElem?_append_left (List.getElem?_eq_some_iff.mp hx).1]; exact hx) M (fun D A H hP hD => ((Sub.app Sub.same : Sub (w ++ [(oa, .inl (J.2.2.1 2, 1, .inr (.inl ofn)))]) w w (w ++ [(oa, .inl (J.2.2.1 2, 1, .inr (.inl ofn)))])) D A H hP hD).1) (fun i => Sub.app Sub.same) kw_1251 kw_1252 kw_1253 kw_86 hy_X9_span kw_1254 rfl (Nat.le_of_ble_eq_true rfl) (Nat.le_of_ble_eq_true rfl) (Nat.le_of_ble_eq_true rfl) (Nat.le_of_ble_eq_true rfl) (Nat.le_of_ble_eq_true rfl) dL_span_13 (fun he i => ?_) (fun he i => ?_)
  · subst he
    rcases hk with ⟨_, rfl⟩ | ⟨h9, _⟩
    · refine g_wid (n' := 5) (k' := 30) (Nat.le_of_ble_eq_true rfl) (Nat.le_of_ble_eq_true rfl) ?_
      refine g_i2l (pc := 16) C dL_span_16 ?_
      refine g_last (pc := 17) (w' := wf i ++ [(oa, .inl (J.2.2.1 2, 1, .inr (.inl (vp_updL ofn 0 r.toInt64))))]) C (wf i).length (by rw [List.getElem?_append_right (Nat.le_refl _), Nat.sub_self]; rfl) (ixb_in (by decide)) dL_span_17 (by rw [List.set_append_right _ _ (Nat.le_refl _), Nat.sub_self]; rfl) ?_
      refine g_goto (pc := 18) C (tgt := 25) dL_span_18 rfl ?_
      refine g_iconst (pc := 25) C dL_span_25 ci_0 ?_
      exact g_iretH (pc := 26) C E i (by rw [if_pos rfl]) dL_span_26
    · cases h9
  · rcases hk with ⟨h9, _⟩ | ⟨rfl, rfl⟩
    · exact absurd h9 he
    · refine (fun (kk : GT J Z 5 30 _ 9 _ 13 _ _) => gt_wid (Nat.le_of_ble_eq_true rfl) (Nat.le_of_ble_eq_true rfl) kk) ?_
      refine gt_catch1 (pc := 13) C ht (q0 := (0, 18, 21, 13)) rfl (by decide) (by decide) kw_533 (by decide) (fun q => ?_)
      show G J Z 5 30 (wf i ++ [(oa, .inl (J.2.2.1 2, 1, .inr (.inl ofn)))]) 9 [(0, .ref x), (1, .int p1), (2, .int p2), (3, .int p3), (4, .int p4), (5, .int p5), (6, .int p6), (7, .ref oa)] 21 [.ref q]
      refine g_astore (pc := 21) C [(8, .ref q), (0, .ref x), (1, .int p1), (2, .int p2), (3, .int p3), (4, .int p4), (5, .int p5), (6, .int p6), (7, .ref oa)] dL_span_21 (by decide) rfl ?_
      refine g_iconst (pc := 23) C dL_span_23 ci_1 ?_
      exact g_iretH (pc := 24) C E i (by rw [if_neg he]) dL_span_24
