/-! ===== what holds of the tables and of the heap at the law's entry ===== -/
theorem tb_of {w : Cond} (i : Nat) (h : lw_tbl[i]? = some w) : w ∈ lw_tbl := List.mem_of_getElem? h
def gvF : List Cond := flatC (Jvm.Cond.and given_1 narrow_1)
theorem gv_of {args : Array Value} {s : State} (h : (Jvm.Cond.and given_1 narrow_1).before args s = true) {w : Cond} (i : Nat) (hi : gvF[i]? = some w) : w.before args s = true := flat_of_before _ h w (List.mem_of_getElem? hi)
/-- the string constants by their terms, and the words of each -/
def stTm (i : Nat) : Term := .string (stT.getD i ("", 0, "")).1 (stT.getD i ("", 0, "")).2.1
def stWs (i : Nat) : List Cond := [.exactly (stTm i) "java/lang/String", .eq (.field (stTm i) "java/lang/String" "coder" "B") (.int 0), .arrayOf (.field (stTm i) "java/lang/String" "value" "[B") .byte, .eq (.length (.field (stTm i) "java/lang/String" "value" "[B")) (.int (Int32.ofNat (stL i)))] ++ (List.range (stL i)).map (fun j => .eq (.elem (.field (stTm i) "java/lang/String" "value" "[B") (.int (Int32.ofNat j))) (.int (stC i j)))
def stO : List Nat := [35, 42, 52, 62, 71, 79, 87, 94, 102, 109, 117, 125, 136, 144, 153, 160, 168, 175, 184, 193, 201, 213, 224, 234, 243, 253, 261, 270, 278, 287, 297, 306, 314, 323, 331]
def stX : List Nat := [631, 708, 717, 783, 785, 790, 791, 792, 793, 794, 795, 796, 823, 830, 831, 832, 833, 834, 835, 1480, 1486, 1487, 1551, 1556, 1561, 1562, 1563, 1564, 1565, 1566, 1578, 1579, 1580, 1581, 1582]
theorem st_ws : ∀ i, i < 35 → (gvF.drop (stO.getD i 0)).take (stWs i).length = stWs i := by decide +kernel
theorem st_rf : ∀ i, i < 35 → lw_tbl[stX.getD i 0]? = some (.stringRef (stT.getD i ("", 0, "")).1 (stT.getD i ("", 0, "")).2.1 (stT.getD i ("", 0, "")).2.2) := by decide +kernel
theorem st_w {args : Array Value} {s : State} (h : (Jvm.Cond.and given_1 narrow_1).before args s = true) {i : Nat} (hi : i < 35) {w : Cond} (hw : w ∈ stWs i) : w.before args s = true := by
  rw [← st_ws i hi] at hw
  exact flat_of_before _ h w (List.mem_of_mem_drop (List.mem_of_mem_take hw))
theorem st_at {args : Array Value} {s : State} {A : Nat → Prop} (h : (Jvm.Cond.and given_1 narrow_1).before args s = true) (hA : ∀ a : Nat, a < s.heap.size → ¬ A a) {i : Nat} (hi : i < 35) : ∃ q : Nat × Nat, (stTm i).eval args s none [] s = some (.ref q.1) ∧ va_O "java/lang/String" q.1 A s s.heap ∧ va_OF "java/lang/String" "coder" "B" (.int 0) q.1 A s s.heap ∧ va_OF "java/lang/String" "value" "[B" (.ref q.2) q.1 A s s.heap ∧ va_T .byte q.2 (stL i) (fun j => .int (stC i j)) A s s.heap := by
  have hex : (Cond.exactly (stTm i) "java/lang/String").before args s = true := st_w h hi (by simp [stWs])
  have hco : (Cond.eq (.field (stTm i) "java/lang/String" "coder" "B") (.int 0)).before args s = true := st_w h hi (by simp [stWs])
  have har : (Cond.arrayOf (.field (stTm i) "java/lang/String" "value" "[B") .byte).before args s = true := st_w h hi (by simp [stWs])
  have hle : (Cond.eq (.length (.field (stTm i) "java/lang/String" "value" "[B")) (.int (Int32.ofNat (stL i)))).before args s = true := st_w h hi (by simp [stWs])
  have hel : ∀ j : Nat, j < stL i → (Cond.eq (.elem (.field (stTm i) "java/lang/String" "value" "[B") (.int (Int32.ofNat j))) (.int (stC i j))).before args s = true := fun j hj => st_w h hi (List.mem_append_right _ (List.mem_map.mpr ⟨j, List.mem_range.mpr hj, rfl⟩))
  obtain ⟨a, c, cA, kA, q1, q2, q3, q4, q5, q6, -⟩ := Cond.exactly_spec (args := args) (first := s) (o := none) (s := s) (idx := []) (t := stTm i) (cls := "java/lang/String") hex
  obtain ⟨t, ht, hT⟩ := va_Tof (f := fun j => .int (stC i j)) (A := A) (st_len31 i hi) har (va_eqt hle) (fun j hj => va_eqt (hel j hj)) hA
  exact ⟨(a, t), q1, ⟨cA, q3, q5, by rw [q6]; exact q2, hA a (Array.getElem?_eq_some_iff.mp q3).1⟩, vk_OFof q1 (va_eqt hco) hA, vk_OFof q1 ht hA, hT⟩
theorem st_all {args : Array Value} {s : State} {A : Nat → Prop} (h : (Jvm.Cond.and given_1 narrow_1).before args s = true) (hA : ∀ a : Nat, a < s.heap.size → ¬ A a) : ∃ aK aV : Nat → Nat, ∀ i, i < 35 → (stTm i).eval args s none [] s = some (.ref (aK i)) ∧ va_O "java/lang/String" (aK i) A s s.heap ∧ va_OF "java/lang/String" "coder" "B" (.int 0) (aK i) A s s.heap ∧ va_OF "java/lang/String" "value" "[B" (.ref (aV i)) (aK i) A s s.heap ∧ va_T .byte (aV i) (stL i) (fun j => .int (stC i j)) A s s.heap := by
  have h0 : ∀ i : Nat, ∃ q : Nat × Nat, i < 35 → (stTm i).eval args s none [] s = some (.ref q.1) ∧ va_O "java/lang/String" q.1 A s s.heap ∧ va_OF "java/lang/String" "coder" "B" (.int 0) q.1 A s s.heap ∧ va_OF "java/lang/String" "value" "[B" (.ref q.2) q.1 A s s.heap ∧ va_T .byte q.2 (stL i) (fun j => .int (stC i j)) A s s.heap := by
    intro i
    by_cases hi : i < 35
    · obtain ⟨q, hq⟩ := st_at h hA hi
      exact ⟨q, fun _ => hq⟩
    · exact ⟨(0, 0), fun h => absurd h hi⟩
  obtain ⟨ad, had⟩ := Classical.axiomOfChoice h0
  exact ⟨fun i => (ad i).1, fun i => (ad i).2, had⟩
theorem st_vkR {args : Array Value} {s : State} {aK : Nat → Nat} (hts : ∀ w ∈ lw_tbl, w.before args s = true) (hv : ∀ i, i < 35 → (stTm i).eval args s none [] s = some (.ref (aK i))) (i : Nat) (q : String × Nat × String) (hq : stT[i]? = some q) : vk_R q.1 q.2.1 q.2.2 (aK i) s := by
  have hi : i < 35 := (List.getElem?_eq_some_iff.mp hq).1
  have e : stT.getD i ("", 0, "") = q := by rw [List.getD_eq_getElem?_getD, hq]; rfl
  have h1 := hts _ (tb_of _ (st_rf i hi))
  have h2 := hv i hi
  unfold stTm at h2
  rw [e] at h1 h2
  exact vk_R.of h1 h2
/-- the classes -/
theorem kx_cl {args : Array Value} {s : State} (hts : ∀ w ∈ lw_tbl, w.before args s = true) : ∃ D : va_G, ∀ (c : Nat) (q : vw_C), vwCl[c]? = some q → u_Kn s q.1 q.2.1 q.2.2 (D.1 c) (D.2 c) := by
  have htL : ∀ w ∈ LT, w.before args s = true := fun w hw => hts w (List.mem_filter.mp (LT_eq ▸ hw)).1
  obtain ⟨c0, i0, h0⟩ := u_known (ws := LT) (C := RX0) (T := TX0) (N := 2) (n := 2) htL FOK_X0.1 (hts _ (tb_of (w := .instantiable RX0 2) 349 (by decide +kernel)))
  obtain ⟨c1, i1, h1⟩ := u_known (ws := LT) (C := RX1) (T := TX1) (N := 4) (n := 4) htL FOK_X1.1 (hts _ (tb_of (w := .instantiable RX1 4) 322 (by decide +kernel)))
  obtain ⟨c2, i2, h2⟩ := u_known (ws := LT) (C := RX2) (T := TX2) (N := 8) (n := 8) htL FOK_X2.1 (hts _ (tb_of (w := .instantiable RX2 8) 270 (by decide +kernel)))
  obtain ⟨c3, i3, h3⟩ := u_known (ws := LT) (C := RX3) (T := TX3) (N := 3) (n := 3) htL FOK_X3.1 (hts _ (tb_of (w := .instantiable RX3 3) 497 (by decide +kernel)))
  obtain ⟨c4, i4, h4⟩ := u_known (ws := LT) (C := RX4) (T := TX4) (N := 12) (n := 12) htL FOK_X4.1 (hts _ (tb_of (w := .instantiable RX4 12) 149 (by decide +kernel)))
  obtain ⟨c5, i5, h5⟩ := u_known (ws := LT) (C := RX5) (T := TX5) (N := 5) (n := 5) htL FOK_X5.1 (hts _ (tb_of (w := .instantiable RX5 5) 243 (by decide +kernel)))
  obtain ⟨c6, i6, h6⟩ := u_known (ws := LT) (C := RX6) (T := TX6) (N := 1) (n := 1) htL FOK_X6.1 (hts _ (tb_of (w := .instantiable RX6 1) 233 (by decide +kernel)))
  obtain ⟨c7, i7, h7⟩ := u_known (ws := LT) (C := RX7) (T := TX7) (N := 7) (n := 7) htL FOK_X7.1 (hts _ (tb_of (w := .instantiable RX7 7) 118 (by decide +kernel)))
  obtain ⟨c8, i8, h8⟩ := u_known (ws := LT) (C := RX8) (T := TX8) (N := 7) (n := 7) htL FOK_X8.1 (hts _ (tb_of (w := .instantiable RX8 7) 204 (by decide +kernel)))
  obtain ⟨c9, i9, h9⟩ := u_known (ws := LT) (C := RX9) (T := TX9) (N := 19) (n := 19) htL FOK_X9.1 (hts _ (tb_of (w := .instantiable RX9 19) 110 (by decide +kernel)))
  obtain ⟨c10, i10, h10⟩ := u_known (ws := LT) (C := RX10) (T := TX10) (N := 53) (n := 53) htL FOK_X10.1 (hts _ (tb_of (w := .instantiable RX10 53) 1260 (by decide +kernel)))
  refine ⟨(fun k => [c0, c1, c2, c3, c4, c5, c6, c7, c8, c9, c10].getD k c0, fun k => [i0, i1, i2, i3, i4, i5, i6, i7, i8, i9, i10].getD k i0), fun k q hq => ?_⟩
  have hk : k < 11 := (List.getElem?_eq_some_iff.mp hq).1
  obtain rfl | rfl | rfl | rfl | rfl | rfl | rfl | rfl | rfl | rfl | rfl : k = 0 ∨ k = 1 ∨ k = 2 ∨ k = 3 ∨ k = 4 ∨ k = 5 ∨ k = 6 ∨ k = 7 ∨ k = 8 ∨ k = 9 ∨ k = 10 := by omega
  · cases hq; exact h0
  · cases hq; exact h1
  · cases hq; exact h2
  · cases hq; exact h3
  · cases hq; exact h4
  · cases hq; exact h5
  · cases hq; exact h6
  · cases hq; exact h7
  · cases hq; exact h8
  · cases hq; exact h9
  · cases hq; exact h10
/-- the array classes -/
theorem kx_ar {args : Array Value} {s : State} {ty : FieldType} (h : (Cond.arrayClass ty).before args s = true) : ∃ c : ClassId, ArrOfT s c ty ∧ s.vm.findClass ("[" ++ ty.toString) = some c := by
  obtain ⟨c, k, comp, h1, h2, h3⟩ := Cond.arrayClass_spec (args := args) (first := s) (o := none) (s := s) (idx := []) h
  exact ⟨c, fun N z => ⟨(fun k h => (by cases h)), k, h2, comp, h3⟩, h1⟩
theorem kx_K {args : Array Value} {s : State} (hts : ∀ w ∈ lw_tbl, w.before args s = true) : ∃ (D : va_G) (cy : Nat → ClassId), va_K D vwCl (TY cy) s := by
  obtain ⟨D, hD⟩ := kx_cl hts
  obtain ⟨c0, a0, b0⟩ := kx_ar (ty := .byte) (hts _ (tb_of 147 (by decide +kernel)))
  obtain ⟨c1, a1, b1⟩ := kx_ar (ty := .int) (hts _ (tb_of 202 (by decide +kernel)))
  obtain ⟨c2, a2, b2⟩ := kx_ar (ty := .long) (hts _ (tb_of 1437 (by decide +kernel)))
  have ho : (Cond.arrayOver (.object "LetterScarecrow$Saved")).before args s = true := hts _ (tb_of 268 (by decide +kernel))
  obtain ⟨comp, c3, k, g1, g2, g3, g4, g5⟩ := Cond.arrayOver_spec (args := args) (first := s) (o := none) (s := s) (idx := []) (n := "LetterScarecrow$Saved") ho
  refine ⟨D, fun k => [c0, c1, c2, c3].getD k c0, hD, fun j q hq => ?_⟩
  have hj : j < 4 := (List.getElem?_eq_some_iff.mp hq).1
  obtain rfl | rfl | rfl | rfl : j = 0 ∨ j = 1 ∨ j = 2 ∨ j = 3 := by omega
  · cases hq; exact ⟨a0, b0⟩
  · cases hq; exact ⟨a1, b1⟩
  · cases hq; exact ⟨a2, b2⟩
  · cases hq; exact ⟨fun N z => ⟨(fun k h => (by cases h)), k, g3, comp, g4⟩, k, comp, g3, g4, g1, g5⟩
/-- words of another kind -/
theorem kx_N {args : Array Value} {s : State} (hts : ∀ w ∈ lw_tbl, w.before args s = true) (hgv : (Jvm.Cond.and given_1 narrow_1).before args s = true) : NW s := by
  refine ⟨fun w hw => ?_, fun y hy => ?_, fun E hE => ?_, ?_, ?_⟩
  · simp only [nestW, List.mem_cons, List.not_mem_nil, or_false] at hw
    rcases hw with rfl | rfl | rfl | rfl | rfl | rfl | rfl | rfl | rfl
    · exact va_Nw.of rfl (hts _ (tb_of 119 (by decide +kernel)))
    · exact va_Nw.of rfl (hts _ (tb_of 150 (by decide +kernel)))
    · exact va_Nw.of rfl (hts _ (tb_of 205 (by decide +kernel)))
    · exact va_Nw.of rfl (hts _ (tb_of 234 (by decide +kernel)))
    · exact va_Nw.of rfl (hts _ (tb_of 244 (by decide +kernel)))
    · exact va_Nw.of rfl (hts _ (tb_of 271 (by decide +kernel)))
    · exact va_Nw.of rfl (hts _ (tb_of 482 (by decide +kernel)))
    · exact va_Nw.of rfl (hts _ (tb_of 503 (by decide +kernel)))
    · exact va_Nw.of rfl (hts _ (tb_of 894 (by decide +kernel)))
  · simp only [cwD, List.mem_cons, List.not_mem_nil, or_false] at hy
    rcases hy with rfl | rfl | rfl
    · exact va_Nw.of rfl (hts _ (tb_of 552 (by decide +kernel)))
    · exact va_Nw.of rfl (hts _ (tb_of 554 (by decide +kernel)))
    · exact va_Nw.of rfl (hts _ (tb_of 556 (by decide +kernel)))
  · simp only [cwC, List.mem_cons, List.not_mem_nil, or_false] at hE
    rcases hE with rfl | rfl
    · exact va_Nw.of rfl (hts _ (tb_of 551 (by decide +kernel)))
    · exact va_Nw.of rfl (hts _ (tb_of 962 (by decide +kernel)))
  · exact va_Nc.of (gv_of hgv 33 (by decide +kernel))
  · exact va_AO.of (hts _ (tb_of 268 (by decide +kernel)))
/-- all that holds at the law's entry -/
theorem kx_start {args : Array Value} {s : State} (hts : ∀ w ∈ lw_tbl, w.before args s = true) (hgv : (Jvm.Cond.and given_1 narrow_1).before args s = true) (l : Launch) : ∃ (D : va_G) (cy : Nat → ClassId) (aK aV : Nat → Nat), KX (l, D, cy, aK, aV) (fun q => s.heap.size ≤ q) s s.heap := by
  have hA : ∀ a : Nat, a < s.heap.size → ¬ s.heap.size ≤ a := fun a h => Nat.not_le.mpr h
  obtain ⟨D, cy, hK⟩ := kx_K hts
  obtain ⟨aK, aV, hV⟩ := st_all (A := fun q => s.heap.size ≤ q) hgv hA
  refine ⟨D, cy, aK, aV, hK, kx_N hts hgv, st_vkR hts (fun i hi => (hV i hi).1), fun i hi => (hV i hi).2, ?_, ?_, ?_, ?_⟩
  · exact va_Zof (hts _ (tb_of 645 (by decide +kernel))) (hts _ (tb_of 101 (by decide +kernel))) (va_eqt (gv_of hgv 6 (by decide +kernel))) hA
  · exact vx_Zqof (hts _ (tb_of 576 (by decide +kernel))) (hts _ (tb_of 97 (by decide +kernel))) (gv_of hgv 4 (by decide +kernel)) hA
  · exact vx_Zqof (hts _ (tb_of 578 (by decide +kernel))) (hts _ (tb_of 97 (by decide +kernel))) (gv_of hgv 5 (by decide +kernel)) hA
  · exact va_Zqof (hts _ (tb_of 665 (by decide +kernel))) (hts _ (tb_of 103 (by decide +kernel))) (gv_of hgv 7 (by decide +kernel)) hA
