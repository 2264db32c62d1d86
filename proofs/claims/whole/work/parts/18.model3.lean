noncomputable def f_X10_ones_4   (n1 : Int32) : Nat → Int32 → Int32 → Option (Int32)
  | 0, _, _ => none
  | n + 1, x1, x2 => if 16 ≤ x2 then some x1 else f_X10_ones_4 n1 n (x1 + ((n1 >>> (x2 &&& 31)) &&& 1)) (x2 + 1)
noncomputable def f_X10_ones  (n1 : Int32) : Option (Int32) := f_X10_ones_4 n1 FU 0 0
def rm_X10_ones : Room := { frames := 0, cells := 0, slots := 0, locals := 0 }
set_option maxRecDepth 100000 in
set_option maxHeartbeats 4000000 in
theorem j_X10_ones_4 {J : Jt} {Z : Zt}  {n1 : Int32} {r : Int32} (C : Cx J Z cX10_ones 3 RX10 (some .int) rm_X10_ones) (E : Ez J Z 0 0 (some (.int r)) ([])) : ∀ (n : Nat) (x1 : Int32) (x2 : Int32), f_X10_ones_4 n1 n x1 x2 = some r → G J Z 0 0 ([]) 3 [(0, .int n1), (1, .int x1), (2, .int x2)] 4 [] := by
  intro n
  induction n with
  | zero =>
    intro x1 x2 h
    rw [f_X10_ones_4] at h
    cases h
  | succ n ih =>
    intro x1 x2 h
    rw [f_X10_ones_4] at h
    refine g_iload_n (pc := 4) C 2 rfl dX10_ones_4 ?_
    refine g_bipush (pc := 5) C dX10_ones_5 cb_16 ?_
    refine g_icmp_ge (pc := 7) C (tgt := 24) dX10_ones_7 rfl h (fun h => ?_) (fun h => ?_)
    · refine g_iload_n (pc := 24) C 1 rfl dX10_ones_24 ?_
      cases h
      exact g_iret C E dX10_ones_25
    · refine g_iload_n (pc := 10) C 1 rfl dX10_ones_10 ?_
      refine g_iload_n (pc := 11) C 0 rfl dX10_ones_11 ?_
      refine g_iload_n (pc := 12) C 2 rfl dX10_ones_12 ?_
      refine g_ishr (pc := 13) C dX10_ones_13 ?_
      refine g_iconst (pc := 14) C dX10_ones_14 ci_1 ?_
      refine g_iand (pc := 15) C dX10_ones_15 ?_
      refine g_iadd (pc := 16) C dX10_ones_16 ?_
      refine g_istore_n (pc := 17) C [(1, .int (x1 + ((n1 >>> (x2 &&& 31)) &&& 1))), (0, .int n1), (2, .int x2)] dX10_ones_17 rfl (by decide) rfl ?_
      refine g_iinc (pc := 18) C (j := 2) [(2, .int (x2 + 1)), (1, .int (x1 + ((n1 >>> (x2 &&& 31)) &&& 1))), (0, .int n1)] dX10_ones_18 rfl (ii_1 _) (by decide) rfl ?_
      refine g_goto (pc := 21) C (tgt := 4) dX10_ones_21 rfl ?_
      refine g_lv [2, 1, 0] rfl ?_
      exact ih (x1 + ((n1 >>> (x2 &&& 31)) &&& 1)) (x2 + 1) h
set_option maxRecDepth 100000 in
set_option maxHeartbeats 4000000 in
theorem t_X10_ones {J : Jt}  {n1 : Int32} {r : Int32} (h : f_X10_ones n1 = some r) : Mt J yX10_ones cX10_ones 3 (some .int) rm_X10_ones [.int n1] ([]) (some (.int r)) ([]) := by
  refine Mt_of (own := RX10) (by decide) rfl (Nat.le_of_ble_eq_true rfl) rfl (fun Z C E => ?_)
  unfold f_X10_ones at h
  show G J Z 0 0 ([]) 3 [(0, .int n1)] 0 []
  refine g_iconst (pc := 0) C dX10_ones_0 ci_0 ?_
  refine g_istore_n (pc := 1) C [(1, .int 0), (0, .int n1)] dX10_ones_1 rfl (by decide) rfl ?_
  refine g_iconst (pc := 2) C dX10_ones_2 ci_0 ?_
  refine g_istore_n (pc := 3) C [(2, .int 0), (1, .int 0), (0, .int n1)] dX10_ones_3 rfl (by decide) rfl ?_
  refine g_lv [2, 1, 0] rfl ?_
  exact j_X10_ones_4 C E    FU 0 0 h
noncomputable def f_X10_book_168  (m_tape : Nat → Int32) (m_beds : Int32) (n1 : Int32) (x2 : Int32) (m_thrown : Int32) (m_refused : Nat → Int32) (m_taped : Int32) (m_size : Int32) (m_at : Int32) (m_bad : Int32) (m_badKind : Int32) (m_opens : Int32) (m_faultAt : Int32) (m_newBook : Nat → Int32) (m_book : Nat → Int32) (m_written : Int32) : Option (Int32 × Int32 × (Nat → Int32) × Int32 × Int32 × Int32 × Int32 × Int32 × Int32 × Int32 × (Nat → Int32) × (Nat → Int32) × Int32) := b2 (f_X10_result m_bad m_badKind m_faultAt x2) (fun v1 c2 => if m_bad = (-1) then b1 (f_X10_copies 6 m_newBook 6 m_book 6) (fun c3 => some (v1, m_thrown, m_refused, m_taped, m_size, m_at, m_bad, m_badKind, m_opens, c2, m_newBook, c3, x2)) else some (v1, m_thrown, m_refused, m_taped, m_size, m_at, m_bad, m_badKind, m_opens, c2, m_newBook, m_book, m_written))
noncomputable def f_X10_book_128  (m_tape : Nat → Int32) (m_beds : Int32) (n1 : Int32) (k67 : Int32 → Int32 → (Nat → Int32) → Int32 → Int32 → Int32 → Int32 → Int32 → Int32 → Int32 → (Nat → Int32) → (Nat → Int32) → Int32 → Option (Int32 × Int32 × (Nat → Int32) × Int32 × Int32 × Int32 × Int32 × Int32 × Int32 × Int32 × (Nat → Int32) × (Nat → Int32) × Int32)) (x2 : Int32) (x4 : Int32) (m_thrown : Int32) (m_refused : Nat → Int32) (m_taped : Int32) (m_size : Int32) (m_at : Int32) (m_bad : Int32) (m_badKind : Int32) (m_opens : Int32) (m_faultAt : Int32) (m_newBook : Nat → Int32) (m_book : Nat → Int32) (m_written : Int32) : Option (Int32 × Int32 × (Nat → Int32) × Int32 × Int32 × Int32 × Int32 × Int32 × Int32 × Int32 × (Nat → Int32) × (Nat → Int32) × Int32) := b4 (f_X10_readNumber m_size m_at m_bad m_badKind m_tape 0 16) (fun v4 c5 c6 c7 => b3 (f_X10_sign m_size c5 c6 c7 m_tape 59) (fun c8 c9 c10 => b1 (f_X10_fine c9) (fun v11 => if v11 = 0 then f_X10_book_168 m_tape m_beds n1 x2 m_thrown m_refused m_taped m_size c8 c9 c10 m_opens m_faultAt m_newBook m_book m_written else if ixb x4 6 then k67 (x2 + 1) m_thrown m_refused m_taped m_size c8 c9 c10 m_opens m_faultAt (upd m_newBook x4.toNatClampNeg v4) m_book m_written else none)))
noncomputable def f_X10_book_67  (m_tape : Nat → Int32) (m_beds : Int32) (n1 : Int32) : Nat → Int32 → Int32 → (Nat → Int32) → Int32 → Int32 → Int32 → Int32 → Int32 → Int32 → Int32 → (Nat → Int32) → (Nat → Int32) → Int32 → Option (Int32 × Int32 × (Nat → Int32) × Int32 × Int32 × Int32 × Int32 × Int32 × Int32 × Int32 × (Nat → Int32) × (Nat → Int32) × Int32)
  | 0, _, _, _, _, _, _, _, _, _, _, _, _, _ => none
  | n + 1, x2, m_thrown, m_refused, m_taped, m_size, m_at, m_bad, m_badKind, m_opens, m_faultAt, m_newBook, m_book, m_written => b1 (f_X10_fine m_bad) (fun v12 => if v12 = 0 then f_X10_book_168 m_tape m_beds n1 x2 m_thrown m_refused m_taped m_size m_at m_bad m_badKind m_opens m_faultAt m_newBook m_book m_written else b2 (f_X10_isMore m_size m_at m_tape) (fun v13 c14 => if v13 = 0 then f_X10_book_168 m_tape m_beds n1 x2 m_thrown m_refused m_taped m_size c14 m_bad m_badKind m_opens m_faultAt m_newBook m_book m_written else b2 (f_X10_here m_size c14 m_tape) (fun v15 c16 => b4 (f_X10_readNumber m_size c16 m_bad m_badKind m_tape 0 (m_beds - 1)) (fun v17 c18 c19 c20 => b1 (f_X10_fine c19) (fun v21 => if v21 = 0 then f_X10_book_128 m_tape m_beds n1 (f_X10_book_67 m_tape m_beds n1 n) x2 v17 m_thrown m_refused m_taped m_size c18 c19 c20 m_opens m_faultAt m_newBook m_book m_written else if ixb v17 6 then if (m_newBook v17.toNatClampNeg) = (-1) then f_X10_book_128 m_tape m_beds n1 (f_X10_book_67 m_tape m_beds n1 n) x2 v17 m_thrown m_refused m_taped m_size c18 c19 c20 m_opens m_faultAt m_newBook m_book m_written else b2 (f_X10_wrong c19 c20 2 c16) (fun c22 c23 => f_X10_book_128 m_tape m_beds n1 (f_X10_book_67 m_tape m_beds n1 n) x2 v17 m_thrown m_refused m_taped m_size c18 c22 c23 m_opens m_faultAt m_newBook m_book m_written) else none)))))
noncomputable def f_X10_book_46  (m_tape : Nat → Int32) (m_beds : Int32) (n1 : Int32) : Nat → Int32 → Int32 → (Nat → Int32) → Int32 → Int32 → Int32 → Int32 → Int32 → Int32 → Int32 → (Nat → Int32) → (Nat → Int32) → Int32 → Option (Int32 × Int32 × (Nat → Int32) × Int32 × Int32 × Int32 × Int32 × Int32 × Int32 × Int32 × (Nat → Int32) × (Nat → Int32) × Int32)
  | 0, _, _, _, _, _, _, _, _, _, _, _, _, _ => none
  | n + 1, x2, m_thrown, m_refused, m_taped, m_size, m_at, m_bad, m_badKind, m_opens, m_faultAt, m_newBook, m_book, m_written => if 6 ≤ x2 then f_X10_book_67 m_tape m_beds n1 FU 0 m_thrown m_refused m_taped m_size m_at m_bad m_badKind m_opens m_faultAt m_newBook m_book m_written else if ixb x2 6 then f_X10_book_46 m_tape m_beds n1 n (x2 + 1) m_thrown m_refused m_taped m_size m_at m_bad m_badKind m_opens m_faultAt (upd m_newBook x2.toNatClampNeg (-1)) m_book m_written else none
noncomputable def f_X10_book_29  (m_tape : Nat → Int32) (m_beds : Int32) (n1 : Int32) (y1 : Int32) (m_thrown : Int32) (m_refused : Nat → Int32) (m_taped : Int32) (m_size : Int32) (m_at : Int32) (m_bad : Int32) (m_badKind : Int32) (m_opens : Int32) (m_faultAt : Int32) (m_newBook : Nat → Int32) (m_book : Nat → Int32) (m_written : Int32) : Option (Int32 × Int32 × (Nat → Int32) × Int32 × Int32 × Int32 × Int32 × Int32 × Int32 × Int32 × (Nat → Int32) × (Nat → Int32) × Int32) := b3 (f_X10_may m_thrown m_refused y1 1 1) (fun v24 c25 c26 => if v24 = 0 then some (0, c25, c26, m_taped, m_size, m_at, m_bad, m_badKind, m_opens, m_faultAt, m_newBook, m_book, m_written) else b6 (f_X10_begins m_taped m_size m_at m_bad m_opens m_faultAt n1) (fun c27 c28 c29 c30 c31 c32 => f_X10_book_46 m_tape m_beds n1 FU 0 c25 c26 c27 c28 c29 c30 m_badKind c31 c32 m_newBook m_book m_written))
noncomputable def f_X10_book (m_thrown : Int32) (m_refused : Nat → Int32) (m_taped : Int32) (m_size : Int32) (m_at : Int32) (m_bad : Int32) (m_badKind : Int32) (m_opens : Int32) (m_faultAt : Int32) (m_tape : Nat → Int32) (m_beds : Int32) (m_newBook : Nat → Int32) (m_book : Nat → Int32) (m_written : Int32) (n1 : Int32) : Option (Int32 × Int32 × (Nat → Int32) × Int32 × Int32 × Int32 × Int32 × Int32 × Int32 × Int32 × (Nat → Int32) × (Nat → Int32) × Int32) := if n1 < 0 then f_X10_book_29 m_tape m_beds n1 0 0 m_refused m_taped m_size m_at m_bad m_badKind m_opens m_faultAt m_newBook m_book m_written else if m_taped < n1 then f_X10_book_29 m_tape m_beds n1 0 0 m_refused m_taped m_size m_at m_bad m_badKind m_opens m_faultAt m_newBook m_book m_written else if 60 < n1 then f_X10_book_29 m_tape m_beds n1 0 0 m_refused m_taped m_size m_at m_bad m_badKind m_opens m_faultAt m_newBook m_book m_written else f_X10_book_29 m_tape m_beds n1 1 0 m_refused m_taped m_size m_at m_bad m_badKind m_opens m_faultAt m_newBook m_book m_written
def rm_X10_book : Room := { frames := 2, cells := 0, slots := 0, locals := 47 }
set_option maxRecDepth 100000 in
set_option maxHeartbeats 4000000 in
theorem j_X10_book_168 {J : Jt} {Z : Zt} {a0 : Nat → Nat} {m_tape : Nat → Int32} {m_newBed : Nat → Int32} {m_newLetter : Nat → Int32} {m_newReader : Nat → Int32} {m_bed : Nat → Int32} {m_letter : Nat → Int32} {m_reader : Nat → Int32} {m_newBeds : Int32} {m_newLetters : Int32} {m_newReaders : Int32} {m_beds : Int32} {m_letters : Int32} {m_readers : Int32} {m_newCode : Nat → Int32} {m_newOf : Nat → Int32} {m_code : Nat → Int32} {m_ofCode : Nat → Int32} {m_stack : Nat → Int32} {m_newCodes : Int32} {m_codes : Int32} {m_facts : Nat → Int32} {m_newStep : Nat → Int32} {m_step : Nat → Int32} {m_newSteps : Int32} {m_works : Int32} {m_refusedSteps : Int32} {m_begun : Int32} {m_done : Int32} {m_refusedNow : Int32} {m_now : Nat → Int32} {m_s : Nat → Int32} {m_past : Nat → Int32} {m_mostBy : Nat → Int32} {m_stuffing : Nat → Int32} {m_stuffedMany : Int32} {m_lastBy : Nat → Int32} {m_leftBy : Nat → Int32} {m_splitBy : Nat → Int64} {m_seedNow : Int32} {m_image : Nat → Int32} {m_images : Int32} {n1 : Int32} {r : Int32} {o_m_thrown : Int32} {o_m_refused : Nat → Int32} {o_m_taped : Int32} {o_m_size : Int32} {o_m_at : Int32} {o_m_bad : Int32} {o_m_badKind : Int32} {o_m_opens : Int32} {o_m_faultAt : Int32} {o_m_newBook : Nat → Int32} {o_m_book : Nat → Int32} {o_m_written : Int32} (C : Cx J Z cX10_book 6 RX10 (some .int) rm_X10_book) (E : Ez J Z 0 0 (some (.int r)) (cs_X10 J.2.2.1 a0 o_m_thrown o_m_refused o_m_taped o_m_size o_m_at o_m_bad o_m_badKind o_m_opens o_m_faultAt m_tape m_newBed m_newLetter m_newReader m_bed m_letter m_reader m_newBeds m_newLetters m_newReaders m_beds m_letters m_readers m_newCode m_newOf m_code m_ofCode m_stack m_newCodes m_codes m_facts m_newStep m_step m_newSteps m_works m_refusedSteps m_begun m_done m_refusedNow m_now m_s m_past o_m_newBook o_m_book o_m_written m_mostBy m_stuffing m_stuffedMany m_lastBy m_leftBy m_splitBy m_seedNow m_image m_images)) : ∀ (x2 : Int32) (m_thrown : Int32) (m_refused : Nat → Int32) (m_taped : Int32) (m_size : Int32) (m_at : Int32) (m_bad : Int32) (m_badKind : Int32) (m_opens : Int32) (m_faultAt : Int32) (m_newBook : Nat → Int32) (m_book : Nat → Int32) (m_written : Int32), f_X10_book_168 m_tape m_beds n1 x2 m_thrown m_refused m_taped m_size m_at m_bad m_badKind m_opens m_faultAt m_newBook m_book m_written = some (r, o_m_thrown, o_m_refused, o_m_taped, o_m_size, o_m_at, o_m_bad, o_m_badKind, o_m_opens, o_m_faultAt, o_m_newBook, o_m_book, o_m_written) → G J Z 0 0 (cs_X10 J.2.2.1 a0 m_thrown m_refused m_taped m_size m_at m_bad m_badKind m_opens m_faultAt m_tape m_newBed m_newLetter m_newReader m_bed m_letter m_reader m_newBeds m_newLetters m_newReaders m_beds m_letters m_readers m_newCode m_newOf m_code m_ofCode m_stack m_newCodes m_codes m_facts m_newStep m_step m_newSteps m_works m_refusedSteps m_begun m_done m_refusedNow m_now m_s m_past m_newBook m_book m_written m_mostBy m_stuffing m_stuffedMany m_lastBy m_leftBy m_splitBy m_seedNow m_image m_images) 6 [(0, .ref (a0 0)), (2, .int x2)] 168 [] := by
  intro x2 m_thrown m_refused m_taped m_size m_at m_bad m_badKind m_opens m_faultAt m_newBook m_book m_written h
  unfold f_X10_book_168 at h
  refine g_aload_n (pc := 168) C 0 rfl dX10_book_168 ?_
  refine g_iload_n (pc := 169) C 1 rfl dX10_book_169 ?_
  obtain ⟨v1, c2, hc, h⟩ := b2_of h
  refine g_callV (pc := 170) C (w' := cs_X10 J.2.2.1 a0 m_thrown m_refused m_taped m_size m_at m_bad m_badKind m_opens c2 m_tape m_newBed m_newLetter m_newReader m_bed m_letter m_reader m_newBeds m_newLetters m_newReaders m_beds m_letters m_readers m_newCode m_newOf m_code m_ofCode m_stack m_newCodes m_codes m_facts m_newStep m_step m_newSteps m_works m_refusedSteps m_begun m_done m_refusedNow m_now m_s m_past m_newBook m_book m_written m_mostBy m_stuffing m_stuffedMany m_lastBy m_leftBy m_splitBy m_seedNow m_image m_images) (As := [.int x2]) (st := []) (ci := 10) (q0 := 0) rfl rfl (t_X10_result (a0 := a0) hc) Sub.same kw_1523 kw_1525 kw_34 kw_95 hy_X10_result kw_1526 rfl (Nat.le_of_ble_eq_true rfl) (Nat.le_of_ble_eq_true rfl) (Nat.le_of_ble_eq_true rfl) (Nat.le_of_ble_eq_true rfl) (Nat.le_of_ble_eq_true rfl) dX10_book_170 ?_
  refine g_istore_n (pc := 173) C [(3, .int v1), (0, .ref (a0 0)), (2, .int x2)] dX10_book_173 rfl (by decide) rfl ?_
  refine g_aload_n (pc := 174) C 1 rfl dX10_book_174 ?_
  refine g_get (pc := 175) C FOK_X10 0 rfl rfl 5 (by decide) kw_1282 rfl dX10_book_175 ?_
  refine g_iconst (pc := 178) C dX10_book_178 ci_m1 ?_
  refine g_icmp_eq (pc := 179) C (tgt := 184) dX10_book_179 rfl h (fun h => ?_) (fun h => ?_)
  · refine g_aload_n (pc := 184) C 1 rfl dX10_book_184 ?_
    refine g_iload_n (pc := 185) C 2 rfl dX10_book_185 ?_
    refine g_put (pc := 186) C (w' := cs_X10 J.2.2.1 a0 m_thrown m_refused m_taped m_size m_at m_bad m_badKind m_opens c2 m_tape m_newBed m_newLetter m_newReader m_bed m_letter m_reader m_newBeds m_newLetters m_newReaders m_beds m_letters m_readers m_newCode m_newOf m_code m_ofCode m_stack m_newCodes m_codes m_facts m_newStep m_step m_newSteps m_works m_refusedSteps m_begun m_done m_refusedNow m_now m_s m_past m_newBook m_book x2 m_mostBy m_stuffing m_stuffedMany m_lastBy m_leftBy m_splitBy m_seedNow m_image m_images) FOK_X10 0 rfl rfl 43 (by decide) kw_1320 rfl rfl rfl (Nat.le_of_ble_eq_true rfl) dX10_book_186 rfl ?_
    refine g_aload_n (pc := 189) C 1 rfl dX10_book_189 ?_
    refine g_aload_n (pc := 190) C 1 rfl dX10_book_190 ?_
    refine g_get (pc := 191) C FOK_X10 0 rfl rfl 41 (by decide) kw_1318 rfl dX10_book_191 ?_
    refine g_aload_n (pc := 194) C 1 rfl dX10_book_194 ?_
    refine g_get (pc := 195) C FOK_X10 0 rfl rfl 42 (by decide) kw_1319 rfl dX10_book_195 ?_
    refine g_bipush (pc := 198) C dX10_book_198 cb_6 ?_
    obtain ⟨c3, hc, h⟩ := b1_of h
    refine g_callV (pc := 200) C (w' := cs_X10 J.2.2.1 a0 m_thrown m_refused m_taped m_size m_at m_bad m_badKind m_opens c2 m_tape m_newBed m_newLetter m_newReader m_bed m_letter m_reader m_newBeds m_newLetters m_newReaders m_beds m_letters m_readers m_newCode m_newOf m_code m_ofCode m_stack m_newCodes m_codes m_facts m_newStep m_step m_newSteps m_works m_refusedSteps m_begun m_done m_refusedNow m_now m_s m_past m_newBook c3 x2 m_mostBy m_stuffing m_stuffedMany m_lastBy m_leftBy m_splitBy m_seedNow m_image m_images) (As := [.ref (a0 20), .ref (a0 21), .int 6]) (st := []) (ci := 10) (q0 := 0) rfl rfl (t_X10_copies (rv := a0 0) (a0 := (fun _ => a0 20)) (a1 := (fun _ => a0 21)) hc) (Sub.gen [20, 21] [0, 1, 2, 3, 4, 5, 6, 7, 8, 9, 10, 11, 12, 13, 14, 15, 16, 17, 18, 19, 22, 23, 24, 25, 26, 27] [0, 1, 2, 3, 4, 5, 6, 7, 8, 9, 10, 11, 12, 13, 14, 15, 16, 17, 18, 19, 26, 27, 20, 21, 22, 23, 24, 25] rfl (by decide) rfl (by decide) (by decide) rfl (by decide)) kw_1273 kw_1275 kw_19 kw_95 hy_X10_copies kw_1276 rfl (Nat.le_of_ble_eq_true rfl) (Nat.le_of_ble_eq_true rfl) (Nat.le_of_ble_eq_true rfl) (Nat.le_of_ble_eq_true rfl) (Nat.le_of_ble_eq_true rfl) dX10_book_200 ?_
    refine g_iload_n (pc := 203) C 0 rfl dX10_book_203 ?_
    cases h
    exact g_iret C E dX10_book_204
  · refine g_iload_n (pc := 182) C 0 rfl dX10_book_182 ?_
    cases h
    exact g_iret C E dX10_book_183
set_option maxRecDepth 100000 in
set_option maxHeartbeats 4000000 in
theorem j_X10_book_128 {J : Jt} {Z : Zt} {a0 : Nat → Nat} {m_tape : Nat → Int32} {m_newBed : Nat → Int32} {m_newLetter : Nat → Int32} {m_newReader : Nat → Int32} {m_bed : Nat → Int32} {m_letter : Nat → Int32} {m_reader : Nat → Int32} {m_newBeds : Int32} {m_newLetters : Int32} {m_newReaders : Int32} {m_beds : Int32} {m_letters : Int32} {m_readers : Int32} {m_newCode : Nat → Int32} {m_newOf : Nat → Int32} {m_code : Nat → Int32} {m_ofCode : Nat → Int32} {m_stack : Nat → Int32} {m_newCodes : Int32} {m_codes : Int32} {m_facts : Nat → Int32} {m_newStep : Nat → Int32} {m_step : Nat → Int32} {m_newSteps : Int32} {m_works : Int32} {m_refusedSteps : Int32} {m_begun : Int32} {m_done : Int32} {m_refusedNow : Int32} {m_now : Nat → Int32} {m_s : Nat → Int32} {m_past : Nat → Int32} {m_mostBy : Nat → Int32} {m_stuffing : Nat → Int32} {m_stuffedMany : Int32} {m_lastBy : Nat → Int32} {m_leftBy : Nat → Int32} {m_splitBy : Nat → Int64} {m_seedNow : Int32} {m_image : Nat → Int32} {m_images : Int32} {n1 : Int32} {r : Int32} {o_m_thrown : Int32} {o_m_refused : Nat → Int32} {o_m_taped : Int32} {o_m_size : Int32} {o_m_at : Int32} {o_m_bad : Int32} {o_m_badKind : Int32} {o_m_opens : Int32} {o_m_faultAt : Int32} {o_m_newBook : Nat → Int32} {o_m_book : Nat → Int32} {o_m_written : Int32} {k67 : Int32 → Int32 → (Nat → Int32) → Int32 → Int32 → Int32 → Int32 → Int32 → Int32 → Int32 → (Nat → Int32) → (Nat → Int32) → Int32 → Option (Int32 × Int32 × (Nat → Int32) × Int32 × Int32 × Int32 × Int32 × Int32 × Int32 × Int32 × (Nat → Int32) × (Nat → Int32) × Int32)} (C : Cx J Z cX10_book 6 RX10 (some .int) rm_X10_book) (E : Ez J Z 0 0 (some (.int r)) (cs_X10 J.2.2.1 a0 o_m_thrown o_m_refused o_m_taped o_m_size o_m_at o_m_bad o_m_badKind o_m_opens o_m_faultAt m_tape m_newBed m_newLetter m_newReader m_bed m_letter m_reader m_newBeds m_newLetters m_newReaders m_beds m_letters m_readers m_newCode m_newOf m_code m_ofCode m_stack m_newCodes m_codes m_facts m_newStep m_step m_newSteps m_works m_refusedSteps m_begun m_done m_refusedNow m_now m_s m_past o_m_newBook o_m_book o_m_written m_mostBy m_stuffing m_stuffedMany m_lastBy m_leftBy m_splitBy m_seedNow m_image m_images)) (hk67 : ∀ (x2 : Int32) (m_thrown : Int32) (m_refused : Nat → Int32) (m_taped : Int32) (m_size : Int32) (m_at : Int32) (m_bad : Int32) (m_badKind : Int32) (m_opens : Int32) (m_faultAt : Int32) (m_newBook : Nat → Int32) (m_book : Nat → Int32) (m_written : Int32), k67 x2 m_thrown m_refused m_taped m_size m_at m_bad m_badKind m_opens m_faultAt m_newBook m_book m_written = some (r, o_m_thrown, o_m_refused, o_m_taped, o_m_size, o_m_at, o_m_bad, o_m_badKind, o_m_opens, o_m_faultAt, o_m_newBook, o_m_book, o_m_written) → G J Z 0 0 (cs_X10 J.2.2.1 a0 m_thrown m_refused m_taped m_size m_at m_bad m_badKind m_opens m_faultAt m_tape m_newBed m_newLetter m_newReader m_bed m_letter m_reader m_newBeds m_newLetters m_newReaders m_beds m_letters m_readers m_newCode m_newOf m_code m_ofCode m_stack m_newCodes m_codes m_facts m_newStep m_step m_newSteps m_works m_refusedSteps m_begun m_done m_refusedNow m_now m_s m_past m_newBook m_book m_written m_mostBy m_stuffing m_stuffedMany m_lastBy m_leftBy m_splitBy m_seedNow m_image m_images) 6 [(0, .ref (a0 0)), (2, .int x2)] 67 []) : ∀ (x2 : Int32) (x4 : Int32) (m_thrown : Int32) (m_refused : Nat → Int32) (m_taped : Int32) (m_size : Int32) (m_at : Int32) (m_bad : Int32) (m_badKind : Int32) (m_opens : Int32) (m_faultAt : Int32) (m_newBook : Nat → Int32) (m_book : Nat → Int32) (m_written : Int32), f_X10_book_128 m_tape m_beds n1 k67 x2 x4 m_thrown m_refused m_taped m_size m_at m_bad m_badKind m_opens m_faultAt m_newBook m_book m_written = some (r, o_m_thrown, o_m_refused, o_m_taped, o_m_size, o_m_at, o_m_bad, o_m_badKind, o_m_opens, o_m_faultAt, o_m_newBook, o_m_book, o_m_written) → G J Z 0 0 (cs_X10 J.2.2.1 a0 m_thrown m_refused m_taped m_size m_at m_bad m_badKind m_opens m_faultAt m_tape m_newBed m_newLetter m_newReader m_bed m_letter m_reader m_newBeds m_newLetters m_newReaders m_beds m_letters m_readers m_newCode m_newOf m_code m_ofCode m_stack m_newCodes m_codes m_facts m_newStep m_step m_newSteps m_works m_refusedSteps m_begun m_done m_refusedNow m_now m_s m_past m_newBook m_book m_written m_mostBy m_stuffing m_stuffedMany m_lastBy m_leftBy m_splitBy m_seedNow m_image m_images) 6 [(0, .ref (a0 0)), (2, .int x2), (4, .int x4)] 128 [] := by
  intro x2 x4 m_thrown m_refused m_taped m_size m_at m_bad m_badKind m_opens m_faultAt m_newBook m_book m_written h
  unfold f_X10_book_128 at h
  refine g_aload_n (pc := 128) C 0 rfl dX10_book_128 ?_
  refine g_iconst (pc := 129) C dX10_book_129 ci_0 ?_
  refine g_bipush (pc := 130) C dX10_book_130 cb_16 ?_
  obtain ⟨v4, c5, c6, c7, hc, h⟩ := b4_of h
  refine g_callV (pc := 132) C (w' := cs_X10 J.2.2.1 a0 m_thrown m_refused m_taped m_size c5 c6 c7 m_opens m_faultAt m_tape m_newBed m_newLetter m_newReader m_bed m_letter m_reader m_newBeds m_newLetters m_newReaders m_beds m_letters m_readers m_newCode m_newOf m_code m_ofCode m_stack m_newCodes m_codes m_facts m_newStep m_step m_newSteps m_works m_refusedSteps m_begun m_done m_refusedNow m_now m_s m_past m_newBook m_book m_written m_mostBy m_stuffing m_stuffedMany m_lastBy m_leftBy m_splitBy m_seedNow m_image m_images) (As := [.int 0, .int 16]) (st := []) (ci := 10) (q0 := 0) rfl rfl (t_X10_readNumber (a0 := a0) hc) Sub.same kw_1504 kw_1506 kw_30 kw_95 hy_X10_readNumber kw_1507 rfl (Nat.le_of_ble_eq_true rfl) (Nat.le_of_ble_eq_true rfl) (Nat.le_of_ble_eq_true rfl) (Nat.le_of_ble_eq_true rfl) (Nat.le_of_ble_eq_true rfl) dX10_book_132 ?_
  refine g_istore (pc := 135) C [(5, .int v4), (0, .ref (a0 0)), (2, .int x2), (4, .int x4)] dX10_book_135 (by decide) rfl ?_
  refine g_aload_n (pc := 137) C 1 rfl dX10_book_137 ?_
  refine g_bipush (pc := 138) C dX10_book_138 cb_59 ?_
  obtain ⟨c8, c9, c10, hc, h⟩ := b3_of h
  refine g_callV (pc := 140) C (w' := cs_X10 J.2.2.1 a0 m_thrown m_refused m_taped m_size c8 c9 c10 m_opens m_faultAt m_tape m_newBed m_newLetter m_newReader m_bed m_letter m_reader m_newBeds m_newLetters m_newReaders m_beds m_letters m_readers m_newCode m_newOf m_code m_ofCode m_stack m_newCodes m_codes m_facts m_newStep m_step m_newSteps m_works m_refusedSteps m_begun m_done m_refusedNow m_now m_s m_past m_newBook m_book m_written m_mostBy m_stuffing m_stuffedMany m_lastBy m_leftBy m_splitBy m_seedNow m_image m_images) (As := [.int 59]) (st := []) (ci := 10) (q0 := 0) rfl rfl (t_X10_sign (a0 := a0) hc) Sub.same kw_1519 kw_1521 kw_33 kw_95 hy_X10_sign kw_1522 rfl (Nat.le_of_ble_eq_true rfl) (Nat.le_of_ble_eq_true rfl) (Nat.le_of_ble_eq_true rfl) (Nat.le_of_ble_eq_true rfl) (Nat.le_of_ble_eq_true rfl) dX10_book_140 ?_
  refine g_aload_n (pc := 143) C 1 rfl dX10_book_143 ?_
  obtain ⟨v11, hc, h⟩ := b1_of h
  refine g_callV (pc := 144) C (w' := cs_X10 J.2.2.1 a0 m_thrown m_refused m_taped m_size c8 c9 c10 m_opens m_faultAt m_tape m_newBed m_newLetter m_newReader m_bed m_letter m_reader m_newBeds m_newLetters m_newReaders m_beds m_letters m_readers m_newCode m_newOf m_code m_ofCode m_stack m_newCodes m_codes m_facts m_newStep m_step m_newSteps m_works m_refusedSteps m_begun m_done m_refusedNow m_now m_s m_past m_newBook m_book m_written m_mostBy m_stuffing m_stuffedMany m_lastBy m_leftBy m_splitBy m_seedNow m_image m_images) (As := []) (st := []) (ci := 10) (q0 := 0) rfl rfl (t_X10_fine (a0 := a0) hc) Sub.same kw_1458 kw_1460 kw_22 kw_95 hy_X10_fine kw_1461 rfl (Nat.le_of_ble_eq_true rfl) (Nat.le_of_ble_eq_true rfl) (Nat.le_of_ble_eq_true rfl) (Nat.le_of_ble_eq_true rfl) (Nat.le_of_ble_eq_true rfl) dX10_book_144 ?_
  refine g_if_ne (pc := 147) C (tgt := 153) dX10_book_147 rfl h (fun h => ?_) (fun h => ?_)
  · refine g_aload_n (pc := 153) C 1 rfl dX10_book_153 ?_
    refine g_get (pc := 154) C FOK_X10 0 rfl rfl 41 (by decide) kw_1318 rfl dX10_book_154 ?_
    refine g_iload (pc := 157) C 3 rfl dX10_book_157 ?_
    refine g_iload (pc := 159) C 0 rfl dX10_book_159 ?_
    obtain ⟨hi, h⟩ := ix_of h
    refine g_iast (pc := 161) C (w' := cs_X10 J.2.2.1 a0 m_thrown m_refused m_taped m_size c8 c9 c10 m_opens m_faultAt m_tape m_newBed m_newLetter m_newReader m_bed m_letter m_reader m_newBeds m_newLetters m_newReaders m_beds m_letters m_readers m_newCode m_newOf m_code m_ofCode m_stack m_newCodes m_codes m_facts m_newStep m_step m_newSteps m_works m_refusedSteps m_begun m_done m_refusedNow m_now m_s m_past (upd m_newBook x4.toNatClampNeg v4) m_book m_written m_mostBy m_stuffing m_stuffedMany m_lastBy m_leftBy m_splitBy m_seedNow m_image m_images) 20 rfl hi dX10_book_161 rfl ?_
    refine g_iinc (pc := 162) C (j := 2) [(2, .int (x2 + 1)), (5, .int v4), (0, .ref (a0 0)), (4, .int x4)] dX10_book_162 rfl (ii_1 _) (by decide) rfl ?_
    refine g_goto (pc := 165) C (tgt := 67) dX10_book_165 rfl ?_
    refine g_lv [2, 0] rfl ?_
    exact hk67 (x2 + 1) m_thrown m_refused m_taped m_size c8 c9 c10 m_opens m_faultAt (upd m_newBook x4.toNatClampNeg v4) m_book m_written h
  · refine g_goto (pc := 150) C (tgt := 168) dX10_book_150 rfl ?_
    refine g_lv [1, 2] rfl ?_
    exact j_X10_book_168 C E    x2 m_thrown m_refused m_taped m_size c8 c9 c10 m_opens m_faultAt m_newBook m_book m_written h
set_option maxRecDepth 100000 in
set_option maxHeartbeats 4000000 in
theorem j_X10_book_67 {J : Jt} {Z : Zt} {a0 : Nat → Nat} {m_tape : Nat → Int32} {m_newBed : Nat → Int32} {m_newLetter : Nat → Int32} {m_newReader : Nat → Int32} {m_bed : Nat → Int32} {m_letter : Nat → Int32} {m_reader : Nat → Int32} {m_newBeds : Int32} {m_newLetters : Int32} {m_newReaders : Int32} {m_beds : Int32} {m_letters : Int32} {m_readers : Int32} {m_newCode : Nat → Int32} {m_newOf : Nat → Int32} {m_code : Nat → Int32} {m_ofCode : Nat → Int32} {m_stack : Nat → Int32} {m_newCodes : Int32} {m_codes : Int32} {m_facts : Nat → Int32} {m_newStep : Nat → Int32} {m_step : Nat → Int32} {m_newSteps : Int32} {m_works : Int32} {m_refusedSteps : Int32} {m_begun : Int32} {m_done : Int32} {m_refusedNow : Int32} {m_now : Nat → Int32} {m_s : Nat → Int32} {m_past : Nat → Int32} {m_mostBy : Nat → Int32} {m_stuffing : Nat → Int32} {m_stuffedMany : Int32} {m_lastBy : Nat → Int32} {m_leftBy : Nat → Int32} {m_splitBy : Nat → Int64} {m_seedNow : Int32} {m_image : Nat → Int32} {m_images : Int32} {n1 : Int32} {r : Int32} {o_m_thrown : Int32} {o_m_refused : Nat → Int32} {o_m_taped : Int32} {o_m_size : Int32} {o_m_at : Int32} {o_m_bad : Int32} {o_m_badKind : Int32} {o_m_opens : Int32} {o_m_faultAt : Int32} {o_m_newBook : Nat → Int32} {o_m_book : Nat → Int32} {o_m_written : Int32} (C : Cx J Z cX10_book 6 RX10 (some .int) rm_X10_book) (E : Ez J Z 0 0 (some (.int r)) (cs_X10 J.2.2.1 a0 o_m_thrown o_m_refused o_m_taped o_m_size o_m_at o_m_bad o_m_badKind o_m_opens o_m_faultAt m_tape m_newBed m_newLetter m_newReader m_bed m_letter m_reader m_newBeds m_newLetters m_newReaders m_beds m_letters m_readers m_newCode m_newOf m_code m_ofCode m_stack m_newCodes m_codes m_facts m_newStep m_step m_newSteps m_works m_refusedSteps m_begun m_done m_refusedNow m_now m_s m_past o_m_newBook o_m_book o_m_written m_mostBy m_stuffing m_stuffedMany m_lastBy m_leftBy m_splitBy m_seedNow m_image m_images)) : ∀ (n : Nat) (x2 : Int32) (m_thrown : Int32) (m_refused : Nat → Int32) (m_taped : Int32) (m_size : Int32) (m_at : Int32) (m_bad : Int32) (m_badKind : Int32) (m_opens : Int32) (m_faultAt : Int32) (m_newBook : Nat → Int32) (m_book : Nat → Int32) (m_written : Int32), f_X10_book_67 m_tape m_beds n1 n x2 m_thrown m_refused m_taped m_size m_at m_bad m_badKind m_opens m_faultAt m_newBook m_book m_written = some (r, o_m_thrown, o_m_refused, o_m_taped, o_m_size, o_m_at, o_m_bad, o_m_badKind, o_m_opens, o_m_faultAt, o_m_newBook, o_m_book, o_m_written) → G J Z 0 0 (cs_X10 J.2.2.1 a0 m_thrown m_refused m_taped m_size m_at m_bad m_badKind m_opens m_faultAt m_tape m_newBed m_newLetter m_newReader m_bed m_letter m_reader m_newBeds m_newLetters m_newReaders m_beds m_letters m_readers m_newCode m_newOf m_code m_ofCode m_stack m_newCodes m_codes m_facts m_newStep m_step m_newSteps m_works m_refusedSteps m_begun m_done m_refusedNow m_now m_s m_past m_newBook m_book m_written m_mostBy m_stuffing m_stuffedMany m_lastBy m_leftBy m_splitBy m_seedNow m_image m_images) 6 [(0, .ref (a0 0)), (2, .int x2)] 67 [] := by
  intro n
  induction n with
  | zero =>
    intro x2 m_thrown m_refused m_taped m_size m_at m_bad m_badKind m_opens m_faultAt m_newBook m_book m_written h
    rw [f_X10_book_67] at h
    cases h
  | succ n ih =>
    intro x2 m_thrown m_refused m_taped m_size m_at m_bad m_badKind m_opens m_faultAt m_newBook m_book m_written h
    rw [f_X10_book_67] at h
    refine g_aload_n (pc := 67) C 0 rfl dX10_book_67 ?_
    obtain ⟨v12, hc, h⟩ := b1_of h
    refine g_callV (pc := 68) C (w' := cs_X10 J.2.2.1 a0 m_thrown m_refused m_taped m_size m_at m_bad m_badKind m_opens m_faultAt m_tape m_newBed m_newLetter m_newReader m_bed m_letter m_reader m_newBeds m_newLetters m_newReaders m_beds m_letters m_readers m_newCode m_newOf m_code m_ofCode m_stack m_newCodes m_codes m_facts m_newStep m_step m_newSteps m_works m_refusedSteps m_begun m_done m_refusedNow m_now m_s m_past m_newBook m_book m_written m_mostBy m_stuffing m_stuffedMany m_lastBy m_leftBy m_splitBy m_seedNow m_image m_images) (As := []) (st := []) (ci := 10) (q0 := 0) rfl rfl (t_X10_fine (a0 := a0) hc) Sub.same kw_1458 kw_1460 kw_22 kw_95 hy_X10_fine kw_1461 rfl (Nat.le_of_ble_eq_true rfl) (Nat.le_of_ble_eq_true rfl) (Nat.le_of_ble_eq_true rfl) (Nat.le_of_ble_eq_true rfl) (Nat.le_of_ble_eq_true rfl) dX10_book_68 ?_
    refine g_if_eq (pc := 71) C (tgt := 168) dX10_book_71 rfl h (fun h => ?_) (fun h => ?_)
    · exact j_X10_book_168 C E    x2 m_thrown m_refused m_taped m_size m_at m_bad m_badKind m_opens m_faultAt m_newBook m_book m_written h
    · refine g_aload_n (pc := 74) C 0 rfl dX10_book_74 ?_
      obtain ⟨v13, c14, hc, h⟩ := b2_of h
      refine g_callV (pc := 75) C (w' := cs_X10 J.2.2.1 a0 m_thrown m_refused m_taped m_size c14 m_bad m_badKind m_opens m_faultAt m_tape m_newBed m_newLetter m_newReader m_bed m_letter m_reader m_newBeds m_newLetters m_newReaders m_beds m_letters m_readers m_newCode m_newOf m_code m_ofCode m_stack m_newCodes m_codes m_facts m_newStep m_step m_newSteps m_works m_refusedSteps m_begun m_done m_refusedNow m_now m_s m_past m_newBook m_book m_written m_mostBy m_stuffing m_stuffedMany m_lastBy m_leftBy m_splitBy m_seedNow m_image m_images) (As := []) (st := []) (ci := 10) (q0 := 0) rfl rfl (t_X10_isMore (a0 := a0) hc) Sub.same kw_1462 kw_1464 kw_23 kw_95 hy_X10_isMore kw_1465 rfl (Nat.le_of_ble_eq_true rfl) (Nat.le_of_ble_eq_true rfl) (Nat.le_of_ble_eq_true rfl) (Nat.le_of_ble_eq_true rfl) (Nat.le_of_ble_eq_true rfl) dX10_book_75 ?_
      refine g_if_eq (pc := 78) C (tgt := 168) dX10_book_78 rfl h (fun h => ?_) (fun h => ?_)
      · exact j_X10_book_168 C E    x2 m_thrown m_refused m_taped m_size c14 m_bad m_badKind m_opens m_faultAt m_newBook m_book m_written h
      · refine g_aload_n (pc := 81) C 0 rfl dX10_book_81 ?_
        obtain ⟨v15, c16, hc, h⟩ := b2_of h
        refine g_callV (pc := 82) C (w' := cs_X10 J.2.2.1 a0 m_thrown m_refused m_taped m_size c16 m_bad m_badKind m_opens m_faultAt m_tape m_newBed m_newLetter m_newReader m_bed m_letter m_reader m_newBeds m_newLetters m_newReaders m_beds m_letters m_readers m_newCode m_newOf m_code m_ofCode m_stack m_newCodes m_codes m_facts m_newStep m_step m_newSteps m_works m_refusedSteps m_begun m_done m_refusedNow m_now m_s m_past m_newBook m_book m_written m_mostBy m_stuffing m_stuffedMany m_lastBy m_leftBy m_splitBy m_seedNow m_image m_images) (As := []) (st := []) (ci := 10) (q0 := 0) rfl rfl (t_X10_here (a0 := a0) hc) Sub.same kw_1466 kw_1468 kw_24 kw_95 hy_X10_here kw_1469 rfl (Nat.le_of_ble_eq_true rfl) (Nat.le_of_ble_eq_true rfl) (Nat.le_of_ble_eq_true rfl) (Nat.le_of_ble_eq_true rfl) (Nat.le_of_ble_eq_true rfl) dX10_book_82 ?_
        refine g_pop (pc := 85) C dX10_book_85 rfl ?_
        refine g_aload_n (pc := 86) C 0 rfl dX10_book_86 ?_
        refine g_get (pc := 87) C FOK_X10 0 rfl rfl 4 (by decide) kw_1281 rfl dX10_book_87 ?_
        refine g_istore_n (pc := 90) C [(3, .int c16), (0, .ref (a0 0)), (2, .int x2)] dX10_book_90 rfl (by decide) rfl ?_
        refine g_aload_n (pc := 91) C 1 rfl dX10_book_91 ?_
        refine g_iconst (pc := 92) C dX10_book_92 ci_0 ?_
        refine g_aload_n (pc := 93) C 1 rfl dX10_book_93 ?_
        refine g_get (pc := 94) C FOK_X10 0 rfl rfl 19 (by decide) kw_1296 rfl dX10_book_94 ?_
        refine g_iconst (pc := 97) C dX10_book_97 ci_1 ?_
        refine g_isub (pc := 98) C dX10_book_98 ?_
        obtain ⟨v17, c18, c19, c20, hc, h⟩ := b4_of h
        refine g_callV (pc := 99) C (w' := cs_X10 J.2.2.1 a0 m_thrown m_refused m_taped m_size c18 c19 c20 m_opens m_faultAt m_tape m_newBed m_newLetter m_newReader m_bed m_letter m_reader m_newBeds m_newLetters m_newReaders m_beds m_letters m_readers m_newCode m_newOf m_code m_ofCode m_stack m_newCodes m_codes m_facts m_newStep m_step m_newSteps m_works m_refusedSteps m_begun m_done m_refusedNow m_now m_s m_past m_newBook m_book m_written m_mostBy m_stuffing m_stuffedMany m_lastBy m_leftBy m_splitBy m_seedNow m_image m_images) (As := [.int 0, .int (m_beds - 1)]) (st := []) (ci := 10) (q0 := 0) rfl rfl (t_X10_readNumber (a0 := a0) hc) Sub.same kw_1504 kw_1506 kw_30 kw_95 hy_X10_readNumber kw_1507 rfl (Nat.le_of_ble_eq_true rfl) (Nat.le_of_ble_eq_true rfl) (Nat.le_of_ble_eq_true rfl) (Nat.le_of_ble_eq_true rfl) (Nat.le_of_ble_eq_true rfl) dX10_book_99 ?_
        refine g_istore (pc := 102) C [(4, .int v17), (3, .int c16), (0, .ref (a0 0)), (2, .int x2)] dX10_book_102 (by decide) rfl ?_
        refine g_aload_n (pc := 104) C 2 rfl dX10_book_104 ?_
        obtain ⟨v21, hc, h⟩ := b1_of h
        refine g_callV (pc := 105) C (w' := cs_X10 J.2.2.1 a0 m_thrown m_refused m_taped m_size c18 c19 c20 m_opens m_faultAt m_tape m_newBed m_newLetter m_newReader m_bed m_letter m_reader m_newBeds m_newLetters m_newReaders m_beds m_letters m_readers m_newCode m_newOf m_code m_ofCode m_stack m_newCodes m_codes m_facts m_newStep m_step m_newSteps m_works m_refusedSteps m_begun m_done m_refusedNow m_now m_s m_past m_newBook m_book m_written m_mostBy m_stuffing m_stuffedMany m_lastBy m_leftBy m_splitBy m_seedNow m_image m_images) (As := []) (st := []) (ci := 10) (q0 := 0) rfl rfl (t_X10_fine (a0 := a0) hc) Sub.same kw_1458 kw_1460 kw_22 kw_95 hy_X10_fine kw_1461 rfl (Nat.le_of_ble_eq_true rfl) (Nat.le_of_ble_eq_true rfl) (Nat.le_of_ble_eq_true rfl) (Nat.le_of_ble_eq_true rfl) (Nat.le_of_ble_eq_true rfl) dX10_book_105 ?_
        refine g_if_eq (pc := 108) C (tgt := 128) dX10_book_108 rfl h (fun h => ?_) (fun h => ?_)
        · refine g_lv [2, 3, 0] rfl ?_
          exact j_X10_book_128 C E   ih x2 v17 m_thrown m_refused m_taped m_size c18 c19 c20 m_opens m_faultAt m_newBook m_book m_written h
        · refine g_aload_n (pc := 111) C 2 rfl dX10_book_111 ?_
          refine g_get (pc := 112) C FOK_X10 0 rfl rfl 41 (by decide) kw_1318 rfl dX10_book_112 ?_
          refine g_iload (pc := 115) C 0 rfl dX10_book_115 ?_
          obtain ⟨hi, h⟩ := ix_of h
          refine g_iald (pc := 117) C 20 rfl hi dX10_book_117 ?_
          refine g_iconst (pc := 118) C dX10_book_118 ci_m1 ?_
          refine g_icmp_eq (pc := 119) C (tgt := 128) dX10_book_119 rfl h (fun h => ?_) (fun h => ?_)
          · refine g_lv [2, 3, 0] rfl ?_
            exact j_X10_book_128 C E   ih x2 v17 m_thrown m_refused m_taped m_size c18 c19 c20 m_opens m_faultAt m_newBook m_book m_written h
          · refine g_aload_n (pc := 122) C 2 rfl dX10_book_122 ?_
            refine g_iconst (pc := 123) C dX10_book_123 ci_2 ?_
            refine g_iload_n (pc := 124) C 1 rfl dX10_book_124 ?_
            obtain ⟨c22, c23, hc, h⟩ := b2_of h
            refine g_callV (pc := 125) C (w' := cs_X10 J.2.2.1 a0 m_thrown m_refused m_taped m_size c18 c22 c23 m_opens m_faultAt m_tape m_newBed m_newLetter m_newReader m_bed m_letter m_reader m_newBeds m_newLetters m_newReaders m_beds m_letters m_readers m_newCode m_newOf m_code m_ofCode m_stack m_newCodes m_codes m_facts m_newStep m_step m_newSteps m_works m_refusedSteps m_begun m_done m_refusedNow m_now m_s m_past m_newBook m_book m_written m_mostBy m_stuffing m_stuffedMany m_lastBy m_leftBy m_splitBy m_seedNow m_image m_images) (As := [.int 2, .int c16]) (st := []) (ci := 10) (q0 := 0) rfl rfl (t_X10_wrong (a0 := a0) hc) Sub.same kw_1488 kw_1490 kw_26 kw_95 hy_X10_wrong kw_1491 rfl (Nat.le_of_ble_eq_true rfl) (Nat.le_of_ble_eq_true rfl) (Nat.le_of_ble_eq_true rfl) (Nat.le_of_ble_eq_true rfl) (Nat.le_of_ble_eq_true rfl) dX10_book_125 ?_
            refine g_lv [2, 3, 0] rfl ?_
            exact j_X10_book_128 C E   ih x2 v17 m_thrown m_refused m_taped m_size c18 c22 c23 m_opens m_faultAt m_newBook m_book m_written h
set_option maxRecDepth 100000 in
set_option maxHeartbeats 4000000 in
theorem j_X10_book_46 {J : Jt} {Z : Zt} {a0 : Nat → Nat} {m_tape : Nat → Int32} {m_newBed : Nat → Int32} {m_newLetter : Nat → Int32} {m_newReader : Nat → Int32} {m_bed : Nat → Int32} {m_letter : Nat → Int32} {m_reader : Nat → Int32} {m_newBeds : Int32} {m_newLetters : Int32} {m_newReaders : Int32} {m_beds : Int32} {m_letters : Int32} {m_readers : Int32} {m_newCode : Nat → Int32} {m_newOf : Nat → Int32} {m_code : Nat → Int32} {m_ofCode : Nat → Int32} {m_stack : Nat → Int32} {m_newCodes : Int32} {m_codes : Int32} {m_facts : Nat → Int32} {m_newStep : Nat → Int32} {m_step : Nat → Int32} {m_newSteps : Int32} {m_works : Int32} {m_refusedSteps : Int32} {m_begun : Int32} {m_done : Int32} {m_refusedNow : Int32} {m_now : Nat → Int32} {m_s : Nat → Int32} {m_past : Nat → Int32} {m_mostBy : Nat → Int32} {m_stuffing : Nat → Int32} {m_stuffedMany : Int32} {m_lastBy : Nat → Int32} {m_leftBy : Nat → Int32} {m_splitBy : Nat → Int64} {m_seedNow : Int32} {m_image : Nat → Int32} {m_images : Int32} {n1 : Int32} {r : Int32} {o_m_thrown : Int32} {o_m_refused : Nat → Int32} {o_m_taped : Int32} {o_m_size : Int32} {o_m_at : Int32} {o_m_bad : Int32} {o_m_badKind : Int32} {o_m_opens : Int32} {o_m_faultAt : Int32} {o_m_newBook : Nat → Int32} {o_m_book : Nat → Int32} {o_m_written : Int32} (C : Cx J Z cX10_book 6 RX10 (some .int) rm_X10_book) (E : Ez J Z 0 0 (some (.int r)) (cs_X10 J.2.2.1 a0 o_m_thrown o_m_refused o_m_taped o_m_size o_m_at o_m_bad o_m_badKind o_m_opens o_m_faultAt m_tape m_newBed m_newLetter m_newReader m_bed m_letter m_reader m_newBeds m_newLetters m_newReaders m_beds m_letters m_readers m_newCode m_newOf m_code m_ofCode m_stack m_newCodes m_codes m_facts m_newStep m_step m_newSteps m_works m_refusedSteps m_begun m_done m_refusedNow m_now m_s m_past o_m_newBook o_m_book o_m_written m_mostBy m_stuffing m_stuffedMany m_lastBy m_leftBy m_splitBy m_seedNow m_image m_images)) : ∀ (n : Nat) (x2 : Int32) (m_thrown : Int32) (m_refused : Nat → Int32) (m_taped : Int32) (m_size : Int32) (m_at : Int32) (m_bad : Int32) (m_badKind : Int32) (m_opens : Int32) (m_faultAt : Int32) (m_newBook : Nat → Int32) (m_book : Nat → Int32) (m_written : Int32), f_X10_book_46 m_tape m_beds n1 n x2 m_thrown m_refused m_taped m_size m_at m_bad m_badKind m_opens m_faultAt m_newBook m_book m_written = some (r, o_m_thrown, o_m_refused, o_m_taped, o_m_size, o_m_at, o_m_bad, o_m_badKind, o_m_opens, o_m_faultAt, o_m_newBook, o_m_book, o_m_written) → G J Z 0 0 (cs_X10 J.2.2.1 a0 m_thrown m_refused m_taped m_size m_at m_bad m_badKind m_opens m_faultAt m_tape m_newBed m_newLetter m_newReader m_bed m_letter m_reader m_newBeds m_newLetters m_newReaders m_beds m_letters m_readers m_newCode m_newOf m_code m_ofCode m_stack m_newCodes m_codes m_facts m_newStep m_step m_newSteps m_works m_refusedSteps m_begun m_done m_refusedNow m_now m_s m_past m_newBook m_book m_written m_mostBy m_stuffing m_stuffedMany m_lastBy m_leftBy m_splitBy m_seedNow m_image m_images) 6 [(0, .ref (a0 0)), (2, .int x2)] 46 [] := by
  intro n
  induction n with
  | zero =>
    intro x2 m_thrown m_refused m_taped m_size m_at m_bad m_badKind m_opens m_faultAt m_newBook m_book m_written h
    rw [f_X10_book_46] at h
    cases h
  | succ n ih =>
    intro x2 m_thrown m_refused m_taped m_size m_at m_bad m_badKind m_opens m_faultAt m_newBook m_book m_written h
    rw [f_X10_book_46] at h
    refine g_iload_n (pc := 46) C 1 rfl dX10_book_46 ?_
    refine g_bipush (pc := 47) C dX10_book_47 cb_6 ?_
    refine g_icmp_ge (pc := 49) C (tgt := 65) dX10_book_49 rfl h (fun h => ?_) (fun h => ?_)
    · refine g_iconst (pc := 65) C dX10_book_65 ci_0 ?_
      refine g_istore_n (pc := 66) C [(2, .int 0), (0, .ref (a0 0))] dX10_book_66 rfl (by decide) rfl ?_
      refine g_lv [1, 0] rfl ?_
      exact j_X10_book_67 C E    FU 0 m_thrown m_refused m_taped m_size m_at m_bad m_badKind m_opens m_faultAt m_newBook m_book m_written h
    · refine g_aload_n (pc := 52) C 0 rfl dX10_book_52 ?_
      refine g_get (pc := 53) C FOK_X10 0 rfl rfl 41 (by decide) kw_1318 rfl dX10_book_53 ?_
      refine g_iload_n (pc := 56) C 1 rfl dX10_book_56 ?_
      refine g_iconst (pc := 57) C dX10_book_57 ci_m1 ?_
      obtain ⟨hi, h⟩ := ix_of h
      refine g_iast (pc := 58) C (w' := cs_X10 J.2.2.1 a0 m_thrown m_refused m_taped m_size m_at m_bad m_badKind m_opens m_faultAt m_tape m_newBed m_newLetter m_newReader m_bed m_letter m_reader m_newBeds m_newLetters m_newReaders m_beds m_letters m_readers m_newCode m_newOf m_code m_ofCode m_stack m_newCodes m_codes m_facts m_newStep m_step m_newSteps m_works m_refusedSteps m_begun m_done m_refusedNow m_now m_s m_past (upd m_newBook x2.toNatClampNeg (-1)) m_book m_written m_mostBy m_stuffing m_stuffedMany m_lastBy m_leftBy m_splitBy m_seedNow m_image m_images) 20 rfl hi dX10_book_58 rfl ?_
      refine g_iinc (pc := 59) C (j := 1) [(2, .int (x2 + 1)), (0, .ref (a0 0))] dX10_book_59 rfl (ii_1 _) (by decide) rfl ?_
      refine g_goto (pc := 62) C (tgt := 46) dX10_book_62 rfl ?_
      refine g_lv [1, 0] rfl ?_
      exact ih (x2 + 1) m_thrown m_refused m_taped m_size m_at m_bad m_badKind m_opens m_faultAt (upd m_newBook x2.toNatClampNeg (-1)) m_book m_written h
set_option maxRecDepth 100000 in
set_option maxHeartbeats 4000000 in
theorem j_X10_book_29 {J : Jt} {Z : Zt} {a0 : Nat → Nat} {m_tape : Nat → Int32} {m_newBed : Nat → Int32} {m_newLetter : Nat → Int32} {m_newReader : Nat → Int32} {m_bed : Nat → Int32} {m_letter : Nat → Int32} {m_reader : Nat → Int32} {m_newBeds : Int32} {m_newLetters : Int32} {m_newReaders : Int32} {m_beds : Int32} {m_letters : Int32} {m_readers : Int32} {m_newCode : Nat → Int32} {m_newOf : Nat → Int32} {m_code : Nat → Int32} {m_ofCode : Nat → Int32} {m_stack : Nat → Int32} {m_newCodes : Int32} {m_codes : Int32} {m_facts : Nat → Int32} {m_newStep : Nat → Int32} {m_step : Nat → Int32} {m_newSteps : Int32} {m_works : Int32} {m_refusedSteps : Int32} {m_begun : Int32} {m_done : Int32} {m_refusedNow : Int32} {m_now : Nat → Int32} {m_s : Nat → Int32} {m_past : Nat → Int32} {m_mostBy : Nat → Int32} {m_stuffing : Nat → Int32} {m_stuffedMany : Int32} {m_lastBy : Nat → Int32} {m_leftBy : Nat → Int32} {m_splitBy : Nat → Int64} {m_seedNow : Int32} {m_image : Nat → Int32} {m_images : Int32} {n1 : Int32} {r : Int32} {o_m_thrown : Int32} {o_m_refused : Nat → Int32} {o_m_taped : Int32} {o_m_size : Int32} {o_m_at : Int32} {o_m_bad : Int32} {o_m_badKind : Int32} {o_m_opens : Int32} {o_m_faultAt : Int32} {o_m_newBook : Nat → Int32} {o_m_book : Nat → Int32} {o_m_written : Int32} (C : Cx J Z cX10_book 6 RX10 (some .int) rm_X10_book) (E : Ez J Z 0 0 (some (.int r)) (cs_X10 J.2.2.1 a0 o_m_thrown o_m_refused o_m_taped o_m_size o_m_at o_m_bad o_m_badKind o_m_opens o_m_faultAt m_tape m_newBed m_newLetter m_newReader m_bed m_letter m_reader m_newBeds m_newLetters m_newReaders m_beds m_letters m_readers m_newCode m_newOf m_code m_ofCode m_stack m_newCodes m_codes m_facts m_newStep m_step m_newSteps m_works m_refusedSteps m_begun m_done m_refusedNow m_now m_s m_past o_m_newBook o_m_book o_m_written m_mostBy m_stuffing m_stuffedMany m_lastBy m_leftBy m_splitBy m_seedNow m_image m_images)) : ∀ (y1 : Int32) (m_thrown : Int32) (m_refused : Nat → Int32) (m_taped : Int32) (m_size : Int32) (m_at : Int32) (m_bad : Int32) (m_badKind : Int32) (m_opens : Int32) (m_faultAt : Int32) (m_newBook : Nat → Int32) (m_book : Nat → Int32) (m_written : Int32), f_X10_book_29 m_tape m_beds n1 y1 m_thrown m_refused m_taped m_size m_at m_bad m_badKind m_opens m_faultAt m_newBook m_book m_written = some (r, o_m_thrown, o_m_refused, o_m_taped, o_m_size, o_m_at, o_m_bad, o_m_badKind, o_m_opens, o_m_faultAt, o_m_newBook, o_m_book, o_m_written) → G J Z 0 0 (cs_X10 J.2.2.1 a0 m_thrown m_refused m_taped m_size m_at m_bad m_badKind m_opens m_faultAt m_tape m_newBed m_newLetter m_newReader m_bed m_letter m_reader m_newBeds m_newLetters m_newReaders m_beds m_letters m_readers m_newCode m_newOf m_code m_ofCode m_stack m_newCodes m_codes m_facts m_newStep m_step m_newSteps m_works m_refusedSteps m_begun m_done m_refusedNow m_now m_s m_past m_newBook m_book m_written m_mostBy m_stuffing m_stuffedMany m_lastBy m_leftBy m_splitBy m_seedNow m_image m_images) 6 [(0, .ref (a0 0)), (1, .int n1)] 29 [.int y1, .ref (a0 0)] := by
  intro y1 m_thrown m_refused m_taped m_size m_at m_bad m_badKind m_opens m_faultAt m_newBook m_book m_written h
  unfold f_X10_book_29 at h
  refine g_iconst (pc := 29) C dX10_book_29 ci_1 ?_
  refine g_iconst (pc := 30) C dX10_book_30 ci_1 ?_
  obtain ⟨v24, c25, c26, hc, h⟩ := b3_of h
  refine g_callV (pc := 31) C (w' := cs_X10 J.2.2.1 a0 c25 c26 m_taped m_size m_at m_bad m_badKind m_opens m_faultAt m_tape m_newBed m_newLetter m_newReader m_bed m_letter m_reader m_newBeds m_newLetters m_newReaders m_beds m_letters m_readers m_newCode m_newOf m_code m_ofCode m_stack m_newCodes m_codes m_facts m_newStep m_step m_newSteps m_works m_refusedSteps m_begun m_done m_refusedNow m_now m_s m_past m_newBook m_book m_written m_mostBy m_stuffing m_stuffedMany m_lastBy m_leftBy m_splitBy m_seedNow m_image m_images) (As := [.int y1, .int 1, .int 1]) (st := []) (ci := 10) (q0 := 0) rfl rfl (t_X10_may (a0 := a0) hc) Sub.same kw_1450 kw_1452 kw_20 kw_95 hy_X10_may kw_1453 rfl (Nat.le_of_ble_eq_true rfl) (Nat.le_of_ble_eq_true rfl) (Nat.le_of_ble_eq_true rfl) (Nat.le_of_ble_eq_true rfl) (Nat.le_of_ble_eq_true rfl) dX10_book_31 ?_
  refine g_if_ne (pc := 34) C (tgt := 39) dX10_book_34 rfl h (fun h => ?_) (fun h => ?_)
  · refine g_aload_n (pc := 39) C 0 rfl dX10_book_39 ?_
    refine g_iload_n (pc := 40) C 1 rfl dX10_book_40 ?_
    obtain ⟨c27, c28, c29, c30, c31, c32, hc, h⟩ := b6_of h
    refine g_callV (pc := 41) C (w' := cs_X10 J.2.2.1 a0 c25 c26 c27 c28 c29 c30 m_badKind c31 c32 m_tape m_newBed m_newLetter m_newReader m_bed m_letter m_reader m_newBeds m_newLetters m_newReaders m_beds m_letters m_readers m_newCode m_newOf m_code m_ofCode m_stack m_newCodes m_codes m_facts m_newStep m_step m_newSteps m_works m_refusedSteps m_begun m_done m_refusedNow m_now m_s m_past m_newBook m_book m_written m_mostBy m_stuffing m_stuffedMany m_lastBy m_leftBy m_splitBy m_seedNow m_image m_images) (As := [.int n1]) (st := []) (ci := 10) (q0 := 0) rfl rfl (t_X10_begins (a0 := a0) hc) Sub.same kw_1454 kw_1456 kw_21 kw_95 hy_X10_begins kw_1457 rfl (Nat.le_of_ble_eq_true rfl) (Nat.le_of_ble_eq_true rfl) (Nat.le_of_ble_eq_true rfl) (Nat.le_of_ble_eq_true rfl) (Nat.le_of_ble_eq_true rfl) dX10_book_41 ?_
    refine g_iconst (pc := 44) C dX10_book_44 ci_0 ?_
    refine g_istore_n (pc := 45) C [(2, .int 0), (0, .ref (a0 0)), (1, .int n1)] dX10_book_45 rfl (by decide) rfl ?_
    refine g_lv [1, 0] rfl ?_
    exact j_X10_book_46 C E    FU 0 c25 c26 c27 c28 c29 c30 m_badKind c31 c32 m_newBook m_book m_written h
  · refine g_iconst (pc := 37) C dX10_book_37 ci_0 ?_
    cases h
    exact g_iret C E dX10_book_38
set_option maxRecDepth 100000 in
set_option maxHeartbeats 4000000 in
theorem t_X10_book {J : Jt} {a0 : Nat → Nat} {m_thrown : Int32} {m_refused : Nat → Int32} {m_taped : Int32} {m_size : Int32} {m_at : Int32} {m_bad : Int32} {m_badKind : Int32} {m_opens : Int32} {m_faultAt : Int32} {m_tape : Nat → Int32} {m_newBed : Nat → Int32} {m_newLetter : Nat → Int32} {m_newReader : Nat → Int32} {m_bed : Nat → Int32} {m_letter : Nat → Int32} {m_reader : Nat → Int32} {m_newBeds : Int32} {m_newLetters : Int32} {m_newReaders : Int32} {m_beds : Int32} {m_letters : Int32} {m_readers : Int32} {m_newCode : Nat → Int32} {m_newOf : Nat → Int32} {m_code : Nat → Int32} {m_ofCode : Nat → Int32} {m_stack : Nat → Int32} {m_newCodes : Int32} {m_codes : Int32} {m_facts : Nat → Int32} {m_newStep : Nat → Int32} {m_step : Nat → Int32} {m_newSteps : Int32} {m_works : Int32} {m_refusedSteps : Int32} {m_begun : Int32} {m_done : Int32} {m_refusedNow : Int32} {m_now : Nat → Int32} {m_s : Nat → Int32} {m_past : Nat → Int32} {m_newBook : Nat → Int32} {m_book : Nat → Int32} {m_written : Int32} {m_mostBy : Nat → Int32} {m_stuffing : Nat → Int32} {m_stuffedMany : Int32} {m_lastBy : Nat → Int32} {m_leftBy : Nat → Int32} {m_splitBy : Nat → Int64} {m_seedNow : Int32} {m_image : Nat → Int32} {m_images : Int32} {n1 : Int32} {r : Int32} {o_m_thrown : Int32} {o_m_refused : Nat → Int32} {o_m_taped : Int32} {o_m_size : Int32} {o_m_at : Int32} {o_m_bad : Int32} {o_m_badKind : Int32} {o_m_opens : Int32} {o_m_faultAt : Int32} {o_m_newBook : Nat → Int32} {o_m_book : Nat → Int32} {o_m_written : Int32} (h : f_X10_book m_thrown m_refused m_taped m_size m_at m_bad m_badKind m_opens m_faultAt m_tape m_beds m_newBook m_book m_written n1 = some (r, o_m_thrown, o_m_refused, o_m_taped, o_m_size, o_m_at, o_m_bad, o_m_badKind, o_m_opens, o_m_faultAt, o_m_newBook, o_m_book, o_m_written)) : Mt J yX10_book cX10_book 6 (some .int) rm_X10_book [.ref (a0 0), .int n1] (cs_X10 J.2.2.1 a0 m_thrown m_refused m_taped m_size m_at m_bad m_badKind m_opens m_faultAt m_tape m_newBed m_newLetter m_newReader m_bed m_letter m_reader m_newBeds m_newLetters m_newReaders m_beds m_letters m_readers m_newCode m_newOf m_code m_ofCode m_stack m_newCodes m_codes m_facts m_newStep m_step m_newSteps m_works m_refusedSteps m_begun m_done m_refusedNow m_now m_s m_past m_newBook m_book m_written m_mostBy m_stuffing m_stuffedMany m_lastBy m_leftBy m_splitBy m_seedNow m_image m_images) (some (.int r)) (cs_X10 J.2.2.1 a0 o_m_thrown o_m_refused o_m_taped o_m_size o_m_at o_m_bad o_m_badKind o_m_opens o_m_faultAt m_tape m_newBed m_newLetter m_newReader m_bed m_letter m_reader m_newBeds m_newLetters m_newReaders m_beds m_letters m_readers m_newCode m_newOf m_code m_ofCode m_stack m_newCodes m_codes m_facts m_newStep m_step m_newSteps m_works m_refusedSteps m_begun m_done m_refusedNow m_now m_s m_past o_m_newBook o_m_book o_m_written m_mostBy m_stuffing m_stuffedMany m_lastBy m_leftBy m_splitBy m_seedNow m_image m_images) := by
  refine Mt_of (own := RX10) (by decide) rfl (Nat.le_of_ble_eq_true rfl) rfl (fun Z C E => ?_)
  unfold f_X10_book at h
  show G J Z 0 0 (cs_X10 J.2.2.1 a0 m_thrown m_refused m_taped m_size m_at m_bad m_badKind m_opens m_faultAt m_tape m_newBed m_newLetter m_newReader m_bed m_letter m_reader m_newBeds m_newLetters m_newReaders m_beds m_letters m_readers m_newCode m_newOf m_code m_ofCode m_stack m_newCodes m_codes m_facts m_newStep m_step m_newSteps m_works m_refusedSteps m_begun m_done m_refusedNow m_now m_s m_past m_newBook m_book m_written m_mostBy m_stuffing m_stuffedMany m_lastBy m_leftBy m_splitBy m_seedNow m_image m_images) 6 [(0, .ref (a0 0)), (1, .int n1)] 0 []
  refine g_aload_n (pc := 0) C 0 rfl dX10_book_0 ?_
  refine g_iconst (pc := 1) C dX10_book_1 ci_0 ?_
  refine g_put (pc := 2) C (w' := cs_X10 J.2.2.1 a0 0 m_refused m_taped m_size m_at m_bad m_badKind m_opens m_faultAt m_tape m_newBed m_newLetter m_newReader m_bed m_letter m_reader m_newBeds m_newLetters m_newReaders m_beds m_letters m_readers m_newCode m_newOf m_code m_ofCode m_stack m_newCodes m_codes m_facts m_newStep m_step m_newSteps m_works m_refusedSteps m_begun m_done m_refusedNow m_now m_s m_past m_newBook m_book m_written m_mostBy m_stuffing m_stuffedMany m_lastBy m_leftBy m_splitBy m_seedNow m_image m_images) FOK_X10 0 rfl rfl 0 (by decide) kw_1277 rfl rfl rfl (Nat.le_of_ble_eq_true rfl) dX10_book_2 rfl ?_
  refine g_aload_n (pc := 5) C 0 rfl dX10_book_5 ?_
  refine g_iload_n (pc := 6) C 1 rfl dX10_book_6 ?_
  refine g_if_lt (pc := 7) C (tgt := 28) dX10_book_7 rfl h (fun h => ?_) (fun h => ?_)
  · refine g_iconst (pc := 28) C dX10_book_28 ci_0 ?_
    exact j_X10_book_29 C E    0 0 m_refused m_taped m_size m_at m_bad m_badKind m_opens m_faultAt m_newBook m_book m_written h
  · refine g_iload_n (pc := 10) C 1 rfl dX10_book_10 ?_
    refine g_aload_n (pc := 11) C 0 rfl dX10_book_11 ?_
    refine g_get (pc := 12) C FOK_X10 0 rfl rfl 2 (by decide) kw_1279 rfl dX10_book_12 ?_
    refine g_icmp_gt (pc := 15) C (tgt := 28) dX10_book_15 rfl h (fun h => ?_) (fun h => ?_)
    · refine g_iconst (pc := 28) C dX10_book_28 ci_0 ?_
      exact j_X10_book_29 C E    0 0 m_refused m_taped m_size m_at m_bad m_badKind m_opens m_faultAt m_newBook m_book m_written h
    · refine g_iload_n (pc := 18) C 1 rfl dX10_book_18 ?_
      refine g_bipush (pc := 19) C dX10_book_19 cb_60 ?_
      refine g_icmp_gt (pc := 21) C (tgt := 28) dX10_book_21 rfl h (fun h => ?_) (fun h => ?_)
      · refine g_iconst (pc := 28) C dX10_book_28 ci_0 ?_
        exact j_X10_book_29 C E    0 0 m_refused m_taped m_size m_at m_bad m_badKind m_opens m_faultAt m_newBook m_book m_written h
      · refine g_iconst (pc := 24) C dX10_book_24 ci_1 ?_
        refine g_goto (pc := 25) C (tgt := 29) dX10_book_25 rfl ?_
        exact j_X10_book_29 C E    1 0 m_refused m_taped m_size m_at m_bad m_badKind m_opens m_faultAt m_newBook m_book m_written h
noncomputable def f_X10_undo_26  (m_past : Nat → Int32) : Nat → Int32 → Int32 → Int32 → Int32 → (Nat → Int32) → Option (Int32 × Int32 × Int32 × Int32 × (Nat → Int32))
  | 0, _, _, _, _, _ => none
  | n + 1, x1, m_thrown, m_works, m_refusedSteps, m_now => if 165 ≤ x1 then some (m_works, m_thrown, m_works, 0, m_now) else if ixb ((165 * m_works) + x1) 2640 then if ixb x1 165 then f_X10_undo_26 m_past n (x1 + 1) m_thrown m_works m_refusedSteps (upd m_now x1.toNatClampNeg (m_past ((165 * m_works) + x1).toNatClampNeg)) else none else none
noncomputable def f_X10_undo (m_thrown : Int32) (m_works : Int32) (m_refusedSteps : Int32) (m_now : Nat → Int32) (m_past : Nat → Int32) : Option (Int32 × Int32 × Int32 × Int32 × (Nat → Int32)) := if m_works = 0 then some ((-1), 0, m_works, m_refusedSteps, m_now) else f_X10_undo_26 m_past FU 0 0 (m_works - 1) m_refusedSteps m_now
def rm_X10_undo : Room := { frames := 0, cells := 0, slots := 0, locals := 0 }
set_option maxRecDepth 100000 in
set_option maxHeartbeats 4000000 in
theorem j_X10_undo_26 {J : Jt} {Z : Zt} {a0 : Nat → Nat} {m_refused : Nat → Int32} {m_taped : Int32} {m_size : Int32} {m_at : Int32} {m_bad : Int32} {m_badKind : Int32} {m_opens : Int32} {m_faultAt : Int32} {m_tape : Nat → Int32} {m_newBed : Nat → Int32} {m_newLetter : Nat → Int32} {m_newReader : Nat → Int32} {m_bed : Nat → Int32} {m_letter : Nat → Int32} {m_reader : Nat → Int32} {m_newBeds : Int32} {m_newLetters : Int32} {m_newReaders : Int32} {m_beds : Int32} {m_letters : Int32} {m_readers : Int32} {m_newCode : Nat → Int32} {m_newOf : Nat → Int32} {m_code : Nat → Int32} {m_ofCode : Nat → Int32} {m_stack : Nat → Int32} {m_newCodes : Int32} {m_codes : Int32} {m_facts : Nat → Int32} {m_newStep : Nat → Int32} {m_step : Nat → Int32} {m_newSteps : Int32} {m_begun : Int32} {m_done : Int32} {m_refusedNow : Int32} {m_s : Nat → Int32} {m_past : Nat → Int32} {m_newBook : Nat → Int32} {m_book : Nat → Int32} {m_written : Int32} {m_mostBy : Nat → Int32} {m_stuffing : Nat → Int32} {m_stuffedMany : Int32} {m_lastBy : Nat → Int32} {m_leftBy : Nat → Int32} {m_splitBy : Nat → Int64} {m_seedNow : Int32} {m_image : Nat → Int32} {m_images : Int32} {r : Int32} {o_m_thrown : Int32} {o_m_works : Int32} {o_m_refusedSteps : Int32} {o_m_now : Nat → Int32} (C : Cx J Z cX10_undo 2 RX10 (some .int) rm_X10_undo) (E : Ez J Z 0 0 (some (.int r)) (cs_X10 J.2.2.1 a0 o_m_thrown m_refused m_taped m_size m_at m_bad m_badKind m_opens m_faultAt m_tape m_newBed m_newLetter m_newReader m_bed m_letter m_reader m_newBeds m_newLetters m_newReaders m_beds m_letters m_readers m_newCode m_newOf m_code m_ofCode m_stack m_newCodes m_codes m_facts m_newStep m_step m_newSteps o_m_works o_m_refusedSteps m_begun m_done m_refusedNow o_m_now m_s m_past m_newBook m_book m_written m_mostBy m_stuffing m_stuffedMany m_lastBy m_leftBy m_splitBy m_seedNow m_image m_images)) : ∀ (n : Nat) (x1 : Int32) (m_thrown : Int32) (m_works : Int32) (m_refusedSteps : Int32) (m_now : Nat → Int32), f_X10_undo_26 m_past n x1 m_thrown m_works m_refusedSteps m_now = some (r, o_m_thrown, o_m_works, o_m_refusedSteps, o_m_now) → G J Z 0 0 (cs_X10 J.2.2.1 a0 m_thrown m_refused m_taped m_size m_at m_bad m_badKind m_opens m_faultAt m_tape m_newBed m_newLetter m_newReader m_bed m_letter m_reader m_newBeds m_newLetters m_newReaders m_beds m_letters m_readers m_newCode m_newOf m_code m_ofCode m_stack m_newCodes m_codes m_facts m_newStep m_step m_newSteps m_works m_refusedSteps m_begun m_done m_refusedNow m_now m_s m_past m_newBook m_book m_written m_mostBy m_stuffing m_stuffedMany m_lastBy m_leftBy m_splitBy m_seedNow m_image m_images) 2 [(0, .ref (a0 0)), (1, .int x1)] 26 [] := by
  intro n
  induction n with
  | zero =>
    intro x1 m_thrown m_works m_refusedSteps m_now h
    rw [f_X10_undo_26] at h
    cases h
  | succ n ih =>
    intro x1 m_thrown m_works m_refusedSteps m_now h
    rw [f_X10_undo_26] at h
    refine g_iload_n (pc := 26) C 1 rfl dX10_undo_26 ?_
    refine g_sipush (pc := 27) C dX10_undo_27 cs_165 ?_
    refine g_icmp_ge (pc := 30) C (tgt := 60) dX10_undo_30 rfl h (fun h => ?_) (fun h => ?_)
    · refine g_aload_n (pc := 60) C 0 rfl dX10_undo_60 ?_
      refine g_iconst (pc := 61) C dX10_undo_61 ci_0 ?_
      refine g_put (pc := 62) C (w' := cs_X10 J.2.2.1 a0 m_thrown m_refused m_taped m_size m_at m_bad m_badKind m_opens m_faultAt m_tape m_newBed m_newLetter m_newReader m_bed m_letter m_reader m_newBeds m_newLetters m_newReaders m_beds m_letters m_readers m_newCode m_newOf m_code m_ofCode m_stack m_newCodes m_codes m_facts m_newStep m_step m_newSteps m_works 0 m_begun m_done m_refusedNow m_now m_s m_past m_newBook m_book m_written m_mostBy m_stuffing m_stuffedMany m_lastBy m_leftBy m_splitBy m_seedNow m_image m_images) FOK_X10 0 rfl rfl 34 (by decide) kw_1311 rfl rfl rfl (Nat.le_of_ble_eq_true rfl) dX10_undo_62 rfl ?_
      refine g_aload_n (pc := 65) C 0 rfl dX10_undo_65 ?_
      refine g_get (pc := 66) C FOK_X10 0 rfl rfl 33 (by decide) kw_1310 rfl dX10_undo_66 ?_
      cases h
      exact g_iret C E dX10_undo_69
    · refine g_aload_n (pc := 33) C 0 rfl dX10_undo_33 ?_
      refine g_get (pc := 34) C FOK_X10 0 rfl rfl 38 (by decide) kw_1315 rfl dX10_undo_34 ?_
      refine g_iload_n (pc := 37) C 1 rfl dX10_undo_37 ?_
      refine g_aload_n (pc := 38) C 0 rfl dX10_undo_38 ?_
      refine g_get (pc := 39) C FOK_X10 0 rfl rfl 40 (by decide) kw_1317 rfl dX10_undo_39 ?_
      refine g_sipush (pc := 42) C dX10_undo_42 cs_165 ?_
      refine g_aload_n (pc := 45) C 0 rfl dX10_undo_45 ?_
      refine g_get (pc := 46) C FOK_X10 0 rfl rfl 33 (by decide) kw_1310 rfl dX10_undo_46 ?_
      refine g_imul (pc := 49) C dX10_undo_49 ?_
      refine g_iload_n (pc := 50) C 1 rfl dX10_undo_50 ?_
      refine g_iadd (pc := 51) C dX10_undo_51 ?_
      obtain ⟨hi, h⟩ := ix_of h
      refine g_iald (pc := 52) C 19 rfl hi dX10_undo_52 ?_
      obtain ⟨hi, h⟩ := ix_of h
      refine g_iast (pc := 53) C (w' := cs_X10 J.2.2.1 a0 m_thrown m_refused m_taped m_size m_at m_bad m_badKind m_opens m_faultAt m_tape m_newBed m_newLetter m_newReader m_bed m_letter m_reader m_newBeds m_newLetters m_newReaders m_beds m_letters m_readers m_newCode m_newOf m_code m_ofCode m_stack m_newCodes m_codes m_facts m_newStep m_step m_newSteps m_works m_refusedSteps m_begun m_done m_refusedNow (upd m_now x1.toNatClampNeg (m_past ((165 * m_works) + x1).toNatClampNeg)) m_s m_past m_newBook m_book m_written m_mostBy m_stuffing m_stuffedMany m_lastBy m_leftBy m_splitBy m_seedNow m_image m_images) 17 rfl hi dX10_undo_53 rfl ?_
      refine g_iinc (pc := 54) C (j := 1) [(1, .int (x1 + 1)), (0, .ref (a0 0))] dX10_undo_54 rfl (ii_1 _) (by decide) rfl ?_
      refine g_goto (pc := 57) C (tgt := 26) dX10_undo_57 rfl ?_
      refine g_lv [1, 0] rfl ?_
      exact ih (x1 + 1) m_thrown m_works m_refusedSteps (upd m_now x1.toNatClampNeg (m_past ((165 * m_works) + x1).toNatClampNeg)) h
set_option maxRecDepth 100000 in
set_option maxHeartbeats 4000000 in
theorem t_X10_undo {J : Jt} {a0 : Nat → Nat} {m_thrown : Int32} {m_refused : Nat → Int32} {m_taped : Int32} {m_size : Int32} {m_at : Int32} {m_bad : Int32} {m_badKind : Int32} {m_opens : Int32} {m_faultAt : Int32} {m_tape : Nat → Int32} {m_newBed : Nat → Int32} {m_newLetter : Nat → Int32} {m_newReader : Nat → Int32} {m_bed : Nat → Int32} {m_letter : Nat → Int32} {m_reader : Nat → Int32} {m_newBeds : Int32} {m_newLetters : Int32} {m_newReaders : Int32} {m_beds : Int32} {m_letters : Int32} {m_readers : Int32} {m_newCode : Nat → Int32} {m_newOf : Nat → Int32} {m_code : Nat → Int32} {m_ofCode : Nat → Int32} {m_stack : Nat → Int32} {m_newCodes : Int32} {m_codes : Int32} {m_facts : Nat → Int32} {m_newStep : Nat → Int32} {m_step : Nat → Int32} {m_newSteps : Int32} {m_works : Int32} {m_refusedSteps : Int32} {m_begun : Int32} {m_done : Int32} {m_refusedNow : Int32} {m_now : Nat → Int32} {m_s : Nat → Int32} {m_past : Nat → Int32} {m_newBook : Nat → Int32} {m_book : Nat → Int32} {m_written : Int32} {m_mostBy : Nat → Int32} {m_stuffing : Nat → Int32} {m_stuffedMany : Int32} {m_lastBy : Nat → Int32} {m_leftBy : Nat → Int32} {m_splitBy : Nat → Int64} {m_seedNow : Int32} {m_image : Nat → Int32} {m_images : Int32} {r : Int32} {o_m_thrown : Int32} {o_m_works : Int32} {o_m_refusedSteps : Int32} {o_m_now : Nat → Int32} (h : f_X10_undo m_thrown m_works m_refusedSteps m_now m_past = some (r, o_m_thrown, o_m_works, o_m_refusedSteps, o_m_now)) : Mt J yX10_undo cX10_undo 2 (some .int) rm_X10_undo [.ref (a0 0)] (cs_X10 J.2.2.1 a0 m_thrown m_refused m_taped m_size m_at m_bad m_badKind m_opens m_faultAt m_tape m_newBed m_newLetter m_newReader m_bed m_letter m_reader m_newBeds m_newLetters m_newReaders m_beds m_letters m_readers m_newCode m_newOf m_code m_ofCode m_stack m_newCodes m_codes m_facts m_newStep m_step m_newSteps m_works m_refusedSteps m_begun m_done m_refusedNow m_now m_s m_past m_newBook m_book m_written m_mostBy m_stuffing m_stuffedMany m_lastBy m_leftBy m_splitBy m_seedNow m_image m_images) (some (.int r)) (cs_X10 J.2.2.1 a0 o_m_thrown m_refused m_taped m_size m_at m_bad m_badKind m_opens m_faultAt m_tape m_newBed m_newLetter m_newReader m_bed m_letter m_reader m_newBeds m_newLetters m_newReaders m_beds m_letters m_readers m_newCode m_newOf m_code m_ofCode m_stack m_newCodes m_codes m_facts m_newStep m_step m_newSteps o_m_works o_m_refusedSteps m_begun m_done m_refusedNow o_m_now m_s m_past m_newBook m_book m_written m_mostBy m_stuffing m_stuffedMany m_lastBy m_leftBy m_splitBy m_seedNow m_image m_images) := by
  refine Mt_of (own := RX10) (by decide) rfl (Nat.le_of_ble_eq_true rfl) rfl (fun Z C E => ?_)
  unfold f_X10_undo at h
  show G J Z 0 0 (cs_X10 J.2.2.1 a0 m_thrown m_refused m_taped m_size m_at m_bad m_badKind m_opens m_faultAt m_tape m_newBed m_newLetter m_newReader m_bed m_letter m_reader m_newBeds m_newLetters m_newReaders m_beds m_letters m_readers m_newCode m_newOf m_code m_ofCode m_stack m_newCodes m_codes m_facts m_newStep m_step m_newSteps m_works m_refusedSteps m_begun m_done m_refusedNow m_now m_s m_past m_newBook m_book m_written m_mostBy m_stuffing m_stuffedMany m_lastBy m_leftBy m_splitBy m_seedNow m_image m_images) 2 [(0, .ref (a0 0))] 0 []
  refine g_aload_n (pc := 0) C 0 rfl dX10_undo_0 ?_
  refine g_iconst (pc := 1) C dX10_undo_1 ci_0 ?_
  refine g_put (pc := 2) C (w' := cs_X10 J.2.2.1 a0 0 m_refused m_taped m_size m_at m_bad m_badKind m_opens m_faultAt m_tape m_newBed m_newLetter m_newReader m_bed m_letter m_reader m_newBeds m_newLetters m_newReaders m_beds m_letters m_readers m_newCode m_newOf m_code m_ofCode m_stack m_newCodes m_codes m_facts m_newStep m_step m_newSteps m_works m_refusedSteps m_begun m_done m_refusedNow m_now m_s m_past m_newBook m_book m_written m_mostBy m_stuffing m_stuffedMany m_lastBy m_leftBy m_splitBy m_seedNow m_image m_images) FOK_X10 0 rfl rfl 0 (by decide) kw_1277 rfl rfl rfl (Nat.le_of_ble_eq_true rfl) dX10_undo_2 rfl ?_
  refine g_aload_n (pc := 5) C 0 rfl dX10_undo_5 ?_
  refine g_get (pc := 6) C FOK_X10 0 rfl rfl 33 (by decide) kw_1310 rfl dX10_undo_6 ?_
  refine g_if_ne (pc := 9) C (tgt := 14) dX10_undo_9 rfl h (fun h => ?_) (fun h => ?_)
  · refine g_aload_n (pc := 14) C 0 rfl dX10_undo_14 ?_
    refine g_dup (pc := 15) C dX10_undo_15 rfl ?_
    refine g_get (pc := 16) C FOK_X10 0 rfl rfl 33 (by decide) kw_1310 rfl dX10_undo_16 ?_
    refine g_iconst (pc := 19) C dX10_undo_19 ci_1 ?_
    refine g_isub (pc := 20) C dX10_undo_20 ?_
    refine g_put (pc := 21) C (w' := cs_X10 J.2.2.1 a0 0 m_refused m_taped m_size m_at m_bad m_badKind m_opens m_faultAt m_tape m_newBed m_newLetter m_newReader m_bed m_letter m_reader m_newBeds m_newLetters m_newReaders m_beds m_letters m_readers m_newCode m_newOf m_code m_ofCode m_stack m_newCodes m_codes m_facts m_newStep m_step m_newSteps (m_works - 1) m_refusedSteps m_begun m_done m_refusedNow m_now m_s m_past m_newBook m_book m_written m_mostBy m_stuffing m_stuffedMany m_lastBy m_leftBy m_splitBy m_seedNow m_image m_images) FOK_X10 0 rfl rfl 33 (by decide) kw_1310 rfl rfl rfl (Nat.le_of_ble_eq_true rfl) dX10_undo_21 rfl ?_
    refine g_iconst (pc := 24) C dX10_undo_24 ci_0 ?_
    refine g_istore_n (pc := 25) C [(1, .int 0), (0, .ref (a0 0))] dX10_undo_25 rfl (by decide) rfl ?_
    refine g_lv [1, 0] rfl ?_
    exact j_X10_undo_26 C E    FU 0 0 (m_works - 1) m_refusedSteps m_now h
  · refine g_iconst (pc := 12) C dX10_undo_12 ci_m1 ?_
    cases h
    exact g_iret C E dX10_undo_13
noncomputable def f_X10_sumOf_5  (m_s : Nat → Int32) (n1 : Int32) (n2 : Int32) : Nat → Int32 → Int32 → Option (Int32)
  | 0, _, _ => none
  | n + 1, x3, x4 => if n2 ≤ x4 then some x3 else if ixb (n1 + x4) 165 then f_X10_sumOf_5 m_s n1 n2 n (x3 + (m_s (n1 + x4).toNatClampNeg)) (x4 + 1) else none
noncomputable def f_X10_sumOf (m_s : Nat → Int32) (n1 : Int32) (n2 : Int32) : Option (Int32) := f_X10_sumOf_5 m_s n1 n2 FU 0 0
def rm_X10_sumOf : Room := { frames := 0, cells := 0, slots := 0, locals := 0 }
set_option maxRecDepth 100000 in
set_option maxHeartbeats 4000000 in
theorem j_X10_sumOf_5 {J : Jt} {Z : Zt} {a0 : Nat → Nat} {m_thrown : Int32} {m_refused : Nat → Int32} {m_taped : Int32} {m_size : Int32} {m_at : Int32} {m_bad : Int32} {m_badKind : Int32} {m_opens : Int32} {m_faultAt : Int32} {m_tape : Nat → Int32} {m_newBed : Nat → Int32} {m_newLetter : Nat → Int32} {m_newReader : Nat → Int32} {m_bed : Nat → Int32} {m_letter : Nat → Int32} {m_reader : Nat → Int32} {m_newBeds : Int32} {m_newLetters : Int32} {m_newReaders : Int32} {m_beds : Int32} {m_letters : Int32} {m_readers : Int32} {m_newCode : Nat → Int32} {m_newOf : Nat → Int32} {m_code : Nat → Int32} {m_ofCode : Nat → Int32} {m_stack : Nat → Int32} {m_newCodes : Int32} {m_codes : Int32} {m_facts : Nat → Int32} {m_newStep : Nat → Int32} {m_step : Nat → Int32} {m_newSteps : Int32} {m_works : Int32} {m_refusedSteps : Int32} {m_begun : Int32} {m_done : Int32} {m_refusedNow : Int32} {m_now : Nat → Int32} {m_s : Nat → Int32} {m_past : Nat → Int32} {m_newBook : Nat → Int32} {m_book : Nat → Int32} {m_written : Int32} {m_mostBy : Nat → Int32} {m_stuffing : Nat → Int32} {m_stuffedMany : Int32} {m_lastBy : Nat → Int32} {m_leftBy : Nat → Int32} {m_splitBy : Nat → Int64} {m_seedNow : Int32} {m_image : Nat → Int32} {m_images : Int32} {n1 : Int32} {n2 : Int32} {r : Int32} (C : Cx J Z cX10_sumOf 5 RX10 (some .int) rm_X10_sumOf) (E : Ez J Z 0 0 (some (.int r)) (cs_X10 J.2.2.1 a0 m_thrown m_refused m_taped m_size m_at m_bad m_badKind m_opens m_faultAt m_tape m_newBed m_newLetter m_newReader m_bed m_letter m_reader m_newBeds m_newLetters m_newReaders m_beds m_letters m_readers m_newCode m_newOf m_code m_ofCode m_stack m_newCodes m_codes m_facts m_newStep m_step m_newSteps m_works m_refusedSteps m_begun m_done m_refusedNow m_now m_s m_past m_newBook m_book m_written m_mostBy m_stuffing m_stuffedMany m_lastBy m_leftBy m_splitBy m_seedNow m_image m_images)) : ∀ (n : Nat) (x3 : Int32) (x4 : Int32), f_X10_sumOf_5 m_s n1 n2 n x3 x4 = some r → G J Z 0 0 (cs_X10 J.2.2.1 a0 m_thrown m_refused m_taped m_size m_at m_bad m_badKind m_opens m_faultAt m_tape m_newBed m_newLetter m_newReader m_bed m_letter m_reader m_newBeds m_newLetters m_newReaders m_beds m_letters m_readers m_newCode m_newOf m_code m_ofCode m_stack m_newCodes m_codes m_facts m_newStep m_step m_newSteps m_works m_refusedSteps m_begun m_done m_refusedNow m_now m_s m_past m_newBook m_book m_written m_mostBy m_stuffing m_stuffedMany m_lastBy m_leftBy m_splitBy m_seedNow m_image m_images) 5 [(0, .ref (a0 0)), (1, .int n1), (2, .int n2), (3, .int x3), (4, .int x4)] 5 [] := by
  intro n
  induction n with
  | zero =>
    intro x3 x4 h
    rw [f_X10_sumOf_5] at h
    cases h
  | succ n ih =>
    intro x3 x4 h
    rw [f_X10_sumOf_5] at h
    refine g_iload (pc := 5) C 4 rfl dX10_sumOf_5 ?_
    refine g_iload_n (pc := 7) C 2 rfl dX10_sumOf_7 ?_
    refine g_icmp_ge (pc := 8) C (tgt := 29) dX10_sumOf_8 rfl h (fun h => ?_) (fun h => ?_)
    · refine g_iload_n (pc := 29) C 3 rfl dX10_sumOf_29 ?_
      cases h
      exact g_iret C E dX10_sumOf_30
    · refine g_iload_n (pc := 11) C 3 rfl dX10_sumOf_11 ?_
      refine g_aload_n (pc := 12) C 0 rfl dX10_sumOf_12 ?_
      refine g_get (pc := 13) C FOK_X10 0 rfl rfl 39 (by decide) kw_1316 rfl dX10_sumOf_13 ?_
      refine g_iload_n (pc := 16) C 1 rfl dX10_sumOf_16 ?_
      refine g_iload (pc := 17) C 4 rfl dX10_sumOf_17 ?_
      refine g_iadd (pc := 19) C dX10_sumOf_19 ?_
      obtain ⟨hi, h⟩ := ix_of h
      refine g_iald (pc := 20) C 18 rfl hi dX10_sumOf_20 ?_
      refine g_iadd (pc := 21) C dX10_sumOf_21 ?_
      refine g_istore_n (pc := 22) C [(3, .int (x3 + (m_s (n1 + x4).toNatClampNeg))), (0, .ref (a0 0)), (1, .int n1), (2, .int n2), (4, .int x4)] dX10_sumOf_22 rfl (by decide) rfl ?_
      refine g_iinc (pc := 23) C (j := 4) [(4, .int (x4 + 1)), (3, .int (x3 + (m_s (n1 + x4).toNatClampNeg))), (0, .ref (a0 0)), (1, .int n1), (2, .int n2)] dX10_sumOf_23 rfl (ii_1 _) (by decide) rfl ?_
      refine g_goto (pc := 26) C (tgt := 5) dX10_sumOf_26 rfl ?_
      refine g_lv [2, 3, 4, 1, 0] rfl ?_
      exact ih (x3 + (m_s (n1 + x4).toNatClampNeg)) (x4 + 1) h
set_option maxRecDepth 100000 in
set_option maxHeartbeats 4000000 in
theorem t_X10_sumOf {J : Jt} {a0 : Nat → Nat} {m_thrown : Int32} {m_refused : Nat → Int32} {m_taped : Int32} {m_size : Int32} {m_at : Int32} {m_bad : Int32} {m_badKind : Int32} {m_opens : Int32} {m_faultAt : Int32} {m_tape : Nat → Int32} {m_newBed : Nat → Int32} {m_newLetter : Nat → Int32} {m_newReader : Nat → Int32} {m_bed : Nat → Int32} {m_letter : Nat → Int32} {m_reader : Nat → Int32} {m_newBeds : Int32} {m_newLetters : Int32} {m_newReaders : Int32} {m_beds : Int32} {m_letters : Int32} {m_readers : Int32} {m_newCode : Nat → Int32} {m_newOf : Nat → Int32} {m_code : Nat → Int32} {m_ofCode : Nat → Int32} {m_stack : Nat → Int32} {m_newCodes : Int32} {m_codes : Int32} {m_facts : Nat → Int32} {m_newStep : Nat → Int32} {m_step : Nat → Int32} {m_newSteps : Int32} {m_works : Int32} {m_refusedSteps : Int32} {m_begun : Int32} {m_done : Int32} {m_refusedNow : Int32} {m_now : Nat → Int32} {m_s : Nat → Int32} {m_past : Nat → Int32} {m_newBook : Nat → Int32} {m_book : Nat → Int32} {m_written : Int32} {m_mostBy : Nat → Int32} {m_stuffing : Nat → Int32} {m_stuffedMany : Int32} {m_lastBy : Nat → Int32} {m_leftBy : Nat → Int32} {m_splitBy : Nat → Int64} {m_seedNow : Int32} {m_image : Nat → Int32} {m_images : Int32} {n1 : Int32} {n2 : Int32} {r : Int32} (h : f_X10_sumOf m_s n1 n2 = some r) : Mt J yX10_sumOf cX10_sumOf 5 (some .int) rm_X10_sumOf [.ref (a0 0), .int n1, .int n2] (cs_X10 J.2.2.1 a0 m_thrown m_refused m_taped m_size m_at m_bad m_badKind m_opens m_faultAt m_tape m_newBed m_newLetter m_newReader m_bed m_letter m_reader m_newBeds m_newLetters m_newReaders m_beds m_letters m_readers m_newCode m_newOf m_code m_ofCode m_stack m_newCodes m_codes m_facts m_newStep m_step m_newSteps m_works m_refusedSteps m_begun m_done m_refusedNow m_now m_s m_past m_newBook m_book m_written m_mostBy m_stuffing m_stuffedMany m_lastBy m_leftBy m_splitBy m_seedNow m_image m_images) (some (.int r)) (cs_X10 J.2.2.1 a0 m_thrown m_refused m_taped m_size m_at m_bad m_badKind m_opens m_faultAt m_tape m_newBed m_newLetter m_newReader m_bed m_letter m_reader m_newBeds m_newLetters m_newReaders m_beds m_letters m_readers m_newCode m_newOf m_code m_ofCode m_stack m_newCodes m_codes m_facts m_newStep m_step m_newSteps m_works m_refusedSteps m_begun m_done m_refusedNow m_now m_s m_past m_newBook m_book m_written m_mostBy m_stuffing m_stuffedMany m_lastBy m_leftBy m_splitBy m_seedNow m_image m_images) := by
  refine Mt_of (own := RX10) (by decide) rfl (Nat.le_of_ble_eq_true rfl) rfl (fun Z C E => ?_)
  unfold f_X10_sumOf at h
  show G J Z 0 0 (cs_X10 J.2.2.1 a0 m_thrown m_refused m_taped m_size m_at m_bad m_badKind m_opens m_faultAt m_tape m_newBed m_newLetter m_newReader m_bed m_letter m_reader m_newBeds m_newLetters m_newReaders m_beds m_letters m_readers m_newCode m_newOf m_code m_ofCode m_stack m_newCodes m_codes m_facts m_newStep m_step m_newSteps m_works m_refusedSteps m_begun m_done m_refusedNow m_now m_s m_past m_newBook m_book m_written m_mostBy m_stuffing m_stuffedMany m_lastBy m_leftBy m_splitBy m_seedNow m_image m_images) 5 [(0, .ref (a0 0)), (1, .int n1), (2, .int n2)] 0 []
  refine g_iconst (pc := 0) C dX10_sumOf_0 ci_0 ?_
  refine g_istore_n (pc := 1) C [(3, .int 0), (0, .ref (a0 0)), (1, .int n1), (2, .int n2)] dX10_sumOf_1 rfl (by decide) rfl ?_
  refine g_iconst (pc := 2) C dX10_sumOf_2 ci_0 ?_
  refine g_istore (pc := 3) C [(4, .int 0), (3, .int 0), (0, .ref (a0 0)), (1, .int n1), (2, .int n2)] dX10_sumOf_3 (by decide) rfl ?_
  refine g_lv [2, 3, 4, 1, 0] rfl ?_
  exact j_X10_sumOf_5 C E    FU 0 0 h
noncomputable def f_X10_leftAll_4  (m_letter : Nat → Int32) (m_letters : Int32) (m_s : Nat → Int32) : Nat → Int32 → Int32 → Option (Int32)
  | 0, _, _ => none
  | n + 1, x1, x2 => if m_letters ≤ x2 then some x1 else b1 (f_X10_leftOf m_letter m_s x2) (fun v1 => f_X10_leftAll_4 m_letter m_letters m_s n (x1 + v1) (x2 + 1))
noncomputable def f_X10_leftAll (m_letter : Nat → Int32) (m_letters : Int32) (m_s : Nat → Int32) : Option (Int32) := f_X10_leftAll_4 m_letter m_letters m_s FU 0 0
def rm_X10_leftAll : Room := { frames := 1, cells := 0, slots := 0, locals := 21 }
set_option maxRecDepth 100000 in
set_option maxHeartbeats 4000000 in
theorem j_X10_leftAll_4 {J : Jt} {Z : Zt} {a0 : Nat → Nat} {m_thrown : Int32} {m_refused : Nat → Int32} {m_taped : Int32} {m_size : Int32} {m_at : Int32} {m_bad : Int32} {m_badKind : Int32} {m_opens : Int32} {m_faultAt : Int32} {m_tape : Nat → Int32} {m_newBed : Nat → Int32} {m_newLetter : Nat → Int32} {m_newReader : Nat → Int32} {m_bed : Nat → Int32} {m_letter : Nat → Int32} {m_reader : Nat → Int32} {m_newBeds : Int32} {m_newLetters : Int32} {m_newReaders : Int32} {m_beds : Int32} {m_letters : Int32} {m_readers : Int32} {m_newCode : Nat → Int32} {m_newOf : Nat → Int32} {m_code : Nat → Int32} {m_ofCode : Nat → Int32} {m_stack : Nat → Int32} {m_newCodes : Int32} {m_codes : Int32} {m_facts : Nat → Int32} {m_newStep : Nat → Int32} {m_step : Nat → Int32} {m_newSteps : Int32} {m_works : Int32} {m_refusedSteps : Int32} {m_begun : Int32} {m_done : Int32} {m_refusedNow : Int32} {m_now : Nat → Int32} {m_s : Nat → Int32} {m_past : Nat → Int32} {m_newBook : Nat → Int32} {m_book : Nat → Int32} {m_written : Int32} {m_mostBy : Nat → Int32} {m_stuffing : Nat → Int32} {m_stuffedMany : Int32} {m_lastBy : Nat → Int32} {m_leftBy : Nat → Int32} {m_splitBy : Nat → Int64} {m_seedNow : Int32} {m_image : Nat → Int32} {m_images : Int32} {r : Int32} (C : Cx J Z cX10_leftAll 3 RX10 (some .int) rm_X10_leftAll) (E : Ez J Z 0 0 (some (.int r)) (cs_X10 J.2.2.1 a0 m_thrown m_refused m_taped m_size m_at m_bad m_badKind m_opens m_faultAt m_tape m_newBed m_newLetter m_newReader m_bed m_letter m_reader m_newBeds m_newLetters m_newReaders m_beds m_letters m_readers m_newCode m_newOf m_code m_ofCode m_stack m_newCodes m_codes m_facts m_newStep m_step m_newSteps m_works m_refusedSteps m_begun m_done m_refusedNow m_now m_s m_past m_newBook m_book m_written m_mostBy m_stuffing m_stuffedMany m_lastBy m_leftBy m_splitBy m_seedNow m_image m_images)) : ∀ (n : Nat) (x1 : Int32) (x2 : Int32), f_X10_leftAll_4 m_letter m_letters m_s n x1 x2 = some r → G J Z 0 0 (cs_X10 J.2.2.1 a0 m_thrown m_refused m_taped m_size m_at m_bad m_badKind m_opens m_faultAt m_tape m_newBed m_newLetter m_newReader m_bed m_letter m_reader m_newBeds m_newLetters m_newReaders m_beds m_letters m_readers m_newCode m_newOf m_code m_ofCode m_stack m_newCodes m_codes m_facts m_newStep m_step m_newSteps m_works m_refusedSteps m_begun m_done m_refusedNow m_now m_s m_past m_newBook m_book m_written m_mostBy m_stuffing m_stuffedMany m_lastBy m_leftBy m_splitBy m_seedNow m_image m_images) 3 [(0, .ref (a0 0)), (1, .int x1), (2, .int x2)] 4 [] := by
  intro n
  induction n with
  | zero =>
    intro x1 x2 h
    rw [f_X10_leftAll_4] at h
    cases h
  | succ n ih =>
    intro x1 x2 h
    rw [f_X10_leftAll_4] at h
    refine g_iload_n (pc := 4) C 2 rfl dX10_leftAll_4 ?_
    refine g_aload_n (pc := 5) C 0 rfl dX10_leftAll_5 ?_
    refine g_get (pc := 6) C FOK_X10 0 rfl rfl 20 (by decide) kw_1297 rfl dX10_leftAll_6 ?_
    refine g_icmp_ge (pc := 9) C (tgt := 26) dX10_leftAll_9 rfl h (fun h => ?_) (fun h => ?_)
    · refine g_iload_n (pc := 26) C 1 rfl dX10_leftAll_26 ?_
      cases h
      exact g_iret C E dX10_leftAll_27
    · refine g_iload_n (pc := 12) C 1 rfl dX10_leftAll_12 ?_
      refine g_aload_n (pc := 13) C 0 rfl dX10_leftAll_13 ?_
      refine g_iload_n (pc := 14) C 2 rfl dX10_leftAll_14 ?_
      obtain ⟨v1, hc, h⟩ := b1_of h
      refine g_callV (pc := 15) C (w' := cs_X10 J.2.2.1 a0 m_thrown m_refused m_taped m_size m_at m_bad m_badKind m_opens m_faultAt m_tape m_newBed m_newLetter m_newReader m_bed m_letter m_reader m_newBeds m_newLetters m_newReaders m_beds m_letters m_readers m_newCode m_newOf m_code m_ofCode m_stack m_newCodes m_codes m_facts m_newStep m_step m_newSteps m_works m_refusedSteps m_begun m_done m_refusedNow m_now m_s m_past m_newBook m_book m_written m_mostBy m_stuffing m_stuffedMany m_lastBy m_leftBy m_splitBy m_seedNow m_image m_images) (As := [.int x2]) (st := [.int x1]) (ci := 10) (q0 := 0) rfl rfl (t_X10_leftOf (a0 := a0) hc) Sub.same kw_1619 kw_1621 kw_52 kw_95 hy_X10_leftOf kw_1622 rfl (Nat.le_of_ble_eq_true rfl) (Nat.le_of_ble_eq_true rfl) (Nat.le_of_ble_eq_true rfl) (Nat.le_of_ble_eq_true rfl) (Nat.le_of_ble_eq_true rfl) dX10_leftAll_15 ?_
      refine g_iadd (pc := 18) C dX10_leftAll_18 ?_
      refine g_istore_n (pc := 19) C [(1, .int (x1 + v1)), (0, .ref (a0 0)), (2, .int x2)] dX10_leftAll_19 rfl (by decide) rfl ?_
      refine g_iinc (pc := 20) C (j := 2) [(2, .int (x2 + 1)), (1, .int (x1 + v1)), (0, .ref (a0 0))] dX10_leftAll_20 rfl (ii_1 _) (by decide) rfl ?_
      refine g_goto (pc := 23) C (tgt := 4) dX10_leftAll_23 rfl ?_
      refine g_lv [2, 1, 0] rfl ?_
      exact ih (x1 + v1) (x2 + 1) h
set_option maxRecDepth 100000 in
set_option maxHeartbeats 4000000 in
theorem t_X10_leftAll {J : Jt} {a0 : Nat → Nat} {m_thrown : Int32} {m_refused : Nat → Int32} {m_taped : Int32} {m_size : Int32} {m_at : Int32} {m_bad : Int32} {m_badKind : Int32} {m_opens : Int32} {m_faultAt : Int32} {m_tape : Nat → Int32} {m_newBed : Nat → Int32} {m_newLetter : Nat → Int32} {m_newReader : Nat → Int32} {m_bed : Nat → Int32} {m_letter : Nat → Int32} {m_reader : Nat → Int32} {m_newBeds : Int32} {m_newLetters : Int32} {m_newReaders : Int32} {m_beds : Int32} {m_letters : Int32} {m_readers : Int32} {m_newCode : Nat → Int32} {m_newOf : Nat → Int32} {m_code : Nat → Int32} {m_ofCode : Nat → Int32} {m_stack : Nat → Int32} {m_newCodes : Int32} {m_codes : Int32} {m_facts : Nat → Int32} {m_newStep : Nat → Int32} {m_step : Nat → Int32} {m_newSteps : Int32} {m_works : Int32} {m_refusedSteps : Int32} {m_begun : Int32} {m_done : Int32} {m_refusedNow : Int32} {m_now : Nat → Int32} {m_s : Nat → Int32} {m_past : Nat → Int32} {m_newBook : Nat → Int32} {m_book : Nat → Int32} {m_written : Int32} {m_mostBy : Nat → Int32} {m_stuffing : Nat → Int32} {m_stuffedMany : Int32} {m_lastBy : Nat → Int32} {m_leftBy : Nat → Int32} {m_splitBy : Nat → Int64} {m_seedNow : Int32} {m_image : Nat → Int32} {m_images : Int32} {r : Int32} (h : f_X10_leftAll m_letter m_letters m_s = some r) : Mt J yX10_leftAll cX10_leftAll 3 (some .int) rm_X10_leftAll [.ref (a0 0)] (cs_X10 J.2.2.1 a0 m_thrown m_refused m_taped m_size m_at m_bad m_badKind m_opens m_faultAt m_tape m_newBed m_newLetter m_newReader m_bed m_letter m_reader m_newBeds m_newLetters m_newReaders m_beds m_letters m_readers m_newCode m_newOf m_code m_ofCode m_stack m_newCodes m_codes m_facts m_newStep m_step m_newSteps m_works m_refusedSteps m_begun m_done m_refusedNow m_now m_s m_past m_newBook m_book m_written m_mostBy m_stuffing m_stuffedMany m_lastBy m_leftBy m_splitBy m_seedNow m_image m_images) (some (.int r)) (cs_X10 J.2.2.1 a0 m_thrown m_refused m_taped m_size m_at m_bad m_badKind m_opens m_faultAt m_tape m_newBed m_newLetter m_newReader m_bed m_letter m_reader m_newBeds m_newLetters m_newReaders m_beds m_letters m_readers m_newCode m_newOf m_code m_ofCode m_stack m_newCodes m_codes m_facts m_newStep m_step m_newSteps m_works m_refusedSteps m_begun m_done m_refusedNow m_now m_s m_past m_newBook m_book m_written m_mostBy m_stuffing m_stuffedMany m_lastBy m_leftBy m_splitBy m_seedNow m_image m_images) := by
  refine Mt_of (own := RX10) (by decide) rfl (Nat.le_of_ble_eq_true rfl) rfl (fun Z C E => ?_)
  unfold f_X10_leftAll at h
  show G J Z 0 0 (cs_X10 J.2.2.1 a0 m_thrown m_refused m_taped m_size m_at m_bad m_badKind m_opens m_faultAt m_tape m_newBed m_newLetter m_newReader m_bed m_letter m_reader m_newBeds m_newLetters m_newReaders m_beds m_letters m_readers m_newCode m_newOf m_code m_ofCode m_stack m_newCodes m_codes m_facts m_newStep m_step m_newSteps m_works m_refusedSteps m_begun m_done m_refusedNow m_now m_s m_past m_newBook m_book m_written m_mostBy m_stuffing m_stuffedMany m_lastBy m_leftBy m_splitBy m_seedNow m_image m_images) 3 [(0, .ref (a0 0))] 0 []
  refine g_iconst (pc := 0) C dX10_leftAll_0 ci_0 ?_
  refine g_istore_n (pc := 1) C [(1, .int 0), (0, .ref (a0 0))] dX10_leftAll_1 rfl (by decide) rfl ?_
  refine g_iconst (pc := 2) C dX10_leftAll_2 ci_0 ?_
  refine g_istore_n (pc := 3) C [(2, .int 0), (1, .int 0), (0, .ref (a0 0))] dX10_leftAll_3 rfl (by decide) rfl ?_
  refine g_lv [2, 1, 0] rfl ?_
  exact j_X10_leftAll_4 C E    FU 0 0 h
noncomputable def f_X10_told (m_thrown : Int32) (m_refused : Nat → Int32) (m_letter : Nat → Int32) (m_beds : Int32) (m_letters : Int32) (m_readers : Int32) (m_refusedSteps : Int32) (m_now : Nat → Int32) (m_s : Nat → Int32) (m_written : Int32) (n1 : Int32) : Option (Int32 × Int32 × (Nat → Int32) × (Nat → Int32)) := b1 (f_X10_within n1 0 11) (fun v1 => b3 (f_X10_may 0 m_refused v1 1 1) (fun v2 c3 c4 => if v2 = 0 then some (0, c3, c4, m_s) else b1 (f_X10_take m_now m_s) (fun c5 => if 3 ≤ n1 then if 5 ≤ n1 then if 7 ≤ n1 then if 9 ≤ n1 then if n1 = 9 then some (m_written, c3, c4, c5) else if n1 = 10 then some (m_refusedSteps, c3, c4, c5) else if ixb 160 165 then some (c5 (160 : Int32).toNatClampNeg, c3, c4, c5) else none else if n1 = 7 then if ixb 162 165 then some (c5 (162 : Int32).toNatClampNeg, c3, c4, c5) else none else if ixb 163 165 then some (c5 (163 : Int32).toNatClampNeg, c3, c4, c5) else none else if n1 = 5 then b1 (f_X10_leftAll m_letter m_letters c5) (fun v7 => some (v7, c3, c4, c5)) else b1 (f_X10_sumOf c5 84 6) (fun v6 => some (v6, c3, c4, c5)) else if n1 = 3 then if ixb 164 165 then some (c5 (164 : Int32).toNatClampNeg, c3, c4, c5) else none else if ixb 161 165 then some (c5 (161 : Int32).toNatClampNeg, c3, c4, c5) else none else if n1 = 0 then some (m_beds, c3, c4, c5) else if n1 = 1 then some (m_letters, c3, c4, c5) else some (m_readers, c3, c4, c5))))
def rm_X10_told : Room := { frames := 2, cells := 0, slots := 0, locals := 44 }
set_option maxRecDepth 100000 in
set_option maxHeartbeats 4000000 in
theorem t_X10_told {J : Jt} {a0 : Nat → Nat} {m_thrown : Int32} {m_refused : Nat → Int32} {m_taped : Int32} {m_size : Int32} {m_at : Int32} {m_bad : Int32} {m_badKind : Int32} {m_opens : Int32} {m_faultAt : Int32} {m_tape : Nat → Int32} {m_newBed : Nat → Int32} {m_newLetter : Nat → Int32} {m_newReader : Nat → Int32} {m_bed : Nat → Int32} {m_letter : Nat → Int32} {m_reader : Nat → Int32} {m_newBeds : Int32} {m_newLetters : Int32} {m_newReaders : Int32} {m_beds : Int32} {m_letters : Int32} {m_readers : Int32} {m_newCode : Nat → Int32} {m_newOf : Nat → Int32} {m_code : Nat → Int32} {m_ofCode : Nat → Int32} {m_stack : Nat → Int32} {m_newCodes : Int32} {m_codes : Int32} {m_facts : Nat → Int32} {m_newStep : Nat → Int32} {m_step : Nat → Int32} {m_newSteps : Int32} {m_works : Int32} {m_refusedSteps : Int32} {m_begun : Int32} {m_done : Int32} {m_refusedNow : Int32} {m_now : Nat → Int32} {m_s : Nat → Int32} {m_past : Nat → Int32} {m_newBook : Nat → Int32} {m_book : Nat → Int32} {m_written : Int32} {m_mostBy : Nat → Int32} {m_stuffing : Nat → Int32} {m_stuffedMany : Int32} {m_lastBy : Nat → Int32} {m_leftBy : Nat → Int32} {m_splitBy : Nat → Int64} {m_seedNow : Int32} {m_image : Nat → Int32} {m_images : Int32} {n1 : Int32} {r : Int32} {o_m_thrown : Int32} {o_m_refused : Nat → Int32} {o_m_s : Nat → Int32} (h : f_X10_told m_thrown m_refused m_letter m_beds m_letters m_readers m_refusedSteps m_now m_s m_written n1 = some (r, o_m_thrown, o_m_refused, o_m_s)) : Mt J yX10_told cX10_told 2 (some .int) rm_X10_told [.ref (a0 0), .int n1] (cs_X10 J.2.2.1 a0 m_thrown m_refused m_taped m_size m_at m_bad m_badKind m_opens m_faultAt m_tape m_newBed m_newLetter m_newReader m_bed m_letter m_reader m_newBeds m_newLetters m_newReaders m_beds m_letters m_readers m_newCode m_newOf m_code m_ofCode m_stack m_newCodes m_codes m_facts m_newStep m_step m_newSteps m_works m_refusedSteps m_begun m_done m_refusedNow m_now m_s m_past m_newBook m_book m_written m_mostBy m_stuffing m_stuffedMany m_lastBy m_leftBy m_splitBy m_seedNow m_image m_images) (some (.int r)) (cs_X10 J.2.2.1 a0 o_m_thrown o_m_refused m_taped m_size m_at m_bad m_badKind m_opens m_faultAt m_tape m_newBed m_newLetter m_newReader m_bed m_letter m_reader m_newBeds m_newLetters m_newReaders m_beds m_letters m_readers m_newCode m_newOf m_code m_ofCode m_stack m_newCodes m_codes m_facts m_newStep m_step m_newSteps m_works m_refusedSteps m_begun m_done m_refusedNow m_now o_m_s m_past m_newBook m_book m_written m_mostBy m_stuffing m_stuffedMany m_lastBy m_leftBy m_splitBy m_seedNow m_image m_images) := by
  refine Mt_of (own := RX10) (by decide) rfl (Nat.le_of_ble_eq_true rfl) rfl (fun Z C E => ?_)
  unfold f_X10_told at h
  show G J Z 0 0 (cs_X10 J.2.2.1 a0 m_thrown m_refused m_taped m_size m_at m_bad m_badKind m_opens m_faultAt m_tape m_newBed m_newLetter m_newReader m_bed m_letter m_reader m_newBeds m_newLetters m_newReaders m_beds m_letters m_readers m_newCode m_newOf m_code m_ofCode m_stack m_newCodes m_codes m_facts m_newStep m_step m_newSteps m_works m_refusedSteps m_begun m_done m_refusedNow m_now m_s m_past m_newBook m_book m_written m_mostBy m_stuffing m_stuffedMany m_lastBy m_leftBy m_splitBy m_seedNow m_image m_images) 2 [(0, .ref (a0 0)), (1, .int n1)] 0 []
  refine g_aload_n (pc := 0) C 0 rfl dX10_told_0 ?_
  refine g_iconst (pc := 1) C dX10_told_1 ci_0 ?_
  refine g_put (pc := 2) C (w' := cs_X10 J.2.2.1 a0 0 m_refused m_taped m_size m_at m_bad m_badKind m_opens m_faultAt m_tape m_newBed m_newLetter m_newReader m_bed m_letter m_reader m_newBeds m_newLetters m_newReaders m_beds m_letters m_readers m_newCode m_newOf m_code m_ofCode m_stack m_newCodes m_codes m_facts m_newStep m_step m_newSteps m_works m_refusedSteps m_begun m_done m_refusedNow m_now m_s m_past m_newBook m_book m_written m_mostBy m_stuffing m_stuffedMany m_lastBy m_leftBy m_splitBy m_seedNow m_image m_images) FOK_X10 0 rfl rfl 0 (by decide) kw_1277 rfl rfl rfl (Nat.le_of_ble_eq_true rfl) dX10_told_2 rfl ?_
  refine g_aload_n (pc := 5) C 0 rfl dX10_told_5 ?_
  refine g_iload_n (pc := 6) C 1 rfl dX10_told_6 ?_
  refine g_iconst (pc := 7) C dX10_told_7 ci_0 ?_
  refine g_bipush (pc := 8) C dX10_told_8 cb_11 ?_
  obtain ⟨v1, hc, h⟩ := b1_of h
  refine g_callS (pc := 10) C (w' := cs_X10 J.2.2.1 a0 0 m_refused m_taped m_size m_at m_bad m_badKind m_opens m_faultAt m_tape m_newBed m_newLetter m_newReader m_bed m_letter m_reader m_newBeds m_newLetters m_newReaders m_beds m_letters m_readers m_newCode m_newOf m_code m_ofCode m_stack m_newCodes m_codes m_facts m_newStep m_step m_newSteps m_works m_refusedSteps m_begun m_done m_refusedNow m_now m_s m_past m_newBook m_book m_written m_mostBy m_stuffing m_stuffedMany m_lastBy m_leftBy m_splitBy m_seedNow m_image m_images) (As := [.int n1, .int 0, .int 11]) (st := [.ref (a0 0)]) (t_X10_within hc) Sub.nil kw_1689 kw_1690 kw_95 hy_X10_within kw_1691 rfl (Nat.le_of_ble_eq_true rfl) (Nat.le_of_ble_eq_true rfl) (Nat.le_of_ble_eq_true rfl) (Nat.le_of_ble_eq_true rfl) (Nat.le_of_ble_eq_true rfl) dX10_told_10 ?_
  refine g_iconst (pc := 13) C dX10_told_13 ci_1 ?_
  refine g_iconst (pc := 14) C dX10_told_14 ci_1 ?_
  obtain ⟨v2, c3, c4, hc, h⟩ := b3_of h
  refine g_callV (pc := 15) C (w' := cs_X10 J.2.2.1 a0 c3 c4 m_taped m_size m_at m_bad m_badKind m_opens m_faultAt m_tape m_newBed m_newLetter m_newReader m_bed m_letter m_reader m_newBeds m_newLetters m_newReaders m_beds m_letters m_readers m_newCode m_newOf m_code m_ofCode m_stack m_newCodes m_codes m_facts m_newStep m_step m_newSteps m_works m_refusedSteps m_begun m_done m_refusedNow m_now m_s m_past m_newBook m_book m_written m_mostBy m_stuffing m_stuffedMany m_lastBy m_leftBy m_splitBy m_seedNow m_image m_images) (As := [.int v1, .int 1, .int 1]) (st := []) (ci := 10) (q0 := 0) rfl rfl (t_X10_may (a0 := a0) hc) Sub.same kw_1450 kw_1452 kw_20 kw_95 hy_X10_may kw_1453 rfl (Nat.le_of_ble_eq_true rfl) (Nat.le_of_ble_eq_true rfl) (Nat.le_of_ble_eq_true rfl) (Nat.le_of_ble_eq_true rfl) (Nat.le_of_ble_eq_true rfl) dX10_told_15 ?_
  refine g_if_ne (pc := 18) C (tgt := 23) dX10_told_18 rfl h (fun h => ?_) (fun h => ?_)
  · refine g_aload_n (pc := 23) C 0 rfl dX10_told_23 ?_
    obtain ⟨c5, hc, h⟩ := b1_of h
    refine g_callV (pc := 24) C (w' := cs_X10 J.2.2.1 a0 c3 c4 m_taped m_size m_at m_bad m_badKind m_opens m_faultAt m_tape m_newBed m_newLetter m_newReader m_bed m_letter m_reader m_newBeds m_newLetters m_newReaders m_beds m_letters m_readers m_newCode m_newOf m_code m_ofCode m_stack m_newCodes m_codes m_facts m_newStep m_step m_newSteps m_works m_refusedSteps m_begun m_done m_refusedNow m_now c5 m_past m_newBook m_book m_written m_mostBy m_stuffing m_stuffedMany m_lastBy m_leftBy m_splitBy m_seedNow m_image m_images) (As := []) (st := []) (ci := 10) (q0 := 0) rfl rfl (t_X10_take (a0 := a0) hc) Sub.same kw_1595 kw_1597 kw_46 kw_95 hy_X10_take kw_1598 rfl (Nat.le_of_ble_eq_true rfl) (Nat.le_of_ble_eq_true rfl) (Nat.le_of_ble_eq_true rfl) (Nat.le_of_ble_eq_true rfl) (Nat.le_of_ble_eq_true rfl) dX10_told_24 ?_
    refine g_iload_n (pc := 27) C 1 rfl dX10_told_27 ?_
    refine g_iconst (pc := 28) C dX10_told_28 ci_3 ?_
    refine g_icmp_ge (pc := 29) C (tgt := 60) dX10_told_29 rfl h (fun h => ?_) (fun h => ?_)
    · refine g_iload_n (pc := 60) C 1 rfl dX10_told_60 ?_
      refine g_iconst (pc := 61) C dX10_told_61 ci_5 ?_
      refine g_icmp_ge (pc := 62) C (tgt := 85) dX10_told_62 rfl h (fun h => ?_) (fun h => ?_)
      · refine g_iload_n (pc := 85) C 1 rfl dX10_told_85 ?_
        refine g_bipush (pc := 86) C dX10_told_86 cb_7 ?_
        refine g_icmp_ge (pc := 88) C (tgt := 112) dX10_told_88 rfl h (fun h => ?_) (fun h => ?_)
        · refine g_iload_n (pc := 112) C 1 rfl dX10_told_112 ?_
          refine g_bipush (pc := 113) C dX10_told_113 cb_9 ?_
          refine g_icmp_ge (pc := 115) C (tgt := 139) dX10_told_115 rfl h (fun h => ?_) (fun h => ?_)
          · refine g_iload_n (pc := 139) C 1 rfl dX10_told_139 ?_
            refine g_bipush (pc := 140) C dX10_told_140 cb_9 ?_
            refine g_icmp_ne (pc := 142) C (tgt := 152) dX10_told_142 rfl h (fun h => ?_) (fun h => ?_)
            · refine g_iload_n (pc := 152) C 1 rfl dX10_told_152 ?_
              refine g_bipush (pc := 153) C dX10_told_153 cb_10 ?_
              refine g_icmp_ne (pc := 155) C (tgt := 165) dX10_told_155 rfl h (fun h => ?_) (fun h => ?_)
              · refine g_aload_n (pc := 165) C 0 rfl dX10_told_165 ?_
                refine g_get (pc := 166) C FOK_X10 0 rfl rfl 39 (by decide) kw_1316 rfl dX10_told_166 ?_
                refine g_sipush (pc := 169) C dX10_told_169 cs_160 ?_
                obtain ⟨hi, h⟩ := ix_of h
                refine g_iald (pc := 172) C 18 rfl hi dX10_told_172 ?_
                cases h
                exact g_iret C E dX10_told_173
              · refine g_aload_n (pc := 158) C 0 rfl dX10_told_158 ?_
                refine g_get (pc := 159) C FOK_X10 0 rfl rfl 34 (by decide) kw_1311 rfl dX10_told_159 ?_
                refine g_goto (pc := 162) C (tgt := 173) dX10_told_162 rfl ?_
                cases h
                exact g_iret C E dX10_told_173
            · refine g_aload_n (pc := 145) C 0 rfl dX10_told_145 ?_
              refine g_get (pc := 146) C FOK_X10 0 rfl rfl 43 (by decide) kw_1320 rfl dX10_told_146 ?_
              refine g_goto (pc := 149) C (tgt := 173) dX10_told_149 rfl ?_
              cases h
              exact g_iret C E dX10_told_173
          · refine g_aload_n (pc := 118) C 0 rfl dX10_told_118 ?_
            refine g_get (pc := 119) C FOK_X10 0 rfl rfl 39 (by decide) kw_1316 rfl dX10_told_119 ?_
            refine g_iload_n (pc := 122) C 1 rfl dX10_told_122 ?_
            refine g_bipush (pc := 123) C dX10_told_123 cb_7 ?_
            refine g_icmp_ne (pc := 125) C (tgt := 134) dX10_told_125 rfl h (fun h => ?_) (fun h => ?_)
            · refine g_sipush (pc := 134) C dX10_told_134 cs_163 ?_
              obtain ⟨hi, h⟩ := ix_of h
              refine g_iald (pc := 137) C 18 rfl hi dX10_told_137 ?_
              cases h
              exact g_iret C E dX10_told_138
            · refine g_sipush (pc := 128) C dX10_told_128 cs_162 ?_
              refine g_goto (pc := 131) C (tgt := 137) dX10_told_131 rfl ?_
              obtain ⟨hi, h⟩ := ix_of h
              refine g_iald (pc := 137) C 18 rfl hi dX10_told_137 ?_
              cases h
              exact g_iret C E dX10_told_138
        · refine g_iload_n (pc := 91) C 1 rfl dX10_told_91 ?_
          refine g_iconst (pc := 92) C dX10_told_92 ci_5 ?_
          refine g_icmp_ne (pc := 93) C (tgt := 103) dX10_told_93 rfl h (fun h => ?_) (fun h => ?_)
          · refine g_aload_n (pc := 103) C 0 rfl dX10_told_103 ?_
            refine g_bipush (pc := 104) C dX10_told_104 cb_84 ?_
            refine g_bipush (pc := 106) C dX10_told_106 cb_6 ?_
            obtain ⟨v6, hc, h⟩ := b1_of h
            refine g_callV (pc := 108) C (w' := cs_X10 J.2.2.1 a0 c3 c4 m_taped m_size m_at m_bad m_badKind m_opens m_faultAt m_tape m_newBed m_newLetter m_newReader m_bed m_letter m_reader m_newBeds m_newLetters m_newReaders m_beds m_letters m_readers m_newCode m_newOf m_code m_ofCode m_stack m_newCodes m_codes m_facts m_newStep m_step m_newSteps m_works m_refusedSteps m_begun m_done m_refusedNow m_now c5 m_past m_newBook m_book m_written m_mostBy m_stuffing m_stuffedMany m_lastBy m_leftBy m_splitBy m_seedNow m_image m_images) (As := [.int 84, .int 6]) (st := []) (ci := 10) (q0 := 0) rfl rfl (t_X10_sumOf (a0 := a0) hc) Sub.same kw_1696 kw_1698 kw_66 kw_95 hy_X10_sumOf kw_1699 rfl (Nat.le_of_ble_eq_true rfl) (Nat.le_of_ble_eq_true rfl) (Nat.le_of_ble_eq_true rfl) (Nat.le_of_ble_eq_true rfl) (Nat.le_of_ble_eq_true rfl) dX10_told_108 ?_
            cases h
            exact g_iret C E dX10_told_111
          · refine g_aload_n (pc := 96) C 0 rfl dX10_told_96 ?_
            obtain ⟨v7, hc, h⟩ := b1_of h
            refine g_callV (pc := 97) C (w' := cs_X10 J.2.2.1 a0 c3 c4 m_taped m_size m_at m_bad m_badKind m_opens m_faultAt m_tape m_newBed m_newLetter m_newReader m_bed m_letter m_reader m_newBeds m_newLetters m_newReaders m_beds m_letters m_readers m_newCode m_newOf m_code m_ofCode m_stack m_newCodes m_codes m_facts m_newStep m_step m_newSteps m_works m_refusedSteps m_begun m_done m_refusedNow m_now c5 m_past m_newBook m_book m_written m_mostBy m_stuffing m_stuffedMany m_lastBy m_leftBy m_splitBy m_seedNow m_image m_images) (As := []) (st := []) (ci := 10) (q0 := 0) rfl rfl (t_X10_leftAll (a0 := a0) hc) Sub.same kw_1692 kw_1694 kw_65 kw_95 hy_X10_leftAll kw_1695 rfl (Nat.le_of_ble_eq_true rfl) (Nat.le_of_ble_eq_true rfl) (Nat.le_of_ble_eq_true rfl) (Nat.le_of_ble_eq_true rfl) (Nat.le_of_ble_eq_true rfl) dX10_told_97 ?_
            refine g_goto (pc := 100) C (tgt := 111) dX10_told_100 rfl ?_
            cases h
            exact g_iret C E dX10_told_111
      · refine g_aload_n (pc := 65) C 0 rfl dX10_told_65 ?_
        refine g_get (pc := 66) C FOK_X10 0 rfl rfl 39 (by decide) kw_1316 rfl dX10_told_66 ?_
        refine g_iload_n (pc := 69) C 1 rfl dX10_told_69 ?_
        refine g_iconst (pc := 70) C dX10_told_70 ci_3 ?_
        refine g_icmp_ne (pc := 71) C (tgt := 80) dX10_told_71 rfl h (fun h => ?_) (fun h => ?_)
        · refine g_sipush (pc := 80) C dX10_told_80 cs_161 ?_
          obtain ⟨hi, h⟩ := ix_of h
          refine g_iald (pc := 83) C 18 rfl hi dX10_told_83 ?_
          cases h
          exact g_iret C E dX10_told_84
        · refine g_sipush (pc := 74) C dX10_told_74 cs_164 ?_
          refine g_goto (pc := 77) C (tgt := 83) dX10_told_77 rfl ?_
          obtain ⟨hi, h⟩ := ix_of h
          refine g_iald (pc := 83) C 18 rfl hi dX10_told_83 ?_
          cases h
          exact g_iret C E dX10_told_84
    · refine g_iload_n (pc := 32) C 1 rfl dX10_told_32 ?_
      refine g_if_ne (pc := 33) C (tgt := 43) dX10_told_33 rfl h (fun h => ?_) (fun h => ?_)
      · refine g_iload_n (pc := 43) C 1 rfl dX10_told_43 ?_
        refine g_iconst (pc := 44) C dX10_told_44 ci_1 ?_
        refine g_icmp_ne (pc := 45) C (tgt := 55) dX10_told_45 rfl h (fun h => ?_) (fun h => ?_)
        · refine g_aload_n (pc := 55) C 0 rfl dX10_told_55 ?_
          refine g_get (pc := 56) C FOK_X10 0 rfl rfl 21 (by decide) kw_1298 rfl dX10_told_56 ?_
          cases h
          exact g_iret C E dX10_told_59
        · refine g_aload_n (pc := 48) C 0 rfl dX10_told_48 ?_
          refine g_get (pc := 49) C FOK_X10 0 rfl rfl 20 (by decide) kw_1297 rfl dX10_told_49 ?_
          refine g_goto (pc := 52) C (tgt := 59) dX10_told_52 rfl ?_
          cases h
          exact g_iret C E dX10_told_59
      · refine g_aload_n (pc := 36) C 0 rfl dX10_told_36 ?_
        refine g_get (pc := 37) C FOK_X10 0 rfl rfl 19 (by decide) kw_1296 rfl dX10_told_37 ?_
        refine g_goto (pc := 40) C (tgt := 59) dX10_told_40 rfl ?_
        cases h
        exact g_iret C E dX10_told_59
  · refine g_iconst (pc := 21) C dX10_told_21 ci_0 ?_
    cases h
    exact g_iret C E dX10_told_22
noncomputable def f_X10_isLetter (m_thrown : Int32) (m_refused : Nat → Int32) (m_letters : Int32) (n1 : Int32) (n2 : Int32) : Option (Int32 × Int32 × (Nat → Int32)) := b1 (f_X10_within n1 0 (m_letters - 1)) (fun v1 => b3 (f_X10_may m_thrown m_refused v1 n2 0) (fun v2 c3 c4 => if zok v2 then some (v2, c3, c4) else none))
def rm_X10_isLetter : Room := { frames := 1, cells := 0, slots := 0, locals := 23 }
set_option maxRecDepth 100000 in
set_option maxHeartbeats 4000000 in
theorem t_X10_isLetter {J : Jt} {a0 : Nat → Nat} {m_thrown : Int32} {m_refused : Nat → Int32} {m_taped : Int32} {m_size : Int32} {m_at : Int32} {m_bad : Int32} {m_badKind : Int32} {m_opens : Int32} {m_faultAt : Int32} {m_tape : Nat → Int32} {m_newBed : Nat → Int32} {m_newLetter : Nat → Int32} {m_newReader : Nat → Int32} {m_bed : Nat → Int32} {m_letter : Nat → Int32} {m_reader : Nat → Int32} {m_newBeds : Int32} {m_newLetters : Int32} {m_newReaders : Int32} {m_beds : Int32} {m_letters : Int32} {m_readers : Int32} {m_newCode : Nat → Int32} {m_newOf : Nat → Int32} {m_code : Nat → Int32} {m_ofCode : Nat → Int32} {m_stack : Nat → Int32} {m_newCodes : Int32} {m_codes : Int32} {m_facts : Nat → Int32} {m_newStep : Nat → Int32} {m_step : Nat → Int32} {m_newSteps : Int32} {m_works : Int32} {m_refusedSteps : Int32} {m_begun : Int32} {m_done : Int32} {m_refusedNow : Int32} {m_now : Nat → Int32} {m_s : Nat → Int32} {m_past : Nat → Int32} {m_newBook : Nat → Int32} {m_book : Nat → Int32} {m_written : Int32} {m_mostBy : Nat → Int32} {m_stuffing : Nat → Int32} {m_stuffedMany : Int32} {m_lastBy : Nat → Int32} {m_leftBy : Nat → Int32} {m_splitBy : Nat → Int64} {m_seedNow : Int32} {m_image : Nat → Int32} {m_images : Int32} {n1 : Int32} {n2 : Int32} {r : Int32} {o_m_thrown : Int32} {o_m_refused : Nat → Int32} (h : f_X10_isLetter m_thrown m_refused m_letters n1 n2 = some (r, o_m_thrown, o_m_refused)) : Mt J yX10_isLetter cX10_isLetter 3 (some .boolean) rm_X10_isLetter [.ref (a0 0), .int n1, .int n2] (cs_X10 J.2.2.1 a0 m_thrown m_refused m_taped m_size m_at m_bad m_badKind m_opens m_faultAt m_tape m_newBed m_newLetter m_newReader m_bed m_letter m_reader m_newBeds m_newLetters m_newReaders m_beds m_letters m_readers m_newCode m_newOf m_code m_ofCode m_stack m_newCodes m_codes m_facts m_newStep m_step m_newSteps m_works m_refusedSteps m_begun m_done m_refusedNow m_now m_s m_past m_newBook m_book m_written m_mostBy m_stuffing m_stuffedMany m_lastBy m_leftBy m_splitBy m_seedNow m_image m_images) (some (.int r)) (cs_X10 J.2.2.1 a0 o_m_thrown o_m_refused m_taped m_size m_at m_bad m_badKind m_opens m_faultAt m_tape m_newBed m_newLetter m_newReader m_bed m_letter m_reader m_newBeds m_newLetters m_newReaders m_beds m_letters m_readers m_newCode m_newOf m_code m_ofCode m_stack m_newCodes m_codes m_facts m_newStep m_step m_newSteps m_works m_refusedSteps m_begun m_done m_refusedNow m_now m_s m_past m_newBook m_book m_written m_mostBy m_stuffing m_stuffedMany m_lastBy m_leftBy m_splitBy m_seedNow m_image m_images) := by
  refine Mt_of (own := RX10) (by decide) rfl (Nat.le_of_ble_eq_true rfl) rfl (fun Z C E => ?_)
  unfold f_X10_isLetter at h
  show G J Z 0 0 (cs_X10 J.2.2.1 a0 m_thrown m_refused m_taped m_size m_at m_bad m_badKind m_opens m_faultAt m_tape m_newBed m_newLetter m_newReader m_bed m_letter m_reader m_newBeds m_newLetters m_newReaders m_beds m_letters m_readers m_newCode m_newOf m_code m_ofCode m_stack m_newCodes m_codes m_facts m_newStep m_step m_newSteps m_works m_refusedSteps m_begun m_done m_refusedNow m_now m_s m_past m_newBook m_book m_written m_mostBy m_stuffing m_stuffedMany m_lastBy m_leftBy m_splitBy m_seedNow m_image m_images) 3 [(0, .ref (a0 0)), (1, .int n1), (2, .int n2)] 0 []
  refine g_aload_n (pc := 0) C 0 rfl dX10_isLetter_0 ?_
  refine g_iload_n (pc := 1) C 1 rfl dX10_isLetter_1 ?_
  refine g_iconst (pc := 2) C dX10_isLetter_2 ci_0 ?_
  refine g_aload_n (pc := 3) C 0 rfl dX10_isLetter_3 ?_
  refine g_get (pc := 4) C FOK_X10 0 rfl rfl 20 (by decide) kw_1297 rfl dX10_isLetter_4 ?_
  refine g_iconst (pc := 7) C dX10_isLetter_7 ci_1 ?_
  refine g_isub (pc := 8) C dX10_isLetter_8 ?_
  obtain ⟨v1, hc, h⟩ := b1_of h
  refine g_callS (pc := 9) C (w' := cs_X10 J.2.2.1 a0 m_thrown m_refused m_taped m_size m_at m_bad m_badKind m_opens m_faultAt m_tape m_newBed m_newLetter m_newReader m_bed m_letter m_reader m_newBeds m_newLetters m_newReaders m_beds m_letters m_readers m_newCode m_newOf m_code m_ofCode m_stack m_newCodes m_codes m_facts m_newStep m_step m_newSteps m_works m_refusedSteps m_begun m_done m_refusedNow m_now m_s m_past m_newBook m_book m_written m_mostBy m_stuffing m_stuffedMany m_lastBy m_leftBy m_splitBy m_seedNow m_image m_images) (As := [.int n1, .int 0, .int (m_letters - 1)]) (st := [.ref (a0 0)]) (t_X10_within hc) Sub.nil kw_1689 kw_1690 kw_95 hy_X10_within kw_1691 rfl (Nat.le_of_ble_eq_true rfl) (Nat.le_of_ble_eq_true rfl) (Nat.le_of_ble_eq_true rfl) (Nat.le_of_ble_eq_true rfl) (Nat.le_of_ble_eq_true rfl) dX10_isLetter_9 ?_
  refine g_iload_n (pc := 12) C 2 rfl dX10_isLetter_12 ?_
  refine g_iconst (pc := 13) C dX10_isLetter_13 ci_0 ?_
  obtain ⟨v2, c3, c4, hc, h⟩ := b3_of h
  refine g_callV (pc := 14) C (w' := cs_X10 J.2.2.1 a0 c3 c4 m_taped m_size m_at m_bad m_badKind m_opens m_faultAt m_tape m_newBed m_newLetter m_newReader m_bed m_letter m_reader m_newBeds m_newLetters m_newReaders m_beds m_letters m_readers m_newCode m_newOf m_code m_ofCode m_stack m_newCodes m_codes m_facts m_newStep m_step m_newSteps m_works m_refusedSteps m_begun m_done m_refusedNow m_now m_s m_past m_newBook m_book m_written m_mostBy m_stuffing m_stuffedMany m_lastBy m_leftBy m_splitBy m_seedNow m_image m_images) (As := [.int v1, .int n2, .int 0]) (st := []) (ci := 10) (q0 := 0) rfl rfl (t_X10_may (a0 := a0) hc) Sub.same kw_1450 kw_1452 kw_20 kw_95 hy_X10_may kw_1453 rfl (Nat.le_of_ble_eq_true rfl) (Nat.le_of_ble_eq_true rfl) (Nat.le_of_ble_eq_true rfl) (Nat.le_of_ble_eq_true rfl) (Nat.le_of_ble_eq_true rfl) dX10_isLetter_14 ?_
  obtain ⟨hz, h⟩ := zok_of h
  cases h
  exact g_zret C hz E dX10_isLetter_17
noncomputable def f_X10_isBed (m_thrown : Int32) (m_refused : Nat → Int32) (m_beds : Int32) (n1 : Int32) (n2 : Int32) : Option (Int32 × Int32 × (Nat → Int32)) := b1 (f_X10_within n1 0 (m_beds - 1)) (fun v1 => b3 (f_X10_may m_thrown m_refused v1 n2 0) (fun v2 c3 c4 => if zok v2 then some (v2, c3, c4) else none))
def rm_X10_isBed : Room := { frames := 1, cells := 0, slots := 0, locals := 23 }
set_option maxRecDepth 100000 in
set_option maxHeartbeats 4000000 in
theorem t_X10_isBed {J : Jt} {a0 : Nat → Nat} {m_thrown : Int32} {m_refused : Nat → Int32} {m_taped : Int32} {m_size : Int32} {m_at : Int32} {m_bad : Int32} {m_badKind : Int32} {m_opens : Int32} {m_faultAt : Int32} {m_tape : Nat → Int32} {m_newBed : Nat → Int32} {m_newLetter : Nat → Int32} {m_newReader : Nat → Int32} {m_bed : Nat → Int32} {m_letter : Nat → Int32} {m_reader : Nat → Int32} {m_newBeds : Int32} {m_newLetters : Int32} {m_newReaders : Int32} {m_beds : Int32} {m_letters : Int32} {m_readers : Int32} {m_newCode : Nat → Int32} {m_newOf : Nat → Int32} {m_code : Nat → Int32} {m_ofCode : Nat → Int32} {m_stack : Nat → Int32} {m_newCodes : Int32} {m_codes : Int32} {m_facts : Nat → Int32} {m_newStep : Nat → Int32} {m_step : Nat → Int32} {m_newSteps : Int32} {m_works : Int32} {m_refusedSteps : Int32} {m_begun : Int32} {m_done : Int32} {m_refusedNow : Int32} {m_now : Nat → Int32} {m_s : Nat → Int32} {m_past : Nat → Int32} {m_newBook : Nat → Int32} {m_book : Nat → Int32} {m_written : Int32} {m_mostBy : Nat → Int32} {m_stuffing : Nat → Int32} {m_stuffedMany : Int32} {m_lastBy : Nat → Int32} {m_leftBy : Nat → Int32} {m_splitBy : Nat → Int64} {m_seedNow : Int32} {m_image : Nat → Int32} {m_images : Int32} {n1 : Int32} {n2 : Int32} {r : Int32} {o_m_thrown : Int32} {o_m_refused : Nat → Int32} (h : f_X10_isBed m_thrown m_refused m_beds n1 n2 = some (r, o_m_thrown, o_m_refused)) : Mt J yX10_isBed cX10_isBed 3 (some .boolean) rm_X10_isBed [.ref (a0 0), .int n1, .int n2] (cs_X10 J.2.2.1 a0 m_thrown m_refused m_taped m_size m_at m_bad m_badKind m_opens m_faultAt m_tape m_newBed m_newLetter m_newReader m_bed m_letter m_reader m_newBeds m_newLetters m_newReaders m_beds m_letters m_readers m_newCode m_newOf m_code m_ofCode m_stack m_newCodes m_codes m_facts m_newStep m_step m_newSteps m_works m_refusedSteps m_begun m_done m_refusedNow m_now m_s m_past m_newBook m_book m_written m_mostBy m_stuffing m_stuffedMany m_lastBy m_leftBy m_splitBy m_seedNow m_image m_images) (some (.int r)) (cs_X10 J.2.2.1 a0 o_m_thrown o_m_refused m_taped m_size m_at m_bad m_badKind m_opens m_faultAt m_tape m_newBed m_newLetter m_newReader m_bed m_letter m_reader m_newBeds m_newLetters m_newReaders m_beds m_letters m_readers m_newCode m_newOf m_code m_ofCode m_stack m_newCodes m_codes m_facts m_newStep m_step m_newSteps m_works m_refusedSteps m_begun m_done m_refusedNow m_now m_s m_past m_newBook m_book m_written m_mostBy m_stuffing m_stuffedMany m_lastBy m_leftBy m_splitBy m_seedNow m_image m_images) := by
  refine Mt_of (own := RX10) (by decide) rfl (Nat.le_of_ble_eq_true rfl) rfl (fun Z C E => ?_)
  unfold f_X10_isBed at h
  show G J Z 0 0 (cs_X10 J.2.2.1 a0 m_thrown m_refused m_taped m_size m_at m_bad m_badKind m_opens m_faultAt m_tape m_newBed m_newLetter m_newReader m_bed m_letter m_reader m_newBeds m_newLetters m_newReaders m_beds m_letters m_readers m_newCode m_newOf m_code m_ofCode m_stack m_newCodes m_codes m_facts m_newStep m_step m_newSteps m_works m_refusedSteps m_begun m_done m_refusedNow m_now m_s m_past m_newBook m_book m_written m_mostBy m_stuffing m_stuffedMany m_lastBy m_leftBy m_splitBy m_seedNow m_image m_images) 3 [(0, .ref (a0 0)), (1, .int n1), (2, .int n2)] 0 []
  refine g_aload_n (pc := 0) C 0 rfl dX10_isBed_0 ?_
  refine g_iload_n (pc := 1) C 1 rfl dX10_isBed_1 ?_
  refine g_iconst (pc := 2) C dX10_isBed_2 ci_0 ?_
  refine g_aload_n (pc := 3) C 0 rfl dX10_isBed_3 ?_
  refine g_get (pc := 4) C FOK_X10 0 rfl rfl 19 (by decide) kw_1296 rfl dX10_isBed_4 ?_
  refine g_iconst (pc := 7) C dX10_isBed_7 ci_1 ?_
  refine g_isub (pc := 8) C dX10_isBed_8 ?_
  obtain ⟨v1, hc, h⟩ := b1_of h
  refine g_callS (pc := 9) C (w' := cs_X10 J.2.2.1 a0 m_thrown m_refused m_taped m_size m_at m_bad m_badKind m_opens m_faultAt m_tape m_newBed m_newLetter m_newReader m_bed m_letter m_reader m_newBeds m_newLetters m_newReaders m_beds m_letters m_readers m_newCode m_newOf m_code m_ofCode m_stack m_newCodes m_codes m_facts m_newStep m_step m_newSteps m_works m_refusedSteps m_begun m_done m_refusedNow m_now m_s m_past m_newBook m_book m_written m_mostBy m_stuffing m_stuffedMany m_lastBy m_leftBy m_splitBy m_seedNow m_image m_images) (As := [.int n1, .int 0, .int (m_beds - 1)]) (st := [.ref (a0 0)]) (t_X10_within hc) Sub.nil kw_1689 kw_1690 kw_95 hy_X10_within kw_1691 rfl (Nat.le_of_ble_eq_true rfl) (Nat.le_of_ble_eq_true rfl) (Nat.le_of_ble_eq_true rfl) (Nat.le_of_ble_eq_true rfl) (Nat.le_of_ble_eq_true rfl) dX10_isBed_9 ?_
  refine g_iload_n (pc := 12) C 2 rfl dX10_isBed_12 ?_
  refine g_iconst (pc := 13) C dX10_isBed_13 ci_0 ?_
  obtain ⟨v2, c3, c4, hc, h⟩ := b3_of h
  refine g_callV (pc := 14) C (w' := cs_X10 J.2.2.1 a0 c3 c4 m_taped m_size m_at m_bad m_badKind m_opens m_faultAt m_tape m_newBed m_newLetter m_newReader m_bed m_letter m_reader m_newBeds m_newLetters m_newReaders m_beds m_letters m_readers m_newCode m_newOf m_code m_ofCode m_stack m_newCodes m_codes m_facts m_newStep m_step m_newSteps m_works m_refusedSteps m_begun m_done m_refusedNow m_now m_s m_past m_newBook m_book m_written m_mostBy m_stuffing m_stuffedMany m_lastBy m_leftBy m_splitBy m_seedNow m_image m_images) (As := [.int v1, .int n2, .int 0]) (st := []) (ci := 10) (q0 := 0) rfl rfl (t_X10_may (a0 := a0) hc) Sub.same kw_1450 kw_1452 kw_20 kw_95 hy_X10_may kw_1453 rfl (Nat.le_of_ble_eq_true rfl) (Nat.le_of_ble_eq_true rfl) (Nat.le_of_ble_eq_true rfl) (Nat.le_of_ble_eq_true rfl) (Nat.le_of_ble_eq_true rfl) dX10_isBed_14 ?_
  obtain ⟨hz, h⟩ := zok_of h
  cases h
  exact g_zret C hz E dX10_isBed_17
noncomputable def f_X10_isReader (m_thrown : Int32) (m_refused : Nat → Int32) (m_readers : Int32) (n1 : Int32) (n2 : Int32) : Option (Int32 × Int32 × (Nat → Int32)) := b1 (f_X10_within n1 0 (m_readers - 1)) (fun v1 => b3 (f_X10_may m_thrown m_refused v1 n2 0) (fun v2 c3 c4 => if zok v2 then some (v2, c3, c4) else none))
def rm_X10_isReader : Room := { frames := 1, cells := 0, slots := 0, locals := 23 }
set_option maxRecDepth 100000 in
set_option maxHeartbeats 4000000 in
theorem t_X10_isReader {J : Jt} {a0 : Nat → Nat} {m_thrown : Int32} {m_refused : Nat → Int32} {m_taped : Int32} {m_size : Int32} {m_at : Int32} {m_bad : Int32} {m_badKind : Int32} {m_opens : Int32} {m_faultAt : Int32} {m_tape : Nat → Int32} {m_newBed : Nat → Int32} {m_newLetter : Nat → Int32} {m_newReader : Nat → Int32} {m_bed : Nat → Int32} {m_letter : Nat → Int32} {m_reader : Nat → Int32} {m_newBeds : Int32} {m_newLetters : Int32} {m_newReaders : Int32} {m_beds : Int32} {m_letters : Int32} {m_readers : Int32} {m_newCode : Nat → Int32} {m_newOf : Nat → Int32} {m_code : Nat → Int32} {m_ofCode : Nat → Int32} {m_stack : Nat → Int32} {m_newCodes : Int32} {m_codes : Int32} {m_facts : Nat → Int32} {m_newStep : Nat → Int32} {m_step : Nat → Int32} {m_newSteps : Int32} {m_works : Int32} {m_refusedSteps : Int32} {m_begun : Int32} {m_done : Int32} {m_refusedNow : Int32} {m_now : Nat → Int32} {m_s : Nat → Int32} {m_past : Nat → Int32} {m_newBook : Nat → Int32} {m_book : Nat → Int32} {m_written : Int32} {m_mostBy : Nat → Int32} {m_stuffing : Nat → Int32} {m_stuffedMany : Int32} {m_lastBy : Nat → Int32} {m_leftBy : Nat → Int32} {m_splitBy : Nat → Int64} {m_seedNow : Int32} {m_image : Nat → Int32} {m_images : Int32} {n1 : Int32} {n2 : Int32} {r : Int32} {o_m_thrown : Int32} {o_m_refused : Nat → Int32} (h : f_X10_isReader m_thrown m_refused m_readers n1 n2 = some (r, o_m_thrown, o_m_refused)) : Mt J yX10_isReader cX10_isReader 3 (some .boolean) rm_X10_isReader [.ref (a0 0), .int n1, .int n2] (cs_X10 J.2.2.1 a0 m_thrown m_refused m_taped m_size m_at m_bad m_badKind m_opens m_faultAt m_tape m_newBed m_newLetter m_newReader m_bed m_letter m_reader m_newBeds m_newLetters m_newReaders m_beds m_letters m_readers m_newCode m_newOf m_code m_ofCode m_stack m_newCodes m_codes m_facts m_newStep m_step m_newSteps m_works m_refusedSteps m_begun m_done m_refusedNow m_now m_s m_past m_newBook m_book m_written m_mostBy m_stuffing m_stuffedMany m_lastBy m_leftBy m_splitBy m_seedNow m_image m_images) (some (.int r)) (cs_X10 J.2.2.1 a0 o_m_thrown o_m_refused m_taped m_size m_at m_bad m_badKind m_opens m_faultAt m_tape m_newBed m_newLetter m_newReader m_bed m_letter m_reader m_newBeds m_newLetters m_newReaders m_beds m_letters m_readers m_newCode m_newOf m_code m_ofCode m_stack m_newCodes m_codes m_facts m_newStep m_step m_newSteps m_works m_refusedSteps m_begun m_done m_refusedNow m_now m_s m_past m_newBook m_book m_written m_mostBy m_stuffing m_stuffedMany m_lastBy m_leftBy m_splitBy m_seedNow m_image m_images) := by
  refine Mt_of (own := RX10) (by decide) rfl (Nat.le_of_ble_eq_true rfl) rfl (fun Z C E => ?_)
  unfold f_X10_isReader at h
  show G J Z 0 0 (cs_X10 J.2.2.1 a0 m_thrown m_refused m_taped m_size m_at m_bad m_badKind m_opens m_faultAt m_tape m_newBed m_newLetter m_newReader m_bed m_letter m_reader m_newBeds m_newLetters m_newReaders m_beds m_letters m_readers m_newCode m_newOf m_code m_ofCode m_stack m_newCodes m_codes m_facts m_newStep m_step m_newSteps m_works m_refusedSteps m_begun m_done m_refusedNow m_now m_s m_past m_newBook m_book m_written m_mostBy m_stuffing m_stuffedMany m_lastBy m_leftBy m_splitBy m_seedNow m_image m_images) 3 [(0, .ref (a0 0)), (1, .int n1), (2, .int n2)] 0 []
  refine g_aload_n (pc := 0) C 0 rfl dX10_isReader_0 ?_
  refine g_iload_n (pc := 1) C 1 rfl dX10_isReader_1 ?_
  refine g_iconst (pc := 2) C dX10_isReader_2 ci_0 ?_
  refine g_aload_n (pc := 3) C 0 rfl dX10_isReader_3 ?_
  refine g_get (pc := 4) C FOK_X10 0 rfl rfl 21 (by decide) kw_1298 rfl dX10_isReader_4 ?_
  refine g_iconst (pc := 7) C dX10_isReader_7 ci_1 ?_
  refine g_isub (pc := 8) C dX10_isReader_8 ?_
  obtain ⟨v1, hc, h⟩ := b1_of h
  refine g_callS (pc := 9) C (w' := cs_X10 J.2.2.1 a0 m_thrown m_refused m_taped m_size m_at m_bad m_badKind m_opens m_faultAt m_tape m_newBed m_newLetter m_newReader m_bed m_letter m_reader m_newBeds m_newLetters m_newReaders m_beds m_letters m_readers m_newCode m_newOf m_code m_ofCode m_stack m_newCodes m_codes m_facts m_newStep m_step m_newSteps m_works m_refusedSteps m_begun m_done m_refusedNow m_now m_s m_past m_newBook m_book m_written m_mostBy m_stuffing m_stuffedMany m_lastBy m_leftBy m_splitBy m_seedNow m_image m_images) (As := [.int n1, .int 0, .int (m_readers - 1)]) (st := [.ref (a0 0)]) (t_X10_within hc) Sub.nil kw_1689 kw_1690 kw_95 hy_X10_within kw_1691 rfl (Nat.le_of_ble_eq_true rfl) (Nat.le_of_ble_eq_true rfl) (Nat.le_of_ble_eq_true rfl) (Nat.le_of_ble_eq_true rfl) (Nat.le_of_ble_eq_true rfl) dX10_isReader_9 ?_
  refine g_iload_n (pc := 12) C 2 rfl dX10_isReader_12 ?_
  refine g_iconst (pc := 13) C dX10_isReader_13 ci_0 ?_
  obtain ⟨v2, c3, c4, hc, h⟩ := b3_of h
  refine g_callV (pc := 14) C (w' := cs_X10 J.2.2.1 a0 c3 c4 m_taped m_size m_at m_bad m_badKind m_opens m_faultAt m_tape m_newBed m_newLetter m_newReader m_bed m_letter m_reader m_newBeds m_newLetters m_newReaders m_beds m_letters m_readers m_newCode m_newOf m_code m_ofCode m_stack m_newCodes m_codes m_facts m_newStep m_step m_newSteps m_works m_refusedSteps m_begun m_done m_refusedNow m_now m_s m_past m_newBook m_book m_written m_mostBy m_stuffing m_stuffedMany m_lastBy m_leftBy m_splitBy m_seedNow m_image m_images) (As := [.int v1, .int n2, .int 0]) (st := []) (ci := 10) (q0 := 0) rfl rfl (t_X10_may (a0 := a0) hc) Sub.same kw_1450 kw_1452 kw_20 kw_95 hy_X10_may kw_1453 rfl (Nat.le_of_ble_eq_true rfl) (Nat.le_of_ble_eq_true rfl) (Nat.le_of_ble_eq_true rfl) (Nat.le_of_ble_eq_true rfl) (Nat.le_of_ble_eq_true rfl) dX10_isReader_14 ?_
  obtain ⟨hz, h⟩ := zok_of h
  cases h
  exact g_zret C hz E dX10_isReader_17
noncomputable def f_X10_letter (m_thrown : Int32) (m_refused : Nat → Int32) (m_letter : Nat → Int32) (m_letters : Int32) (m_now : Nat → Int32) (m_s : Nat → Int32) (n1 : Int32) (n2 : Int32) : Option (Int32 × Int32 × (Nat → Int32) × (Nat → Int32)) := b3 (f_X10_isLetter 0 m_refused m_letters n1 1) (fun v1 c2 c3 => if v1 = 0 then some (0, c2, c3, m_s) else b1 (f_X10_within n2 0 4) (fun v4 => b3 (f_X10_may c2 c3 v4 2 1) (fun v5 c6 c7 => if v5 = 0 then some (0, c6, c7, m_s) else b1 (f_X10_take m_now m_s) (fun c8 => if 2 ≤ n2 then if n2 = 2 then b1 (f_X10_leftOf m_letter c8 n1) (fun v11 => some (v11, c6, c7, c8)) else if n2 = 4 then if ixb (6 + n1) 165 then some (c8 (6 + n1).toNatClampNeg, c6, c7, c8) else none else b1 (f_X10_leftOf m_letter c8 n1) (fun v9 => if v9 = 0 then some ((-1), c6, c7, c8) else b1 (f_X10_wordOf m_letter c8 n1 0) (fun v10 => some (v10, c6, c7, c8))) else if ixb ((10 * n1) + n2) 60 then some (m_letter ((10 * n1) + n2).toNatClampNeg, c6, c7, c8) else none))))
def rm_X10_letter : Room := { frames := 2, cells := 0, slots := 0, locals := 45 }
set_option maxRecDepth 100000 in
set_option maxHeartbeats 4000000 in
theorem t_X10_letter {J : Jt} {a0 : Nat → Nat} {m_thrown : Int32} {m_refused : Nat → Int32} {m_taped : Int32} {m_size : Int32} {m_at : Int32} {m_bad : Int32} {m_badKind : Int32} {m_opens : Int32} {m_faultAt : Int32} {m_tape : Nat → Int32} {m_newBed : Nat → Int32} {m_newLetter : Nat → Int32} {m_newReader : Nat → Int32} {m_bed : Nat → Int32} {m_letter : Nat → Int32} {m_reader : Nat → Int32} {m_newBeds : Int32} {m_newLetters : Int32} {m_newReaders : Int32} {m_beds : Int32} {m_letters : Int32} {m_readers : Int32} {m_newCode : Nat → Int32} {m_newOf : Nat → Int32} {m_code : Nat → Int32} {m_ofCode : Nat → Int32} {m_stack : Nat → Int32} {m_newCodes : Int32} {m_codes : Int32} {m_facts : Nat → Int32} {m_newStep : Nat → Int32} {m_step : Nat → Int32} {m_newSteps : Int32} {m_works : Int32} {m_refusedSteps : Int32} {m_begun : Int32} {m_done : Int32} {m_refusedNow : Int32} {m_now : Nat → Int32} {m_s : Nat → Int32} {m_past : Nat → Int32} {m_newBook : Nat → Int32} {m_book : Nat → Int32} {m_written : Int32} {m_mostBy : Nat → Int32} {m_stuffing : Nat → Int32} {m_stuffedMany : Int32} {m_lastBy : Nat → Int32} {m_leftBy : Nat → Int32} {m_splitBy : Nat → Int64} {m_seedNow : Int32} {m_image : Nat → Int32} {m_images : Int32} {n1 : Int32} {n2 : Int32} {r : Int32} {o_m_thrown : Int32} {o_m_refused : Nat → Int32} {o_m_s : Nat → Int32} (h : f_X10_letter m_thrown m_refused m_letter m_letters m_now m_s n1 n2 = some (r, o_m_thrown, o_m_refused, o_m_s)) : Mt J yX10_letter cX10_letter 3 (some .int) rm_X10_letter [.ref (a0 0), .int n1, .int n2] (cs_X10 J.2.2.1 a0 m_thrown m_refused m_taped m_size m_at m_bad m_badKind m_opens m_faultAt m_tape m_newBed m_newLetter m_newReader m_bed m_letter m_reader m_newBeds m_newLetters m_newReaders m_beds m_letters m_readers m_newCode m_newOf m_code m_ofCode m_stack m_newCodes m_codes m_facts m_newStep m_step m_newSteps m_works m_refusedSteps m_begun m_done m_refusedNow m_now m_s m_past m_newBook m_book m_written m_mostBy m_stuffing m_stuffedMany m_lastBy m_leftBy m_splitBy m_seedNow m_image m_images) (some (.int r)) (cs_X10 J.2.2.1 a0 o_m_thrown o_m_refused m_taped m_size m_at m_bad m_badKind m_opens m_faultAt m_tape m_newBed m_newLetter m_newReader m_bed m_letter m_reader m_newBeds m_newLetters m_newReaders m_beds m_letters m_readers m_newCode m_newOf m_code m_ofCode m_stack m_newCodes m_codes m_facts m_newStep m_step m_newSteps m_works m_refusedSteps m_begun m_done m_refusedNow m_now o_m_s m_past m_newBook m_book m_written m_mostBy m_stuffing m_stuffedMany m_lastBy m_leftBy m_splitBy m_seedNow m_image m_images) := by
  refine Mt_of (own := RX10) (by decide) rfl (Nat.le_of_ble_eq_true rfl) rfl (fun Z C E => ?_)
  unfold f_X10_letter at h
  show G J Z 0 0 (cs_X10 J.2.2.1 a0 m_thrown m_refused m_taped m_size m_at m_bad m_badKind m_opens m_faultAt m_tape m_newBed m_newLetter m_newReader m_bed m_letter m_reader m_newBeds m_newLetters m_newReaders m_beds m_letters m_readers m_newCode m_newOf m_code m_ofCode m_stack m_newCodes m_codes m_facts m_newStep m_step m_newSteps m_works m_refusedSteps m_begun m_done m_refusedNow m_now m_s m_past m_newBook m_book m_written m_mostBy m_stuffing m_stuffedMany m_lastBy m_leftBy m_splitBy m_seedNow m_image m_images) 3 [(0, .ref (a0 0)), (1, .int n1), (2, .int n2)] 0 []
  refine g_aload_n (pc := 0) C 0 rfl dX10_letter_0 ?_
  refine g_iconst (pc := 1) C dX10_letter_1 ci_0 ?_
  refine g_put (pc := 2) C (w' := cs_X10 J.2.2.1 a0 0 m_refused m_taped m_size m_at m_bad m_badKind m_opens m_faultAt m_tape m_newBed m_newLetter m_newReader m_bed m_letter m_reader m_newBeds m_newLetters m_newReaders m_beds m_letters m_readers m_newCode m_newOf m_code m_ofCode m_stack m_newCodes m_codes m_facts m_newStep m_step m_newSteps m_works m_refusedSteps m_begun m_done m_refusedNow m_now m_s m_past m_newBook m_book m_written m_mostBy m_stuffing m_stuffedMany m_lastBy m_leftBy m_splitBy m_seedNow m_image m_images) FOK_X10 0 rfl rfl 0 (by decide) kw_1277 rfl rfl rfl (Nat.le_of_ble_eq_true rfl) dX10_letter_2 rfl ?_
  refine g_aload_n (pc := 5) C 0 rfl dX10_letter_5 ?_
  refine g_iload_n (pc := 6) C 1 rfl dX10_letter_6 ?_
  refine g_iconst (pc := 7) C dX10_letter_7 ci_1 ?_
  obtain ⟨v1, c2, c3, hc, h⟩ := b3_of h
  refine g_callV (pc := 8) C (w' := cs_X10 J.2.2.1 a0 c2 c3 m_taped m_size m_at m_bad m_badKind m_opens m_faultAt m_tape m_newBed m_newLetter m_newReader m_bed m_letter m_reader m_newBeds m_newLetters m_newReaders m_beds m_letters m_readers m_newCode m_newOf m_code m_ofCode m_stack m_newCodes m_codes m_facts m_newStep m_step m_newSteps m_works m_refusedSteps m_begun m_done m_refusedNow m_now m_s m_past m_newBook m_book m_written m_mostBy m_stuffing m_stuffedMany m_lastBy m_leftBy m_splitBy m_seedNow m_image m_images) (As := [.int n1, .int 1]) (st := []) (ci := 10) (q0 := 0) rfl rfl (t_X10_isLetter (a0 := a0) hc) Sub.same kw_1704 kw_1706 kw_67 kw_95 hy_X10_isLetter kw_1707 rfl (Nat.le_of_ble_eq_true rfl) (Nat.le_of_ble_eq_true rfl) (Nat.le_of_ble_eq_true rfl) (Nat.le_of_ble_eq_true rfl) (Nat.le_of_ble_eq_true rfl) dX10_letter_8 ?_
  refine g_if_eq (pc := 11) C (tgt := 29) dX10_letter_11 rfl h (fun h => ?_) (fun h => ?_)
  · refine g_iconst (pc := 29) C dX10_letter_29 ci_0 ?_
    cases h
    exact g_iret C E dX10_letter_30
  · refine g_aload_n (pc := 14) C 0 rfl dX10_letter_14 ?_
    refine g_iload_n (pc := 15) C 2 rfl dX10_letter_15 ?_
    refine g_iconst (pc := 16) C dX10_letter_16 ci_0 ?_
    refine g_iconst (pc := 17) C dX10_letter_17 ci_4 ?_
    obtain ⟨v4, hc, h⟩ := b1_of h
    refine g_callS (pc := 18) C (w' := cs_X10 J.2.2.1 a0 c2 c3 m_taped m_size m_at m_bad m_badKind m_opens m_faultAt m_tape m_newBed m_newLetter m_newReader m_bed m_letter m_reader m_newBeds m_newLetters m_newReaders m_beds m_letters m_readers m_newCode m_newOf m_code m_ofCode m_stack m_newCodes m_codes m_facts m_newStep m_step m_newSteps m_works m_refusedSteps m_begun m_done m_refusedNow m_now m_s m_past m_newBook m_book m_written m_mostBy m_stuffing m_stuffedMany m_lastBy m_leftBy m_splitBy m_seedNow m_image m_images) (As := [.int n2, .int 0, .int 4]) (st := [.ref (a0 0)]) (t_X10_within hc) Sub.nil kw_1689 kw_1690 kw_95 hy_X10_within kw_1691 rfl (Nat.le_of_ble_eq_true rfl) (Nat.le_of_ble_eq_true rfl) (Nat.le_of_ble_eq_true rfl) (Nat.le_of_ble_eq_true rfl) (Nat.le_of_ble_eq_true rfl) dX10_letter_18 ?_
    refine g_iconst (pc := 21) C dX10_letter_21 ci_2 ?_
    refine g_iconst (pc := 22) C dX10_letter_22 ci_1 ?_
    obtain ⟨v5, c6, c7, hc, h⟩ := b3_of h
    refine g_callV (pc := 23) C (w' := cs_X10 J.2.2.1 a0 c6 c7 m_taped m_size m_at m_bad m_badKind m_opens m_faultAt m_tape m_newBed m_newLetter m_newReader m_bed m_letter m_reader m_newBeds m_newLetters m_newReaders m_beds m_letters m_readers m_newCode m_newOf m_code m_ofCode m_stack m_newCodes m_codes m_facts m_newStep m_step m_newSteps m_works m_refusedSteps m_begun m_done m_refusedNow m_now m_s m_past m_newBook m_book m_written m_mostBy m_stuffing m_stuffedMany m_lastBy m_leftBy m_splitBy m_seedNow m_image m_images) (As := [.int v4, .int 2, .int 1]) (st := []) (ci := 10) (q0 := 0) rfl rfl (t_X10_may (a0 := a0) hc) Sub.same kw_1450 kw_1452 kw_20 kw_95 hy_X10_may kw_1453 rfl (Nat.le_of_ble_eq_true rfl) (Nat.le_of_ble_eq_true rfl) (Nat.le_of_ble_eq_true rfl) (Nat.le_of_ble_eq_true rfl) (Nat.le_of_ble_eq_true rfl) dX10_letter_23 ?_
    refine g_if_ne (pc := 26) C (tgt := 31) dX10_letter_26 rfl h (fun h => ?_) (fun h => ?_)
    · refine g_aload_n (pc := 31) C 0 rfl dX10_letter_31 ?_
      obtain ⟨c8, hc, h⟩ := b1_of h
      refine g_callV (pc := 32) C (w' := cs_X10 J.2.2.1 a0 c6 c7 m_taped m_size m_at m_bad m_badKind m_opens m_faultAt m_tape m_newBed m_newLetter m_newReader m_bed m_letter m_reader m_newBeds m_newLetters m_newReaders m_beds m_letters m_readers m_newCode m_newOf m_code m_ofCode m_stack m_newCodes m_codes m_facts m_newStep m_step m_newSteps m_works m_refusedSteps m_begun m_done m_refusedNow m_now c8 m_past m_newBook m_book m_written m_mostBy m_stuffing m_stuffedMany m_lastBy m_leftBy m_splitBy m_seedNow m_image m_images) (As := []) (st := []) (ci := 10) (q0 := 0) rfl rfl (t_X10_take (a0 := a0) hc) Sub.same kw_1595 kw_1597 kw_46 kw_95 hy_X10_take kw_1598 rfl (Nat.le_of_ble_eq_true rfl) (Nat.le_of_ble_eq_true rfl) (Nat.le_of_ble_eq_true rfl) (Nat.le_of_ble_eq_true rfl) (Nat.le_of_ble_eq_true rfl) dX10_letter_32 ?_
      refine g_iload_n (pc := 35) C 2 rfl dX10_letter_35 ?_
      refine g_iconst (pc := 36) C dX10_letter_36 ci_2 ?_
      refine g_icmp_ge (pc := 37) C (tgt := 52) dX10_letter_37 rfl h (fun h => ?_) (fun h => ?_)
      · refine g_iload_n (pc := 52) C 2 rfl dX10_letter_52 ?_
        refine g_iconst (pc := 53) C dX10_letter_53 ci_2 ?_
        refine g_icmp_ne (pc := 54) C (tgt := 65) dX10_letter_54 rfl h (fun h => ?_) (fun h => ?_)
        · refine g_iload_n (pc := 65) C 2 rfl dX10_letter_65 ?_
          refine g_iconst (pc := 66) C dX10_letter_66 ci_4 ?_
          refine g_icmp_ne (pc := 67) C (tgt := 82) dX10_letter_67 rfl h (fun h => ?_) (fun h => ?_)
          · refine g_aload_n (pc := 82) C 0 rfl dX10_letter_82 ?_
            refine g_iload_n (pc := 83) C 1 rfl dX10_letter_83 ?_
            obtain ⟨v9, hc, h⟩ := b1_of h
            refine g_callV (pc := 84) C (w' := cs_X10 J.2.2.1 a0 c6 c7 m_taped m_size m_at m_bad m_badKind m_opens m_faultAt m_tape m_newBed m_newLetter m_newReader m_bed m_letter m_reader m_newBeds m_newLetters m_newReaders m_beds m_letters m_readers m_newCode m_newOf m_code m_ofCode m_stack m_newCodes m_codes m_facts m_newStep m_step m_newSteps m_works m_refusedSteps m_begun m_done m_refusedNow m_now c8 m_past m_newBook m_book m_written m_mostBy m_stuffing m_stuffedMany m_lastBy m_leftBy m_splitBy m_seedNow m_image m_images) (As := [.int n1]) (st := []) (ci := 10) (q0 := 0) rfl rfl (t_X10_leftOf (a0 := a0) hc) Sub.same kw_1619 kw_1621 kw_52 kw_95 hy_X10_leftOf kw_1622 rfl (Nat.le_of_ble_eq_true rfl) (Nat.le_of_ble_eq_true rfl) (Nat.le_of_ble_eq_true rfl) (Nat.le_of_ble_eq_true rfl) (Nat.le_of_ble_eq_true rfl) dX10_letter_84 ?_
            refine g_if_ne (pc := 87) C (tgt := 94) dX10_letter_87 rfl h (fun h => ?_) (fun h => ?_)
            · refine g_aload_n (pc := 94) C 0 rfl dX10_letter_94 ?_
              refine g_iload_n (pc := 95) C 1 rfl dX10_letter_95 ?_
              refine g_iconst (pc := 96) C dX10_letter_96 ci_0 ?_
              obtain ⟨v10, hc, h⟩ := b1_of h
              refine g_callV (pc := 97) C (w' := cs_X10 J.2.2.1 a0 c6 c7 m_taped m_size m_at m_bad m_badKind m_opens m_faultAt m_tape m_newBed m_newLetter m_newReader m_bed m_letter m_reader m_newBeds m_newLetters m_newReaders m_beds m_letters m_readers m_newCode m_newOf m_code m_ofCode m_stack m_newCodes m_codes m_facts m_newStep m_step m_newSteps m_works m_refusedSteps m_begun m_done m_refusedNow m_now c8 m_past m_newBook m_book m_written m_mostBy m_stuffing m_stuffedMany m_lastBy m_leftBy m_splitBy m_seedNow m_image m_images) (As := [.int n1, .int 0]) (st := []) (ci := 10) (q0 := 0) rfl rfl (t_X10_wordOf (a0 := a0) hc) Sub.same kw_1623 kw_1625 kw_53 kw_95 hy_X10_wordOf kw_1626 rfl (Nat.le_of_ble_eq_true rfl) (Nat.le_of_ble_eq_true rfl) (Nat.le_of_ble_eq_true rfl) (Nat.le_of_ble_eq_true rfl) (Nat.le_of_ble_eq_true rfl) dX10_letter_97 ?_
              cases h
              exact g_iret C E dX10_letter_100
            · refine g_iconst (pc := 90) C dX10_letter_90 ci_m1 ?_
              refine g_goto (pc := 91) C (tgt := 100) dX10_letter_91 rfl ?_
              cases h
              exact g_iret C E dX10_letter_100
          · refine g_aload_n (pc := 70) C 0 rfl dX10_letter_70 ?_
            refine g_get (pc := 71) C FOK_X10 0 rfl rfl 39 (by decide) kw_1316 rfl dX10_letter_71 ?_
            refine g_bipush (pc := 74) C dX10_letter_74 cb_6 ?_
            refine g_iload_n (pc := 76) C 1 rfl dX10_letter_76 ?_
            refine g_iadd (pc := 77) C dX10_letter_77 ?_
            obtain ⟨hi, h⟩ := ix_of h
            refine g_iald (pc := 78) C 18 rfl hi dX10_letter_78 ?_
            refine g_goto (pc := 79) C (tgt := 100) dX10_letter_79 rfl ?_
            cases h
            exact g_iret C E dX10_letter_100
        · refine g_aload_n (pc := 57) C 0 rfl dX10_letter_57 ?_
          refine g_iload_n (pc := 58) C 1 rfl dX10_letter_58 ?_
          obtain ⟨v11, hc, h⟩ := b1_of h
          refine g_callV (pc := 59) C (w' := cs_X10 J.2.2.1 a0 c6 c7 m_taped m_size m_at m_bad m_badKind m_opens m_faultAt m_tape m_newBed m_newLetter m_newReader m_bed m_letter m_reader m_newBeds m_newLetters m_newReaders m_beds m_letters m_readers m_newCode m_newOf m_code m_ofCode m_stack m_newCodes m_codes m_facts m_newStep m_step m_newSteps m_works m_refusedSteps m_begun m_done m_refusedNow m_now c8 m_past m_newBook m_book m_written m_mostBy m_stuffing m_stuffedMany m_lastBy m_leftBy m_splitBy m_seedNow m_image m_images) (As := [.int n1]) (st := []) (ci := 10) (q0 := 0) rfl rfl (t_X10_leftOf (a0 := a0) hc) Sub.same kw_1619 kw_1621 kw_52 kw_95 hy_X10_leftOf kw_1622 rfl (Nat.le_of_ble_eq_true rfl) (Nat.le_of_ble_eq_true rfl) (Nat.le_of_ble_eq_true rfl) (Nat.le_of_ble_eq_true rfl) (Nat.le_of_ble_eq_true rfl) dX10_letter_59 ?_
          refine g_goto (pc := 62) C (tgt := 100) dX10_letter_62 rfl ?_
          cases h
          exact g_iret C E dX10_letter_100
      · refine g_aload_n (pc := 40) C 0 rfl dX10_letter_40 ?_
        refine g_get (pc := 41) C FOK_X10 0 rfl rfl 14 (by decide) kw_1291 rfl dX10_letter_41 ?_
        refine g_bipush (pc := 44) C dX10_letter_44 cb_10 ?_
        refine g_iload_n (pc := 46) C 1 rfl dX10_letter_46 ?_
        refine g_imul (pc := 47) C dX10_letter_47 ?_
        refine g_iload_n (pc := 48) C 2 rfl dX10_letter_48 ?_
        refine g_iadd (pc := 49) C dX10_letter_49 ?_
        obtain ⟨hi, h⟩ := ix_of h
        refine g_iald (pc := 50) C 7 rfl hi dX10_letter_50 ?_
        cases h
        exact g_iret C E dX10_letter_51
    · refine g_iconst (pc := 29) C dX10_letter_29 ci_0 ?_
      cases h
      exact g_iret C E dX10_letter_30
noncomputable def f_X10_word (m_thrown : Int32) (m_refused : Nat → Int32) (m_letter : Nat → Int32) (m_letters : Int32) (n1 : Int32) (n2 : Int32) : Option (Int32 × Int32 × (Nat → Int32)) := b3 (f_X10_isLetter 0 m_refused m_letters n1 1) (fun v1 c2 c3 => if v1 = 0 then some (0, c2, c3) else if ixb ((10 * n1) + 1) 60 then b1 (f_X10_within n2 0 ((m_letter ((10 * n1) + 1).toNatClampNeg) - 1)) (fun v4 => b3 (f_X10_may c2 c3 v4 2 1) (fun v5 c6 c7 => if v5 = 0 then some (0, c6, c7) else if ixb (((10 * n1) + 2) + n2) 60 then some (m_letter (((10 * n1) + 2) + n2).toNatClampNeg, c6, c7) else none)) else none)
def rm_X10_word : Room := { frames := 2, cells := 0, slots := 0, locals := 45 }
set_option maxRecDepth 100000 in
set_option maxHeartbeats 4000000 in
theorem t_X10_word {J : Jt} {a0 : Nat → Nat} {m_thrown : Int32} {m_refused : Nat → Int32} {m_taped : Int32} {m_size : Int32} {m_at : Int32} {m_bad : Int32} {m_badKind : Int32} {m_opens : Int32} {m_faultAt : Int32} {m_tape : Nat → Int32} {m_newBed : Nat → Int32} {m_newLetter : Nat → Int32} {m_newReader : Nat → Int32} {m_bed : Nat → Int32} {m_letter : Nat → Int32} {m_reader : Nat → Int32} {m_newBeds : Int32} {m_newLetters : Int32} {m_newReaders : Int32} {m_beds : Int32} {m_letters : Int32} {m_readers : Int32} {m_newCode : Nat → Int32} {m_newOf : Nat → Int32} {m_code : Nat → Int32} {m_ofCode : Nat → Int32} {m_stack : Nat → Int32} {m_newCodes : Int32} {m_codes : Int32} {m_facts : Nat → Int32} {m_newStep : Nat → Int32} {m_step : Nat → Int32} {m_newSteps : Int32} {m_works : Int32} {m_refusedSteps : Int32} {m_begun : Int32} {m_done : Int32} {m_refusedNow : Int32} {m_now : Nat → Int32} {m_s : Nat → Int32} {m_past : Nat → Int32} {m_newBook : Nat → Int32} {m_book : Nat → Int32} {m_written : Int32} {m_mostBy : Nat → Int32} {m_stuffing : Nat → Int32} {m_stuffedMany : Int32} {m_lastBy : Nat → Int32} {m_leftBy : Nat → Int32} {m_splitBy : Nat → Int64} {m_seedNow : Int32} {m_image : Nat → Int32} {m_images : Int32} {n1 : Int32} {n2 : Int32} {r : Int32} {o_m_thrown : Int32} {o_m_refused : Nat → Int32} (h : f_X10_word m_thrown m_refused m_letter m_letters n1 n2 = some (r, o_m_thrown, o_m_refused)) : Mt J yX10_word cX10_word 3 (some .int) rm_X10_word [.ref (a0 0), .int n1, .int n2] (cs_X10 J.2.2.1 a0 m_thrown m_refused m_taped m_size m_at m_bad m_badKind m_opens m_faultAt m_tape m_newBed m_newLetter m_newReader m_bed m_letter m_reader m_newBeds m_newLetters m_newReaders m_beds m_letters m_readers m_newCode m_newOf m_code m_ofCode m_stack m_newCodes m_codes m_facts m_newStep m_step m_newSteps m_works m_refusedSteps m_begun m_done m_refusedNow m_now m_s m_past m_newBook m_book m_written m_mostBy m_stuffing m_stuffedMany m_lastBy m_leftBy m_splitBy m_seedNow m_image m_images) (some (.int r)) (cs_X10 J.2.2.1 a0 o_m_thrown o_m_refused m_taped m_size m_at m_bad m_badKind m_opens m_faultAt m_tape m_newBed m_newLetter m_newReader m_bed m_letter m_reader m_newBeds m_newLetters m_newReaders m_beds m_letters m_readers m_newCode m_newOf m_code m_ofCode m_stack m_newCodes m_codes m_facts m_newStep m_step m_newSteps m_works m_refusedSteps m_begun m_done m_refusedNow m_now m_s m_past m_newBook m_book m_written m_mostBy m_stuffing m_stuffedMany m_lastBy m_leftBy m_splitBy m_seedNow m_image m_images) := by
  refine Mt_of (own := RX10) (by decide) rfl (Nat.le_of_ble_eq_true rfl) rfl (fun Z C E => ?_)
  unfold f_X10_word at h
  show G J Z 0 0 (cs_X10 J.2.2.1 a0 m_thrown m_refused m_taped m_size m_at m_bad m_badKind m_opens m_faultAt m_tape m_newBed m_newLetter m_newReader m_bed m_letter m_reader m_newBeds m_newLetters m_newReaders m_beds m_letters m_readers m_newCode m_newOf m_code m_ofCode m_stack m_newCodes m_codes m_facts m_newStep m_step m_newSteps m_works m_refusedSteps m_begun m_done m_refusedNow m_now m_s m_past m_newBook m_book m_written m_mostBy m_stuffing m_stuffedMany m_lastBy m_leftBy m_splitBy m_seedNow m_image m_images) 3 [(0, .ref (a0 0)), (1, .int n1), (2, .int n2)] 0 []
  refine g_aload_n (pc := 0) C 0 rfl dX10_word_0 ?_
  refine g_iconst (pc := 1) C dX10_word_1 ci_0 ?_
  refine g_put (pc := 2) C (w' := cs_X10 J.2.2.1 a0 0 m_refused m_taped m_size m_at m_bad m_badKind m_opens m_faultAt m_tape m_newBed m_newLetter m_newReader m_bed m_letter m_reader m_newBeds m_newLetters m_newReaders m_beds m_letters m_readers m_newCode m_newOf m_code m_ofCode m_stack m_newCodes m_codes m_facts m_newStep m_step m_newSteps m_works m_refusedSteps m_begun m_done m_refusedNow m_now m_s m_past m_newBook m_book m_written m_mostBy m_stuffing m_stuffedMany m_lastBy m_leftBy m_splitBy m_seedNow m_image m_images) FOK_X10 0 rfl rfl 0 (by decide) kw_1277 rfl rfl rfl (Nat.le_of_ble_eq_true rfl) dX10_word_2 rfl ?_
  refine g_aload_n (pc := 5) C 0 rfl dX10_word_5 ?_
  refine g_iload_n (pc := 6) C 1 rfl dX10_word_6 ?_
  refine g_iconst (pc := 7) C dX10_word_7 ci_1 ?_
  obtain ⟨v1, c2, c3, hc, h⟩ := b3_of h
  refine g_callV (pc := 8) C (w' := cs_X10 J.2.2.1 a0 c2 c3 m_taped m_size m_at m_bad m_badKind m_opens m_faultAt m_tape m_newBed m_newLetter m_newReader m_bed m_letter m_reader m_newBeds m_newLetters m_newReaders m_beds m_letters m_readers m_newCode m_newOf m_code m_ofCode m_stack m_newCodes m_codes m_facts m_newStep m_step m_newSteps m_works m_refusedSteps m_begun m_done m_refusedNow m_now m_s m_past m_newBook m_book m_written m_mostBy m_stuffing m_stuffedMany m_lastBy m_leftBy m_splitBy m_seedNow m_image m_images) (As := [.int n1, .int 1]) (st := []) (ci := 10) (q0 := 0) rfl rfl (t_X10_isLetter (a0 := a0) hc) Sub.same kw_1704 kw_1706 kw_67 kw_95 hy_X10_isLetter kw_1707 rfl (Nat.le_of_ble_eq_true rfl) (Nat.le_of_ble_eq_true rfl) (Nat.le_of_ble_eq_true rfl) (Nat.le_of_ble_eq_true rfl) (Nat.le_of_ble_eq_true rfl) dX10_word_8 ?_
  refine g_if_eq (pc := 11) C (tgt := 41) dX10_word_11 rfl h (fun h => ?_) (fun h => ?_)
  · refine g_iconst (pc := 41) C dX10_word_41 ci_0 ?_
    cases h
    exact g_iret C E dX10_word_42
  · refine g_aload_n (pc := 14) C 0 rfl dX10_word_14 ?_
    refine g_iload_n (pc := 15) C 2 rfl dX10_word_15 ?_
    refine g_iconst (pc := 16) C dX10_word_16 ci_0 ?_
    refine g_aload_n (pc := 17) C 0 rfl dX10_word_17 ?_
    refine g_get (pc := 18) C FOK_X10 0 rfl rfl 14 (by decide) kw_1291 rfl dX10_word_18 ?_
    refine g_bipush (pc := 21) C dX10_word_21 cb_10 ?_
    refine g_iload_n (pc := 23) C 1 rfl dX10_word_23 ?_
    refine g_imul (pc := 24) C dX10_word_24 ?_
    refine g_iconst (pc := 25) C dX10_word_25 ci_1 ?_
    refine g_iadd (pc := 26) C dX10_word_26 ?_
    obtain ⟨hi, h⟩ := ix_of h
    refine g_iald (pc := 27) C 7 rfl hi dX10_word_27 ?_
    refine g_iconst (pc := 28) C dX10_word_28 ci_1 ?_
    refine g_isub (pc := 29) C dX10_word_29 ?_
    obtain ⟨v4, hc, h⟩ := b1_of h
    refine g_callS (pc := 30) C (w' := cs_X10 J.2.2.1 a0 c2 c3 m_taped m_size m_at m_bad m_badKind m_opens m_faultAt m_tape m_newBed m_newLetter m_newReader m_bed m_letter m_reader m_newBeds m_newLetters m_newReaders m_beds m_letters m_readers m_newCode m_newOf m_code m_ofCode m_stack m_newCodes m_codes m_facts m_newStep m_step m_newSteps m_works m_refusedSteps m_begun m_done m_refusedNow m_now m_s m_past m_newBook m_book m_written m_mostBy m_stuffing m_stuffedMany m_lastBy m_leftBy m_splitBy m_seedNow m_image m_images) (As := [.int n2, .int 0, .int ((m_letter ((10 * n1) + 1).toNatClampNeg) - 1)]) (st := [.ref (a0 0)]) (t_X10_within hc) Sub.nil kw_1689 kw_1690 kw_95 hy_X10_within kw_1691 rfl (Nat.le_of_ble_eq_true rfl) (Nat.le_of_ble_eq_true rfl) (Nat.le_of_ble_eq_true rfl) (Nat.le_of_ble_eq_true rfl) (Nat.le_of_ble_eq_true rfl) dX10_word_30 ?_
    refine g_iconst (pc := 33) C dX10_word_33 ci_2 ?_
    refine g_iconst (pc := 34) C dX10_word_34 ci_1 ?_
    obtain ⟨v5, c6, c7, hc, h⟩ := b3_of h
    refine g_callV (pc := 35) C (w' := cs_X10 J.2.2.1 a0 c6 c7 m_taped m_size m_at m_bad m_badKind m_opens m_faultAt m_tape m_newBed m_newLetter m_newReader m_bed m_letter m_reader m_newBeds m_newLetters m_newReaders m_beds m_letters m_readers m_newCode m_newOf m_code m_ofCode m_stack m_newCodes m_codes m_facts m_newStep m_step m_newSteps m_works m_refusedSteps m_begun m_done m_refusedNow m_now m_s m_past m_newBook m_book m_written m_mostBy m_stuffing m_stuffedMany m_lastBy m_leftBy m_splitBy m_seedNow m_image m_images) (As := [.int v4, .int 2, .int 1]) (st := []) (ci := 10) (q0 := 0) rfl rfl (t_X10_may (a0 := a0) hc) Sub.same kw_1450 kw_1452 kw_20 kw_95 hy_X10_may kw_1453 rfl (Nat.le_of_ble_eq_true rfl) (Nat.le_of_ble_eq_true rfl) (Nat.le_of_ble_eq_true rfl) (Nat.le_of_ble_eq_true rfl) (Nat.le_of_ble_eq_true rfl) dX10_word_35 ?_
    refine g_if_ne (pc := 38) C (tgt := 43) dX10_word_38 rfl h (fun h => ?_) (fun h => ?_)
    · refine g_aload_n (pc := 43) C 0 rfl dX10_word_43 ?_
      refine g_get (pc := 44) C FOK_X10 0 rfl rfl 14 (by decide) kw_1291 rfl dX10_word_44 ?_
      refine g_bipush (pc := 47) C dX10_word_47 cb_10 ?_
      refine g_iload_n (pc := 49) C 1 rfl dX10_word_49 ?_
      refine g_imul (pc := 50) C dX10_word_50 ?_
      refine g_iconst (pc := 51) C dX10_word_51 ci_2 ?_
      refine g_iadd (pc := 52) C dX10_word_52 ?_
      refine g_iload_n (pc := 53) C 2 rfl dX10_word_53 ?_
      refine g_iadd (pc := 54) C dX10_word_54 ?_
      obtain ⟨hi, h⟩ := ix_of h
      refine g_iald (pc := 55) C 7 rfl hi dX10_word_55 ?_
      cases h
      exact g_iret C E dX10_word_56
    · refine g_iconst (pc := 41) C dX10_word_41 ci_0 ?_
      cases h
      exact g_iret C E dX10_word_42
noncomputable def f_X10_firstIn (m_s : Nat → Int32) (n1 : Int32) : Option (Int32) := if ixb (84 + n1) 165 then if (m_s (84 + n1).toNatClampNeg) = 0 then some (-1) else if ixb (12 + (12 * n1)) 165 then some (m_s (12 + (12 * n1)).toNatClampNeg) else none else none
def rm_X10_firstIn : Room := { frames := 0, cells := 0, slots := 0, locals := 0 }
set_option maxRecDepth 100000 in
set_option maxHeartbeats 4000000 in
theorem t_X10_firstIn {J : Jt} {a0 : Nat → Nat} {m_thrown : Int32} {m_refused : Nat → Int32} {m_taped : Int32} {m_size : Int32} {m_at : Int32} {m_bad : Int32} {m_badKind : Int32} {m_opens : Int32} {m_faultAt : Int32} {m_tape : Nat → Int32} {m_newBed : Nat → Int32} {m_newLetter : Nat → Int32} {m_newReader : Nat → Int32} {m_bed : Nat → Int32} {m_letter : Nat → Int32} {m_reader : Nat → Int32} {m_newBeds : Int32} {m_newLetters : Int32} {m_newReaders : Int32} {m_beds : Int32} {m_letters : Int32} {m_readers : Int32} {m_newCode : Nat → Int32} {m_newOf : Nat → Int32} {m_code : Nat → Int32} {m_ofCode : Nat → Int32} {m_stack : Nat → Int32} {m_newCodes : Int32} {m_codes : Int32} {m_facts : Nat → Int32} {m_newStep : Nat → Int32} {m_step : Nat → Int32} {m_newSteps : Int32} {m_works : Int32} {m_refusedSteps : Int32} {m_begun : Int32} {m_done : Int32} {m_refusedNow : Int32} {m_now : Nat → Int32} {m_s : Nat → Int32} {m_past : Nat → Int32} {m_newBook : Nat → Int32} {m_book : Nat → Int32} {m_written : Int32} {m_mostBy : Nat → Int32} {m_stuffing : Nat → Int32} {m_stuffedMany : Int32} {m_lastBy : Nat → Int32} {m_leftBy : Nat → Int32} {m_splitBy : Nat → Int64} {m_seedNow : Int32} {m_image : Nat → Int32} {m_images : Int32} {n1 : Int32} {r : Int32} (h : f_X10_firstIn m_s n1 = some r) : Mt J yX10_firstIn cX10_firstIn 2 (some .int) rm_X10_firstIn [.ref (a0 0), .int n1] (cs_X10 J.2.2.1 a0 m_thrown m_refused m_taped m_size m_at m_bad m_badKind m_opens m_faultAt m_tape m_newBed m_newLetter m_newReader m_bed m_letter m_reader m_newBeds m_newLetters m_newReaders m_beds m_letters m_readers m_newCode m_newOf m_code m_ofCode m_stack m_newCodes m_codes m_facts m_newStep m_step m_newSteps m_works m_refusedSteps m_begun m_done m_refusedNow m_now m_s m_past m_newBook m_book m_written m_mostBy m_stuffing m_stuffedMany m_lastBy m_leftBy m_splitBy m_seedNow m_image m_images) (some (.int r)) (cs_X10 J.2.2.1 a0 m_thrown m_refused m_taped m_size m_at m_bad m_badKind m_opens m_faultAt m_tape m_newBed m_newLetter m_newReader m_bed m_letter m_reader m_newBeds m_newLetters m_newReaders m_beds m_letters m_readers m_newCode m_newOf m_code m_ofCode m_stack m_newCodes m_codes m_facts m_newStep m_step m_newSteps m_works m_refusedSteps m_begun m_done m_refusedNow m_now m_s m_past m_newBook m_book m_written m_mostBy m_stuffing m_stuffedMany m_lastBy m_leftBy m_splitBy m_seedNow m_image m_images) := by
  refine Mt_of (own := RX10) (by decide) rfl (Nat.le_of_ble_eq_true rfl) rfl (fun Z C E => ?_)
  unfold f_X10_firstIn at h
  show G J Z 0 0 (cs_X10 J.2.2.1 a0 m_thrown m_refused m_taped m_size m_at m_bad m_badKind m_opens m_faultAt m_tape m_newBed m_newLetter m_newReader m_bed m_letter m_reader m_newBeds m_newLetters m_newReaders m_beds m_letters m_readers m_newCode m_newOf m_code m_ofCode m_stack m_newCodes m_codes m_facts m_newStep m_step m_newSteps m_works m_refusedSteps m_begun m_done m_refusedNow m_now m_s m_past m_newBook m_book m_written m_mostBy m_stuffing m_stuffedMany m_lastBy m_leftBy m_splitBy m_seedNow m_image m_images) 2 [(0, .ref (a0 0)), (1, .int n1)] 0 []
  refine g_aload_n (pc := 0) C 0 rfl dX10_firstIn_0 ?_
  refine g_get (pc := 1) C FOK_X10 0 rfl rfl 39 (by decide) kw_1316 rfl dX10_firstIn_1 ?_
  refine g_bipush (pc := 4) C dX10_firstIn_4 cb_84 ?_
  refine g_iload_n (pc := 6) C 1 rfl dX10_firstIn_6 ?_
  refine g_iadd (pc := 7) C dX10_firstIn_7 ?_
  obtain ⟨hi, h⟩ := ix_of h
  refine g_iald (pc := 8) C 18 rfl hi dX10_firstIn_8 ?_
  refine g_if_ne (pc := 9) C (tgt := 16) dX10_firstIn_9 rfl h (fun h => ?_) (fun h => ?_)
  · refine g_aload_n (pc := 16) C 0 rfl dX10_firstIn_16 ?_
    refine g_get (pc := 17) C FOK_X10 0 rfl rfl 39 (by decide) kw_1316 rfl dX10_firstIn_17 ?_
    refine g_bipush (pc := 20) C dX10_firstIn_20 cb_12 ?_
    refine g_bipush (pc := 22) C dX10_firstIn_22 cb_12 ?_
    refine g_iload_n (pc := 24) C 1 rfl dX10_firstIn_24 ?_
    refine g_imul (pc := 25) C dX10_firstIn_25 ?_
    refine g_iadd (pc := 26) C dX10_firstIn_26 ?_
    obtain ⟨hi, h⟩ := ix_of h
    refine g_iald (pc := 27) C 18 rfl hi dX10_firstIn_27 ?_
    cases h
    exact g_iret C E dX10_firstIn_28
  · refine g_iconst (pc := 12) C dX10_firstIn_12 ci_m1 ?_
    refine g_goto (pc := 13) C (tgt := 28) dX10_firstIn_13 rfl ?_
    cases h
    exact g_iret C E dX10_firstIn_28
noncomputable def f_X10_bed_92  (m_bed : Nat → Int32) (m_beds : Int32) (m_readers : Int32) (m_now : Nat → Int32) (n1 : Int32) (n2 : Int32) : Nat → Int32 → Int32 → Int32 → (Nat → Int32) → (Nat → Int32) → Option (Int32 × Int32 × (Nat → Int32) × (Nat → Int32))
  | 0, _, _, _, _, _ => none
  | n + 1, x3, x4, m_thrown, m_refused, m_s => if m_readers ≤ x4 then some (x3, m_thrown, m_refused, m_s) else if ixb (90 + x4) 165 then if (m_s (90 + x4).toNatClampNeg) = n1 then f_X10_bed_92 m_bed m_beds m_readers m_now n1 n2 n (x3 ||| ((1 : Int32) <<< (x4 &&& 31))) (x4 + 1) m_thrown m_refused m_s else f_X10_bed_92 m_bed m_beds m_readers m_now n1 n2 n (x3 ||| 0) (x4 + 1) m_thrown m_refused m_s else none
noncomputable def f_X10_bed (m_thrown : Int32) (m_refused : Nat → Int32) (m_bed : Nat → Int32) (m_beds : Int32) (m_readers : Int32) (m_now : Nat → Int32) (m_s : Nat → Int32) (n1 : Int32) (n2 : Int32) : Option (Int32 × Int32 × (Nat → Int32) × (Nat → Int32)) := b3 (f_X10_isBed 0 m_refused m_beds n1 1) (fun v1 c2 c3 => if v1 = 0 then some (0, c2, c3, m_s) else b1 (f_X10_within n2 0 4) (fun v4 => b3 (f_X10_may c2 c3 v4 2 1) (fun v5 c6 c7 => if v5 = 0 then some (0, c6, c7, m_s) else b1 (f_X10_take m_now m_s) (fun c8 => if 2 ≤ n2 then if 4 ≤ n2 then f_X10_bed_92 m_bed m_beds m_readers m_now n1 n2 FU 0 0 c6 c7 c8 else if n2 = 2 then b1 (f_X10_wordsIn c8 n1) (fun v10 => some (v10, c6, c7, c8)) else b1 (f_X10_firstIn c8 n1) (fun v9 => some (v9, c6, c7, c8)) else if n2 = 0 then if ixb n1 6 then some (m_bed n1.toNatClampNeg, c6, c7, c8) else none else if ixb (84 + n1) 165 then some (c8 (84 + n1).toNatClampNeg, c6, c7, c8) else none))))
def rm_X10_bed : Room := { frames := 2, cells := 0, slots := 0, locals := 45 }
set_option maxRecDepth 100000 in
set_option maxHeartbeats 4000000 in
theorem j_X10_bed_92 {J : Jt} {Z : Zt} {a0 : Nat → Nat} {m_taped : Int32} {m_size : Int32} {m_at : Int32} {m_bad : Int32} {m_badKind : Int32} {m_opens : Int32} {m_faultAt : Int32} {m_tape : Nat → Int32} {m_newBed : Nat → Int32} {m_newLetter : Nat → Int32} {m_newReader : Nat → Int32} {m_bed : Nat → Int32} {m_letter : Nat → Int32} {m_reader : Nat → Int32} {m_newBeds : Int32} {m_newLetters : Int32} {m_newReaders : Int32} {m_beds : Int32} {m_letters : Int32} {m_readers : Int32} {m_newCode : Nat → Int32} {m_newOf : Nat → Int32} {m_code : Nat → Int32} {m_ofCode : Nat → Int32} {m_stack : Nat → Int32} {m_newCodes : Int32} {m_codes : Int32} {m_facts : Nat → Int32} {m_newStep : Nat → Int32} {m_step : Nat → Int32} {m_newSteps : Int32} {m_works : Int32} {m_refusedSteps : Int32} {m_begun : Int32} {m_done : Int32} {m_refusedNow : Int32} {m_now : Nat → Int32} {m_past : Nat → Int32} {m_newBook : Nat → Int32} {m_book : Nat → Int32} {m_written : Int32} {m_mostBy : Nat → Int32} {m_stuffing : Nat → Int32} {m_stuffedMany : Int32} {m_lastBy : Nat → Int32} {m_leftBy : Nat → Int32} {m_splitBy : Nat → Int64} {m_seedNow : Int32} {m_image : Nat → Int32} {m_images : Int32} {n1 : Int32} {n2 : Int32} {r : Int32} {o_m_thrown : Int32} {o_m_refused : Nat → Int32} {o_m_s : Nat → Int32} (C : Cx J Z cX10_bed 5 RX10 (some .int) rm_X10_bed) (E : Ez J Z 0 0 (some (.int r)) (cs_X10 J.2.2.1 a0 o_m_thrown o_m_refused m_taped m_size m_at m_bad m_badKind m_opens m_faultAt m_tape m_newBed m_newLetter m_newReader m_bed m_letter m_reader m_newBeds m_newLetters m_newReaders m_beds m_letters m_readers m_newCode m_newOf m_code m_ofCode m_stack m_newCodes m_codes m_facts m_newStep m_step m_newSteps m_works m_refusedSteps m_begun m_done m_refusedNow m_now o_m_s m_past m_newBook m_book m_written m_mostBy m_stuffing m_stuffedMany m_lastBy m_leftBy m_splitBy m_seedNow m_image m_images)) : ∀ (n : Nat) (x3 : Int32) (x4 : Int32) (m_thrown : Int32) (m_refused : Nat → Int32) (m_s : Nat → Int32), f_X10_bed_92 m_bed m_beds m_readers m_now n1 n2 n x3 x4 m_thrown m_refused m_s = some (r, o_m_thrown, o_m_refused, o_m_s) → G J Z 0 0 (cs_X10 J.2.2.1 a0 m_thrown m_refused m_taped m_size m_at m_bad m_badKind m_opens m_faultAt m_tape m_newBed m_newLetter m_newReader m_bed m_letter m_reader m_newBeds m_newLetters m_newReaders m_beds m_letters m_readers m_newCode m_newOf m_code m_ofCode m_stack m_newCodes m_codes m_facts m_newStep m_step m_newSteps m_works m_refusedSteps m_begun m_done m_refusedNow m_now m_s m_past m_newBook m_book m_written m_mostBy m_stuffing m_stuffedMany m_lastBy m_leftBy m_splitBy m_seedNow m_image m_images) 5 [(0, .ref (a0 0)), (1, .int n1), (3, .int x3), (4, .int x4)] 92 [] := by
  intro n
  induction n with
  | zero =>
    intro x3 x4 m_thrown m_refused m_s h
    rw [f_X10_bed_92] at h
    cases h
  | succ n ih =>
    intro x3 x4 m_thrown m_refused m_s h
    rw [f_X10_bed_92] at h
    refine g_iload (pc := 92) C 3 rfl dX10_bed_92 ?_
    refine g_aload_n (pc := 94) C 0 rfl dX10_bed_94 ?_
    refine g_get (pc := 95) C FOK_X10 0 rfl rfl 21 (by decide) kw_1298 rfl dX10_bed_95 ?_
    refine g_icmp_ge (pc := 98) C (tgt := 132) dX10_bed_98 rfl h (fun h => ?_) (fun h => ?_)
    · refine g_iload_n (pc := 132) C 2 rfl dX10_bed_132 ?_
      cases h
      exact g_iret C E dX10_bed_133
    · refine g_iload_n (pc := 101) C 2 rfl dX10_bed_101 ?_
      refine g_aload_n (pc := 102) C 0 rfl dX10_bed_102 ?_
      refine g_get (pc := 103) C FOK_X10 0 rfl rfl 39 (by decide) kw_1316 rfl dX10_bed_103 ?_
      refine g_bipush (pc := 106) C dX10_bed_106 cb_90 ?_
      refine g_iload (pc := 108) C 3 rfl dX10_bed_108 ?_
      refine g_iadd (pc := 110) C dX10_bed_110 ?_
      obtain ⟨hi, h⟩ := ix_of h
      refine g_iald (pc := 111) C 18 rfl hi dX10_bed_111 ?_
      refine g_iload_n (pc := 112) C 1 rfl dX10_bed_112 ?_
      refine g_icmp_ne (pc := 113) C (tgt := 123) dX10_bed_113 rfl h (fun h => ?_) (fun h => ?_)
      · refine g_iconst (pc := 123) C dX10_bed_123 ci_0 ?_
        refine g_ior (pc := 124) C dX10_bed_124 ?_
        refine g_istore_n (pc := 125) C [(3, .int (x3 ||| 0)), (0, .ref (a0 0)), (1, .int n1), (4, .int x4)] dX10_bed_125 rfl (by decide) rfl ?_
        refine g_iinc (pc := 126) C (j := 3) [(4, .int (x4 + 1)), (3, .int (x3 ||| 0)), (0, .ref (a0 0)), (1, .int n1)] dX10_bed_126 rfl (ii_1 _) (by decide) rfl ?_
        refine g_goto (pc := 129) C (tgt := 92) dX10_bed_129 rfl ?_
        refine g_lv [2, 3, 1, 0] rfl ?_
        exact ih (x3 ||| 0) (x4 + 1) m_thrown m_refused m_s h
      · refine g_iconst (pc := 116) C dX10_bed_116 ci_1 ?_
        refine g_iload (pc := 117) C 3 rfl dX10_bed_117 ?_
        refine g_ishl (pc := 119) C dX10_bed_119 ?_
        refine g_goto (pc := 120) C (tgt := 124) dX10_bed_120 rfl ?_
        refine g_ior (pc := 124) C dX10_bed_124 ?_
        refine g_istore_n (pc := 125) C [(3, .int (x3 ||| ((1 : Int32) <<< (x4 &&& 31)))), (0, .ref (a0 0)), (1, .int n1), (4, .int x4)] dX10_bed_125 rfl (by decide) rfl ?_
        refine g_iinc (pc := 126) C (j := 3) [(4, .int (x4 + 1)), (3, .int (x3 ||| ((1 : Int32) <<< (x4 &&& 31)))), (0, .ref (a0 0)), (1, .int n1)] dX10_bed_126 rfl (ii_1 _) (by decide) rfl ?_
        refine g_goto (pc := 129) C (tgt := 92) dX10_bed_129 rfl ?_
        refine g_lv [2, 3, 1, 0] rfl ?_
        exact ih (x3 ||| ((1 : Int32) <<< (x4 &&& 31))) (x4 + 1) m_thrown m_refused m_s h
set_option maxRecDepth 100000 in
set_option maxHeartbeats 4000000 in
theorem t_X10_bed {J : Jt} {a0 : Nat → Nat} {m_thrown : Int32} {m_refused : Nat → Int32} {m_taped : Int32} {m_size : Int32} {m_at : Int32} {m_bad : Int32} {m_badKind : Int32} {m_opens : Int32} {m_faultAt : Int32} {m_tape : Nat → Int32} {m_newBed : Nat → Int32} {m_newLetter : Nat → Int32} {m_newReader : Nat → Int32} {m_bed : Nat → Int32} {m_letter : Nat → Int32} {m_reader : Nat → Int32} {m_newBeds : Int32} {m_newLetters : Int32} {m_newReaders : Int32} {m_beds : Int32} {m_letters : Int32} {m_readers : Int32} {m_newCode : Nat → Int32} {m_newOf : Nat → Int32} {m_code : Nat → Int32} {m_ofCode : Nat → Int32} {m_stack : Nat → Int32} {m_newCodes : Int32} {m_codes : Int32} {m_facts : Nat → Int32} {m_newStep : Nat → Int32} {m_step : Nat → Int32} {m_newSteps : Int32} {m_works : Int32} {m_refusedSteps : Int32} {m_begun : Int32} {m_done : Int32} {m_refusedNow : Int32} {m_now : Nat → Int32} {m_s : Nat → Int32} {m_past : Nat → Int32} {m_newBook : Nat → Int32} {m_book : Nat → Int32} {m_written : Int32} {m_mostBy : Nat → Int32} {m_stuffing : Nat → Int32} {m_stuffedMany : Int32} {m_lastBy : Nat → Int32} {m_leftBy : Nat → Int32} {m_splitBy : Nat → Int64} {m_seedNow : Int32} {m_image : Nat → Int32} {m_images : Int32} {n1 : Int32} {n2 : Int32} {r : Int32} {o_m_thrown : Int32} {o_m_refused : Nat → Int32} {o_m_s : Nat → Int32} (h : f_X10_bed m_thrown m_refused m_bed m_beds m_readers m_now m_s n1 n2 = some (r, o_m_thrown, o_m_refused, o_m_s)) : Mt J yX10_bed cX10_bed 5 (some .int) rm_X10_bed [.ref (a0 0), .int n1, .int n2] (cs_X10 J.2.2.1 a0 m_thrown m_refused m_taped m_size m_at m_bad m_badKind m_opens m_faultAt m_tape m_newBed m_newLetter m_newReader m_bed m_letter m_reader m_newBeds m_newLetters m_newReaders m_beds m_letters m_readers m_newCode m_newOf m_code m_ofCode m_stack m_newCodes m_codes m_facts m_newStep m_step m_newSteps m_works m_refusedSteps m_begun m_done m_refusedNow m_now m_s m_past m_newBook m_book m_written m_mostBy m_stuffing m_stuffedMany m_lastBy m_leftBy m_splitBy m_seedNow m_image m_images) (some (.int r)) (cs_X10 J.2.2.1 a0 o_m_thrown o_m_refused m_taped m_size m_at m_bad m_badKind m_opens m_faultAt m_tape m_newBed m_newLetter m_newReader m_bed m_letter m_reader m_newBeds m_newLetters m_newReaders m_beds m_letters m_readers m_newCode m_newOf m_code m_ofCode m_stack m_newCodes m_codes m_facts m_newStep m_step m_newSteps m_works m_refusedSteps m_begun m_done m_refusedNow m_now o_m_s m_past m_newBook m_book m_written m_mostBy m_stuffing m_stuffedMany m_lastBy m_leftBy m_splitBy m_seedNow m_image m_images) := by
  refine Mt_of (own := RX10) (by decide) rfl (Nat.le_of_ble_eq_true rfl) rfl (fun Z C E => ?_)
  unfold f_X10_bed at h
  show G J Z 0 0 (cs_X10 J.2.2.1 a0 m_thrown m_refused m_taped m_size m_at m_bad m_badKind m_opens m_faultAt m_tape m_newBed m_newLetter m_newReader m_bed m_letter m_reader m_newBeds m_newLetters m_newReaders m_beds m_letters m_readers m_newCode m_newOf m_code m_ofCode m_stack m_newCodes m_codes m_facts m_newStep m_step m_newSteps m_works m_refusedSteps m_begun m_done m_refusedNow m_now m_s m_past m_newBook m_book m_written m_mostBy m_stuffing m_stuffedMany m_lastBy m_leftBy m_splitBy m_seedNow m_image m_images) 5 [(0, .ref (a0 0)), (1, .int n1), (2, .int n2)] 0 []
  refine g_aload_n (pc := 0) C 0 rfl dX10_bed_0 ?_
  refine g_iconst (pc := 1) C dX10_bed_1 ci_0 ?_
  refine g_put (pc := 2) C (w' := cs_X10 J.2.2.1 a0 0 m_refused m_taped m_size m_at m_bad m_badKind m_opens m_faultAt m_tape m_newBed m_newLetter m_newReader m_bed m_letter m_reader m_newBeds m_newLetters m_newReaders m_beds m_letters m_readers m_newCode m_newOf m_code m_ofCode m_stack m_newCodes m_codes m_facts m_newStep m_step m_newSteps m_works m_refusedSteps m_begun m_done m_refusedNow m_now m_s m_past m_newBook m_book m_written m_mostBy m_stuffing m_stuffedMany m_lastBy m_leftBy m_splitBy m_seedNow m_image m_images) FOK_X10 0 rfl rfl 0 (by decide) kw_1277 rfl rfl rfl (Nat.le_of_ble_eq_true rfl) dX10_bed_2 rfl ?_
  refine g_aload_n (pc := 5) C 0 rfl dX10_bed_5 ?_
  refine g_iload_n (pc := 6) C 1 rfl dX10_bed_6 ?_
  refine g_iconst (pc := 7) C dX10_bed_7 ci_1 ?_
  obtain ⟨v1, c2, c3, hc, h⟩ := b3_of h
  refine g_callV (pc := 8) C (w' := cs_X10 J.2.2.1 a0 c2 c3 m_taped m_size m_at m_bad m_badKind m_opens m_faultAt m_tape m_newBed m_newLetter m_newReader m_bed m_letter m_reader m_newBeds m_newLetters m_newReaders m_beds m_letters m_readers m_newCode m_newOf m_code m_ofCode m_stack m_newCodes m_codes m_facts m_newStep m_step m_newSteps m_works m_refusedSteps m_begun m_done m_refusedNow m_now m_s m_past m_newBook m_book m_written m_mostBy m_stuffing m_stuffedMany m_lastBy m_leftBy m_splitBy m_seedNow m_image m_images) (As := [.int n1, .int 1]) (st := []) (ci := 10) (q0 := 0) rfl rfl (t_X10_isBed (a0 := a0) hc) Sub.same kw_1716 kw_1718 kw_68 kw_95 hy_X10_isBed kw_1719 rfl (Nat.le_of_ble_eq_true rfl) (Nat.le_of_ble_eq_true rfl) (Nat.le_of_ble_eq_true rfl) (Nat.le_of_ble_eq_true rfl) (Nat.le_of_ble_eq_true rfl) dX10_bed_8 ?_
  refine g_if_eq (pc := 11) C (tgt := 29) dX10_bed_11 rfl h (fun h => ?_) (fun h => ?_)
  · refine g_iconst (pc := 29) C dX10_bed_29 ci_0 ?_
    cases h
    exact g_iret C E dX10_bed_30
  · refine g_aload_n (pc := 14) C 0 rfl dX10_bed_14 ?_
    refine g_iload_n (pc := 15) C 2 rfl dX10_bed_15 ?_
    refine g_iconst (pc := 16) C dX10_bed_16 ci_0 ?_
    refine g_iconst (pc := 17) C dX10_bed_17 ci_4 ?_
    obtain ⟨v4, hc, h⟩ := b1_of h
    refine g_callS (pc := 18) C (w' := cs_X10 J.2.2.1 a0 c2 c3 m_taped m_size m_at m_bad m_badKind m_opens m_faultAt m_tape m_newBed m_newLetter m_newReader m_bed m_letter m_reader m_newBeds m_newLetters m_newReaders m_beds m_letters m_readers m_newCode m_newOf m_code m_ofCode m_stack m_newCodes m_codes m_facts m_newStep m_step m_newSteps m_works m_refusedSteps m_begun m_done m_refusedNow m_now m_s m_past m_newBook m_book m_written m_mostBy m_stuffing m_stuffedMany m_lastBy m_leftBy m_splitBy m_seedNow m_image m_images) (As := [.int n2, .int 0, .int 4]) (st := [.ref (a0 0)]) (t_X10_within hc) Sub.nil kw_1689 kw_1690 kw_95 hy_X10_within kw_1691 rfl (Nat.le_of_ble_eq_true rfl) (Nat.le_of_ble_eq_true rfl) (Nat.le_of_ble_eq_true rfl) (Nat.le_of_ble_eq_true rfl) (Nat.le_of_ble_eq_true rfl) dX10_bed_18 ?_
    refine g_iconst (pc := 21) C dX10_bed_21 ci_2 ?_
    refine g_iconst (pc := 22) C dX10_bed_22 ci_1 ?_
    obtain ⟨v5, c6, c7, hc, h⟩ := b3_of h
    refine g_callV (pc := 23) C (w' := cs_X10 J.2.2.1 a0 c6 c7 m_taped m_size m_at m_bad m_badKind m_opens m_faultAt m_tape m_newBed m_newLetter m_newReader m_bed m_letter m_reader m_newBeds m_newLetters m_newReaders m_beds m_letters m_readers m_newCode m_newOf m_code m_ofCode m_stack m_newCodes m_codes m_facts m_newStep m_step m_newSteps m_works m_refusedSteps m_begun m_done m_refusedNow m_now m_s m_past m_newBook m_book m_written m_mostBy m_stuffing m_stuffedMany m_lastBy m_leftBy m_splitBy m_seedNow m_image m_images) (As := [.int v4, .int 2, .int 1]) (st := []) (ci := 10) (q0 := 0) rfl rfl (t_X10_may (a0 := a0) hc) Sub.same kw_1450 kw_1452 kw_20 kw_95 hy_X10_may kw_1453 rfl (Nat.le_of_ble_eq_true rfl) (Nat.le_of_ble_eq_true rfl) (Nat.le_of_ble_eq_true rfl) (Nat.le_of_ble_eq_true rfl) (Nat.le_of_ble_eq_true rfl) dX10_bed_23 ?_
    refine g_if_ne (pc := 26) C (tgt := 31) dX10_bed_26 rfl h (fun h => ?_) (fun h => ?_)
    · refine g_aload_n (pc := 31) C 0 rfl dX10_bed_31 ?_
      obtain ⟨c8, hc, h⟩ := b1_of h
      refine g_callV (pc := 32) C (w' := cs_X10 J.2.2.1 a0 c6 c7 m_taped m_size m_at m_bad m_badKind m_opens m_faultAt m_tape m_newBed m_newLetter m_newReader m_bed m_letter m_reader m_newBeds m_newLetters m_newReaders m_beds m_letters m_readers m_newCode m_newOf m_code m_ofCode m_stack m_newCodes m_codes m_facts m_newStep m_step m_newSteps m_works m_refusedSteps m_begun m_done m_refusedNow m_now c8 m_past m_newBook m_book m_written m_mostBy m_stuffing m_stuffedMany m_lastBy m_leftBy m_splitBy m_seedNow m_image m_images) (As := []) (st := []) (ci := 10) (q0 := 0) rfl rfl (t_X10_take (a0 := a0) hc) Sub.same kw_1595 kw_1597 kw_46 kw_95 hy_X10_take kw_1598 rfl (Nat.le_of_ble_eq_true rfl) (Nat.le_of_ble_eq_true rfl) (Nat.le_of_ble_eq_true rfl) (Nat.le_of_ble_eq_true rfl) (Nat.le_of_ble_eq_true rfl) dX10_bed_32 ?_
      refine g_iload_n (pc := 35) C 2 rfl dX10_bed_35 ?_
      refine g_iconst (pc := 36) C dX10_bed_36 ci_2 ?_
      refine g_icmp_ge (pc := 37) C (tgt := 63) dX10_bed_37 rfl h (fun h => ?_) (fun h => ?_)
      · refine g_iload_n (pc := 63) C 2 rfl dX10_bed_63 ?_
        refine g_iconst (pc := 64) C dX10_bed_64 ci_4 ?_
        refine g_icmp_ge (pc := 65) C (tgt := 87) dX10_bed_65 rfl h (fun h => ?_) (fun h => ?_)
        · refine g_iconst (pc := 87) C dX10_bed_87 ci_0 ?_
          refine g_istore_n (pc := 88) C [(3, .int 0), (0, .ref (a0 0)), (1, .int n1), (2, .int n2)] dX10_bed_88 rfl (by decide) rfl ?_
          refine g_iconst (pc := 89) C dX10_bed_89 ci_0 ?_
          refine g_istore (pc := 90) C [(4, .int 0), (3, .int 0), (0, .ref (a0 0)), (1, .int n1), (2, .int n2)] dX10_bed_90 (by decide) rfl ?_
          refine g_lv [2, 3, 1, 0] rfl ?_
          exact j_X10_bed_92 C E    FU 0 0 c6 c7 c8 h
        · refine g_iload_n (pc := 68) C 2 rfl dX10_bed_68 ?_
          refine g_iconst (pc := 69) C dX10_bed_69 ci_2 ?_
          refine g_icmp_ne (pc := 70) C (tgt := 81) dX10_bed_70 rfl h (fun h => ?_) (fun h => ?_)
          · refine g_aload_n (pc := 81) C 0 rfl dX10_bed_81 ?_
            refine g_iload_n (pc := 82) C 1 rfl dX10_bed_82 ?_
            obtain ⟨v9, hc, h⟩ := b1_of h
            refine g_callV (pc := 83) C (w' := cs_X10 J.2.2.1 a0 c6 c7 m_taped m_size m_at m_bad m_badKind m_opens m_faultAt m_tape m_newBed m_newLetter m_newReader m_bed m_letter m_reader m_newBeds m_newLetters m_newReaders m_beds m_letters m_readers m_newCode m_newOf m_code m_ofCode m_stack m_newCodes m_codes m_facts m_newStep m_step m_newSteps m_works m_refusedSteps m_begun m_done m_refusedNow m_now c8 m_past m_newBook m_book m_written m_mostBy m_stuffing m_stuffedMany m_lastBy m_leftBy m_splitBy m_seedNow m_image m_images) (As := [.int n1]) (st := []) (ci := 10) (q0 := 0) rfl rfl (t_X10_firstIn (a0 := a0) hc) Sub.same kw_1720 kw_1722 kw_69 kw_95 hy_X10_firstIn kw_1723 rfl (Nat.le_of_ble_eq_true rfl) (Nat.le_of_ble_eq_true rfl) (Nat.le_of_ble_eq_true rfl) (Nat.le_of_ble_eq_true rfl) (Nat.le_of_ble_eq_true rfl) dX10_bed_83 ?_
            cases h
            exact g_iret C E dX10_bed_86
          · refine g_aload_n (pc := 73) C 0 rfl dX10_bed_73 ?_
            refine g_iload_n (pc := 74) C 1 rfl dX10_bed_74 ?_
            obtain ⟨v10, hc, h⟩ := b1_of h
            refine g_callV (pc := 75) C (w' := cs_X10 J.2.2.1 a0 c6 c7 m_taped m_size m_at m_bad m_badKind m_opens m_faultAt m_tape m_newBed m_newLetter m_newReader m_bed m_letter m_reader m_newBeds m_newLetters m_newReaders m_beds m_letters m_readers m_newCode m_newOf m_code m_ofCode m_stack m_newCodes m_codes m_facts m_newStep m_step m_newSteps m_works m_refusedSteps m_begun m_done m_refusedNow m_now c8 m_past m_newBook m_book m_written m_mostBy m_stuffing m_stuffedMany m_lastBy m_leftBy m_splitBy m_seedNow m_image m_images) (As := [.int n1]) (st := []) (ci := 10) (q0 := 0) rfl rfl (t_X10_wordsIn (a0 := a0) hc) Sub.same kw_1631 kw_1633 kw_55 kw_95 hy_X10_wordsIn kw_1634 rfl (Nat.le_of_ble_eq_true rfl) (Nat.le_of_ble_eq_true rfl) (Nat.le_of_ble_eq_true rfl) (Nat.le_of_ble_eq_true rfl) (Nat.le_of_ble_eq_true rfl) dX10_bed_75 ?_
            refine g_goto (pc := 78) C (tgt := 86) dX10_bed_78 rfl ?_
            cases h
            exact g_iret C E dX10_bed_86
      · refine g_iload_n (pc := 40) C 2 rfl dX10_bed_40 ?_
        refine g_if_ne (pc := 41) C (tgt := 53) dX10_bed_41 rfl h (fun h => ?_) (fun h => ?_)
        · refine g_aload_n (pc := 53) C 0 rfl dX10_bed_53 ?_
          refine g_get (pc := 54) C FOK_X10 0 rfl rfl 39 (by decide) kw_1316 rfl dX10_bed_54 ?_
          refine g_bipush (pc := 57) C dX10_bed_57 cb_84 ?_
          refine g_iload_n (pc := 59) C 1 rfl dX10_bed_59 ?_
          refine g_iadd (pc := 60) C dX10_bed_60 ?_
          obtain ⟨hi, h⟩ := ix_of h
          refine g_iald (pc := 61) C 18 rfl hi dX10_bed_61 ?_
          cases h
          exact g_iret C E dX10_bed_62
        · refine g_aload_n (pc := 44) C 0 rfl dX10_bed_44 ?_
          refine g_get (pc := 45) C FOK_X10 0 rfl rfl 13 (by decide) kw_1290 rfl dX10_bed_45 ?_
          refine g_iload_n (pc := 48) C 1 rfl dX10_bed_48 ?_
          obtain ⟨hi, h⟩ := ix_of h
          refine g_iald (pc := 49) C 6 rfl hi dX10_bed_49 ?_
          refine g_goto (pc := 50) C (tgt := 62) dX10_bed_50 rfl ?_
          cases h
          exact g_iret C E dX10_bed_62
    · refine g_iconst (pc := 29) C dX10_bed_29 ci_0 ?_
      cases h
      exact g_iret C E dX10_bed_30
noncomputable def f_X10_lies_24  (m_beds : Int32) (m_now : Nat → Int32) (n1 : Int32) (n2 : Int32) (y1 : Int32) (m_thrown : Int32) (m_refused : Nat → Int32) : Option (Int32 × Int32 × (Nat → Int32)) := b3 (f_X10_may m_thrown m_refused y1 2 1) (fun v1 c2 c3 => if v1 = 0 then some (0, c2, c3) else if ixb (84 + n1) 165 then if (m_now (84 + n1).toNatClampNeg) ≤ n2 then some ((-1), c2, c3) else if ixb ((12 + (12 * n1)) + n2) 165 then some (m_now ((12 + (12 * n1)) + n2).toNatClampNeg, c2, c3) else none else none)
noncomputable def f_X10_lies (m_thrown : Int32) (m_refused : Nat → Int32) (m_beds : Int32) (m_now : Nat → Int32) (n1 : Int32) (n2 : Int32) : Option (Int32 × Int32 × (Nat → Int32)) := b3 (f_X10_isBed 0 m_refused m_beds n1 1) (fun v4 c5 c6 => if v4 = 0 then some (0, c5, c6) else if n2 < 0 then f_X10_lies_24 m_beds m_now n1 n2 0 c5 c6 else f_X10_lies_24 m_beds m_now n1 n2 1 c5 c6)
def rm_X10_lies : Room := { frames := 2, cells := 0, slots := 0, locals := 45 }
set_option maxRecDepth 100000 in
set_option maxHeartbeats 4000000 in
theorem j_X10_lies_24 {J : Jt} {Z : Zt} {a0 : Nat → Nat} {m_taped : Int32} {m_size : Int32} {m_at : Int32} {m_bad : Int32} {m_badKind : Int32} {m_opens : Int32} {m_faultAt : Int32} {m_tape : Nat → Int32} {m_newBed : Nat → Int32} {m_newLetter : Nat → Int32} {m_newReader : Nat → Int32} {m_bed : Nat → Int32} {m_letter : Nat → Int32} {m_reader : Nat → Int32} {m_newBeds : Int32} {m_newLetters : Int32} {m_newReaders : Int32} {m_beds : Int32} {m_letters : Int32} {m_readers : Int32} {m_newCode : Nat → Int32} {m_newOf : Nat → Int32} {m_code : Nat → Int32} {m_ofCode : Nat → Int32} {m_stack : Nat → Int32} {m_newCodes : Int32} {m_codes : Int32} {m_facts : Nat → Int32} {m_newStep : Nat → Int32} {m_step : Nat → Int32} {m_newSteps : Int32} {m_works : Int32} {m_refusedSteps : Int32} {m_begun : Int32} {m_done : Int32} {m_refusedNow : Int32} {m_now : Nat → Int32} {m_s : Nat → Int32} {m_past : Nat → Int32} {m_newBook : Nat → Int32} {m_book : Nat → Int32} {m_written : Int32} {m_mostBy : Nat → Int32} {m_stuffing : Nat → Int32} {m_stuffedMany : Int32} {m_lastBy : Nat → Int32} {m_leftBy : Nat → Int32} {m_splitBy : Nat → Int64} {m_seedNow : Int32} {m_image : Nat → Int32} {m_images : Int32} {n1 : Int32} {n2 : Int32} {r : Int32} {o_m_thrown : Int32} {o_m_refused : Nat → Int32} (C : Cx J Z cX10_lies 3 RX10 (some .int) rm_X10_lies) (E : Ez J Z 0 0 (some (.int r)) (cs_X10 J.2.2.1 a0 o_m_thrown o_m_refused m_taped m_size m_at m_bad m_badKind m_opens m_faultAt m_tape m_newBed m_newLetter m_newReader m_bed m_letter m_reader m_newBeds m_newLetters m_newReaders m_beds m_letters m_readers m_newCode m_newOf m_code m_ofCode m_stack m_newCodes m_codes m_facts m_newStep m_step m_newSteps m_works m_refusedSteps m_begun m_done m_refusedNow m_now m_s m_past m_newBook m_book m_written m_mostBy m_stuffing m_stuffedMany m_lastBy m_leftBy m_splitBy m_seedNow m_image m_images)) : ∀ (y1 : Int32) (m_thrown : Int32) (m_refused : Nat → Int32), f_X10_lies_24 m_beds m_now n1 n2 y1 m_thrown m_refused = some (r, o_m_thrown, o_m_refused) → G J Z 0 0 (cs_X10 J.2.2.1 a0 m_thrown m_refused m_taped m_size m_at m_bad m_badKind m_opens m_faultAt m_tape m_newBed m_newLetter m_newReader m_bed m_letter m_reader m_newBeds m_newLetters m_newReaders m_beds m_letters m_readers m_newCode m_newOf m_code m_ofCode m_stack m_newCodes m_codes m_facts m_newStep m_step m_newSteps m_works m_refusedSteps m_begun m_done m_refusedNow m_now m_s m_past m_newBook m_book m_written m_mostBy m_stuffing m_stuffedMany m_lastBy m_leftBy m_splitBy m_seedNow m_image m_images) 3 [(0, .ref (a0 0)), (1, .int n1), (2, .int n2)] 24 [.int y1, .ref (a0 0)] := by
  intro y1 m_thrown m_refused h
  unfold f_X10_lies_24 at h
  refine g_iconst (pc := 24) C dX10_lies_24 ci_2 ?_
  refine g_iconst (pc := 25) C dX10_lies_25 ci_1 ?_
  obtain ⟨v1, c2, c3, hc, h⟩ := b3_of h
  refine g_callV (pc := 26) C (w' := cs_X10 J.2.2.1 a0 c2 c3 m_taped m_size m_at m_bad m_badKind m_opens m_faultAt m_tape m_newBed m_newLetter m_newReader m_bed m_letter m_reader m_newBeds m_newLetters m_newReaders m_beds m_letters m_readers m_newCode m_newOf m_code m_ofCode m_stack m_newCodes m_codes m_facts m_newStep m_step m_newSteps m_works m_refusedSteps m_begun m_done m_refusedNow m_now m_s m_past m_newBook m_book m_written m_mostBy m_stuffing m_stuffedMany m_lastBy m_leftBy m_splitBy m_seedNow m_image m_images) (As := [.int y1, .int 2, .int 1]) (st := []) (ci := 10) (q0 := 0) rfl rfl (t_X10_may (a0 := a0) hc) Sub.same kw_1450 kw_1452 kw_20 kw_95 hy_X10_may kw_1453 rfl (Nat.le_of_ble_eq_true rfl) (Nat.le_of_ble_eq_true rfl) (Nat.le_of_ble_eq_true rfl) (Nat.le_of_ble_eq_true rfl) (Nat.le_of_ble_eq_true rfl) dX10_lies_26 ?_
  refine g_if_ne (pc := 29) C (tgt := 34) dX10_lies_29 rfl h (fun h => ?_) (fun h => ?_)
  · refine g_iload_n (pc := 34) C 2 rfl dX10_lies_34 ?_
    refine g_aload_n (pc := 35) C 0 rfl dX10_lies_35 ?_
    refine g_get (pc := 36) C FOK_X10 0 rfl rfl 38 (by decide) kw_1315 rfl dX10_lies_36 ?_
    refine g_bipush (pc := 39) C dX10_lies_39 cb_84 ?_
    refine g_iload_n (pc := 41) C 1 rfl dX10_lies_41 ?_
    refine g_iadd (pc := 42) C dX10_lies_42 ?_
    obtain ⟨hi, h⟩ := ix_of h
    refine g_iald (pc := 43) C 17 rfl hi dX10_lies_43 ?_
    refine g_icmp_ge (pc := 44) C (tgt := 64) dX10_lies_44 rfl h (fun h => ?_) (fun h => ?_)
    · refine g_iconst (pc := 64) C dX10_lies_64 ci_m1 ?_
      cases h
      exact g_iret C E dX10_lies_65
    · refine g_aload_n (pc := 47) C 0 rfl dX10_lies_47 ?_
      refine g_get (pc := 48) C FOK_X10 0 rfl rfl 38 (by decide) kw_1315 rfl dX10_lies_48 ?_
      refine g_bipush (pc := 51) C dX10_lies_51 cb_12 ?_
      refine g_bipush (pc := 53) C dX10_lies_53 cb_12 ?_
      refine g_iload_n (pc := 55) C 1 rfl dX10_lies_55 ?_
      refine g_imul (pc := 56) C dX10_lies_56 ?_
      refine g_iadd (pc := 57) C dX10_lies_57 ?_
      refine g_iload_n (pc := 58) C 2 rfl dX10_lies_58 ?_
      refine g_iadd (pc := 59) C dX10_lies_59 ?_
      obtain ⟨hi, h⟩ := ix_of h
      refine g_iald (pc := 60) C 17 rfl hi dX10_lies_60 ?_
      refine g_goto (pc := 61) C (tgt := 65) dX10_lies_61 rfl ?_
      cases h
      exact g_iret C E dX10_lies_65
  · refine g_iconst (pc := 32) C dX10_lies_32 ci_0 ?_
    cases h
    exact g_iret C E dX10_lies_33
set_option maxRecDepth 100000 in
set_option maxHeartbeats 4000000 in
theorem t_X10_lies {J : Jt} {a0 : Nat → Nat} {m_thrown : Int32} {m_refused : Nat → Int32} {m_taped : Int32} {m_size : Int32} {m_at : Int32} {m_bad : Int32} {m_badKind : Int32} {m_opens : Int32} {m_faultAt : Int32} {m_tape : Nat → Int32} {m_newBed : Nat → Int32} {m_newLetter : Nat → Int32} {m_newReader : Nat → Int32} {m_bed : Nat → Int32} {m_letter : Nat → Int32} {m_reader : Nat → Int32} {m_newBeds : Int32} {m_newLetters : Int32} {m_newReaders : Int32} {m_beds : Int32} {m_letters : Int32} {m_readers : Int32} {m_newCode : Nat → Int32} {m_newOf : Nat → Int32} {m_code : Nat → Int32} {m_ofCode : Nat → Int32} {m_stack : Nat → Int32} {m_newCodes : Int32} {m_codes : Int32} {m_facts : Nat → Int32} {m_newStep : Nat → Int32} {m_step : Nat → Int32} {m_newSteps : Int32} {m_works : Int32} {m_refusedSteps : Int32} {m_begun : Int32} {m_done : Int32} {m_refusedNow : Int32} {m_now : Nat → Int32} {m_s : Nat → Int32} {m_past : Nat → Int32} {m_newBook : Nat → Int32} {m_book : Nat → Int32} {m_written : Int32} {m_mostBy : Nat → Int32} {m_stuffing : Nat → Int32} {m_stuffedMany : Int32} {m_lastBy : Nat → Int32} {m_leftBy : Nat → Int32} {m_splitBy : Nat → Int64} {m_seedNow : Int32} {m_image : Nat → Int32} {m_images : Int32} {n1 : Int32} {n2 : Int32} {r : Int32} {o_m_thrown : Int32} {o_m_refused : Nat → Int32} (h : f_X10_lies m_thrown m_refused m_beds m_now n1 n2 = some (r, o_m_thrown, o_m_refused)) : Mt J yX10_lies cX10_lies 3 (some .int) rm_X10_lies [.ref (a0 0), .int n1, .int n2] (cs_X10 J.2.2.1 a0 m_thrown m_refused m_taped m_size m_at m_bad m_badKind m_opens m_faultAt m_tape m_newBed m_newLetter m_newReader m_bed m_letter m_reader m_newBeds m_newLetters m_newReaders m_beds m_letters m_readers m_newCode m_newOf m_code m_ofCode m_stack m_newCodes m_codes m_facts m_newStep m_step m_newSteps m_works m_refusedSteps m_begun m_done m_refusedNow m_now m_s m_past m_newBook m_book m_written m_mostBy m_stuffing m_stuffedMany m_lastBy m_leftBy m_splitBy m_seedNow m_image m_images) (some (.int r)) (cs_X10 J.2.2.1 a0 o_m_thrown o_m_refused m_taped m_size m_at m_bad m_badKind m_opens m_faultAt m_tape m_newBed m_newLetter m_newReader m_bed m_letter m_reader m_newBeds m_newLetters m_newReaders m_beds m_letters m_readers m_newCode m_newOf m_code m_ofCode m_stack m_newCodes m_codes m_facts m_newStep m_step m_newSteps m_works m_refusedSteps m_begun m_done m_refusedNow m_now m_s m_past m_newBook m_book m_written m_mostBy m_stuffing m_stuffedMany m_lastBy m_leftBy m_splitBy m_seedNow m_image m_images) := by
  refine Mt_of (own := RX10) (by decide) rfl (Nat.le_of_ble_eq_true rfl) rfl (fun Z C E => ?_)
  unfold f_X10_lies at h
  show G J Z 0 0 (cs_X10 J.2.2.1 a0 m_thrown m_refused m_taped m_size m_at m_bad m_badKind m_opens m_faultAt m_tape m_newBed m_newLetter m_newReader m_bed m_letter m_reader m_newBeds m_newLetters m_newReaders m_beds m_letters m_readers m_newCode m_newOf m_code m_ofCode m_stack m_newCodes m_codes m_facts m_newStep m_step m_newSteps m_works m_refusedSteps m_begun m_done m_refusedNow m_now m_s m_past m_newBook m_book m_written m_mostBy m_stuffing m_stuffedMany m_lastBy m_leftBy m_splitBy m_seedNow m_image m_images) 3 [(0, .ref (a0 0)), (1, .int n1), (2, .int n2)] 0 []
  refine g_aload_n (pc := 0) C 0 rfl dX10_lies_0 ?_
  refine g_iconst (pc := 1) C dX10_lies_1 ci_0 ?_
  refine g_put (pc := 2) C (w' := cs_X10 J.2.2.1 a0 0 m_refused m_taped m_size m_at m_bad m_badKind m_opens m_faultAt m_tape m_newBed m_newLetter m_newReader m_bed m_letter m_reader m_newBeds m_newLetters m_newReaders m_beds m_letters m_readers m_newCode m_newOf m_code m_ofCode m_stack m_newCodes m_codes m_facts m_newStep m_step m_newSteps m_works m_refusedSteps m_begun m_done m_refusedNow m_now m_s m_past m_newBook m_book m_written m_mostBy m_stuffing m_stuffedMany m_lastBy m_leftBy m_splitBy m_seedNow m_image m_images) FOK_X10 0 rfl rfl 0 (by decide) kw_1277 rfl rfl rfl (Nat.le_of_ble_eq_true rfl) dX10_lies_2 rfl ?_
  refine g_aload_n (pc := 5) C 0 rfl dX10_lies_5 ?_
  refine g_iload_n (pc := 6) C 1 rfl dX10_lies_6 ?_
  refine g_iconst (pc := 7) C dX10_lies_7 ci_1 ?_
  obtain ⟨v4, c5, c6, hc, h⟩ := b3_of h
  refine g_callV (pc := 8) C (w' := cs_X10 J.2.2.1 a0 c5 c6 m_taped m_size m_at m_bad m_badKind m_opens m_faultAt m_tape m_newBed m_newLetter m_newReader m_bed m_letter m_reader m_newBeds m_newLetters m_newReaders m_beds m_letters m_readers m_newCode m_newOf m_code m_ofCode m_stack m_newCodes m_codes m_facts m_newStep m_step m_newSteps m_works m_refusedSteps m_begun m_done m_refusedNow m_now m_s m_past m_newBook m_book m_written m_mostBy m_stuffing m_stuffedMany m_lastBy m_leftBy m_splitBy m_seedNow m_image m_images) (As := [.int n1, .int 1]) (st := []) (ci := 10) (q0 := 0) rfl rfl (t_X10_isBed (a0 := a0) hc) Sub.same kw_1716 kw_1718 kw_68 kw_95 hy_X10_isBed kw_1719 rfl (Nat.le_of_ble_eq_true rfl) (Nat.le_of_ble_eq_true rfl) (Nat.le_of_ble_eq_true rfl) (Nat.le_of_ble_eq_true rfl) (Nat.le_of_ble_eq_true rfl) dX10_lies_8 ?_
  refine g_if_eq (pc := 11) C (tgt := 32) dX10_lies_11 rfl h (fun h => ?_) (fun h => ?_)
  · refine g_iconst (pc := 32) C dX10_lies_32 ci_0 ?_
    cases h
    exact g_iret C E dX10_lies_33
  · refine g_aload_n (pc := 14) C 0 rfl dX10_lies_14 ?_
    refine g_iload_n (pc := 15) C 2 rfl dX10_lies_15 ?_
    refine g_if_lt (pc := 16) C (tgt := 23) dX10_lies_16 rfl h (fun h => ?_) (fun h => ?_)
    · refine g_iconst (pc := 23) C dX10_lies_23 ci_0 ?_
      exact j_X10_lies_24 C E    0 c5 c6 h
    · refine g_iconst (pc := 19) C dX10_lies_19 ci_1 ?_
      refine g_goto (pc := 20) C (tgt := 24) dX10_lies_20 rfl ?_
      exact j_X10_lies_24 C E    1 c5 c6 h
noncomputable def f_X10_reader (m_thrown : Int32) (m_refused : Nat → Int32) (m_readers : Int32) (m_now : Nat → Int32) (n1 : Int32) (n2 : Int32) : Option (Int32 × Int32 × (Nat → Int32)) := b3 (f_X10_isReader 0 m_refused m_readers n1 1) (fun v1 c2 c3 => if v1 = 0 then some (0, c2, c3) else b1 (f_X10_within n2 0 1) (fun v4 => b3 (f_X10_may c2 c3 v4 2 1) (fun v5 c6 c7 => if v5 = 0 then some (0, c6, c7) else if n2 = 0 then if ixb (90 + n1) 165 then some (m_now (90 + n1).toNatClampNeg, c6, c7) else none else if ixb (95 + n1) 165 then some (m_now (95 + n1).toNatClampNeg, c6, c7) else none)))
def rm_X10_reader : Room := { frames := 2, cells := 0, slots := 0, locals := 45 }
set_option maxRecDepth 100000 in
set_option maxHeartbeats 4000000 in
theorem t_X10_reader {J : Jt} {a0 : Nat → Nat} {m_thrown : Int32} {m_refused : Nat → Int32} {m_taped : Int32} {m_size : Int32} {m_at : Int32} {m_bad : Int32} {m_badKind : Int32} {m_opens : Int32} {m_faultAt : Int32} {m_tape : Nat → Int32} {m_newBed : Nat → Int32} {m_newLetter : Nat → Int32} {m_newReader : Nat → Int32} {m_bed : Nat → Int32} {m_letter : Nat → Int32} {m_reader : Nat → Int32} {m_newBeds : Int32} {m_newLetters : Int32} {m_newReaders : Int32} {m_beds : Int32} {m_letters : Int32} {m_readers : Int32} {m_newCode : Nat → Int32} {m_newOf : Nat → Int32} {m_code : Nat → Int32} {m_ofCode : Nat → Int32} {m_stack : Nat → Int32} {m_newCodes : Int32} {m_codes : Int32} {m_facts : Nat → Int32} {m_newStep : Nat → Int32} {m_step : Nat → Int32} {m_newSteps : Int32} {m_works : Int32} {m_refusedSteps : Int32} {m_begun : Int32} {m_done : Int32} {m_refusedNow : Int32} {m_now : Nat → Int32} {m_s : Nat → Int32} {m_past : Nat → Int32} {m_newBook : Nat → Int32} {m_book : Nat → Int32} {m_written : Int32} {m_mostBy : Nat → Int32} {m_stuffing : Nat → Int32} {m_stuffedMany : Int32} {m_lastBy : Nat → Int32} {m_leftBy : Nat → Int32} {m_splitBy : Nat → Int64} {m_seedNow : Int32} {m_image : Nat → Int32} {m_images : Int32} {n1 : Int32} {n2 : Int32} {r : Int32} {o_m_thrown : Int32} {o_m_refused : Nat → Int32} (h : f_X10_reader m_thrown m_refused m_readers m_now n1 n2 = some (r, o_m_thrown, o_m_refused)) : Mt J yX10_reader cX10_reader 3 (some .int) rm_X10_reader [.ref (a0 0), .int n1, .int n2] (cs_X10 J.2.2.1 a0 m_thrown m_refused m_taped m_size m_at m_bad m_badKind m_opens m_faultAt m_tape m_newBed m_newLetter m_newReader m_bed m_letter m_reader m_newBeds m_newLetters m_newReaders m_beds m_letters m_readers m_newCode m_newOf m_code m_ofCode m_stack m_newCodes m_codes m_facts m_newStep m_step m_newSteps m_works m_refusedSteps m_begun m_done m_refusedNow m_now m_s m_past m_newBook m_book m_written m_mostBy m_stuffing m_stuffedMany m_lastBy m_leftBy m_splitBy m_seedNow m_image m_images) (some (.int r)) (cs_X10 J.2.2.1 a0 o_m_thrown o_m_refused m_taped m_size m_at m_bad m_badKind m_opens m_faultAt m_tape m_newBed m_newLetter m_newReader m_bed m_letter m_reader m_newBeds m_newLetters m_newReaders m_beds m_letters m_readers m_newCode m_newOf m_code m_ofCode m_stack m_newCodes m_codes m_facts m_newStep m_step m_newSteps m_works m_refusedSteps m_begun m_done m_refusedNow m_now m_s m_past m_newBook m_book m_written m_mostBy m_stuffing m_stuffedMany m_lastBy m_leftBy m_splitBy m_seedNow m_image m_images) := by
  refine Mt_of (own := RX10) (by decide) rfl (Nat.le_of_ble_eq_true rfl) rfl (fun Z C E => ?_)
  unfold f_X10_reader at h
  show G J Z 0 0 (cs_X10 J.2.2.1 a0 m_thrown m_refused m_taped m_size m_at m_bad m_badKind m_opens m_faultAt m_tape m_newBed m_newLetter m_newReader m_bed m_letter m_reader m_newBeds m_newLetters m_newReaders m_beds m_letters m_readers m_newCode m_newOf m_code m_ofCode m_stack m_newCodes m_codes m_facts m_newStep m_step m_newSteps m_works m_refusedSteps m_begun m_done m_refusedNow m_now m_s m_past m_newBook m_book m_written m_mostBy m_stuffing m_stuffedMany m_lastBy m_leftBy m_splitBy m_seedNow m_image m_images) 3 [(0, .ref (a0 0)), (1, .int n1), (2, .int n2)] 0 []
  refine g_aload_n (pc := 0) C 0 rfl dX10_reader_0 ?_
  refine g_iconst (pc := 1) C dX10_reader_1 ci_0 ?_
  refine g_put (pc := 2) C (w' := cs_X10 J.2.2.1 a0 0 m_refused m_taped m_size m_at m_bad m_badKind m_opens m_faultAt m_tape m_newBed m_newLetter m_newReader m_bed m_letter m_reader m_newBeds m_newLetters m_newReaders m_beds m_letters m_readers m_newCode m_newOf m_code m_ofCode m_stack m_newCodes m_codes m_facts m_newStep m_step m_newSteps m_works m_refusedSteps m_begun m_done m_refusedNow m_now m_s m_past m_newBook m_book m_written m_mostBy m_stuffing m_stuffedMany m_lastBy m_leftBy m_splitBy m_seedNow m_image m_images) FOK_X10 0 rfl rfl 0 (by decide) kw_1277 rfl rfl rfl (Nat.le_of_ble_eq_true rfl) dX10_reader_2 rfl ?_
  refine g_aload_n (pc := 5) C 0 rfl dX10_reader_5 ?_
  refine g_iload_n (pc := 6) C 1 rfl dX10_reader_6 ?_
  refine g_iconst (pc := 7) C dX10_reader_7 ci_1 ?_
  obtain ⟨v1, c2, c3, hc, h⟩ := b3_of h
  refine g_callV (pc := 8) C (w' := cs_X10 J.2.2.1 a0 c2 c3 m_taped m_size m_at m_bad m_badKind m_opens m_faultAt m_tape m_newBed m_newLetter m_newReader m_bed m_letter m_reader m_newBeds m_newLetters m_newReaders m_beds m_letters m_readers m_newCode m_newOf m_code m_ofCode m_stack m_newCodes m_codes m_facts m_newStep m_step m_newSteps m_works m_refusedSteps m_begun m_done m_refusedNow m_now m_s m_past m_newBook m_book m_written m_mostBy m_stuffing m_stuffedMany m_lastBy m_leftBy m_splitBy m_seedNow m_image m_images) (As := [.int n1, .int 1]) (st := []) (ci := 10) (q0 := 0) rfl rfl (t_X10_isReader (a0 := a0) hc) Sub.same kw_1732 kw_1734 kw_70 kw_95 hy_X10_isReader kw_1735 rfl (Nat.le_of_ble_eq_true rfl) (Nat.le_of_ble_eq_true rfl) (Nat.le_of_ble_eq_true rfl) (Nat.le_of_ble_eq_true rfl) (Nat.le_of_ble_eq_true rfl) dX10_reader_8 ?_
  refine g_if_eq (pc := 11) C (tgt := 29) dX10_reader_11 rfl h (fun h => ?_) (fun h => ?_)
  · refine g_iconst (pc := 29) C dX10_reader_29 ci_0 ?_
    cases h
    exact g_iret C E dX10_reader_30
  · refine g_aload_n (pc := 14) C 0 rfl dX10_reader_14 ?_
    refine g_iload_n (pc := 15) C 2 rfl dX10_reader_15 ?_
    refine g_iconst (pc := 16) C dX10_reader_16 ci_0 ?_
    refine g_iconst (pc := 17) C dX10_reader_17 ci_1 ?_
    obtain ⟨v4, hc, h⟩ := b1_of h
    refine g_callS (pc := 18) C (w' := cs_X10 J.2.2.1 a0 c2 c3 m_taped m_size m_at m_bad m_badKind m_opens m_faultAt m_tape m_newBed m_newLetter m_newReader m_bed m_letter m_reader m_newBeds m_newLetters m_newReaders m_beds m_letters m_readers m_newCode m_newOf m_code m_ofCode m_stack m_newCodes m_codes m_facts m_newStep m_step m_newSteps m_works m_refusedSteps m_begun m_done m_refusedNow m_now m_s m_past m_newBook m_book m_written m_mostBy m_stuffing m_stuffedMany m_lastBy m_leftBy m_splitBy m_seedNow m_image m_images) (As := [.int n2, .int 0, .int 1]) (st := [.ref (a0 0)]) (t_X10_within hc) Sub.nil kw_1689 kw_1690 kw_95 hy_X10_within kw_1691 rfl (Nat.le_of_ble_eq_true rfl) (Nat.le_of_ble_eq_true rfl) (Nat.le_of_ble_eq_true rfl) (Nat.le_of_ble_eq_true rfl) (Nat.le_of_ble_eq_true rfl) dX10_reader_18 ?_
    refine g_iconst (pc := 21) C dX10_reader_21 ci_2 ?_
    refine g_iconst (pc := 22) C dX10_reader_22 ci_1 ?_
    obtain ⟨v5, c6, c7, hc, h⟩ := b3_of h
    refine g_callV (pc := 23) C (w' := cs_X10 J.2.2.1 a0 c6 c7 m_taped m_size m_at m_bad m_badKind m_opens m_faultAt m_tape m_newBed m_newLetter m_newReader m_bed m_letter m_reader m_newBeds m_newLetters m_newReaders m_beds m_letters m_readers m_newCode m_newOf m_code m_ofCode m_stack m_newCodes m_codes m_facts m_newStep m_step m_newSteps m_works m_refusedSteps m_begun m_done m_refusedNow m_now m_s m_past m_newBook m_book m_written m_mostBy m_stuffing m_stuffedMany m_lastBy m_leftBy m_splitBy m_seedNow m_image m_images) (As := [.int v4, .int 2, .int 1]) (st := []) (ci := 10) (q0 := 0) rfl rfl (t_X10_may (a0 := a0) hc) Sub.same kw_1450 kw_1452 kw_20 kw_95 hy_X10_may kw_1453 rfl (Nat.le_of_ble_eq_true rfl) (Nat.le_of_ble_eq_true rfl) (Nat.le_of_ble_eq_true rfl) (Nat.le_of_ble_eq_true rfl) (Nat.le_of_ble_eq_true rfl) dX10_reader_23 ?_
    refine g_if_ne (pc := 26) C (tgt := 31) dX10_reader_26 rfl h (fun h => ?_) (fun h => ?_)
    · refine g_aload_n (pc := 31) C 0 rfl dX10_reader_31 ?_
      refine g_get (pc := 32) C FOK_X10 0 rfl rfl 38 (by decide) kw_1315 rfl dX10_reader_32 ?_
      refine g_iload_n (pc := 35) C 2 rfl dX10_reader_35 ?_
      refine g_if_ne (pc := 36) C (tgt := 44) dX10_reader_36 rfl h (fun h => ?_) (fun h => ?_)
      · refine g_bipush (pc := 44) C dX10_reader_44 cb_95 ?_
        refine g_iload_n (pc := 46) C 1 rfl dX10_reader_46 ?_
        refine g_iadd (pc := 47) C dX10_reader_47 ?_
        obtain ⟨hi, h⟩ := ix_of h
        refine g_iald (pc := 48) C 17 rfl hi dX10_reader_48 ?_
        cases h
        exact g_iret C E dX10_reader_49
      · refine g_bipush (pc := 39) C dX10_reader_39 cb_90 ?_
        refine g_goto (pc := 41) C (tgt := 46) dX10_reader_41 rfl ?_
        refine g_iload_n (pc := 46) C 1 rfl dX10_reader_46 ?_
        refine g_iadd (pc := 47) C dX10_reader_47 ?_
        obtain ⟨hi, h⟩ := ix_of h
        refine g_iald (pc := 48) C 17 rfl hi dX10_reader_48 ?_
        cases h
        exact g_iret C E dX10_reader_49
    · refine g_iconst (pc := 29) C dX10_reader_29 ci_0 ?_
      cases h
      exact g_iret C E dX10_reader_30
noncomputable def f_X10_grown_15  (m_now : Nat → Int32) (n1 : Int32) (y1 : Int32) (m_thrown : Int32) (m_refused : Nat → Int32) : Option (Int32 × Int32 × (Nat → Int32)) := b3 (f_X10_may m_thrown m_refused y1 1 1) (fun v1 c2 c3 => if v1 = 0 then some (0, c2, c3) else if ixb 160 165 then if (m_now (160 : Int32).toNatClampNeg) ≤ n1 then some ((-1), c2, c3) else if ixb (100 + n1) 165 then some (m_now (100 + n1).toNatClampNeg, c2, c3) else none else none)
noncomputable def f_X10_grown (m_thrown : Int32) (m_refused : Nat → Int32) (m_now : Nat → Int32) (n1 : Int32) : Option (Int32 × Int32 × (Nat → Int32)) := if n1 < 0 then f_X10_grown_15 m_now n1 0 0 m_refused else f_X10_grown_15 m_now n1 1 0 m_refused
def rm_X10_grown : Room := { frames := 1, cells := 0, slots := 0, locals := 23 }
set_option maxRecDepth 100000 in
set_option maxHeartbeats 4000000 in
theorem j_X10_grown_15 {J : Jt} {Z : Zt} {a0 : Nat → Nat} {m_taped : Int32} {m_size : Int32} {m_at : Int32} {m_bad : Int32} {m_badKind : Int32} {m_opens : Int32} {m_faultAt : Int32} {m_tape : Nat → Int32} {m_newBed : Nat → Int32} {m_newLetter : Nat → Int32} {m_newReader : Nat → Int32} {m_bed : Nat → Int32} {m_letter : Nat → Int32} {m_reader : Nat → Int32} {m_newBeds : Int32} {m_newLetters : Int32} {m_newReaders : Int32} {m_beds : Int32} {m_letters : Int32} {m_readers : Int32} {m_newCode : Nat → Int32} {m_newOf : Nat → Int32} {m_code : Nat → Int32} {m_ofCode : Nat → Int32} {m_stack : Nat → Int32} {m_newCodes : Int32} {m_codes : Int32} {m_facts : Nat → Int32} {m_newStep : Nat → Int32} {m_step : Nat → Int32} {m_newSteps : Int32} {m_works : Int32} {m_refusedSteps : Int32} {m_begun : Int32} {m_done : Int32} {m_refusedNow : Int32} {m_now : Nat → Int32} {m_s : Nat → Int32} {m_past : Nat → Int32} {m_newBook : Nat → Int32} {m_book : Nat → Int32} {m_written : Int32} {m_mostBy : Nat → Int32} {m_stuffing : Nat → Int32} {m_stuffedMany : Int32} {m_lastBy : Nat → Int32} {m_leftBy : Nat → Int32} {m_splitBy : Nat → Int64} {m_seedNow : Int32} {m_image : Nat → Int32} {m_images : Int32} {n1 : Int32} {r : Int32} {o_m_thrown : Int32} {o_m_refused : Nat → Int32} (C : Cx J Z cX10_grown 2 RX10 (some .int) rm_X10_grown) (E : Ez J Z 0 0 (some (.int r)) (cs_X10 J.2.2.1 a0 o_m_thrown o_m_refused m_taped m_size m_at m_bad m_badKind m_opens m_faultAt m_tape m_newBed m_newLetter m_newReader m_bed m_letter m_reader m_newBeds m_newLetters m_newReaders m_beds m_letters m_readers m_newCode m_newOf m_code m_ofCode m_stack m_newCodes m_codes m_facts m_newStep m_step m_newSteps m_works m_refusedSteps m_begun m_done m_refusedNow m_now m_s m_past m_newBook m_book m_written m_mostBy m_stuffing m_stuffedMany m_lastBy m_leftBy m_splitBy m_seedNow m_image m_images)) : ∀ (y1 : Int32) (m_thrown : Int32) (m_refused : Nat → Int32), f_X10_grown_15 m_now n1 y1 m_thrown m_refused = some (r, o_m_thrown, o_m_refused) → G J Z 0 0 (cs_X10 J.2.2.1 a0 m_thrown m_refused m_taped m_size m_at m_bad m_badKind m_opens m_faultAt m_tape m_newBed m_newLetter m_newReader m_bed m_letter m_reader m_newBeds m_newLetters m_newReaders m_beds m_letters m_readers m_newCode m_newOf m_code m_ofCode m_stack m_newCodes m_codes m_facts m_newStep m_step m_newSteps m_works m_refusedSteps m_begun m_done m_refusedNow m_now m_s m_past m_newBook m_book m_written m_mostBy m_stuffing m_stuffedMany m_lastBy m_leftBy m_splitBy m_seedNow m_image m_images) 2 [(0, .ref (a0 0)), (1, .int n1)] 15 [.int y1, .ref (a0 0)] := by
  intro y1 m_thrown m_refused h
  unfold f_X10_grown_15 at h
  refine g_iconst (pc := 15) C dX10_grown_15 ci_1 ?_
  refine g_iconst (pc := 16) C dX10_grown_16 ci_1 ?_
  obtain ⟨v1, c2, c3, hc, h⟩ := b3_of h
  refine g_callV (pc := 17) C (w' := cs_X10 J.2.2.1 a0 c2 c3 m_taped m_size m_at m_bad m_badKind m_opens m_faultAt m_tape m_newBed m_newLetter m_newReader m_bed m_letter m_reader m_newBeds m_newLetters m_newReaders m_beds m_letters m_readers m_newCode m_newOf m_code m_ofCode m_stack m_newCodes m_codes m_facts m_newStep m_step m_newSteps m_works m_refusedSteps m_begun m_done m_refusedNow m_now m_s m_past m_newBook m_book m_written m_mostBy m_stuffing m_stuffedMany m_lastBy m_leftBy m_splitBy m_seedNow m_image m_images) (As := [.int y1, .int 1, .int 1]) (st := []) (ci := 10) (q0 := 0) rfl rfl (t_X10_may (a0 := a0) hc) Sub.same kw_1450 kw_1452 kw_20 kw_95 hy_X10_may kw_1453 rfl (Nat.le_of_ble_eq_true rfl) (Nat.le_of_ble_eq_true rfl) (Nat.le_of_ble_eq_true rfl) (Nat.le_of_ble_eq_true rfl) (Nat.le_of_ble_eq_true rfl) dX10_grown_17 ?_
  refine g_if_ne (pc := 20) C (tgt := 25) dX10_grown_20 rfl h (fun h => ?_) (fun h => ?_)
  · refine g_iload_n (pc := 25) C 1 rfl dX10_grown_25 ?_
    refine g_aload_n (pc := 26) C 0 rfl dX10_grown_26 ?_
    refine g_get (pc := 27) C FOK_X10 0 rfl rfl 38 (by decide) kw_1315 rfl dX10_grown_27 ?_
    refine g_sipush (pc := 30) C dX10_grown_30 cs_160 ?_
    obtain ⟨hi, h⟩ := ix_of h
    refine g_iald (pc := 33) C 17 rfl hi dX10_grown_33 ?_
    refine g_icmp_ge (pc := 34) C (tgt := 49) dX10_grown_34 rfl h (fun h => ?_) (fun h => ?_)
    · refine g_iconst (pc := 49) C dX10_grown_49 ci_m1 ?_
      cases h
      exact g_iret C E dX10_grown_50
    · refine g_aload_n (pc := 37) C 0 rfl dX10_grown_37 ?_
      refine g_get (pc := 38) C FOK_X10 0 rfl rfl 38 (by decide) kw_1315 rfl dX10_grown_38 ?_
      refine g_bipush (pc := 41) C dX10_grown_41 cb_100 ?_
      refine g_iload_n (pc := 43) C 1 rfl dX10_grown_43 ?_
      refine g_iadd (pc := 44) C dX10_grown_44 ?_
      obtain ⟨hi, h⟩ := ix_of h
      refine g_iald (pc := 45) C 17 rfl hi dX10_grown_45 ?_
      refine g_goto (pc := 46) C (tgt := 50) dX10_grown_46 rfl ?_
      cases h
      exact g_iret C E dX10_grown_50
  · refine g_iconst (pc := 23) C dX10_grown_23 ci_0 ?_
    cases h
    exact g_iret C E dX10_grown_24
set_option maxRecDepth 100000 in
set_option maxHeartbeats 4000000 in
theorem t_X10_grown {J : Jt} {a0 : Nat → Nat} {m_thrown : Int32} {m_refused : Nat → Int32} {m_taped : Int32} {m_size : Int32} {m_at : Int32} {m_bad : Int32} {m_badKind : Int32} {m_opens : Int32} {m_faultAt : Int32} {m_tape : Nat → Int32} {m_newBed : Nat → Int32} {m_newLetter : Nat → Int32} {m_newReader : Nat → Int32} {m_bed : Nat → Int32} {m_letter : Nat → Int32} {m_reader : Nat → Int32} {m_newBeds : Int32} {m_newLetters : Int32} {m_newReaders : Int32} {m_beds : Int32} {m_letters : Int32} {m_readers : Int32} {m_newCode : Nat → Int32} {m_newOf : Nat → Int32} {m_code : Nat → Int32} {m_ofCode : Nat → Int32} {m_stack : Nat → Int32} {m_newCodes : Int32} {m_codes : Int32} {m_facts : Nat → Int32} {m_newStep : Nat → Int32} {m_step : Nat → Int32} {m_newSteps : Int32} {m_works : Int32} {m_refusedSteps : Int32} {m_begun : Int32} {m_done : Int32} {m_refusedNow : Int32} {m_now : Nat → Int32} {m_s : Nat → Int32} {m_past : Nat → Int32} {m_newBook : Nat → Int32} {m_book : Nat → Int32} {m_written : Int32} {m_mostBy : Nat → Int32} {m_stuffing : Nat → Int32} {m_stuffedMany : Int32} {m_lastBy : Nat → Int32} {m_leftBy : Nat → Int32} {m_splitBy : Nat → Int64} {m_seedNow : Int32} {m_image : Nat → Int32} {m_images : Int32} {n1 : Int32} {r : Int32} {o_m_thrown : Int32} {o_m_refused : Nat → Int32} (h : f_X10_grown m_thrown m_refused m_now n1 = some (r, o_m_thrown, o_m_refused)) : Mt J yX10_grown cX10_grown 2 (some .int) rm_X10_grown [.ref (a0 0), .int n1] (cs_X10 J.2.2.1 a0 m_thrown m_refused m_taped m_size m_at m_bad m_badKind m_opens m_faultAt m_tape m_newBed m_newLetter m_newReader m_bed m_letter m_reader m_newBeds m_newLetters m_newReaders m_beds m_letters m_readers m_newCode m_newOf m_code m_ofCode m_stack m_newCodes m_codes m_facts m_newStep m_step m_newSteps m_works m_refusedSteps m_begun m_done m_refusedNow m_now m_s m_past m_newBook m_book m_written m_mostBy m_stuffing m_stuffedMany m_lastBy m_leftBy m_splitBy m_seedNow m_image m_images) (some (.int r)) (cs_X10 J.2.2.1 a0 o_m_thrown o_m_refused m_taped m_size m_at m_bad m_badKind m_opens m_faultAt m_tape m_newBed m_newLetter m_newReader m_bed m_letter m_reader m_newBeds m_newLetters m_newReaders m_beds m_letters m_readers m_newCode m_newOf m_code m_ofCode m_stack m_newCodes m_codes m_facts m_newStep m_step m_newSteps m_works m_refusedSteps m_begun m_done m_refusedNow m_now m_s m_past m_newBook m_book m_written m_mostBy m_stuffing m_stuffedMany m_lastBy m_leftBy m_splitBy m_seedNow m_image m_images) := by
  refine Mt_of (own := RX10) (by decide) rfl (Nat.le_of_ble_eq_true rfl) rfl (fun Z C E => ?_)
  unfold f_X10_grown at h
  show G J Z 0 0 (cs_X10 J.2.2.1 a0 m_thrown m_refused m_taped m_size m_at m_bad m_badKind m_opens m_faultAt m_tape m_newBed m_newLetter m_newReader m_bed m_letter m_reader m_newBeds m_newLetters m_newReaders m_beds m_letters m_readers m_newCode m_newOf m_code m_ofCode m_stack m_newCodes m_codes m_facts m_newStep m_step m_newSteps m_works m_refusedSteps m_begun m_done m_refusedNow m_now m_s m_past m_newBook m_book m_written m_mostBy m_stuffing m_stuffedMany m_lastBy m_leftBy m_splitBy m_seedNow m_image m_images) 2 [(0, .ref (a0 0)), (1, .int n1)] 0 []
  refine g_aload_n (pc := 0) C 0 rfl dX10_grown_0 ?_
  refine g_iconst (pc := 1) C dX10_grown_1 ci_0 ?_
  refine g_put (pc := 2) C (w' := cs_X10 J.2.2.1 a0 0 m_refused m_taped m_size m_at m_bad m_badKind m_opens m_faultAt m_tape m_newBed m_newLetter m_newReader m_bed m_letter m_reader m_newBeds m_newLetters m_newReaders m_beds m_letters m_readers m_newCode m_newOf m_code m_ofCode m_stack m_newCodes m_codes m_facts m_newStep m_step m_newSteps m_works m_refusedSteps m_begun m_done m_refusedNow m_now m_s m_past m_newBook m_book m_written m_mostBy m_stuffing m_stuffedMany m_lastBy m_leftBy m_splitBy m_seedNow m_image m_images) FOK_X10 0 rfl rfl 0 (by decide) kw_1277 rfl rfl rfl (Nat.le_of_ble_eq_true rfl) dX10_grown_2 rfl ?_
  refine g_aload_n (pc := 5) C 0 rfl dX10_grown_5 ?_
  refine g_iload_n (pc := 6) C 1 rfl dX10_grown_6 ?_
  refine g_if_lt (pc := 7) C (tgt := 14) dX10_grown_7 rfl h (fun h => ?_) (fun h => ?_)
  · refine g_iconst (pc := 14) C dX10_grown_14 ci_0 ?_
    exact j_X10_grown_15 C E    0 0 m_refused h
  · refine g_iconst (pc := 10) C dX10_grown_10 ci_1 ?_
    refine g_goto (pc := 11) C (tgt := 15) dX10_grown_11 rfl ?_
    exact j_X10_grown_15 C E    1 0 m_refused h
noncomputable def f_X10_runs (m_thrown : Int32) (m_refused : Nat → Int32) (m_bed : Nat → Int32) (m_letter : Nat → Int32) (m_letters : Int32) (m_code : Nat → Int32) (m_ofCode : Nat → Int32) (m_stack : Nat → Int32) (m_codes : Int32) (m_facts : Nat → Int32) (m_now : Nat → Int32) (m_s : Nat → Int32) (n1 : Int32) (n2 : Int32) : Option (Int32 × Int32 × (Nat → Int32) × (Nat → Int32) × (Nat → Int32) × (Nat → Int32)) := b3 (f_X10_isLetter 0 m_refused m_letters n1 1) (fun v1 c2 c3 => if v1 = 0 then some (0, c2, c3, m_stack, m_facts, m_s) else b1 (f_X10_within n2 1 20) (fun v4 => b3 (f_X10_may c2 c3 v4 2 1) (fun v5 c6 c7 => if v5 = 0 then some (0, c6, c7, m_stack, m_facts, m_s) else b1 (f_X10_take m_now m_s) (fun c8 => if ixb 161 165 then b1 (f_X10_held ((c8 (161 : Int32).toNatClampNeg) + n2) 99) (fun v9 => b3 (f_X10_runBy m_bed m_letter m_code m_ofCode m_stack m_codes m_facts c8 n1 n2 v9) (fun v10 c11 c12 => some (v10, c6, c7, c11, c12, c8))) else none))))
def rm_X10_runs : Room := { frames := 5, cells := 0, slots := 0, locals := 117 }
set_option maxRecDepth 100000 in
set_option maxHeartbeats 4000000 in
theorem t_X10_runs {J : Jt} {a0 : Nat → Nat} {m_thrown : Int32} {m_refused : Nat → Int32} {m_taped : Int32} {m_size : Int32} {m_at : Int32} {m_bad : Int32} {m_badKind : Int32} {m_opens : Int32} {m_faultAt : Int32} {m_tape : Nat → Int32} {m_newBed : Nat → Int32} {m_newLetter : Nat → Int32} {m_newReader : Nat → Int32} {m_bed : Nat → Int32} {m_letter : Nat → Int32} {m_reader : Nat → Int32} {m_newBeds : Int32} {m_newLetters : Int32} {m_newReaders : Int32} {m_beds : Int32} {m_letters : Int32} {m_readers : Int32} {m_newCode : Nat → Int32} {m_newOf : Nat → Int32} {m_code : Nat → Int32} {m_ofCode : Nat → Int32} {m_stack : Nat → Int32} {m_newCodes : Int32} {m_codes : Int32} {m_facts : Nat → Int32} {m_newStep : Nat → Int32} {m_step : Nat → Int32} {m_newSteps : Int32} {m_works : Int32} {m_refusedSteps : Int32} {m_begun : Int32} {m_done : Int32} {m_refusedNow : Int32} {m_now : Nat → Int32} {m_s : Nat → Int32} {m_past : Nat → Int32} {m_newBook : Nat → Int32} {m_book : Nat → Int32} {m_written : Int32} {m_mostBy : Nat → Int32} {m_stuffing : Nat → Int32} {m_stuffedMany : Int32} {m_lastBy : Nat → Int32} {m_leftBy : Nat → Int32} {m_splitBy : Nat → Int64} {m_seedNow : Int32} {m_image : Nat → Int32} {m_images : Int32} {n1 : Int32} {n2 : Int32} {r : Int32} {o_m_thrown : Int32} {o_m_refused : Nat → Int32} {o_m_stack : Nat → Int32} {o_m_facts : Nat → Int32} {o_m_s : Nat → Int32} (h : f_X10_runs m_thrown m_refused m_bed m_letter m_letters m_code m_ofCode m_stack m_codes m_facts m_now m_s n1 n2 = some (r, o_m_thrown, o_m_refused, o_m_stack, o_m_facts, o_m_s)) : Mt J yX10_runs cX10_runs 3 (some .int) rm_X10_runs [.ref (a0 0), .int n1, .int n2] (cs_X10 J.2.2.1 a0 m_thrown m_refused m_taped m_size m_at m_bad m_badKind m_opens m_faultAt m_tape m_newBed m_newLetter m_newReader m_bed m_letter m_reader m_newBeds m_newLetters m_newReaders m_beds m_letters m_readers m_newCode m_newOf m_code m_ofCode m_stack m_newCodes m_codes m_facts m_newStep m_step m_newSteps m_works m_refusedSteps m_begun m_done m_refusedNow m_now m_s m_past m_newBook m_book m_written m_mostBy m_stuffing m_stuffedMany m_lastBy m_leftBy m_splitBy m_seedNow m_image m_images) (some (.int r)) (cs_X10 J.2.2.1 a0 o_m_thrown o_m_refused m_taped m_size m_at m_bad m_badKind m_opens m_faultAt m_tape m_newBed m_newLetter m_newReader m_bed m_letter m_reader m_newBeds m_newLetters m_newReaders m_beds m_letters m_readers m_newCode m_newOf m_code m_ofCode o_m_stack m_newCodes m_codes o_m_facts m_newStep m_step m_newSteps m_works m_refusedSteps m_begun m_done m_refusedNow m_now o_m_s m_past m_newBook m_book m_written m_mostBy m_stuffing m_stuffedMany m_lastBy m_leftBy m_splitBy m_seedNow m_image m_images) := by
  refine Mt_of (own := RX10) (by decide) rfl (Nat.le_of_ble_eq_true rfl) rfl (fun Z C E => ?_)
  unfold f_X10_runs at h
  show G J Z 0 0 (cs_X10 J.2.2.1 a0 m_thrown m_refused m_taped m_size m_at m_bad m_badKind m_opens m_faultAt m_tape m_newBed m_newLetter m_newReader m_bed m_letter m_reader m_newBeds m_newLetters m_newReaders m_beds m_letters m_readers m_newCode m_newOf m_code m_ofCode m_stack m_newCodes m_codes m_facts m_newStep m_step m_newSteps m_works m_refusedSteps m_begun m_done m_refusedNow m_now m_s m_past m_newBook m_book m_written m_mostBy m_stuffing m_stuffedMany m_lastBy m_leftBy m_splitBy m_seedNow m_image m_images) 3 [(0, .ref (a0 0)), (1, .int n1), (2, .int n2)] 0 []
  refine g_aload_n (pc := 0) C 0 rfl dX10_runs_0 ?_
  refine g_iconst (pc := 1) C dX10_runs_1 ci_0 ?_
  refine g_put (pc := 2) C (w' := cs_X10 J.2.2.1 a0 0 m_refused m_taped m_size m_at m_bad m_badKind m_opens m_faultAt m_tape m_newBed m_newLetter m_newReader m_bed m_letter m_reader m_newBeds m_newLetters m_newReaders m_beds m_letters m_readers m_newCode m_newOf m_code m_ofCode m_stack m_newCodes m_codes m_facts m_newStep m_step m_newSteps m_works m_refusedSteps m_begun m_done m_refusedNow m_now m_s m_past m_newBook m_book m_written m_mostBy m_stuffing m_stuffedMany m_lastBy m_leftBy m_splitBy m_seedNow m_image m_images) FOK_X10 0 rfl rfl 0 (by decide) kw_1277 rfl rfl rfl (Nat.le_of_ble_eq_true rfl) dX10_runs_2 rfl ?_
  refine g_aload_n (pc := 5) C 0 rfl dX10_runs_5 ?_
  refine g_iload_n (pc := 6) C 1 rfl dX10_runs_6 ?_
  refine g_iconst (pc := 7) C dX10_runs_7 ci_1 ?_
  obtain ⟨v1, c2, c3, hc, h⟩ := b3_of h
  refine g_callV (pc := 8) C (w' := cs_X10 J.2.2.1 a0 c2 c3 m_taped m_size m_at m_bad m_badKind m_opens m_faultAt m_tape m_newBed m_newLetter m_newReader m_bed m_letter m_reader m_newBeds m_newLetters m_newReaders m_beds m_letters m_readers m_newCode m_newOf m_code m_ofCode m_stack m_newCodes m_codes m_facts m_newStep m_step m_newSteps m_works m_refusedSteps m_begun m_done m_refusedNow m_now m_s m_past m_newBook m_book m_written m_mostBy m_stuffing m_stuffedMany m_lastBy m_leftBy m_splitBy m_seedNow m_image m_images) (As := [.int n1, .int 1]) (st := []) (ci := 10) (q0 := 0) rfl rfl (t_X10_isLetter (a0 := a0) hc) Sub.same kw_1704 kw_1706 kw_67 kw_95 hy_X10_isLetter kw_1707 rfl (Nat.le_of_ble_eq_true rfl) (Nat.le_of_ble_eq_true rfl) (Nat.le_of_ble_eq_true rfl) (Nat.le_of_ble_eq_true rfl) (Nat.le_of_ble_eq_true rfl) dX10_runs_8 ?_
  refine g_if_eq (pc := 11) C (tgt := 30) dX10_runs_11 rfl h (fun h => ?_) (fun h => ?_)
  · refine g_iconst (pc := 30) C dX10_runs_30 ci_0 ?_
    cases h
    exact g_iret C E dX10_runs_31
  · refine g_aload_n (pc := 14) C 0 rfl dX10_runs_14 ?_
    refine g_iload_n (pc := 15) C 2 rfl dX10_runs_15 ?_
    refine g_iconst (pc := 16) C dX10_runs_16 ci_1 ?_
    refine g_bipush (pc := 17) C dX10_runs_17 cb_20 ?_
    obtain ⟨v4, hc, h⟩ := b1_of h
    refine g_callS (pc := 19) C (w' := cs_X10 J.2.2.1 a0 c2 c3 m_taped m_size m_at m_bad m_badKind m_opens m_faultAt m_tape m_newBed m_newLetter m_newReader m_bed m_letter m_reader m_newBeds m_newLetters m_newReaders m_beds m_letters m_readers m_newCode m_newOf m_code m_ofCode m_stack m_newCodes m_codes m_facts m_newStep m_step m_newSteps m_works m_refusedSteps m_begun m_done m_refusedNow m_now m_s m_past m_newBook m_book m_written m_mostBy m_stuffing m_stuffedMany m_lastBy m_leftBy m_splitBy m_seedNow m_image m_images) (As := [.int n2, .int 1, .int 20]) (st := [.ref (a0 0)]) (t_X10_within hc) Sub.nil kw_1689 kw_1690 kw_95 hy_X10_within kw_1691 rfl (Nat.le_of_ble_eq_true rfl) (Nat.le_of_ble_eq_true rfl) (Nat.le_of_ble_eq_true rfl) (Nat.le_of_ble_eq_true rfl) (Nat.le_of_ble_eq_true rfl) dX10_runs_19 ?_
    refine g_iconst (pc := 22) C dX10_runs_22 ci_2 ?_
    refine g_iconst (pc := 23) C dX10_runs_23 ci_1 ?_
    obtain ⟨v5, c6, c7, hc, h⟩ := b3_of h
    refine g_callV (pc := 24) C (w' := cs_X10 J.2.2.1 a0 c6 c7 m_taped m_size m_at m_bad m_badKind m_opens m_faultAt m_tape m_newBed m_newLetter m_newReader m_bed m_letter m_reader m_newBeds m_newLetters m_newReaders m_beds m_letters m_readers m_newCode m_newOf m_code m_ofCode m_stack m_newCodes m_codes m_facts m_newStep m_step m_newSteps m_works m_refusedSteps m_begun m_done m_refusedNow m_now m_s m_past m_newBook m_book m_written m_mostBy m_stuffing m_stuffedMany m_lastBy m_leftBy m_splitBy m_seedNow m_image m_images) (As := [.int v4, .int 2, .int 1]) (st := []) (ci := 10) (q0 := 0) rfl rfl (t_X10_may (a0 := a0) hc) Sub.same kw_1450 kw_1452 kw_20 kw_95 hy_X10_may kw_1453 rfl (Nat.le_of_ble_eq_true rfl) (Nat.le_of_ble_eq_true rfl) (Nat.le_of_ble_eq_true rfl) (Nat.le_of_ble_eq_true rfl) (Nat.le_of_ble_eq_true rfl) dX10_runs_24 ?_
    refine g_if_ne (pc := 27) C (tgt := 32) dX10_runs_27 rfl h (fun h => ?_) (fun h => ?_)
    · refine g_aload_n (pc := 32) C 0 rfl dX10_runs_32 ?_
      obtain ⟨c8, hc, h⟩ := b1_of h
      refine g_callV (pc := 33) C (w' := cs_X10 J.2.2.1 a0 c6 c7 m_taped m_size m_at m_bad m_badKind m_opens m_faultAt m_tape m_newBed m_newLetter m_newReader m_bed m_letter m_reader m_newBeds m_newLetters m_newReaders m_beds m_letters m_readers m_newCode m_newOf m_code m_ofCode m_stack m_newCodes m_codes m_facts m_newStep m_step m_newSteps m_works m_refusedSteps m_begun m_done m_refusedNow m_now c8 m_past m_newBook m_book m_written m_mostBy m_stuffing m_stuffedMany m_lastBy m_leftBy m_splitBy m_seedNow m_image m_images) (As := []) (st := []) (ci := 10) (q0 := 0) rfl rfl (t_X10_take (a0 := a0) hc) Sub.same kw_1595 kw_1597 kw_46 kw_95 hy_X10_take kw_1598 rfl (Nat.le_of_ble_eq_true rfl) (Nat.le_of_ble_eq_true rfl) (Nat.le_of_ble_eq_true rfl) (Nat.le_of_ble_eq_true rfl) (Nat.le_of_ble_eq_true rfl) dX10_runs_33 ?_
      refine g_aload_n (pc := 36) C 0 rfl dX10_runs_36 ?_
      refine g_iload_n (pc := 37) C 1 rfl dX10_runs_37 ?_
      refine g_iload_n (pc := 38) C 2 rfl dX10_runs_38 ?_
      refine g_aload_n (pc := 39) C 0 rfl dX10_runs_39 ?_
      refine g_get (pc := 40) C FOK_X10 0 rfl rfl 39 (by decide) kw_1316 rfl dX10_runs_40 ?_
      refine g_sipush (pc := 43) C dX10_runs_43 cs_161 ?_
      obtain ⟨hi, h⟩ := ix_of h
      refine g_iald (pc := 46) C 18 rfl hi dX10_runs_46 ?_
      refine g_iload_n (pc := 47) C 2 rfl dX10_runs_47 ?_
      refine g_iadd (pc := 48) C dX10_runs_48 ?_
      refine g_bipush (pc := 49) C dX10_runs_49 cb_99 ?_
      obtain ⟨v9, hc, h⟩ := b1_of h
      refine g_callS (pc := 51) C (w' := cs_X10 J.2.2.1 a0 c6 c7 m_taped m_size m_at m_bad m_badKind m_opens m_faultAt m_tape m_newBed m_newLetter m_newReader m_bed m_letter m_reader m_newBeds m_newLetters m_newReaders m_beds m_letters m_readers m_newCode m_newOf m_code m_ofCode m_stack m_newCodes m_codes m_facts m_newStep m_step m_newSteps m_works m_refusedSteps m_begun m_done m_refusedNow m_now c8 m_past m_newBook m_book m_written m_mostBy m_stuffing m_stuffedMany m_lastBy m_leftBy m_splitBy m_seedNow m_image m_images) (As := [.int ((c8 (161 : Int32).toNatClampNeg) + n2), .int 99]) (st := [.int n2, .int n1, .ref (a0 0)]) (t_X10_held hc) Sub.nil kw_1643 kw_1644 kw_95 hy_X10_held kw_1645 rfl (Nat.le_of_ble_eq_true rfl) (Nat.le_of_ble_eq_true rfl) (Nat.le_of_ble_eq_true rfl) (Nat.le_of_ble_eq_true rfl) (Nat.le_of_ble_eq_true rfl) dX10_runs_51 ?_
      obtain ⟨v10, c11, c12, hc, h⟩ := b3_of h
      refine g_callV (pc := 54) C (w' := cs_X10 J.2.2.1 a0 c6 c7 m_taped m_size m_at m_bad m_badKind m_opens m_faultAt m_tape m_newBed m_newLetter m_newReader m_bed m_letter m_reader m_newBeds m_newLetters m_newReaders m_beds m_letters m_readers m_newCode m_newOf m_code m_ofCode c11 m_newCodes m_codes c12 m_newStep m_step m_newSteps m_works m_refusedSteps m_begun m_done m_refusedNow m_now c8 m_past m_newBook m_book m_written m_mostBy m_stuffing m_stuffedMany m_lastBy m_leftBy m_splitBy m_seedNow m_image m_images) (As := [.int n1, .int n2, .int v9]) (st := []) (ci := 10) (q0 := 0) rfl rfl (t_X10_runBy (a0 := a0) hc) Sub.same kw_1646 kw_1648 kw_58 kw_95 hy_X10_runBy kw_1649 rfl (Nat.le_of_ble_eq_true rfl) (Nat.le_of_ble_eq_true rfl) (Nat.le_of_ble_eq_true rfl) (Nat.le_of_ble_eq_true rfl) (Nat.le_of_ble_eq_true rfl) dX10_runs_54 ?_
      cases h
      exact g_iret C E dX10_runs_57
    · refine g_iconst (pc := 30) C dX10_runs_30 ci_0 ?_
      cases h
      exact g_iret C E dX10_runs_31
noncomputable def f_X10_would_85  (m_code : Nat → Int32) (m_ofCode : Nat → Int32) (m_codes : Int32) (n1 : Int32) (n2 : Int32) (n3 : Int32) (n4 : Int32) (n5 : Int32) (n6 : Int32) (n7 : Int32) (y1 : Int32) (m_thrown : Int32) (m_refused : Nat → Int32) (m_stack : Nat → Int32) (m_facts : Nat → Int32) : Option (Int32 × Int32 × (Nat → Int32) × (Nat → Int32) × (Nat → Int32)) := b3 (f_X10_may m_thrown m_refused y1 1 1) (fun v1 c2 c3 => if v1 = 0 then some (0, c2, c3, m_stack, m_facts) else b3 (f_X10_runOf m_code m_ofCode m_stack m_codes m_facts n1 n2 n3 n4 n5 n6 n7) (fun v4 c5 c6 => some (v4, c2, c3, c5, c6)))
noncomputable def f_X10_would (m_thrown : Int32) (m_refused : Nat → Int32) (m_code : Nat → Int32) (m_ofCode : Nat → Int32) (m_stack : Nat → Int32) (m_codes : Int32) (m_facts : Nat → Int32) (n1 : Int32) (n2 : Int32) (n3 : Int32) (n4 : Int32) (n5 : Int32) (n6 : Int32) (n7 : Int32) : Option (Int32 × Int32 × (Nat → Int32) × (Nat → Int32) × (Nat → Int32)) := b1 (f_X10_within n1 0 20) (fun v7 => if v7 = 0 then f_X10_would_85 m_code m_ofCode m_codes n1 n2 n3 n4 n5 n6 n7 0 0 m_refused m_stack m_facts else b1 (f_X10_within n2 0 99) (fun v8 => if v8 = 0 then f_X10_would_85 m_code m_ofCode m_codes n1 n2 n3 n4 n5 n6 n7 0 0 m_refused m_stack m_facts else b1 (f_X10_within n3 0 8) (fun v9 => if v9 = 0 then f_X10_would_85 m_code m_ofCode m_codes n1 n2 n3 n4 n5 n6 n7 0 0 m_refused m_stack m_facts else b1 (f_X10_within n4 0 30) (fun v10 => if v10 = 0 then f_X10_would_85 m_code m_ofCode m_codes n1 n2 n3 n4 n5 n6 n7 0 0 m_refused m_stack m_facts else b1 (f_X10_within n5 0 12) (fun v11 => if v11 = 0 then f_X10_would_85 m_code m_ofCode m_codes n1 n2 n3 n4 n5 n6 n7 0 0 m_refused m_stack m_facts else b1 (f_X10_within n6 0 400) (fun v12 => if v12 = 0 then f_X10_would_85 m_code m_ofCode m_codes n1 n2 n3 n4 n5 n6 n7 0 0 m_refused m_stack m_facts else b1 (f_X10_within n7 0 5) (fun v13 => if v13 = 0 then f_X10_would_85 m_code m_ofCode m_codes n1 n2 n3 n4 n5 n6 n7 0 0 m_refused m_stack m_facts else f_X10_would_85 m_code m_ofCode m_codes n1 n2 n3 n4 n5 n6 n7 1 0 m_refused m_stack m_facts)))))))
def rm_X10_would : Room := { frames := 4, cells := 0, slots := 0, locals := 93 }
set_option maxRecDepth 100000 in
set_option maxHeartbeats 4000000 in
theorem j_X10_would_85 {J : Jt} {Z : Zt} {a0 : Nat → Nat} {m_taped : Int32} {m_size : Int32} {m_at : Int32} {m_bad : Int32} {m_badKind : Int32} {m_opens : Int32} {m_faultAt : Int32} {m_tape : Nat → Int32} {m_newBed : Nat → Int32} {m_newLetter : Nat → Int32} {m_newReader : Nat → Int32} {m_bed : Nat → Int32} {m_letter : Nat → Int32} {m_reader : Nat → Int32} {m_newBeds : Int32} {m_newLetters : Int32} {m_newReaders : Int32} {m_beds : Int32} {m_letters : Int32} {m_readers : Int32} {m_newCode : Nat → Int32} {m_newOf : Nat → Int32} {m_code : Nat → Int32} {m_ofCode : Nat → Int32} {m_newCodes : Int32} {m_codes : Int32} {m_newStep : Nat → Int32} {m_step : Nat → Int32} {m_newSteps : Int32} {m_works : Int32} {m_refusedSteps : Int32} {m_begun : Int32} {m_done : Int32} {m_refusedNow : Int32} {m_now : Nat → Int32} {m_s : Nat → Int32} {m_past : Nat → Int32} {m_newBook : Nat → Int32} {m_book : Nat → Int32} {m_written : Int32} {m_mostBy : Nat → Int32} {m_stuffing : Nat → Int32} {m_stuffedMany : Int32} {m_lastBy : Nat → Int32} {m_leftBy : Nat → Int32} {m_splitBy : Nat → Int64} {m_seedNow : Int32} {m_image : Nat → Int32} {m_images : Int32} {n1 : Int32} {n2 : Int32} {n3 : Int32} {n4 : Int32} {n5 : Int32} {n6 : Int32} {n7 : Int32} {r : Int32} {o_m_thrown : Int32} {o_m_refused : Nat → Int32} {o_m_stack : Nat → Int32} {o_m_facts : Nat → Int32} (C : Cx J Z cX10_would 8 RX10 (some .int) rm_X10_would) (E : Ez J Z 0 0 (some (.int r)) (cs_X10 J.2.2.1 a0 o_m_thrown o_m_refused m_taped m_size m_at m_bad m_badKind m_opens m_faultAt m_tape m_newBed m_newLetter m_newReader m_bed m_letter m_reader m_newBeds m_newLetters m_newReaders m_beds m_letters m_readers m_newCode m_newOf m_code m_ofCode o_m_stack m_newCodes m_codes o_m_facts m_newStep m_step m_newSteps m_works m_refusedSteps m_begun m_done m_refusedNow m_now m_s m_past m_newBook m_book m_written m_mostBy m_stuffing m_stuffedMany m_lastBy m_leftBy m_splitBy m_seedNow m_image m_images)) : ∀ (y1 : Int32) (m_thrown : Int32) (m_refused : Nat → Int32) (m_stack : Nat → Int32) (m_facts : Nat → Int32), f_X10_would_85 m_code m_ofCode m_codes n1 n2 n3 n4 n5 n6 n7 y1 m_thrown m_refused m_stack m_facts = some (r, o_m_thrown, o_m_refused, o_m_stack, o_m_facts) → G J Z 0 0 (cs_X10 J.2.2.1 a0 m_thrown m_refused m_taped m_size m_at m_bad m_badKind m_opens m_faultAt m_tape m_newBed m_newLetter m_newReader m_bed m_letter m_reader m_newBeds m_newLetters m_newReaders m_beds m_letters m_readers m_newCode m_newOf m_code m_ofCode m_stack m_newCodes m_codes m_facts m_newStep m_step m_newSteps m_works m_refusedSteps m_begun m_done m_refusedNow m_now m_s m_past m_newBook m_book m_written m_mostBy m_stuffing m_stuffedMany m_lastBy m_leftBy m_splitBy m_seedNow m_image m_images) 8 [(0, .ref (a0 0)), (1, .int n1), (2, .int n2), (3, .int n3), (4, .int n4), (5, .int n5), (6, .int n6), (7, .int n7)] 85 [.int y1, .ref (a0 0)] := by
  intro y1 m_thrown m_refused m_stack m_facts h
  unfold f_X10_would_85 at h
  refine g_iconst (pc := 85) C dX10_would_85 ci_1 ?_
  refine g_iconst (pc := 86) C dX10_would_86 ci_1 ?_
  obtain ⟨v1, c2, c3, hc, h⟩ := b3_of h
  refine g_callV (pc := 87) C (w' := cs_X10 J.2.2.1 a0 c2 c3 m_taped m_size m_at m_bad m_badKind m_opens m_faultAt m_tape m_newBed m_newLetter m_newReader m_bed m_letter m_reader m_newBeds m_newLetters m_newReaders m_beds m_letters m_readers m_newCode m_newOf m_code m_ofCode m_stack m_newCodes m_codes m_facts m_newStep m_step m_newSteps m_works m_refusedSteps m_begun m_done m_refusedNow m_now m_s m_past m_newBook m_book m_written m_mostBy m_stuffing m_stuffedMany m_lastBy m_leftBy m_splitBy m_seedNow m_image m_images) (As := [.int y1, .int 1, .int 1]) (st := []) (ci := 10) (q0 := 0) rfl rfl (t_X10_may (a0 := a0) hc) Sub.same kw_1450 kw_1452 kw_20 kw_95 hy_X10_may kw_1453 rfl (Nat.le_of_ble_eq_true rfl) (Nat.le_of_ble_eq_true rfl) (Nat.le_of_ble_eq_true rfl) (Nat.le_of_ble_eq_true rfl) (Nat.le_of_ble_eq_true rfl) dX10_would_87 ?_
  refine g_if_ne (pc := 90) C (tgt := 95) dX10_would_90 rfl h (fun h => ?_) (fun h => ?_)
  · refine g_aload_n (pc := 95) C 0 rfl dX10_would_95 ?_
    refine g_iload_n (pc := 96) C 1 rfl dX10_would_96 ?_
    refine g_iload_n (pc := 97) C 2 rfl dX10_would_97 ?_
    refine g_iload_n (pc := 98) C 3 rfl dX10_would_98 ?_
    refine g_iload (pc := 99) C 4 rfl dX10_would_99 ?_
    refine g_iload (pc := 101) C 5 rfl dX10_would_101 ?_
    refine g_iload (pc := 103) C 6 rfl dX10_would_103 ?_
    refine g_iload (pc := 105) C 7 rfl dX10_would_105 ?_
    obtain ⟨v4, c5, c6, hc, h⟩ := b3_of h
    refine g_callV (pc := 107) C (w' := cs_X10 J.2.2.1 a0 c2 c3 m_taped m_size m_at m_bad m_badKind m_opens m_faultAt m_tape m_newBed m_newLetter m_newReader m_bed m_letter m_reader m_newBeds m_newLetters m_newReaders m_beds m_letters m_readers m_newCode m_newOf m_code m_ofCode c5 m_newCodes m_codes c6 m_newStep m_step m_newSteps m_works m_refusedSteps m_begun m_done m_refusedNow m_now m_s m_past m_newBook m_book m_written m_mostBy m_stuffing m_stuffedMany m_lastBy m_leftBy m_splitBy m_seedNow m_image m_images) (As := [.int n1, .int n2, .int n3, .int n4, .int n5, .int n6, .int n7]) (st := []) (ci := 10) (q0 := 0) rfl rfl (t_X10_runOf (a0 := a0) hc) Sub.same kw_1650 kw_1652 kw_59 kw_95 hy_X10_runOf kw_1653 rfl (Nat.le_of_ble_eq_true rfl) (Nat.le_of_ble_eq_true rfl) (Nat.le_of_ble_eq_true rfl) (Nat.le_of_ble_eq_true rfl) (Nat.le_of_ble_eq_true rfl) dX10_would_107 ?_
    cases h
    exact g_iret C E dX10_would_110
  · refine g_iconst (pc := 93) C dX10_would_93 ci_0 ?_
    cases h
    exact g_iret C E dX10_would_94
set_option maxRecDepth 100000 in
set_option maxHeartbeats 4000000 in
theorem t_X10_would {J : Jt} {a0 : Nat → Nat} {m_thrown : Int32} {m_refused : Nat → Int32} {m_taped : Int32} {m_size : Int32} {m_at : Int32} {m_bad : Int32} {m_badKind : Int32} {m_opens : Int32} {m_faultAt : Int32} {m_tape : Nat → Int32} {m_newBed : Nat → Int32} {m_newLetter : Nat → Int32} {m_newReader : Nat → Int32} {m_bed : Nat → Int32} {m_letter : Nat → Int32} {m_reader : Nat → Int32} {m_newBeds : Int32} {m_newLetters : Int32} {m_newReaders : Int32} {m_beds : Int32} {m_letters : Int32} {m_readers : Int32} {m_newCode : Nat → Int32} {m_newOf : Nat → Int32} {m_code : Nat → Int32} {m_ofCode : Nat → Int32} {m_stack : Nat → Int32} {m_newCodes : Int32} {m_codes : Int32} {m_facts : Nat → Int32} {m_newStep : Nat → Int32} {m_step : Nat → Int32} {m_newSteps : Int32} {m_works : Int32} {m_refusedSteps : Int32} {m_begun : Int32} {m_done : Int32} {m_refusedNow : Int32} {m_now : Nat → Int32} {m_s : Nat → Int32} {m_past : Nat → Int32} {m_newBook : Nat → Int32} {m_book : Nat → Int32} {m_written : Int32} {m_mostBy : Nat → Int32} {m_stuffing : Nat → Int32} {m_stuffedMany : Int32} {m_lastBy : Nat → Int32} {m_leftBy : Nat → Int32} {m_splitBy : Nat → Int64} {m_seedNow : Int32} {m_image : Nat → Int32} {m_images : Int32} {n1 : Int32} {n2 : Int32} {n3 : Int32} {n4 : Int32} {n5 : Int32} {n6 : Int32} {n7 : Int32} {r : Int32} {o_m_thrown : Int32} {o_m_refused : Nat → Int32} {o_m_stack : Nat → Int32} {o_m_facts : Nat → Int32} (h : f_X10_would m_thrown m_refused m_code m_ofCode m_stack m_codes m_facts n1 n2 n3 n4 n5 n6 n7 = some (r, o_m_thrown, o_m_refused, o_m_stack, o_m_facts)) : Mt J yX10_would cX10_would 8 (some .int) rm_X10_would [.ref (a0 0), .int n1, .int n2, .int n3, .int n4, .int n5, .int n6, .int n7] (cs_X10 J.2.2.1 a0 m_thrown m_refused m_taped m_size m_at m_bad m_badKind m_opens m_faultAt m_tape m_newBed m_newLetter m_newReader m_bed m_letter m_reader m_newBeds m_newLetters m_newReaders m_beds m_letters m_readers m_newCode m_newOf m_code m_ofCode m_stack m_newCodes m_codes m_facts m_newStep m_step m_newSteps m_works m_refusedSteps m_begun m_done m_refusedNow m_now m_s m_past m_newBook m_book m_written m_mostBy m_stuffing m_stuffedMany m_lastBy m_leftBy m_splitBy m_seedNow m_image m_images) (some (.int r)) (cs_X10 J.2.2.1 a0 o_m_thrown o_m_refused m_taped m_size m_at m_bad m_badKind m_opens m_faultAt m_tape m_newBed m_newLetter m_newReader m_bed m_letter m_reader m_newBeds m_newLetters m_newReaders m_beds m_letters m_readers m_newCode m_newOf m_code m_ofCode o_m_stack m_newCodes m_codes o_m_facts m_newStep m_step m_newSteps m_works m_refusedSteps m_begun m_done m_refusedNow m_now m_s m_past m_newBook m_book m_written m_mostBy m_stuffing m_stuffedMany m_lastBy m_leftBy m_splitBy m_seedNow m_image m_images) := by
  refine Mt_of (own := RX10) (by decide) rfl (Nat.le_of_ble_eq_true rfl) rfl (fun Z C E => ?_)
  unfold f_X10_would at h
  show G J Z 0 0 (cs_X10 J.2.2.1 a0 m_thrown m_refused m_taped m_size m_at m_bad m_badKind m_opens m_faultAt m_tape m_newBed m_newLetter m_newReader m_bed m_letter m_reader m_newBeds m_newLetters m_newReaders m_beds m_letters m_readers m_newCode m_newOf m_code m_ofCode m_stack m_newCodes m_codes m_facts m_newStep m_step m_newSteps m_works m_refusedSteps m_begun m_done m_refusedNow m_now m_s m_past m_newBook m_book m_written m_mostBy m_stuffing m_stuffedMany m_lastBy m_leftBy m_splitBy m_seedNow m_image m_images) 8 [(0, .ref (a0 0)), (1, .int n1), (2, .int n2), (3, .int n3), (4, .int n4), (5, .int n5), (6, .int n6), (7, .int n7)] 0 []
  refine g_aload_n (pc := 0) C 0 rfl dX10_would_0 ?_
  refine g_iconst (pc := 1) C dX10_would_1 ci_0 ?_
  refine g_put (pc := 2) C (w' := cs_X10 J.2.2.1 a0 0 m_refused m_taped m_size m_at m_bad m_badKind m_opens m_faultAt m_tape m_newBed m_newLetter m_newReader m_bed m_letter m_reader m_newBeds m_newLetters m_newReaders m_beds m_letters m_readers m_newCode m_newOf m_code m_ofCode m_stack m_newCodes m_codes m_facts m_newStep m_step m_newSteps m_works m_refusedSteps m_begun m_done m_refusedNow m_now m_s m_past m_newBook m_book m_written m_mostBy m_stuffing m_stuffedMany m_lastBy m_leftBy m_splitBy m_seedNow m_image m_images) FOK_X10 0 rfl rfl 0 (by decide) kw_1277 rfl rfl rfl (Nat.le_of_ble_eq_true rfl) dX10_would_2 rfl ?_
  refine g_aload_n (pc := 5) C 0 rfl dX10_would_5 ?_
  refine g_iload_n (pc := 6) C 1 rfl dX10_would_6 ?_
  refine g_iconst (pc := 7) C dX10_would_7 ci_0 ?_
  refine g_bipush (pc := 8) C dX10_would_8 cb_20 ?_
  obtain ⟨v7, hc, h⟩ := b1_of h
  refine g_callS (pc := 10) C (w' := cs_X10 J.2.2.1 a0 0 m_refused m_taped m_size m_at m_bad m_badKind m_opens m_faultAt m_tape m_newBed m_newLetter m_newReader m_bed m_letter m_reader m_newBeds m_newLetters m_newReaders m_beds m_letters m_readers m_newCode m_newOf m_code m_ofCode m_stack m_newCodes m_codes m_facts m_newStep m_step m_newSteps m_works m_refusedSteps m_begun m_done m_refusedNow m_now m_s m_past m_newBook m_book m_written m_mostBy m_stuffing m_stuffedMany m_lastBy m_leftBy m_splitBy m_seedNow m_image m_images) (As := [.int n1, .int 0, .int 20]) (st := [.ref (a0 0)]) (t_X10_within hc) Sub.nil kw_1689 kw_1690 kw_95 hy_X10_within kw_1691 rfl (Nat.le_of_ble_eq_true rfl) (Nat.le_of_ble_eq_true rfl) (Nat.le_of_ble_eq_true rfl) (Nat.le_of_ble_eq_true rfl) (Nat.le_of_ble_eq_true rfl) dX10_would_10 ?_
  refine g_if_eq (pc := 13) C (tgt := 84) dX10_would_13 rfl h (fun h => ?_) (fun h => ?_)
  · refine g_iconst (pc := 84) C dX10_would_84 ci_0 ?_
    exact j_X10_would_85 C E    0 0 m_refused m_stack m_facts h
  · refine g_iload_n (pc := 16) C 2 rfl dX10_would_16 ?_
    refine g_iconst (pc := 17) C dX10_would_17 ci_0 ?_
    refine g_bipush (pc := 18) C dX10_would_18 cb_99 ?_
    obtain ⟨v8, hc, h⟩ := b1_of h
    refine g_callS (pc := 20) C (w' := cs_X10 J.2.2.1 a0 0 m_refused m_taped m_size m_at m_bad m_badKind m_opens m_faultAt m_tape m_newBed m_newLetter m_newReader m_bed m_letter m_reader m_newBeds m_newLetters m_newReaders m_beds m_letters m_readers m_newCode m_newOf m_code m_ofCode m_stack m_newCodes m_codes m_facts m_newStep m_step m_newSteps m_works m_refusedSteps m_begun m_done m_refusedNow m_now m_s m_past m_newBook m_book m_written m_mostBy m_stuffing m_stuffedMany m_lastBy m_leftBy m_splitBy m_seedNow m_image m_images) (As := [.int n2, .int 0, .int 99]) (st := [.ref (a0 0)]) (t_X10_within hc) Sub.nil kw_1689 kw_1690 kw_95 hy_X10_within kw_1691 rfl (Nat.le_of_ble_eq_true rfl) (Nat.le_of_ble_eq_true rfl) (Nat.le_of_ble_eq_true rfl) (Nat.le_of_ble_eq_true rfl) (Nat.le_of_ble_eq_true rfl) dX10_would_20 ?_
    refine g_if_eq (pc := 23) C (tgt := 84) dX10_would_23 rfl h (fun h => ?_) (fun h => ?_)
    · refine g_iconst (pc := 84) C dX10_would_84 ci_0 ?_
      exact j_X10_would_85 C E    0 0 m_refused m_stack m_facts h
    · refine g_iload_n (pc := 26) C 3 rfl dX10_would_26 ?_
      refine g_iconst (pc := 27) C dX10_would_27 ci_0 ?_
      refine g_bipush (pc := 28) C dX10_would_28 cb_8 ?_
      obtain ⟨v9, hc, h⟩ := b1_of h
      refine g_callS (pc := 30) C (w' := cs_X10 J.2.2.1 a0 0 m_refused m_taped m_size m_at m_bad m_badKind m_opens m_faultAt m_tape m_newBed m_newLetter m_newReader m_bed m_letter m_reader m_newBeds m_newLetters m_newReaders m_beds m_letters m_readers m_newCode m_newOf m_code m_ofCode m_stack m_newCodes m_codes m_facts m_newStep m_step m_newSteps m_works m_refusedSteps m_begun m_done m_refusedNow m_now m_s m_past m_newBook m_book m_written m_mostBy m_stuffing m_stuffedMany m_lastBy m_leftBy m_splitBy m_seedNow m_image m_images) (As := [.int n3, .int 0, .int 8]) (st := [.ref (a0 0)]) (t_X10_within hc) Sub.nil kw_1689 kw_1690 kw_95 hy_X10_within kw_1691 rfl (Nat.le_of_ble_eq_true rfl) (Nat.le_of_ble_eq_true rfl) (Nat.le_of_ble_eq_true rfl) (Nat.le_of_ble_eq_true rfl) (Nat.le_of_ble_eq_true rfl) dX10_would_30 ?_
      refine g_if_eq (pc := 33) C (tgt := 84) dX10_would_33 rfl h (fun h => ?_) (fun h => ?_)
      · refine g_iconst (pc := 84) C dX10_would_84 ci_0 ?_
        exact j_X10_would_85 C E    0 0 m_refused m_stack m_facts h
      · refine g_iload (pc := 36) C 4 rfl dX10_would_36 ?_
        refine g_iconst (pc := 38) C dX10_would_38 ci_0 ?_
        refine g_bipush (pc := 39) C dX10_would_39 cb_30 ?_
        obtain ⟨v10, hc, h⟩ := b1_of h
        refine g_callS (pc := 41) C (w' := cs_X10 J.2.2.1 a0 0 m_refused m_taped m_size m_at m_bad m_badKind m_opens m_faultAt m_tape m_newBed m_newLetter m_newReader m_bed m_letter m_reader m_newBeds m_newLetters m_newReaders m_beds m_letters m_readers m_newCode m_newOf m_code m_ofCode m_stack m_newCodes m_codes m_facts m_newStep m_step m_newSteps m_works m_refusedSteps m_begun m_done m_refusedNow m_now m_s m_past m_newBook m_book m_written m_mostBy m_stuffing m_stuffedMany m_lastBy m_leftBy m_splitBy m_seedNow m_image m_images) (As := [.int n4, .int 0, .int 30]) (st := [.ref (a0 0)]) (t_X10_within hc) Sub.nil kw_1689 kw_1690 kw_95 hy_X10_within kw_1691 rfl (Nat.le_of_ble_eq_true rfl) (Nat.le_of_ble_eq_true rfl) (Nat.le_of_ble_eq_true rfl) (Nat.le_of_ble_eq_true rfl) (Nat.le_of_ble_eq_true rfl) dX10_would_41 ?_
        refine g_if_eq (pc := 44) C (tgt := 84) dX10_would_44 rfl h (fun h => ?_) (fun h => ?_)
        · refine g_iconst (pc := 84) C dX10_would_84 ci_0 ?_
          exact j_X10_would_85 C E    0 0 m_refused m_stack m_facts h
        · refine g_iload (pc := 47) C 5 rfl dX10_would_47 ?_
          refine g_iconst (pc := 49) C dX10_would_49 ci_0 ?_
          refine g_bipush (pc := 50) C dX10_would_50 cb_12 ?_
          obtain ⟨v11, hc, h⟩ := b1_of h
          refine g_callS (pc := 52) C (w' := cs_X10 J.2.2.1 a0 0 m_refused m_taped m_size m_at m_bad m_badKind m_opens m_faultAt m_tape m_newBed m_newLetter m_newReader m_bed m_letter m_reader m_newBeds m_newLetters m_newReaders m_beds m_letters m_readers m_newCode m_newOf m_code m_ofCode m_stack m_newCodes m_codes m_facts m_newStep m_step m_newSteps m_works m_refusedSteps m_begun m_done m_refusedNow m_now m_s m_past m_newBook m_book m_written m_mostBy m_stuffing m_stuffedMany m_lastBy m_leftBy m_splitBy m_seedNow m_image m_images) (As := [.int n5, .int 0, .int 12]) (st := [.ref (a0 0)]) (t_X10_within hc) Sub.nil kw_1689 kw_1690 kw_95 hy_X10_within kw_1691 rfl (Nat.le_of_ble_eq_true rfl) (Nat.le_of_ble_eq_true rfl) (Nat.le_of_ble_eq_true rfl) (Nat.le_of_ble_eq_true rfl) (Nat.le_of_ble_eq_true rfl) dX10_would_52 ?_
          refine g_if_eq (pc := 55) C (tgt := 84) dX10_would_55 rfl h (fun h => ?_) (fun h => ?_)
          · refine g_iconst (pc := 84) C dX10_would_84 ci_0 ?_
            exact j_X10_would_85 C E    0 0 m_refused m_stack m_facts h
          · refine g_iload (pc := 58) C 6 rfl dX10_would_58 ?_
            refine g_iconst (pc := 60) C dX10_would_60 ci_0 ?_
            refine g_sipush (pc := 61) C dX10_would_61 cs_400 ?_
            obtain ⟨v12, hc, h⟩ := b1_of h
            refine g_callS (pc := 64) C (w' := cs_X10 J.2.2.1 a0 0 m_refused m_taped m_size m_at m_bad m_badKind m_opens m_faultAt m_tape m_newBed m_newLetter m_newReader m_bed m_letter m_reader m_newBeds m_newLetters m_newReaders m_beds m_letters m_readers m_newCode m_newOf m_code m_ofCode m_stack m_newCodes m_codes m_facts m_newStep m_step m_newSteps m_works m_refusedSteps m_begun m_done m_refusedNow m_now m_s m_past m_newBook m_book m_written m_mostBy m_stuffing m_stuffedMany m_lastBy m_leftBy m_splitBy m_seedNow m_image m_images) (As := [.int n6, .int 0, .int 400]) (st := [.ref (a0 0)]) (t_X10_within hc) Sub.nil kw_1689 kw_1690 kw_95 hy_X10_within kw_1691 rfl (Nat.le_of_ble_eq_true rfl) (Nat.le_of_ble_eq_true rfl) (Nat.le_of_ble_eq_true rfl) (Nat.le_of_ble_eq_true rfl) (Nat.le_of_ble_eq_true rfl) dX10_would_64 ?_
            refine g_if_eq (pc := 67) C (tgt := 84) dX10_would_67 rfl h (fun h => ?_) (fun h => ?_)
            · refine g_iconst (pc := 84) C dX10_would_84 ci_0 ?_
              exact j_X10_would_85 C E    0 0 m_refused m_stack m_facts h
            · refine g_iload (pc := 70) C 7 rfl dX10_would_70 ?_
              refine g_iconst (pc := 72) C dX10_would_72 ci_0 ?_
              refine g_iconst (pc := 73) C dX10_would_73 ci_5 ?_
              obtain ⟨v13, hc, h⟩ := b1_of h
              refine g_callS (pc := 74) C (w' := cs_X10 J.2.2.1 a0 0 m_refused m_taped m_size m_at m_bad m_badKind m_opens m_faultAt m_tape m_newBed m_newLetter m_newReader m_bed m_letter m_reader m_newBeds m_newLetters m_newReaders m_beds m_letters m_readers m_newCode m_newOf m_code m_ofCode m_stack m_newCodes m_codes m_facts m_newStep m_step m_newSteps m_works m_refusedSteps m_begun m_done m_refusedNow m_now m_s m_past m_newBook m_book m_written m_mostBy m_stuffing m_stuffedMany m_lastBy m_leftBy m_splitBy m_seedNow m_image m_images) (As := [.int n7, .int 0, .int 5]) (st := [.ref (a0 0)]) (t_X10_within hc) Sub.nil kw_1689 kw_1690 kw_95 hy_X10_within kw_1691 rfl (Nat.le_of_ble_eq_true rfl) (Nat.le_of_ble_eq_true rfl) (Nat.le_of_ble_eq_true rfl) (Nat.le_of_ble_eq_true rfl) (Nat.le_of_ble_eq_true rfl) dX10_would_74 ?_
              refine g_if_eq (pc := 77) C (tgt := 84) dX10_would_77 rfl h (fun h => ?_) (fun h => ?_)
              · refine g_iconst (pc := 84) C dX10_would_84 ci_0 ?_
                exact j_X10_would_85 C E    0 0 m_refused m_stack m_facts h
              · refine g_iconst (pc := 80) C dX10_would_80 ci_1 ?_
                refine g_goto (pc := 81) C (tgt := 85) dX10_would_81 rfl ?_
                exact j_X10_would_85 C E    1 0 m_refused m_stack m_facts h
noncomputable def f_X10_ahead_46  (m_beds : Int32) (m_now : Nat → Int32) (n1 : Int32) (n2 : Int32) : Nat → Int32 → Int32 → (Nat → Int32) → (Nat → Int32) → Option (Int32 × Int32 × (Nat → Int32) × (Nat → Int32))
  | 0, _, _, _, _ => none
  | n + 1, x3, m_thrown, m_refused, m_s => if n1 ≤ x3 then if n2 = 0 then b1 (f_X10_sumOf m_s 84 6) (fun v1 => some (v1, m_thrown, m_refused, m_s)) else if n2 = 1 then if ixb 160 165 then some (m_s (160 : Int32).toNatClampNeg, m_thrown, m_refused, m_s) else none else if ixb 161 165 then some (m_s (161 : Int32).toNatClampNeg, m_thrown, m_refused, m_s) else none else b1 (f_X10_passes m_beds m_s) (fun c2 => f_X10_ahead_46 m_beds m_now n1 n2 n (x3 + 1) m_thrown m_refused c2)
noncomputable def f_X10_ahead_30  (m_beds : Int32) (m_now : Nat → Int32) (n1 : Int32) (n2 : Int32) (y1 : Int32) (m_thrown : Int32) (m_refused : Nat → Int32) (m_s : Nat → Int32) : Option (Int32 × Int32 × (Nat → Int32) × (Nat → Int32)) := b3 (f_X10_may m_thrown m_refused y1 1 1) (fun v3 c4 c5 => if v3 = 0 then some (0, c4, c5, m_s) else b1 (f_X10_take m_now m_s) (fun c6 => f_X10_ahead_46 m_beds m_now n1 n2 FU 0 c4 c5 c6))
noncomputable def f_X10_ahead (m_thrown : Int32) (m_refused : Nat → Int32) (m_beds : Int32) (m_now : Nat → Int32) (m_s : Nat → Int32) (n1 : Int32) (n2 : Int32) : Option (Int32 × Int32 × (Nat → Int32) × (Nat → Int32)) := b1 (f_X10_within n1 0 99) (fun v7 => if v7 = 0 then f_X10_ahead_30 m_beds m_now n1 n2 0 0 m_refused m_s else b1 (f_X10_within n2 0 2) (fun v8 => if v8 = 0 then f_X10_ahead_30 m_beds m_now n1 n2 0 0 m_refused m_s else f_X10_ahead_30 m_beds m_now n1 n2 1 0 m_refused m_s))
def rm_X10_ahead : Room := { frames := 2, cells := 0, slots := 0, locals := 44 }
set_option maxRecDepth 100000 in
set_option maxHeartbeats 4000000 in
theorem j_X10_ahead_46 {J : Jt} {Z : Zt} {a0 : Nat → Nat} {m_taped : Int32} {m_size : Int32} {m_at : Int32} {m_bad : Int32} {m_badKind : Int32} {m_opens : Int32} {m_faultAt : Int32} {m_tape : Nat → Int32} {m_newBed : Nat → Int32} {m_newLetter : Nat → Int32} {m_newReader : Nat → Int32} {m_bed : Nat → Int32} {m_letter : Nat → Int32} {m_reader : Nat → Int32} {m_newBeds : Int32} {m_newLetters : Int32} {m_newReaders : Int32} {m_beds : Int32} {m_letters : Int32} {m_readers : Int32} {m_newCode : Nat → Int32} {m_newOf : Nat → Int32} {m_code : Nat → Int32} {m_ofCode : Nat → Int32} {m_stack : Nat → Int32} {m_newCodes : Int32} {m_codes : Int32} {m_facts : Nat → Int32} {m_newStep : Nat → Int32} {m_step : Nat → Int32} {m_newSteps : Int32} {m_works : Int32} {m_refusedSteps : Int32} {m_begun : Int32} {m_done : Int32} {m_refusedNow : Int32} {m_now : Nat → Int32} {m_past : Nat → Int32} {m_newBook : Nat → Int32} {m_book : Nat → Int32} {m_written : Int32} {m_mostBy : Nat → Int32} {m_stuffing : Nat → Int32} {m_stuffedMany : Int32} {m_lastBy : Nat → Int32} {m_leftBy : Nat → Int32} {m_splitBy : Nat → Int64} {m_seedNow : Int32} {m_image : Nat → Int32} {m_images : Int32} {n1 : Int32} {n2 : Int32} {r : Int32} {o_m_thrown : Int32} {o_m_refused : Nat → Int32} {o_m_s : Nat → Int32} (C : Cx J Z cX10_ahead 4 RX10 (some .int) rm_X10_ahead) (E : Ez J Z 0 0 (some (.int r)) (cs_X10 J.2.2.1 a0 o_m_thrown o_m_refused m_taped m_size m_at m_bad m_badKind m_opens m_faultAt m_tape m_newBed m_newLetter m_newReader m_bed m_letter m_reader m_newBeds m_newLetters m_newReaders m_beds m_letters m_readers m_newCode m_newOf m_code m_ofCode m_stack m_newCodes m_codes m_facts m_newStep m_step m_newSteps m_works m_refusedSteps m_begun m_done m_refusedNow m_now o_m_s m_past m_newBook m_book m_written m_mostBy m_stuffing m_stuffedMany m_lastBy m_leftBy m_splitBy m_seedNow m_image m_images)) : ∀ (n : Nat) (x3 : Int32) (m_thrown : Int32) (m_refused : Nat → Int32) (m_s : Nat → Int32), f_X10_ahead_46 m_beds m_now n1 n2 n x3 m_thrown m_refused m_s = some (r, o_m_thrown, o_m_refused, o_m_s) → G J Z 0 0 (cs_X10 J.2.2.1 a0 m_thrown m_refused m_taped m_size m_at m_bad m_badKind m_opens m_faultAt m_tape m_newBed m_newLetter m_newReader m_bed m_letter m_reader m_newBeds m_newLetters m_newReaders m_beds m_letters m_readers m_newCode m_newOf m_code m_ofCode m_stack m_newCodes m_codes m_facts m_newStep m_step m_newSteps m_works m_refusedSteps m_begun m_done m_refusedNow m_now m_s m_past m_newBook m_book m_written m_mostBy m_stuffing m_stuffedMany m_lastBy m_leftBy m_splitBy m_seedNow m_image m_images) 4 [(0, .ref (a0 0)), (1, .int n1), (2, .int n2), (3, .int x3)] 46 [] := by
  intro n
  induction n with
  | zero =>
    intro x3 m_thrown m_refused m_s h
    rw [f_X10_ahead_46] at h
    cases h
  | succ n ih =>
    intro x3 m_thrown m_refused m_s h
    rw [f_X10_ahead_46] at h
    refine g_iload_n (pc := 46) C 3 rfl dX10_ahead_46 ?_
    refine g_iload_n (pc := 47) C 1 rfl dX10_ahead_47 ?_
    refine g_icmp_ge (pc := 48) C (tgt := 61) dX10_ahead_48 rfl h (fun h => ?_) (fun h => ?_)
    · refine g_iload_n (pc := 61) C 2 rfl dX10_ahead_61 ?_
      refine g_if_ne (pc := 62) C (tgt := 76) dX10_ahead_62 rfl h (fun h => ?_) (fun h => ?_)
      · refine g_aload_n (pc := 76) C 0 rfl dX10_ahead_76 ?_
        refine g_get (pc := 77) C FOK_X10 0 rfl rfl 39 (by decide) kw_1316 rfl dX10_ahead_77 ?_
        refine g_iload_n (pc := 80) C 2 rfl dX10_ahead_80 ?_
        refine g_iconst (pc := 81) C dX10_ahead_81 ci_1 ?_
        refine g_icmp_ne (pc := 82) C (tgt := 91) dX10_ahead_82 rfl h (fun h => ?_) (fun h => ?_)
        · refine g_sipush (pc := 91) C dX10_ahead_91 cs_161 ?_
          obtain ⟨hi, h⟩ := ix_of h
          refine g_iald (pc := 94) C 18 rfl hi dX10_ahead_94 ?_
          cases h
          exact g_iret C E dX10_ahead_95
        · refine g_sipush (pc := 85) C dX10_ahead_85 cs_160 ?_
          refine g_goto (pc := 88) C (tgt := 94) dX10_ahead_88 rfl ?_
          obtain ⟨hi, h⟩ := ix_of h
          refine g_iald (pc := 94) C 18 rfl hi dX10_ahead_94 ?_
          cases h
          exact g_iret C E dX10_ahead_95
      · refine g_aload_n (pc := 65) C 0 rfl dX10_ahead_65 ?_
        refine g_bipush (pc := 66) C dX10_ahead_66 cb_84 ?_
        refine g_bipush (pc := 68) C dX10_ahead_68 cb_6 ?_
        obtain ⟨v1, hc, h⟩ := b1_of h
        refine g_callV (pc := 70) C (w' := cs_X10 J.2.2.1 a0 m_thrown m_refused m_taped m_size m_at m_bad m_badKind m_opens m_faultAt m_tape m_newBed m_newLetter m_newReader m_bed m_letter m_reader m_newBeds m_newLetters m_newReaders m_beds m_letters m_readers m_newCode m_newOf m_code m_ofCode m_stack m_newCodes m_codes m_facts m_newStep m_step m_newSteps m_works m_refusedSteps m_begun m_done m_refusedNow m_now m_s m_past m_newBook m_book m_written m_mostBy m_stuffing m_stuffedMany m_lastBy m_leftBy m_splitBy m_seedNow m_image m_images) (As := [.int 84, .int 6]) (st := []) (ci := 10) (q0 := 0) rfl rfl (t_X10_sumOf (a0 := a0) hc) Sub.same kw_1696 kw_1698 kw_66 kw_95 hy_X10_sumOf kw_1699 rfl (Nat.le_of_ble_eq_true rfl) (Nat.le_of_ble_eq_true rfl) (Nat.le_of_ble_eq_true rfl) (Nat.le_of_ble_eq_true rfl) (Nat.le_of_ble_eq_true rfl) dX10_ahead_70 ?_
        refine g_goto (pc := 73) C (tgt := 95) dX10_ahead_73 rfl ?_
        cases h
        exact g_iret C E dX10_ahead_95
    · refine g_aload_n (pc := 51) C 0 rfl dX10_ahead_51 ?_
      obtain ⟨c2, hc, h⟩ := b1_of h
      refine g_callV (pc := 52) C (w' := cs_X10 J.2.2.1 a0 m_thrown m_refused m_taped m_size m_at m_bad m_badKind m_opens m_faultAt m_tape m_newBed m_newLetter m_newReader m_bed m_letter m_reader m_newBeds m_newLetters m_newReaders m_beds m_letters m_readers m_newCode m_newOf m_code m_ofCode m_stack m_newCodes m_codes m_facts m_newStep m_step m_newSteps m_works m_refusedSteps m_begun m_done m_refusedNow m_now c2 m_past m_newBook m_book m_written m_mostBy m_stuffing m_stuffedMany m_lastBy m_leftBy m_splitBy m_seedNow m_image m_images) (As := []) (st := []) (ci := 10) (q0 := 0) rfl rfl (t_X10_passes (a0 := a0) hc) Sub.same kw_1669 kw_1671 kw_63 kw_95 hy_X10_passes kw_1672 rfl (Nat.le_of_ble_eq_true rfl) (Nat.le_of_ble_eq_true rfl) (Nat.le_of_ble_eq_true rfl) (Nat.le_of_ble_eq_true rfl) (Nat.le_of_ble_eq_true rfl) dX10_ahead_52 ?_
      refine g_iinc (pc := 55) C (j := 3) [(3, .int (x3 + 1)), (0, .ref (a0 0)), (1, .int n1), (2, .int n2)] dX10_ahead_55 rfl (ii_1 _) (by decide) rfl ?_
      refine g_goto (pc := 58) C (tgt := 46) dX10_ahead_58 rfl ?_
      refine g_lv [1, 2, 3, 0] rfl ?_
      exact ih (x3 + 1) m_thrown m_refused c2 h
set_option maxRecDepth 100000 in
set_option maxHeartbeats 4000000 in
theorem j_X10_ahead_30 {J : Jt} {Z : Zt} {a0 : Nat → Nat} {m_taped : Int32} {m_size : Int32} {m_at : Int32} {m_bad : Int32} {m_badKind : Int32} {m_opens : Int32} {m_faultAt : Int32} {m_tape : Nat → Int32} {m_newBed : Nat → Int32} {m_newLetter : Nat → Int32} {m_newReader : Nat → Int32} {m_bed : Nat → Int32} {m_letter : Nat → Int32} {m_reader : Nat → Int32} {m_newBeds : Int32} {m_newLetters : Int32} {m_newReaders : Int32} {m_beds : Int32} {m_letters : Int32} {m_readers : Int32} {m_newCode : Nat → Int32} {m_newOf : Nat → Int32} {m_code : Nat → Int32} {m_ofCode : Nat → Int32} {m_stack : Nat → Int32} {m_newCodes : Int32} {m_codes : Int32} {m_facts : Nat → Int32} {m_newStep : Nat → Int32} {m_step : Nat → Int32} {m_newSteps : Int32} {m_works : Int32} {m_refusedSteps : Int32} {m_begun : Int32} {m_done : Int32} {m_refusedNow : Int32} {m_now : Nat → Int32} {m_past : Nat → Int32} {m_newBook : Nat → Int32} {m_book : Nat → Int32} {m_written : Int32} {m_mostBy : Nat → Int32} {m_stuffing : Nat → Int32} {m_stuffedMany : Int32} {m_lastBy : Nat → Int32} {m_leftBy : Nat → Int32} {m_splitBy : Nat → Int64} {m_seedNow : Int32} {m_image : Nat → Int32} {m_images : Int32} {n1 : Int32} {n2 : Int32} {r : Int32} {o_m_thrown : Int32} {o_m_refused : Nat → Int32} {o_m_s : Nat → Int32} (C : Cx J Z cX10_ahead 4 RX10 (some .int) rm_X10_ahead) (E : Ez J Z 0 0 (some (.int r)) (cs_X10 J.2.2.1 a0 o_m_thrown o_m_refused m_taped m_size m_at m_bad m_badKind m_opens m_faultAt m_tape m_newBed m_newLetter m_newReader m_bed m_letter m_reader m_newBeds m_newLetters m_newReaders m_beds m_letters m_readers m_newCode m_newOf m_code m_ofCode m_stack m_newCodes m_codes m_facts m_newStep m_step m_newSteps m_works m_refusedSteps m_begun m_done m_refusedNow m_now o_m_s m_past m_newBook m_book m_written m_mostBy m_stuffing m_stuffedMany m_lastBy m_leftBy m_splitBy m_seedNow m_image m_images)) : ∀ (y1 : Int32) (m_thrown : Int32) (m_refused : Nat → Int32) (m_s : Nat → Int32), f_X10_ahead_30 m_beds m_now n1 n2 y1 m_thrown m_refused m_s = some (r, o_m_thrown, o_m_refused, o_m_s) → G J Z 0 0 (cs_X10 J.2.2.1 a0 m_thrown m_refused m_taped m_size m_at m_bad m_badKind m_opens m_faultAt m_tape m_newBed m_newLetter m_newReader m_bed m_letter m_reader m_newBeds m_newLetters m_newReaders m_beds m_letters m_readers m_newCode m_newOf m_code m_ofCode m_stack m_newCodes m_codes m_facts m_newStep m_step m_newSteps m_works m_refusedSteps m_begun m_done m_refusedNow m_now m_s m_past m_newBook m_book m_written m_mostBy m_stuffing m_stuffedMany m_lastBy m_leftBy m_splitBy m_seedNow m_image m_images) 4 [(0, .ref (a0 0)), (1, .int n1), (2, .int n2)] 30 [.int y1, .ref (a0 0)] := by
  intro y1 m_thrown m_refused m_s h
  unfold f_X10_ahead_30 at h
  refine g_iconst (pc := 30) C dX10_ahead_30 ci_1 ?_
  refine g_iconst (pc := 31) C dX10_ahead_31 ci_1 ?_
  obtain ⟨v3, c4, c5, hc, h⟩ := b3_of h
  refine g_callV (pc := 32) C (w' := cs_X10 J.2.2.1 a0 c4 c5 m_taped m_size m_at m_bad m_badKind m_opens m_faultAt m_tape m_newBed m_newLetter m_newReader m_bed m_letter m_reader m_newBeds m_newLetters m_newReaders m_beds m_letters m_readers m_newCode m_newOf m_code m_ofCode m_stack m_newCodes m_codes m_facts m_newStep m_step m_newSteps m_works m_refusedSteps m_begun m_done m_refusedNow m_now m_s m_past m_newBook m_book m_written m_mostBy m_stuffing m_stuffedMany m_lastBy m_leftBy m_splitBy m_seedNow m_image m_images) (As := [.int y1, .int 1, .int 1]) (st := []) (ci := 10) (q0 := 0) rfl rfl (t_X10_may (a0 := a0) hc) Sub.same kw_1450 kw_1452 kw_20 kw_95 hy_X10_may kw_1453 rfl (Nat.le_of_ble_eq_true rfl) (Nat.le_of_ble_eq_true rfl) (Nat.le_of_ble_eq_true rfl) (Nat.le_of_ble_eq_true rfl) (Nat.le_of_ble_eq_true rfl) dX10_ahead_32 ?_
  refine g_if_ne (pc := 35) C (tgt := 40) dX10_ahead_35 rfl h (fun h => ?_) (fun h => ?_)
  · refine g_aload_n (pc := 40) C 0 rfl dX10_ahead_40 ?_
    obtain ⟨c6, hc, h⟩ := b1_of h
    refine g_callV (pc := 41) C (w' := cs_X10 J.2.2.1 a0 c4 c5 m_taped m_size m_at m_bad m_badKind m_opens m_faultAt m_tape m_newBed m_newLetter m_newReader m_bed m_letter m_reader m_newBeds m_newLetters m_newReaders m_beds m_letters m_readers m_newCode m_newOf m_code m_ofCode m_stack m_newCodes m_codes m_facts m_newStep m_step m_newSteps m_works m_refusedSteps m_begun m_done m_refusedNow m_now c6 m_past m_newBook m_book m_written m_mostBy m_stuffing m_stuffedMany m_lastBy m_leftBy m_splitBy m_seedNow m_image m_images) (As := []) (st := []) (ci := 10) (q0 := 0) rfl rfl (t_X10_take (a0 := a0) hc) Sub.same kw_1595 kw_1597 kw_46 kw_95 hy_X10_take kw_1598 rfl (Nat.le_of_ble_eq_true rfl) (Nat.le_of_ble_eq_true rfl) (Nat.le_of_ble_eq_true rfl) (Nat.le_of_ble_eq_true rfl) (Nat.le_of_ble_eq_true rfl) dX10_ahead_41 ?_
    refine g_iconst (pc := 44) C dX10_ahead_44 ci_0 ?_
    refine g_istore_n (pc := 45) C [(3, .int 0), (0, .ref (a0 0)), (1, .int n1), (2, .int n2)] dX10_ahead_45 rfl (by decide) rfl ?_
    refine g_lv [1, 2, 3, 0] rfl ?_
    exact j_X10_ahead_46 C E    FU 0 c4 c5 c6 h
  · refine g_iconst (pc := 38) C dX10_ahead_38 ci_0 ?_
    cases h
    exact g_iret C E dX10_ahead_39
set_option maxRecDepth 100000 in
set_option maxHeartbeats 4000000 in
theorem t_X10_ahead {J : Jt} {a0 : Nat → Nat} {m_thrown : Int32} {m_refused : Nat → Int32} {m_taped : Int32} {m_size : Int32} {m_at : Int32} {m_bad : Int32} {m_badKind : Int32} {m_opens : Int32} {m_faultAt : Int32} {m_tape : Nat → Int32} {m_newBed : Nat → Int32} {m_newLetter : Nat → Int32} {m_newReader : Nat → Int32} {m_bed : Nat → Int32} {m_letter : Nat → Int32} {m_reader : Nat → Int32} {m_newBeds : Int32} {m_newLetters : Int32} {m_newReaders : Int32} {m_beds : Int32} {m_letters : Int32} {m_readers : Int32} {m_newCode : Nat → Int32} {m_newOf : Nat → Int32} {m_code : Nat → Int32} {m_ofCode : Nat → Int32} {m_stack : Nat → Int32} {m_newCodes : Int32} {m_codes : Int32} {m_facts : Nat → Int32} {m_newStep : Nat → Int32} {m_step : Nat → Int32} {m_newSteps : Int32} {m_works : Int32} {m_refusedSteps : Int32} {m_begun : Int32} {m_done : Int32} {m_refusedNow : Int32} {m_now : Nat → Int32} {m_s : Nat → Int32} {m_past : Nat → Int32} {m_newBook : Nat → Int32} {m_book : Nat → Int32} {m_written : Int32} {m_mostBy : Nat → Int32} {m_stuffing : Nat → Int32} {m_stuffedMany : Int32} {m_lastBy : Nat → Int32} {m_leftBy : Nat → Int32} {m_splitBy : Nat → Int64} {m_seedNow : Int32} {m_image : Nat → Int32} {m_images : Int32} {n1 : Int32} {n2 : Int32} {r : Int32} {o_m_thrown : Int32} {o_m_refused : Nat → Int32} {o_m_s : Nat → Int32} (h : f_X10_ahead m_thrown m_refused m_beds m_now m_s n1 n2 = some (r, o_m_thrown, o_m_refused, o_m_s)) : Mt J yX10_ahead cX10_ahead 4 (some .int) rm_X10_ahead [.ref (a0 0), .int n1, .int n2] (cs_X10 J.2.2.1 a0 m_thrown m_refused m_taped m_size m_at m_bad m_badKind m_opens m_faultAt m_tape m_newBed m_newLetter m_newReader m_bed m_letter m_reader m_newBeds m_newLetters m_newReaders m_beds m_letters m_readers m_newCode m_newOf m_code m_ofCode m_stack m_newCodes m_codes m_facts m_newStep m_step m_newSteps m_works m_refusedSteps m_begun m_done m_refusedNow m_now m_s m_past m_newBook m_book m_written m_mostBy m_stuffing m_stuffedMany m_lastBy m_leftBy m_splitBy m_seedNow m_image m_images) (some (.int r)) (cs_X10 J.2.2.1 a0 o_m_thrown o_m_refused m_taped m_size m_at m_bad m_badKind m_opens m_faultAt m_tape m_newBed m_newLetter m_newReader m_bed m_letter m_reader m_newBeds m_newLetters m_newReaders m_beds m_letters m_readers m_newCode m_newOf m_code m_ofCode m_stack m_newCodes m_codes m_facts m_newStep m_step m_newSteps m_works m_refusedSteps m_begun m_done m_refusedNow m_now o_m_s m_past m_newBook m_book m_written m_mostBy m_stuffing m_stuffedMany m_lastBy m_leftBy m_splitBy m_seedNow m_image m_images) := by
  refine Mt_of (own := RX10) (by decide) rfl (Nat.le_of_ble_eq_true rfl) rfl (fun Z C E => ?_)
  unfold f_X10_ahead at h
  show G J Z 0 0 (cs_X10 J.2.2.1 a0 m_thrown m_refused m_taped m_size m_at m_bad m_badKind m_opens m_faultAt m_tape m_newBed m_newLetter m_newReader m_bed m_letter m_reader m_newBeds m_newLetters m_newReaders m_beds m_letters m_readers m_newCode m_newOf m_code m_ofCode m_stack m_newCodes m_codes m_facts m_newStep m_step m_newSteps m_works m_refusedSteps m_begun m_done m_refusedNow m_now m_s m_past m_newBook m_book m_written m_mostBy m_stuffing m_stuffedMany m_lastBy m_leftBy m_splitBy m_seedNow m_image m_images) 4 [(0, .ref (a0 0)), (1, .int n1), (2, .int n2)] 0 []
  refine g_aload_n (pc := 0) C 0 rfl dX10_ahead_0 ?_
  refine g_iconst (pc := 1) C dX10_ahead_1 ci_0 ?_
  refine g_put (pc := 2) C (w' := cs_X10 J.2.2.1 a0 0 m_refused m_taped m_size m_at m_bad m_badKind m_opens m_faultAt m_tape m_newBed m_newLetter m_newReader m_bed m_letter m_reader m_newBeds m_newLetters m_newReaders m_beds m_letters m_readers m_newCode m_newOf m_code m_ofCode m_stack m_newCodes m_codes m_facts m_newStep m_step m_newSteps m_works m_refusedSteps m_begun m_done m_refusedNow m_now m_s m_past m_newBook m_book m_written m_mostBy m_stuffing m_stuffedMany m_lastBy m_leftBy m_splitBy m_seedNow m_image m_images) FOK_X10 0 rfl rfl 0 (by decide) kw_1277 rfl rfl rfl (Nat.le_of_ble_eq_true rfl) dX10_ahead_2 rfl ?_
  refine g_aload_n (pc := 5) C 0 rfl dX10_ahead_5 ?_
  refine g_iload_n (pc := 6) C 1 rfl dX10_ahead_6 ?_
  refine g_iconst (pc := 7) C dX10_ahead_7 ci_0 ?_
  refine g_bipush (pc := 8) C dX10_ahead_8 cb_99 ?_
  obtain ⟨v7, hc, h⟩ := b1_of h
  refine g_callS (pc := 10) C (w' := cs_X10 J.2.2.1 a0 0 m_refused m_taped m_size m_at m_bad m_badKind m_opens m_faultAt m_tape m_newBed m_newLetter m_newReader m_bed m_letter m_reader m_newBeds m_newLetters m_newReaders m_beds m_letters m_readers m_newCode m_newOf m_code m_ofCode m_stack m_newCodes m_codes m_facts m_newStep m_step m_newSteps m_works m_refusedSteps m_begun m_done m_refusedNow m_now m_s m_past m_newBook m_book m_written m_mostBy m_stuffing m_stuffedMany m_lastBy m_leftBy m_splitBy m_seedNow m_image m_images) (As := [.int n1, .int 0, .int 99]) (st := [.ref (a0 0)]) (t_X10_within hc) Sub.nil kw_1689 kw_1690 kw_95 hy_X10_within kw_1691 rfl (Nat.le_of_ble_eq_true rfl) (Nat.le_of_ble_eq_true rfl) (Nat.le_of_ble_eq_true rfl) (Nat.le_of_ble_eq_true rfl) (Nat.le_of_ble_eq_true rfl) dX10_ahead_10 ?_
  refine g_if_eq (pc := 13) C (tgt := 29) dX10_ahead_13 rfl h (fun h => ?_) (fun h => ?_)
  · refine g_iconst (pc := 29) C dX10_ahead_29 ci_0 ?_
    exact j_X10_ahead_30 C E    0 0 m_refused m_s h
  · refine g_iload_n (pc := 16) C 2 rfl dX10_ahead_16 ?_
    refine g_iconst (pc := 17) C dX10_ahead_17 ci_0 ?_
    refine g_iconst (pc := 18) C dX10_ahead_18 ci_2 ?_
    obtain ⟨v8, hc, h⟩ := b1_of h
    refine g_callS (pc := 19) C (w' := cs_X10 J.2.2.1 a0 0 m_refused m_taped m_size m_at m_bad m_badKind m_opens m_faultAt m_tape m_newBed m_newLetter m_newReader m_bed m_letter m_reader m_newBeds m_newLetters m_newReaders m_beds m_letters m_readers m_newCode m_newOf m_code m_ofCode m_stack m_newCodes m_codes m_facts m_newStep m_step m_newSteps m_works m_refusedSteps m_begun m_done m_refusedNow m_now m_s m_past m_newBook m_book m_written m_mostBy m_stuffing m_stuffedMany m_lastBy m_leftBy m_splitBy m_seedNow m_image m_images) (As := [.int n2, .int 0, .int 2]) (st := [.ref (a0 0)]) (t_X10_within hc) Sub.nil kw_1689 kw_1690 kw_95 hy_X10_within kw_1691 rfl (Nat.le_of_ble_eq_true rfl) (Nat.le_of_ble_eq_true rfl) (Nat.le_of_ble_eq_true rfl) (Nat.le_of_ble_eq_true rfl) (Nat.le_of_ble_eq_true rfl) dX10_ahead_19 ?_
    refine g_if_eq (pc := 22) C (tgt := 29) dX10_ahead_22 rfl h (fun h => ?_) (fun h => ?_)
    · refine g_iconst (pc := 29) C dX10_ahead_29 ci_0 ?_
      exact j_X10_ahead_30 C E    0 0 m_refused m_s h
    · refine g_iconst (pc := 25) C dX10_ahead_25 ci_1 ?_
      refine g_goto (pc := 26) C (tgt := 30) dX10_ahead_26 rfl ?_
      exact j_X10_ahead_30 C E    1 0 m_refused m_s h
noncomputable def f_X10_rains_57  (m_bed : Nat → Int32) (m_letter : Nat → Int32) (m_beds : Int32) (m_letters : Int32) (m_code : Nat → Int32) (m_ofCode : Nat → Int32) (m_codes : Int32) (m_now : Nat → Int32) (n1 : Int32) (n2 : Int32) (n3 : Int32) : Nat → Int32 → Int32 → (Nat → Int32) → (Nat → Int32) → (Nat → Int32) → (Nat → Int32) → Option (Int32 × Int32 × (Nat → Int32) × (Nat → Int32) × (Nat → Int32) × (Nat → Int32))
  | 0, _, _, _, _, _, _ => none
  | n + 1, x4, m_thrown, m_refused, m_stack, m_facts, m_s => if 40 < x4 then some ((-1), m_thrown, m_refused, m_stack, m_facts, m_s) else b1 (f_X10_wordsIn m_s n1) (fun v1 => if ((v1 >>> (n2 &&& 31)) &&& 1) = 1 then some (x4, m_thrown, m_refused, m_stack, m_facts, m_s) else b3 (f_X10_pours m_bed m_letter m_letters m_code m_ofCode m_stack m_codes m_facts m_s n3) (fun c2 c3 c4 => f_X10_rains_57 m_bed m_letter m_beds m_letters m_code m_ofCode m_codes m_now n1 n2 n3 n (x4 + 1) m_thrown m_refused c2 c3 c4))
noncomputable def f_X10_rains_40  (m_bed : Nat → Int32) (m_letter : Nat → Int32) (m_beds : Int32) (m_letters : Int32) (m_code : Nat → Int32) (m_ofCode : Nat → Int32) (m_codes : Int32) (m_now : Nat → Int32) (n1 : Int32) (n2 : Int32) (n3 : Int32) (y1 : Int32) (m_thrown : Int32) (m_refused : Nat → Int32) (m_stack : Nat → Int32) (m_facts : Nat → Int32) (m_s : Nat → Int32) : Option (Int32 × Int32 × (Nat → Int32) × (Nat → Int32) × (Nat → Int32) × (Nat → Int32)) := b3 (f_X10_may m_thrown m_refused y1 2 1) (fun v5 c6 c7 => if v5 = 0 then some (0, c6, c7, m_stack, m_facts, m_s) else b1 (f_X10_take m_now m_s) (fun c8 => f_X10_rains_57 m_bed m_letter m_beds m_letters m_code m_ofCode m_codes m_now n1 n2 n3 FU 0 c6 c7 m_stack m_facts c8))
noncomputable def f_X10_rains (m_thrown : Int32) (m_refused : Nat → Int32) (m_bed : Nat → Int32) (m_letter : Nat → Int32) (m_beds : Int32) (m_letters : Int32) (m_code : Nat → Int32) (m_ofCode : Nat → Int32) (m_stack : Nat → Int32) (m_codes : Int32) (m_facts : Nat → Int32) (m_now : Nat → Int32) (m_s : Nat → Int32) (n1 : Int32) (n2 : Int32) (n3 : Int32) : Option (Int32 × Int32 × (Nat → Int32) × (Nat → Int32) × (Nat → Int32) × (Nat → Int32)) := b3 (f_X10_isBed 0 m_refused m_beds n1 1) (fun v9 c10 c11 => if v9 = 0 then some (0, c10, c11, m_stack, m_facts, m_s) else b1 (f_X10_within n2 0 15) (fun v12 => if v12 = 0 then f_X10_rains_40 m_bed m_letter m_beds m_letters m_code m_ofCode m_codes m_now n1 n2 n3 0 c10 c11 m_stack m_facts m_s else b1 (f_X10_within n3 1 20) (fun v13 => if v13 = 0 then f_X10_rains_40 m_bed m_letter m_beds m_letters m_code m_ofCode m_codes m_now n1 n2 n3 0 c10 c11 m_stack m_facts m_s else f_X10_rains_40 m_bed m_letter m_beds m_letters m_code m_ofCode m_codes m_now n1 n2 n3 1 c10 c11 m_stack m_facts m_s)))
def rm_X10_rains : Room := { frames := 6, cells := 0, slots := 0, locals := 139 }
set_option maxRecDepth 100000 in
set_option maxHeartbeats 4000000 in
theorem j_X10_rains_57 {J : Jt} {Z : Zt} {a0 : Nat → Nat} {m_taped : Int32} {m_size : Int32} {m_at : Int32} {m_bad : Int32} {m_badKind : Int32} {m_opens : Int32} {m_faultAt : Int32} {m_tape : Nat → Int32} {m_newBed : Nat → Int32} {m_newLetter : Nat → Int32} {m_newReader : Nat → Int32} {m_bed : Nat → Int32} {m_letter : Nat → Int32} {m_reader : Nat → Int32} {m_newBeds : Int32} {m_newLetters : Int32} {m_newReaders : Int32} {m_beds : Int32} {m_letters : Int32} {m_readers : Int32} {m_newCode : Nat → Int32} {m_newOf : Nat → Int32} {m_code : Nat → Int32} {m_ofCode : Nat → Int32} {m_newCodes : Int32} {m_codes : Int32} {m_newStep : Nat → Int32} {m_step : Nat → Int32} {m_newSteps : Int32} {m_works : Int32} {m_refusedSteps : Int32} {m_begun : Int32} {m_done : Int32} {m_refusedNow : Int32} {m_now : Nat → Int32} {m_past : Nat → Int32} {m_newBook : Nat → Int32} {m_book : Nat → Int32} {m_written : Int32} {m_mostBy : Nat → Int32} {m_stuffing : Nat → Int32} {m_stuffedMany : Int32} {m_lastBy : Nat → Int32} {m_leftBy : Nat → Int32} {m_splitBy : Nat → Int64} {m_seedNow : Int32} {m_image : Nat → Int32} {m_images : Int32} {n1 : Int32} {n2 : Int32} {n3 : Int32} {r : Int32} {o_m_thrown : Int32} {o_m_refused : Nat → Int32} {o_m_stack : Nat → Int32} {o_m_facts : Nat → Int32} {o_m_s : Nat → Int32} (C : Cx J Z cX10_rains 5 RX10 (some .int) rm_X10_rains) (E : Ez J Z 0 0 (some (.int r)) (cs_X10 J.2.2.1 a0 o_m_thrown o_m_refused m_taped m_size m_at m_bad m_badKind m_opens m_faultAt m_tape m_newBed m_newLetter m_newReader m_bed m_letter m_reader m_newBeds m_newLetters m_newReaders m_beds m_letters m_readers m_newCode m_newOf m_code m_ofCode o_m_stack m_newCodes m_codes o_m_facts m_newStep m_step m_newSteps m_works m_refusedSteps m_begun m_done m_refusedNow m_now o_m_s m_past m_newBook m_book m_written m_mostBy m_stuffing m_stuffedMany m_lastBy m_leftBy m_splitBy m_seedNow m_image m_images)) : ∀ (n : Nat) (x4 : Int32) (m_thrown : Int32) (m_refused : Nat → Int32) (m_stack : Nat → Int32) (m_facts : Nat → Int32) (m_s : Nat → Int32), f_X10_rains_57 m_bed m_letter m_beds m_letters m_code m_ofCode m_codes m_now n1 n2 n3 n x4 m_thrown m_refused m_stack m_facts m_s = some (r, o_m_thrown, o_m_refused, o_m_stack, o_m_facts, o_m_s) → G J Z 0 0 (cs_X10 J.2.2.1 a0 m_thrown m_refused m_taped m_size m_at m_bad m_badKind m_opens m_faultAt m_tape m_newBed m_newLetter m_newReader m_bed m_letter m_reader m_newBeds m_newLetters m_newReaders m_beds m_letters m_readers m_newCode m_newOf m_code m_ofCode m_stack m_newCodes m_codes m_facts m_newStep m_step m_newSteps m_works m_refusedSteps m_begun m_done m_refusedNow m_now m_s m_past m_newBook m_book m_written m_mostBy m_stuffing m_stuffedMany m_lastBy m_leftBy m_splitBy m_seedNow m_image m_images) 5 [(0, .ref (a0 0)), (1, .int n1), (2, .int n2), (3, .int n3), (4, .int x4)] 57 [] := by
  intro n
  induction n with
  | zero =>
    intro x4 m_thrown m_refused m_stack m_facts m_s h
    rw [f_X10_rains_57] at h
    cases h
  | succ n ih =>
    intro x4 m_thrown m_refused m_stack m_facts m_s h
    rw [f_X10_rains_57] at h
    refine g_iload (pc := 57) C 4 rfl dX10_rains_57 ?_
    refine g_bipush (pc := 59) C dX10_rains_59 cb_40 ?_
    refine g_icmp_gt (pc := 61) C (tgt := 91) dX10_rains_61 rfl h (fun h => ?_) (fun h => ?_)
    · refine g_iconst (pc := 91) C dX10_rains_91 ci_m1 ?_
      cases h
      exact g_iret C E dX10_rains_92
    · refine g_aload_n (pc := 64) C 0 rfl dX10_rains_64 ?_
      refine g_iload_n (pc := 65) C 1 rfl dX10_rains_65 ?_
      obtain ⟨v1, hc, h⟩ := b1_of h
      refine g_callV (pc := 66) C (w' := cs_X10 J.2.2.1 a0 m_thrown m_refused m_taped m_size m_at m_bad m_badKind m_opens m_faultAt m_tape m_newBed m_newLetter m_newReader m_bed m_letter m_reader m_newBeds m_newLetters m_newReaders m_beds m_letters m_readers m_newCode m_newOf m_code m_ofCode m_stack m_newCodes m_codes m_facts m_newStep m_step m_newSteps m_works m_refusedSteps m_begun m_done m_refusedNow m_now m_s m_past m_newBook m_book m_written m_mostBy m_stuffing m_stuffedMany m_lastBy m_leftBy m_splitBy m_seedNow m_image m_images) (As := [.int n1]) (st := []) (ci := 10) (q0 := 0) rfl rfl (t_X10_wordsIn (a0 := a0) hc) Sub.same kw_1631 kw_1633 kw_55 kw_95 hy_X10_wordsIn kw_1634 rfl (Nat.le_of_ble_eq_true rfl) (Nat.le_of_ble_eq_true rfl) (Nat.le_of_ble_eq_true rfl) (Nat.le_of_ble_eq_true rfl) (Nat.le_of_ble_eq_true rfl) dX10_rains_66 ?_
      refine g_iload_n (pc := 69) C 2 rfl dX10_rains_69 ?_
      refine g_ishr (pc := 70) C dX10_rains_70 ?_
      refine g_iconst (pc := 71) C dX10_rains_71 ci_1 ?_
      refine g_iand (pc := 72) C dX10_rains_72 ?_
      refine g_iconst (pc := 73) C dX10_rains_73 ci_1 ?_
      refine g_icmp_ne (pc := 74) C (tgt := 80) dX10_rains_74 rfl h (fun h => ?_) (fun h => ?_)
      · refine g_aload_n (pc := 80) C 0 rfl dX10_rains_80 ?_
        refine g_iload_n (pc := 81) C 3 rfl dX10_rains_81 ?_
        obtain ⟨c2, c3, c4, hc, h⟩ := b3_of h
        refine g_callV (pc := 82) C (w' := cs_X10 J.2.2.1 a0 m_thrown m_refused m_taped m_size m_at m_bad m_badKind m_opens m_faultAt m_tape m_newBed m_newLetter m_newReader m_bed m_letter m_reader m_newBeds m_newLetters m_newReaders m_beds m_letters m_readers m_newCode m_newOf m_code m_ofCode c2 m_newCodes m_codes c3 m_newStep m_step m_newSteps m_works m_refusedSteps m_begun m_done m_refusedNow m_now c4 m_past m_newBook m_book m_written m_mostBy m_stuffing m_stuffedMany m_lastBy m_leftBy m_splitBy m_seedNow m_image m_images) (As := [.int n3]) (st := []) (ci := 10) (q0 := 0) rfl rfl (t_X10_pours (a0 := a0) hc) Sub.same kw_1639 kw_1641 kw_57 kw_95 hy_X10_pours kw_1642 rfl (Nat.le_of_ble_eq_true rfl) (Nat.le_of_ble_eq_true rfl) (Nat.le_of_ble_eq_true rfl) (Nat.le_of_ble_eq_true rfl) (Nat.le_of_ble_eq_true rfl) dX10_rains_82 ?_
        refine g_iinc (pc := 85) C (j := 4) [(4, .int (x4 + 1)), (0, .ref (a0 0)), (1, .int n1), (2, .int n2), (3, .int n3)] dX10_rains_85 rfl (ii_1 _) (by decide) rfl ?_
        refine g_goto (pc := 88) C (tgt := 57) dX10_rains_88 rfl ?_
        refine g_lv [1, 2, 3, 4, 0] rfl ?_
        exact ih (x4 + 1) m_thrown m_refused c2 c3 c4 h
      · refine g_iload (pc := 77) C 4 rfl dX10_rains_77 ?_
        cases h
        exact g_iret C E dX10_rains_79
set_option maxRecDepth 100000 in
set_option maxHeartbeats 4000000 in
theorem j_X10_rains_40 {J : Jt} {Z : Zt} {a0 : Nat → Nat} {m_taped : Int32} {m_size : Int32} {m_at : Int32} {m_bad : Int32} {m_badKind : Int32} {m_opens : Int32} {m_faultAt : Int32} {m_tape : Nat → Int32} {m_newBed : Nat → Int32} {m_newLetter : Nat → Int32} {m_newReader : Nat → Int32} {m_bed : Nat → Int32} {m_letter : Nat → Int32} {m_reader : Nat → Int32} {m_newBeds : Int32} {m_newLetters : Int32} {m_newReaders : Int32} {m_beds : Int32} {m_letters : Int32} {m_readers : Int32} {m_newCode : Nat → Int32} {m_newOf : Nat → Int32} {m_code : Nat → Int32} {m_ofCode : Nat → Int32} {m_newCodes : Int32} {m_codes : Int32} {m_newStep : Nat → Int32} {m_step : Nat → Int32} {m_newSteps : Int32} {m_works : Int32} {m_refusedSteps : Int32} {m_begun : Int32} {m_done : Int32} {m_refusedNow : Int32} {m_now : Nat → Int32} {m_past : Nat → Int32} {m_newBook : Nat → Int32} {m_book : Nat → Int32} {m_written : Int32} {m_mostBy : Nat → Int32} {m_stuffing : Nat → Int32} {m_stuffedMany : Int32} {m_lastBy : Nat → Int32} {m_leftBy : Nat → Int32} {m_splitBy : Nat → Int64} {m_seedNow : Int32} {m_image : Nat → Int32} {m_images : Int32} {n1 : Int32} {n2 : Int32} {n3 : Int32} {r : Int32} {o_m_thrown : Int32} {o_m_refused : Nat → Int32} {o_m_stack : Nat → Int32} {o_m_facts : Nat → Int32} {o_m_s : Nat → Int32} (C : Cx J Z cX10_rains 5 RX10 (some .int) rm_X10_rains) (E : Ez J Z 0 0 (some (.int r)) (cs_X10 J.2.2.1 a0 o_m_thrown o_m_refused m_taped m_size m_at m_bad m_badKind m_opens m_faultAt m_tape m_newBed m_newLetter m_newReader m_bed m_letter m_reader m_newBeds m_newLetters m_newReaders m_beds m_letters m_readers m_newCode m_newOf m_code m_ofCode o_m_stack m_newCodes m_codes o_m_facts m_newStep m_step m_newSteps m_works m_refusedSteps m_begun m_done m_refusedNow m_now o_m_s m_past m_newBook m_book m_written m_mostBy m_stuffing m_stuffedMany m_lastBy m_leftBy m_splitBy m_seedNow m_image m_images)) : ∀ (y1 : Int32) (m_thrown : Int32) (m_refused : Nat → Int32) (m_stack : Nat → Int32) (m_facts : Nat → Int32) (m_s : Nat → Int32), f_X10_rains_40 m_bed m_letter m_beds m_letters m_code m_ofCode m_codes m_now n1 n2 n3 y1 m_thrown m_refused m_stack m_facts m_s = some (r, o_m_thrown, o_m_refused, o_m_stack, o_m_facts, o_m_s) → G J Z 0 0 (cs_X10 J.2.2.1 a0 m_thrown m_refused m_taped m_size m_at m_bad m_badKind m_opens m_faultAt m_tape m_newBed m_newLetter m_newReader m_bed m_letter m_reader m_newBeds m_newLetters m_newReaders m_beds m_letters m_readers m_newCode m_newOf m_code m_ofCode m_stack m_newCodes m_codes m_facts m_newStep m_step m_newSteps m_works m_refusedSteps m_begun m_done m_refusedNow m_now m_s m_past m_newBook m_book m_written m_mostBy m_stuffing m_stuffedMany m_lastBy m_leftBy m_splitBy m_seedNow m_image m_images) 5 [(0, .ref (a0 0)), (1, .int n1), (2, .int n2), (3, .int n3)] 40 [.int y1, .ref (a0 0)] := by
  intro y1 m_thrown m_refused m_stack m_facts m_s h
  unfold f_X10_rains_40 at h
  refine g_iconst (pc := 40) C dX10_rains_40 ci_2 ?_
  refine g_iconst (pc := 41) C dX10_rains_41 ci_1 ?_
  obtain ⟨v5, c6, c7, hc, h⟩ := b3_of h
  refine g_callV (pc := 42) C (w' := cs_X10 J.2.2.1 a0 c6 c7 m_taped m_size m_at m_bad m_badKind m_opens m_faultAt m_tape m_newBed m_newLetter m_newReader m_bed m_letter m_reader m_newBeds m_newLetters m_newReaders m_beds m_letters m_readers m_newCode m_newOf m_code m_ofCode m_stack m_newCodes m_codes m_facts m_newStep m_step m_newSteps m_works m_refusedSteps m_begun m_done m_refusedNow m_now m_s m_past m_newBook m_book m_written m_mostBy m_stuffing m_stuffedMany m_lastBy m_leftBy m_splitBy m_seedNow m_image m_images) (As := [.int y1, .int 2, .int 1]) (st := []) (ci := 10) (q0 := 0) rfl rfl (t_X10_may (a0 := a0) hc) Sub.same kw_1450 kw_1452 kw_20 kw_95 hy_X10_may kw_1453 rfl (Nat.le_of_ble_eq_true rfl) (Nat.le_of_ble_eq_true rfl) (Nat.le_of_ble_eq_true rfl) (Nat.le_of_ble_eq_true rfl) (Nat.le_of_ble_eq_true rfl) dX10_rains_42 ?_
  refine g_if_ne (pc := 45) C (tgt := 50) dX10_rains_45 rfl h (fun h => ?_) (fun h => ?_)
  · refine g_aload_n (pc := 50) C 0 rfl dX10_rains_50 ?_
    obtain ⟨c8, hc, h⟩ := b1_of h
    refine g_callV (pc := 51) C (w' := cs_X10 J.2.2.1 a0 c6 c7 m_taped m_size m_at m_bad m_badKind m_opens m_faultAt m_tape m_newBed m_newLetter m_newReader m_bed m_letter m_reader m_newBeds m_newLetters m_newReaders m_beds m_letters m_readers m_newCode m_newOf m_code m_ofCode m_stack m_newCodes m_codes m_facts m_newStep m_step m_newSteps m_works m_refusedSteps m_begun m_done m_refusedNow m_now c8 m_past m_newBook m_book m_written m_mostBy m_stuffing m_stuffedMany m_lastBy m_leftBy m_splitBy m_seedNow m_image m_images) (As := []) (st := []) (ci := 10) (q0 := 0) rfl rfl (t_X10_take (a0 := a0) hc) Sub.same kw_1595 kw_1597 kw_46 kw_95 hy_X10_take kw_1598 rfl (Nat.le_of_ble_eq_true rfl) (Nat.le_of_ble_eq_true rfl) (Nat.le_of_ble_eq_true rfl) (Nat.le_of_ble_eq_true rfl) (Nat.le_of_ble_eq_true rfl) dX10_rains_51 ?_
    refine g_iconst (pc := 54) C dX10_rains_54 ci_0 ?_
    refine g_istore (pc := 55) C [(4, .int 0), (0, .ref (a0 0)), (1, .int n1), (2, .int n2), (3, .int n3)] dX10_rains_55 (by decide) rfl ?_
    refine g_lv [1, 2, 3, 4, 0] rfl ?_
    exact j_X10_rains_57 C E    FU 0 c6 c7 m_stack m_facts c8 h
  · refine g_iconst (pc := 48) C dX10_rains_48 ci_0 ?_
    cases h
    exact g_iret C E dX10_rains_49
set_option maxRecDepth 100000 in
set_option maxHeartbeats 4000000 in
theorem t_X10_rains {J : Jt} {a0 : Nat → Nat} {m_thrown : Int32} {m_refused : Nat → Int32} {m_taped : Int32} {m_size : Int32} {m_at : Int32} {m_bad : Int32} {m_badKind : Int32} {m_opens : Int32} {m_faultAt : Int32} {m_tape : Nat → Int32} {m_newBed : Nat → Int32} {m_newLetter : Nat → Int32} {m_newReader : Nat → Int32} {m_bed : Nat → Int32} {m_letter : Nat → Int32} {m_reader : Nat → Int32} {m_newBeds : Int32} {m_newLetters : Int32} {m_newReaders : Int32} {m_beds : Int32} {m_letters : Int32} {m_readers : Int32} {m_newCode : Nat → Int32} {m_newOf : Nat → Int32} {m_code : Nat → Int32} {m_ofCode : Nat → Int32} {m_stack : Nat → Int32} {m_newCodes : Int32} {m_codes : Int32} {m_facts : Nat → Int32} {m_newStep : Nat → Int32} {m_step : Nat → Int32} {m_newSteps : Int32} {m_works : Int32} {m_refusedSteps : Int32} {m_begun : Int32} {m_done : Int32} {m_refusedNow : Int32} {m_now : Nat → Int32} {m_s : Nat → Int32} {m_past : Nat → Int32} {m_newBook : Nat → Int32} {m_book : Nat → Int32} {m_written : Int32} {m_mostBy : Nat → Int32} {m_stuffing : Nat → Int32} {m_stuffedMany : Int32} {m_lastBy : Nat → Int32} {m_leftBy : Nat → Int32} {m_splitBy : Nat → Int64} {m_seedNow : Int32} {m_image : Nat → Int32} {m_images : Int32} {n1 : Int32} {n2 : Int32} {n3 : Int32} {r : Int32} {o_m_thrown : Int32} {o_m_refused : Nat → Int32} {o_m_stack : Nat → Int32} {o_m_facts : Nat → Int32} {o_m_s : Nat → Int32} (h : f_X10_rains m_thrown m_refused m_bed m_letter m_beds m_letters m_code m_ofCode m_stack m_codes m_facts m_now m_s n1 n2 n3 = some (r, o_m_thrown, o_m_refused, o_m_stack, o_m_facts, o_m_s)) : Mt J yX10_rains cX10_rains 5 (some .int) rm_X10_rains [.ref (a0 0), .int n1, .int n2, .int n3] (cs_X10 J.2.2.1 a0 m_thrown m_refused m_taped m_size m_at m_bad m_badKind m_opens m_faultAt m_tape m_newBed m_newLetter m_newReader m_bed m_letter m_reader m_newBeds m_newLetters m_newReaders m_beds m_letters m_readers m_newCode m_newOf m_code m_ofCode m_stack m_newCodes m_codes m_facts m_newStep m_step m_newSteps m_works m_refusedSteps m_begun m_done m_refusedNow m_now m_s m_past m_newBook m_book m_written m_mostBy m_stuffing m_stuffedMany m_lastBy m_leftBy m_splitBy m_seedNow m_image m_images) (some (.int r)) (cs_X10 J.2.2.1 a0 o_m_thrown o_m_refused m_taped m_size m_at m_bad m_badKind m_opens m_faultAt m_tape m_newBed m_newLetter m_newReader m_bed m_letter m_reader m_newBeds m_newLetters m_newReaders m_beds m_letters m_readers m_newCode m_newOf m_code m_ofCode o_m_stack m_newCodes m_codes o_m_facts m_newStep m_step m_newSteps m_works m_refusedSteps m_begun m_done m_refusedNow m_now o_m_s m_past m_newBook m_book m_written m_mostBy m_stuffing m_stuffedMany m_lastBy m_leftBy m_splitBy m_seedNow m_image m_images) := by
  refine Mt_of (own := RX10) (by decide) rfl (Nat.le_of_ble_eq_true rfl) rfl (fun Z C E => ?_)
  unfold f_X10_rains at h
  show G J Z 0 0 (cs_X10 J.2.2.1 a0 m_thrown m_refused m_taped m_size m_at m_bad m_badKind m_opens m_faultAt m_tape m_newBed m_newLetter m_newReader m_bed m_letter m_reader m_newBeds m_newLetters m_newReaders m_beds m_letters m_readers m_newCode m_newOf m_code m_ofCode m_stack m_newCodes m_codes m_facts m_newStep m_step m_newSteps m_works m_refusedSteps m_begun m_done m_refusedNow m_now m_s m_past m_newBook m_book m_written m_mostBy m_stuffing m_stuffedMany m_lastBy m_leftBy m_splitBy m_seedNow m_image m_images) 5 [(0, .ref (a0 0)), (1, .int n1), (2, .int n2), (3, .int n3)] 0 []
  refine g_aload_n (pc := 0) C 0 rfl dX10_rains_0 ?_
  refine g_iconst (pc := 1) C dX10_rains_1 ci_0 ?_
  refine g_put (pc := 2) C (w' := cs_X10 J.2.2.1 a0 0 m_refused m_taped m_size m_at m_bad m_badKind m_opens m_faultAt m_tape m_newBed m_newLetter m_newReader m_bed m_letter m_reader m_newBeds m_newLetters m_newReaders m_beds m_letters m_readers m_newCode m_newOf m_code m_ofCode m_stack m_newCodes m_codes m_facts m_newStep m_step m_newSteps m_works m_refusedSteps m_begun m_done m_refusedNow m_now m_s m_past m_newBook m_book m_written m_mostBy m_stuffing m_stuffedMany m_lastBy m_leftBy m_splitBy m_seedNow m_image m_images) FOK_X10 0 rfl rfl 0 (by decide) kw_1277 rfl rfl rfl (Nat.le_of_ble_eq_true rfl) dX10_rains_2 rfl ?_
  refine g_aload_n (pc := 5) C 0 rfl dX10_rains_5 ?_
  refine g_iload_n (pc := 6) C 1 rfl dX10_rains_6 ?_
  refine g_iconst (pc := 7) C dX10_rains_7 ci_1 ?_
  obtain ⟨v9, c10, c11, hc, h⟩ := b3_of h
  refine g_callV (pc := 8) C (w' := cs_X10 J.2.2.1 a0 c10 c11 m_taped m_size m_at m_bad m_badKind m_opens m_faultAt m_tape m_newBed m_newLetter m_newReader m_bed m_letter m_reader m_newBeds m_newLetters m_newReaders m_beds m_letters m_readers m_newCode m_newOf m_code m_ofCode m_stack m_newCodes m_codes m_facts m_newStep m_step m_newSteps m_works m_refusedSteps m_begun m_done m_refusedNow m_now m_s m_past m_newBook m_book m_written m_mostBy m_stuffing m_stuffedMany m_lastBy m_leftBy m_splitBy m_seedNow m_image m_images) (As := [.int n1, .int 1]) (st := []) (ci := 10) (q0 := 0) rfl rfl (t_X10_isBed (a0 := a0) hc) Sub.same kw_1716 kw_1718 kw_68 kw_95 hy_X10_isBed kw_1719 rfl (Nat.le_of_ble_eq_true rfl) (Nat.le_of_ble_eq_true rfl) (Nat.le_of_ble_eq_true rfl) (Nat.le_of_ble_eq_true rfl) (Nat.le_of_ble_eq_true rfl) dX10_rains_8 ?_
  refine g_if_eq (pc := 11) C (tgt := 48) dX10_rains_11 rfl h (fun h => ?_) (fun h => ?_)
  · refine g_iconst (pc := 48) C dX10_rains_48 ci_0 ?_
    cases h
    exact g_iret C E dX10_rains_49
  · refine g_aload_n (pc := 14) C 0 rfl dX10_rains_14 ?_
    refine g_iload_n (pc := 15) C 2 rfl dX10_rains_15 ?_
    refine g_iconst (pc := 16) C dX10_rains_16 ci_0 ?_
    refine g_bipush (pc := 17) C dX10_rains_17 cb_15 ?_
    obtain ⟨v12, hc, h⟩ := b1_of h
    refine g_callS (pc := 19) C (w' := cs_X10 J.2.2.1 a0 c10 c11 m_taped m_size m_at m_bad m_badKind m_opens m_faultAt m_tape m_newBed m_newLetter m_newReader m_bed m_letter m_reader m_newBeds m_newLetters m_newReaders m_beds m_letters m_readers m_newCode m_newOf m_code m_ofCode m_stack m_newCodes m_codes m_facts m_newStep m_step m_newSteps m_works m_refusedSteps m_begun m_done m_refusedNow m_now m_s m_past m_newBook m_book m_written m_mostBy m_stuffing m_stuffedMany m_lastBy m_leftBy m_splitBy m_seedNow m_image m_images) (As := [.int n2, .int 0, .int 15]) (st := [.ref (a0 0)]) (t_X10_within hc) Sub.nil kw_1689 kw_1690 kw_95 hy_X10_within kw_1691 rfl (Nat.le_of_ble_eq_true rfl) (Nat.le_of_ble_eq_true rfl) (Nat.le_of_ble_eq_true rfl) (Nat.le_of_ble_eq_true rfl) (Nat.le_of_ble_eq_true rfl) dX10_rains_19 ?_
    refine g_if_eq (pc := 22) C (tgt := 39) dX10_rains_22 rfl h (fun h => ?_) (fun h => ?_)
    · refine g_iconst (pc := 39) C dX10_rains_39 ci_0 ?_
      exact j_X10_rains_40 C E    0 c10 c11 m_stack m_facts m_s h
    · refine g_iload_n (pc := 25) C 3 rfl dX10_rains_25 ?_
      refine g_iconst (pc := 26) C dX10_rains_26 ci_1 ?_
      refine g_bipush (pc := 27) C dX10_rains_27 cb_20 ?_
      obtain ⟨v13, hc, h⟩ := b1_of h
      refine g_callS (pc := 29) C (w' := cs_X10 J.2.2.1 a0 c10 c11 m_taped m_size m_at m_bad m_badKind m_opens m_faultAt m_tape m_newBed m_newLetter m_newReader m_bed m_letter m_reader m_newBeds m_newLetters m_newReaders m_beds m_letters m_readers m_newCode m_newOf m_code m_ofCode m_stack m_newCodes m_codes m_facts m_newStep m_step m_newSteps m_works m_refusedSteps m_begun m_done m_refusedNow m_now m_s m_past m_newBook m_book m_written m_mostBy m_stuffing m_stuffedMany m_lastBy m_leftBy m_splitBy m_seedNow m_image m_images) (As := [.int n3, .int 1, .int 20]) (st := [.ref (a0 0)]) (t_X10_within hc) Sub.nil kw_1689 kw_1690 kw_95 hy_X10_within kw_1691 rfl (Nat.le_of_ble_eq_true rfl) (Nat.le_of_ble_eq_true rfl) (Nat.le_of_ble_eq_true rfl) (Nat.le_of_ble_eq_true rfl) (Nat.le_of_ble_eq_true rfl) dX10_rains_29 ?_
      refine g_if_eq (pc := 32) C (tgt := 39) dX10_rains_32 rfl h (fun h => ?_) (fun h => ?_)
      · refine g_iconst (pc := 39) C dX10_rains_39 ci_0 ?_
        exact j_X10_rains_40 C E    0 c10 c11 m_stack m_facts m_s h
      · refine g_iconst (pc := 35) C dX10_rains_35 ci_1 ?_
        refine g_goto (pc := 36) C (tgt := 40) dX10_rains_36 rfl ?_
        exact j_X10_rains_40 C E    1 c10 c11 m_stack m_facts m_s h
noncomputable def f_X10_seamOf (m_letter : Nat → Int32) (m_s : Nat → Int32) (n1 : Int32) (n2 : Int32) : Option (Int32) := b1 (f_X10_leftOf m_letter m_s n1) (fun v1 => b1 (f_X10_wordOf m_letter m_s n1 (v1 - 1)) (fun v2 => b1 (f_X10_wordOf m_letter m_s n2 0) (fun v3 => if v2 = v3 then some 1 else some 0)))
def rm_X10_seamOf : Room := { frames := 1, cells := 0, slots := 0, locals := 22 }
set_option maxRecDepth 100000 in
set_option maxHeartbeats 4000000 in
theorem t_X10_seamOf {J : Jt} {a0 : Nat → Nat} {m_thrown : Int32} {m_refused : Nat → Int32} {m_taped : Int32} {m_size : Int32} {m_at : Int32} {m_bad : Int32} {m_badKind : Int32} {m_opens : Int32} {m_faultAt : Int32} {m_tape : Nat → Int32} {m_newBed : Nat → Int32} {m_newLetter : Nat → Int32} {m_newReader : Nat → Int32} {m_bed : Nat → Int32} {m_letter : Nat → Int32} {m_reader : Nat → Int32} {m_newBeds : Int32} {m_newLetters : Int32} {m_newReaders : Int32} {m_beds : Int32} {m_letters : Int32} {m_readers : Int32} {m_newCode : Nat → Int32} {m_newOf : Nat → Int32} {m_code : Nat → Int32} {m_ofCode : Nat → Int32} {m_stack : Nat → Int32} {m_newCodes : Int32} {m_codes : Int32} {m_facts : Nat → Int32} {m_newStep : Nat → Int32} {m_step : Nat → Int32} {m_newSteps : Int32} {m_works : Int32} {m_refusedSteps : Int32} {m_begun : Int32} {m_done : Int32} {m_refusedNow : Int32} {m_now : Nat → Int32} {m_s : Nat → Int32} {m_past : Nat → Int32} {m_newBook : Nat → Int32} {m_book : Nat → Int32} {m_written : Int32} {m_mostBy : Nat → Int32} {m_stuffing : Nat → Int32} {m_stuffedMany : Int32} {m_lastBy : Nat → Int32} {m_leftBy : Nat → Int32} {m_splitBy : Nat → Int64} {m_seedNow : Int32} {m_image : Nat → Int32} {m_images : Int32} {n1 : Int32} {n2 : Int32} {r : Int32} (h : f_X10_seamOf m_letter m_s n1 n2 = some r) : Mt J yX10_seamOf cX10_seamOf 3 (some .int) rm_X10_seamOf [.ref (a0 0), .int n1, .int n2] (cs_X10 J.2.2.1 a0 m_thrown m_refused m_taped m_size m_at m_bad m_badKind m_opens m_faultAt m_tape m_newBed m_newLetter m_newReader m_bed m_letter m_reader m_newBeds m_newLetters m_newReaders m_beds m_letters m_readers m_newCode m_newOf m_code m_ofCode m_stack m_newCodes m_codes m_facts m_newStep m_step m_newSteps m_works m_refusedSteps m_begun m_done m_refusedNow m_now m_s m_past m_newBook m_book m_written m_mostBy m_stuffing m_stuffedMany m_lastBy m_leftBy m_splitBy m_seedNow m_image m_images) (some (.int r)) (cs_X10 J.2.2.1 a0 m_thrown m_refused m_taped m_size m_at m_bad m_badKind m_opens m_faultAt m_tape m_newBed m_newLetter m_newReader m_bed m_letter m_reader m_newBeds m_newLetters m_newReaders m_beds m_letters m_readers m_newCode m_newOf m_code m_ofCode m_stack m_newCodes m_codes m_facts m_newStep m_step m_newSteps m_works m_refusedSteps m_begun m_done m_refusedNow m_now m_s m_past m_newBook m_book m_written m_mostBy m_stuffing m_stuffedMany m_lastBy m_leftBy m_splitBy m_seedNow m_image m_images) := by
  refine Mt_of (own := RX10) (by decide) rfl (Nat.le_of_ble_eq_true rfl) rfl (fun Z C E => ?_)
  unfold f_X10_seamOf at h
  show G J Z 0 0 (cs_X10 J.2.2.1 a0 m_thrown m_refused m_taped m_size m_at m_bad m_badKind m_opens m_faultAt m_tape m_newBed m_newLetter m_newReader m_bed m_letter m_reader m_newBeds m_newLetters m_newReaders m_beds m_letters m_readers m_newCode m_newOf m_code m_ofCode m_stack m_newCodes m_codes m_facts m_newStep m_step m_newSteps m_works m_refusedSteps m_begun m_done m_refusedNow m_now m_s m_past m_newBook m_book m_written m_mostBy m_stuffing m_stuffedMany m_lastBy m_leftBy m_splitBy m_seedNow m_image m_images) 3 [(0, .ref (a0 0)), (1, .int n1), (2, .int n2)] 0 []
  refine g_aload_n (pc := 0) C 0 rfl dX10_seamOf_0 ?_
  refine g_iload_n (pc := 1) C 1 rfl dX10_seamOf_1 ?_
  refine g_aload_n (pc := 2) C 0 rfl dX10_seamOf_2 ?_
  refine g_iload_n (pc := 3) C 1 rfl dX10_seamOf_3 ?_
  obtain ⟨v1, hc, h⟩ := b1_of h
  refine g_callV (pc := 4) C (w' := cs_X10 J.2.2.1 a0 m_thrown m_refused m_taped m_size m_at m_bad m_badKind m_opens m_faultAt m_tape m_newBed m_newLetter m_newReader m_bed m_letter m_reader m_newBeds m_newLetters m_newReaders m_beds m_letters m_readers m_newCode m_newOf m_code m_ofCode m_stack m_newCodes m_codes m_facts m_newStep m_step m_newSteps m_works m_refusedSteps m_begun m_done m_refusedNow m_now m_s m_past m_newBook m_book m_written m_mostBy m_stuffing m_stuffedMany m_lastBy m_leftBy m_splitBy m_seedNow m_image m_images) (As := [.int n1]) (st := [.int n1, .ref (a0 0)]) (ci := 10) (q0 := 0) rfl rfl (t_X10_leftOf (a0 := a0) hc) Sub.same kw_1619 kw_1621 kw_52 kw_95 hy_X10_leftOf kw_1622 rfl (Nat.le_of_ble_eq_true rfl) (Nat.le_of_ble_eq_true rfl) (Nat.le_of_ble_eq_true rfl) (Nat.le_of_ble_eq_true rfl) (Nat.le_of_ble_eq_true rfl) dX10_seamOf_4 ?_
  refine g_iconst (pc := 7) C dX10_seamOf_7 ci_1 ?_
  refine g_isub (pc := 8) C dX10_seamOf_8 ?_
  obtain ⟨v2, hc, h⟩ := b1_of h
  refine g_callV (pc := 9) C (w' := cs_X10 J.2.2.1 a0 m_thrown m_refused m_taped m_size m_at m_bad m_badKind m_opens m_faultAt m_tape m_newBed m_newLetter m_newReader m_bed m_letter m_reader m_newBeds m_newLetters m_newReaders m_beds m_letters m_readers m_newCode m_newOf m_code m_ofCode m_stack m_newCodes m_codes m_facts m_newStep m_step m_newSteps m_works m_refusedSteps m_begun m_done m_refusedNow m_now m_s m_past m_newBook m_book m_written m_mostBy m_stuffing m_stuffedMany m_lastBy m_leftBy m_splitBy m_seedNow m_image m_images) (As := [.int n1, .int (v1 - 1)]) (st := []) (ci := 10) (q0 := 0) rfl rfl (t_X10_wordOf (a0 := a0) hc) Sub.same kw_1623 kw_1625 kw_53 kw_95 hy_X10_wordOf kw_1626 rfl (Nat.le_of_ble_eq_true rfl) (Nat.le_of_ble_eq_true rfl) (Nat.le_of_ble_eq_true rfl) (Nat.le_of_ble_eq_true rfl) (Nat.le_of_ble_eq_true rfl) dX10_seamOf_9 ?_
  refine g_aload_n (pc := 12) C 0 rfl dX10_seamOf_12 ?_
  refine g_iload_n (pc := 13) C 2 rfl dX10_seamOf_13 ?_
  refine g_iconst (pc := 14) C dX10_seamOf_14 ci_0 ?_
  obtain ⟨v3, hc, h⟩ := b1_of h
  refine g_callV (pc := 15) C (w' := cs_X10 J.2.2.1 a0 m_thrown m_refused m_taped m_size m_at m_bad m_badKind m_opens m_faultAt m_tape m_newBed m_newLetter m_newReader m_bed m_letter m_reader m_newBeds m_newLetters m_newReaders m_beds m_letters m_readers m_newCode m_newOf m_code m_ofCode m_stack m_newCodes m_codes m_facts m_newStep m_step m_newSteps m_works m_refusedSteps m_begun m_done m_refusedNow m_now m_s m_past m_newBook m_book m_written m_mostBy m_stuffing m_stuffedMany m_lastBy m_leftBy m_splitBy m_seedNow m_image m_images) (As := [.int n2, .int 0]) (st := [.int v2]) (ci := 10) (q0 := 0) rfl rfl (t_X10_wordOf (a0 := a0) hc) Sub.same kw_1623 kw_1625 kw_53 kw_95 hy_X10_wordOf kw_1626 rfl (Nat.le_of_ble_eq_true rfl) (Nat.le_of_ble_eq_true rfl) (Nat.le_of_ble_eq_true rfl) (Nat.le_of_ble_eq_true rfl) (Nat.le_of_ble_eq_true rfl) dX10_seamOf_15 ?_
  refine g_icmp_ne (pc := 18) C (tgt := 25) dX10_seamOf_18 rfl h (fun h => ?_) (fun h => ?_)
  · refine g_iconst (pc := 25) C dX10_seamOf_25 ci_0 ?_
    cases h
    exact g_iret C E dX10_seamOf_26
  · refine g_iconst (pc := 21) C dX10_seamOf_21 ci_1 ?_
    refine g_goto (pc := 22) C (tgt := 26) dX10_seamOf_22 rfl ?_
    cases h
    exact g_iret C E dX10_seamOf_26
noncomputable def f_X10_someLeft_4  (m_letter : Nat → Int32) (m_letters : Int32) (m_s : Nat → Int32) : Nat → Int32 → Int32 → Option (Int32)
  | 0, _, _ => none
  | n + 1, x1, x2 => if m_letters ≤ x2 then some x1 else b1 (f_X10_leftOf m_letter m_s x2) (fun v1 => if v1 ≤ 0 then f_X10_someLeft_4 m_letter m_letters m_s n (x1 ||| 0) (x2 + 1) else f_X10_someLeft_4 m_letter m_letters m_s n (x1 ||| ((1 : Int32) <<< (x2 &&& 31))) (x2 + 1))
noncomputable def f_X10_someLeft (m_letter : Nat → Int32) (m_letters : Int32) (m_s : Nat → Int32) : Option (Int32) := f_X10_someLeft_4 m_letter m_letters m_s FU 0 0
def rm_X10_someLeft : Room := { frames := 1, cells := 0, slots := 0, locals := 21 }
set_option maxRecDepth 100000 in
set_option maxHeartbeats 4000000 in
theorem j_X10_someLeft_4 {J : Jt} {Z : Zt} {a0 : Nat → Nat} {m_thrown : Int32} {m_refused : Nat → Int32} {m_taped : Int32} {m_size : Int32} {m_at : Int32} {m_bad : Int32} {m_badKind : Int32} {m_opens : Int32} {m_faultAt : Int32} {m_tape : Nat → Int32} {m_newBed : Nat → Int32} {m_newLetter : Nat → Int32} {m_newReader : Nat → Int32} {m_bed : Nat → Int32} {m_letter : Nat → Int32} {m_reader : Nat → Int32} {m_newBeds : Int32} {m_newLetters : Int32} {m_newReaders : Int32} {m_beds : Int32} {m_letters : Int32} {m_readers : Int32} {m_newCode : Nat → Int32} {m_newOf : Nat → Int32} {m_code : Nat → Int32} {m_ofCode : Nat → Int32} {m_stack : Nat → Int32} {m_newCodes : Int32} {m_codes : Int32} {m_facts : Nat → Int32} {m_newStep : Nat → Int32} {m_step : Nat → Int32} {m_newSteps : Int32} {m_works : Int32} {m_refusedSteps : Int32} {m_begun : Int32} {m_done : Int32} {m_refusedNow : Int32} {m_now : Nat → Int32} {m_s : Nat → Int32} {m_past : Nat → Int32} {m_newBook : Nat → Int32} {m_book : Nat → Int32} {m_written : Int32} {m_mostBy : Nat → Int32} {m_stuffing : Nat → Int32} {m_stuffedMany : Int32} {m_lastBy : Nat → Int32} {m_leftBy : Nat → Int32} {m_splitBy : Nat → Int64} {m_seedNow : Int32} {m_image : Nat → Int32} {m_images : Int32} {r : Int32} (C : Cx J Z cX10_someLeft 3 RX10 (some .int) rm_X10_someLeft) (E : Ez J Z 0 0 (some (.int r)) (cs_X10 J.2.2.1 a0 m_thrown m_refused m_taped m_size m_at m_bad m_badKind m_opens m_faultAt m_tape m_newBed m_newLetter m_newReader m_bed m_letter m_reader m_newBeds m_newLetters m_newReaders m_beds m_letters m_readers m_newCode m_newOf m_code m_ofCode m_stack m_newCodes m_codes m_facts m_newStep m_step m_newSteps m_works m_refusedSteps m_begun m_done m_refusedNow m_now m_s m_past m_newBook m_book m_written m_mostBy m_stuffing m_stuffedMany m_lastBy m_leftBy m_splitBy m_seedNow m_image m_images)) : ∀ (n : Nat) (x1 : Int32) (x2 : Int32), f_X10_someLeft_4 m_letter m_letters m_s n x1 x2 = some r → G J Z 0 0 (cs_X10 J.2.2.1 a0 m_thrown m_refused m_taped m_size m_at m_bad m_badKind m_opens m_faultAt m_tape m_newBed m_newLetter m_newReader m_bed m_letter m_reader m_newBeds m_newLetters m_newReaders m_beds m_letters m_readers m_newCode m_newOf m_code m_ofCode m_stack m_newCodes m_codes m_facts m_newStep m_step m_newSteps m_works m_refusedSteps m_begun m_done m_refusedNow m_now m_s m_past m_newBook m_book m_written m_mostBy m_stuffing m_stuffedMany m_lastBy m_leftBy m_splitBy m_seedNow m_image m_images) 3 [(0, .ref (a0 0)), (1, .int x1), (2, .int x2)] 4 [] := by
  intro n
  induction n with
  | zero =>
    intro x1 x2 h
    rw [f_X10_someLeft_4] at h
    cases h
  | succ n ih =>
    intro x1 x2 h
    rw [f_X10_someLeft_4] at h
    refine g_iload_n (pc := 4) C 2 rfl dX10_someLeft_4 ?_
    refine g_aload_n (pc := 5) C 0 rfl dX10_someLeft_5 ?_
    refine g_get (pc := 6) C FOK_X10 0 rfl rfl 20 (by decide) kw_1297 rfl dX10_someLeft_6 ?_
    refine g_icmp_ge (pc := 9) C (tgt := 36) dX10_someLeft_9 rfl h (fun h => ?_) (fun h => ?_)
    · refine g_iload_n (pc := 36) C 1 rfl dX10_someLeft_36 ?_
      cases h
      exact g_iret C E dX10_someLeft_37
    · refine g_iload_n (pc := 12) C 1 rfl dX10_someLeft_12 ?_
      refine g_aload_n (pc := 13) C 0 rfl dX10_someLeft_13 ?_
      refine g_iload_n (pc := 14) C 2 rfl dX10_someLeft_14 ?_
      obtain ⟨v1, hc, h⟩ := b1_of h
      refine g_callV (pc := 15) C (w' := cs_X10 J.2.2.1 a0 m_thrown m_refused m_taped m_size m_at m_bad m_badKind m_opens m_faultAt m_tape m_newBed m_newLetter m_newReader m_bed m_letter m_reader m_newBeds m_newLetters m_newReaders m_beds m_letters m_readers m_newCode m_newOf m_code m_ofCode m_stack m_newCodes m_codes m_facts m_newStep m_step m_newSteps m_works m_refusedSteps m_begun m_done m_refusedNow m_now m_s m_past m_newBook m_book m_written m_mostBy m_stuffing m_stuffedMany m_lastBy m_leftBy m_splitBy m_seedNow m_image m_images) (As := [.int x2]) (st := [.int x1]) (ci := 10) (q0 := 0) rfl rfl (t_X10_leftOf (a0 := a0) hc) Sub.same kw_1619 kw_1621 kw_52 kw_95 hy_X10_leftOf kw_1622 rfl (Nat.le_of_ble_eq_true rfl) (Nat.le_of_ble_eq_true rfl) (Nat.le_of_ble_eq_true rfl) (Nat.le_of_ble_eq_true rfl) (Nat.le_of_ble_eq_true rfl) dX10_someLeft_15 ?_
      refine g_if_le (pc := 18) C (tgt := 27) dX10_someLeft_18 rfl h (fun h => ?_) (fun h => ?_)
      · refine g_iconst (pc := 27) C dX10_someLeft_27 ci_0 ?_
        refine g_ior (pc := 28) C dX10_someLeft_28 ?_
        refine g_istore_n (pc := 29) C [(1, .int (x1 ||| 0)), (0, .ref (a0 0)), (2, .int x2)] dX10_someLeft_29 rfl (by decide) rfl ?_
        refine g_iinc (pc := 30) C (j := 2) [(2, .int (x2 + 1)), (1, .int (x1 ||| 0)), (0, .ref (a0 0))] dX10_someLeft_30 rfl (ii_1 _) (by decide) rfl ?_
        refine g_goto (pc := 33) C (tgt := 4) dX10_someLeft_33 rfl ?_
        refine g_lv [2, 1, 0] rfl ?_
        exact ih (x1 ||| 0) (x2 + 1) h
      · refine g_iconst (pc := 21) C dX10_someLeft_21 ci_1 ?_
        refine g_iload_n (pc := 22) C 2 rfl dX10_someLeft_22 ?_
        refine g_ishl (pc := 23) C dX10_someLeft_23 ?_
        refine g_goto (pc := 24) C (tgt := 28) dX10_someLeft_24 rfl ?_
        refine g_ior (pc := 28) C dX10_someLeft_28 ?_
        refine g_istore_n (pc := 29) C [(1, .int (x1 ||| ((1 : Int32) <<< (x2 &&& 31)))), (0, .ref (a0 0)), (2, .int x2)] dX10_someLeft_29 rfl (by decide) rfl ?_
        refine g_iinc (pc := 30) C (j := 2) [(2, .int (x2 + 1)), (1, .int (x1 ||| ((1 : Int32) <<< (x2 &&& 31)))), (0, .ref (a0 0))] dX10_someLeft_30 rfl (ii_1 _) (by decide) rfl ?_
        refine g_goto (pc := 33) C (tgt := 4) dX10_someLeft_33 rfl ?_
        refine g_lv [2, 1, 0] rfl ?_
        exact ih (x1 ||| ((1 : Int32) <<< (x2 &&& 31))) (x2 + 1) h
set_option maxRecDepth 100000 in
set_option maxHeartbeats 4000000 in
theorem t_X10_someLeft {J : Jt} {a0 : Nat → Nat} {m_thrown : Int32} {m_refused : Nat → Int32} {m_taped : Int32} {m_size : Int32} {m_at : Int32} {m_bad : Int32} {m_badKind : Int32} {m_opens : Int32} {m_faultAt : Int32} {m_tape : Nat → Int32} {m_newBed : Nat → Int32} {m_newLetter : Nat → Int32} {m_newReader : Nat → Int32} {m_bed : Nat → Int32} {m_letter : Nat → Int32} {m_reader : Nat → Int32} {m_newBeds : Int32} {m_newLetters : Int32} {m_newReaders : Int32} {m_beds : Int32} {m_letters : Int32} {m_readers : Int32} {m_newCode : Nat → Int32} {m_newOf : Nat → Int32} {m_code : Nat → Int32} {m_ofCode : Nat → Int32} {m_stack : Nat → Int32} {m_newCodes : Int32} {m_codes : Int32} {m_facts : Nat → Int32} {m_newStep : Nat → Int32} {m_step : Nat → Int32} {m_newSteps : Int32} {m_works : Int32} {m_refusedSteps : Int32} {m_begun : Int32} {m_done : Int32} {m_refusedNow : Int32} {m_now : Nat → Int32} {m_s : Nat → Int32} {m_past : Nat → Int32} {m_newBook : Nat → Int32} {m_book : Nat → Int32} {m_written : Int32} {m_mostBy : Nat → Int32} {m_stuffing : Nat → Int32} {m_stuffedMany : Int32} {m_lastBy : Nat → Int32} {m_leftBy : Nat → Int32} {m_splitBy : Nat → Int64} {m_seedNow : Int32} {m_image : Nat → Int32} {m_images : Int32} {r : Int32} (h : f_X10_someLeft m_letter m_letters m_s = some r) : Mt J yX10_someLeft cX10_someLeft 3 (some .int) rm_X10_someLeft [.ref (a0 0)] (cs_X10 J.2.2.1 a0 m_thrown m_refused m_taped m_size m_at m_bad m_badKind m_opens m_faultAt m_tape m_newBed m_newLetter m_newReader m_bed m_letter m_reader m_newBeds m_newLetters m_newReaders m_beds m_letters m_readers m_newCode m_newOf m_code m_ofCode m_stack m_newCodes m_codes m_facts m_newStep m_step m_newSteps m_works m_refusedSteps m_begun m_done m_refusedNow m_now m_s m_past m_newBook m_book m_written m_mostBy m_stuffing m_stuffedMany m_lastBy m_leftBy m_splitBy m_seedNow m_image m_images) (some (.int r)) (cs_X10 J.2.2.1 a0 m_thrown m_refused m_taped m_size m_at m_bad m_badKind m_opens m_faultAt m_tape m_newBed m_newLetter m_newReader m_bed m_letter m_reader m_newBeds m_newLetters m_newReaders m_beds m_letters m_readers m_newCode m_newOf m_code m_ofCode m_stack m_newCodes m_codes m_facts m_newStep m_step m_newSteps m_works m_refusedSteps m_begun m_done m_refusedNow m_now m_s m_past m_newBook m_book m_written m_mostBy m_stuffing m_stuffedMany m_lastBy m_leftBy m_splitBy m_seedNow m_image m_images) := by
  refine Mt_of (own := RX10) (by decide) rfl (Nat.le_of_ble_eq_true rfl) rfl (fun Z C E => ?_)
  unfold f_X10_someLeft at h
  show G J Z 0 0 (cs_X10 J.2.2.1 a0 m_thrown m_refused m_taped m_size m_at m_bad m_badKind m_opens m_faultAt m_tape m_newBed m_newLetter m_newReader m_bed m_letter m_reader m_newBeds m_newLetters m_newReaders m_beds m_letters m_readers m_newCode m_newOf m_code m_ofCode m_stack m_newCodes m_codes m_facts m_newStep m_step m_newSteps m_works m_refusedSteps m_begun m_done m_refusedNow m_now m_s m_past m_newBook m_book m_written m_mostBy m_stuffing m_stuffedMany m_lastBy m_leftBy m_splitBy m_seedNow m_image m_images) 3 [(0, .ref (a0 0))] 0 []
  refine g_iconst (pc := 0) C dX10_someLeft_0 ci_0 ?_
  refine g_istore_n (pc := 1) C [(1, .int 0), (0, .ref (a0 0))] dX10_someLeft_1 rfl (by decide) rfl ?_
  refine g_iconst (pc := 2) C dX10_someLeft_2 ci_0 ?_
  refine g_istore_n (pc := 3) C [(2, .int 0), (1, .int 0), (0, .ref (a0 0))] dX10_someLeft_3 rfl (by decide) rfl ?_
  refine g_lv [2, 1, 0] rfl ?_
  exact j_X10_someLeft_4 C E    FU 0 0 h
noncomputable def f_X10_laysSeams_256  (m_letter : Nat → Int32) (m_letters : Int32) (m_s : Nat → Int32) (k147 : Int32 → Int32 → Int32 → (Nat → Int32) → (Nat → Int32) → Int32 → Option (Int32 × (Nat → Int32) × (Nat → Int32) × Int32)) (x2 : Int32) (x5 : Int32) (y0 : Int32) (m_mostBy : Nat → Int32) (m_stuffing : Nat → Int32) (m_stuffedMany : Int32) : Option (Int32 × (Nat → Int32) × (Nat → Int32) × Int32) := if ixb m_stuffedMany 6 then k147 (x2 &&& (((1 : Int32) <<< (x5 &&& 31)) ^^^ (-1))) x5 y0 m_mostBy (upd m_stuffing m_stuffedMany.toNatClampNeg x5) (m_stuffedMany + 1) else none
noncomputable def f_X10_laysSeams_197  (m_letter : Nat → Int32) (m_letters : Int32) (m_s : Nat → Int32) (k147 : Int32 → Int32 → Int32 → (Nat → Int32) → (Nat → Int32) → Int32 → Option (Int32 × (Nat → Int32) × (Nat → Int32) × Int32)) (k160 : Int32 → Int32 → Int32 → Int32 → Int32 → Int32 → (Nat → Int32) → (Nat → Int32) → Int32 → Option (Int32 × (Nat → Int32) × (Nat → Int32) × Int32)) (x2 : Int32) (x3 : Int32) (x4 : Int32) (x5 : Int32) (x6 : Int32) (x7 : Int32) (y0 : Int32) (m_mostBy : Nat → Int32) (m_stuffing : Nat → Int32) (m_stuffedMany : Int32) : Option (Int32 × (Nat → Int32) × (Nat → Int32) × Int32) := if ixb ((x7 <<< ((6 : Int32) &&& 31)) ||| (x2 &&& (((1 : Int32) <<< (x7 &&& 31)) ^^^ (-1)))) 384 then if x6 < (y0 + (m_mostBy ((x7 <<< ((6 : Int32) &&& 31)) ||| (x2 &&& (((1 : Int32) <<< (x7 &&& 31)) ^^^ (-1)))).toNatClampNeg)) then k160 x2 x3 x4 x7 (y0 + (m_mostBy ((x7 <<< ((6 : Int32) &&& 31)) ||| (x2 &&& (((1 : Int32) <<< (x7 &&& 31)) ^^^ (-1)))).toNatClampNeg)) (x7 + 1) m_mostBy m_stuffing m_stuffedMany else k160 x2 x3 x4 x5 x6 (x7 + 1) m_mostBy m_stuffing m_stuffedMany else none
noncomputable def f_X10_laysSeams_160  (m_letter : Nat → Int32) (m_letters : Int32) (m_s : Nat → Int32) (k147 : Int32 → Int32 → Int32 → (Nat → Int32) → (Nat → Int32) → Int32 → Option (Int32 × (Nat → Int32) × (Nat → Int32) × Int32)) : Nat → Int32 → Int32 → Int32 → Int32 → Int32 → Int32 → (Nat → Int32) → (Nat → Int32) → Int32 → Option (Int32 × (Nat → Int32) × (Nat → Int32) × Int32)
  | 0, _, _, _, _, _, _, _, _, _ => none
  | n + 1, x2, x3, x4, x5, x6, x7, m_mostBy, m_stuffing, m_stuffedMany => if m_letters ≤ x7 then if x4 = (-1) then f_X10_laysSeams_256 m_letter m_letters m_s k147 x2 x5 x6 m_mostBy m_stuffing m_stuffedMany else f_X10_laysSeams_256 m_letter m_letters m_s k147 x2 x5 x4 m_mostBy m_stuffing m_stuffedMany else if ((x2 >>> (x7 &&& 31)) &&& 1) = 0 then f_X10_laysSeams_160 m_letter m_letters m_s k147 n x2 x3 x4 x5 x6 (x7 + 1) m_mostBy m_stuffing m_stuffedMany else if x3 = (-1) then f_X10_laysSeams_197 m_letter m_letters m_s k147 (f_X10_laysSeams_160 m_letter m_letters m_s k147 n) x2 x3 x4 x5 x6 x7 0 m_mostBy m_stuffing m_stuffedMany else b1 (f_X10_seamOf m_letter m_s x3 x7) (fun v1 => f_X10_laysSeams_197 m_letter m_letters m_s k147 (f_X10_laysSeams_160 m_letter m_letters m_s k147 n) x2 x3 x4 x5 x6 x7 v1 m_mostBy m_stuffing m_stuffedMany)
noncomputable def f_X10_laysSeams_147  (m_letter : Nat → Int32) (m_letters : Int32) (m_s : Nat → Int32) : Nat → Int32 → Int32 → Int32 → (Nat → Int32) → (Nat → Int32) → Int32 → Option (Int32 × (Nat → Int32) × (Nat → Int32) × Int32)
  | 0, _, _, _, _, _, _ => none
  | n + 1, x2, x3, x4, m_mostBy, m_stuffing, m_stuffedMany => if x2 = 0 then if x4 = (-1) then some (0, m_mostBy, m_stuffing, m_stuffedMany) else some (x4, m_mostBy, m_stuffing, m_stuffedMany) else f_X10_laysSeams_160 m_letter m_letters m_s (f_X10_laysSeams_147 m_letter m_letters m_s n) FU x2 x3 x4 (-1) (-1) 0 m_mostBy m_stuffing m_stuffedMany
noncomputable def f_X10_laysSeams_28  (m_letter : Nat → Int32) (m_letters : Int32) (m_s : Nat → Int32) (k7 : Int32 → Int32 → (Nat → Int32) → (Nat → Int32) → Int32 → Option (Int32 × (Nat → Int32) × (Nat → Int32) × Int32)) (k14 : Int32 → Int32 → Int32 → (Nat → Int32) → (Nat → Int32) → Int32 → Option (Int32 × (Nat → Int32) × (Nat → Int32) × Int32)) : Nat → Int32 → Int32 → Int32 → Int32 → Int32 → (Nat → Int32) → (Nat → Int32) → Int32 → Option (Int32 × (Nat → Int32) × (Nat → Int32) × Int32)
  | 0, _, _, _, _, _, _, _, _ => none
  | n + 1, x1, x2, x3, x4, x5, m_mostBy, m_stuffing, m_stuffedMany => if m_letters ≤ x5 then if ixb ((x3 <<< ((6 : Int32) &&& 31)) ||| x2) 384 then k14 x1 x2 (x3 + 1) (upd m_mostBy ((x3 <<< ((6 : Int32) &&& 31)) ||| x2).toNatClampNeg x4) m_stuffing m_stuffedMany else none else if ((x2 &&& x1) &&& ((1 : Int32) <<< (x5 &&& 31))) = 0 then f_X10_laysSeams_28 m_letter m_letters m_s k7 k14 n x1 x2 x3 x4 (x5 + 1) m_mostBy m_stuffing m_stuffedMany else b1 (f_X10_leftOf m_letter m_s x3) (fun v2 => if v2 = 0 then f_X10_laysSeams_28 m_letter m_letters m_s k7 k14 n x1 x2 x3 x4 (x5 + 1) m_mostBy m_stuffing m_stuffedMany else b1 (f_X10_seamOf m_letter m_s x3 x5) (fun v3 => if ixb ((x5 <<< ((6 : Int32) &&& 31)) ||| (x2 &&& (((1 : Int32) <<< (x5 &&& 31)) ^^^ (-1)))) 384 then if (v3 + (m_mostBy ((x5 <<< ((6 : Int32) &&& 31)) ||| (x2 &&& (((1 : Int32) <<< (x5 &&& 31)) ^^^ (-1)))).toNatClampNeg)) ≤ x4 then f_X10_laysSeams_28 m_letter m_letters m_s k7 k14 n x1 x2 x3 x4 (x5 + 1) m_mostBy m_stuffing m_stuffedMany else f_X10_laysSeams_28 m_letter m_letters m_s k7 k14 n x1 x2 x3 (v3 + (m_mostBy ((x5 <<< ((6 : Int32) &&& 31)) ||| (x2 &&& (((1 : Int32) <<< (x5 &&& 31)) ^^^ (-1)))).toNatClampNeg)) (x5 + 1) m_mostBy m_stuffing m_stuffedMany else none))
noncomputable def f_X10_laysSeams_14  (m_letter : Nat → Int32) (m_letters : Int32) (m_s : Nat → Int32) (k7 : Int32 → Int32 → (Nat → Int32) → (Nat → Int32) → Int32 → Option (Int32 × (Nat → Int32) × (Nat → Int32) × Int32)) : Nat → Int32 → Int32 → Int32 → (Nat → Int32) → (Nat → Int32) → Int32 → Option (Int32 × (Nat → Int32) × (Nat → Int32) × Int32)
  | 0, _, _, _, _, _, _ => none
  | n + 1, x1, x2, x3, m_mostBy, m_stuffing, m_stuffedMany => if m_letters ≤ x3 then k7 x1 (x2 + 1) m_mostBy m_stuffing m_stuffedMany else f_X10_laysSeams_28 m_letter m_letters m_s k7 (f_X10_laysSeams_14 m_letter m_letters m_s k7 n) FU x1 x2 x3 0 0 m_mostBy m_stuffing m_stuffedMany
noncomputable def f_X10_laysSeams_7  (m_letter : Nat → Int32) (m_letters : Int32) (m_s : Nat → Int32) : Nat → Int32 → Int32 → (Nat → Int32) → (Nat → Int32) → Int32 → Option (Int32 × (Nat → Int32) × (Nat → Int32) × Int32)
  | 0, _, _, _, _, _ => none
  | n + 1, x1, x2, m_mostBy, m_stuffing, m_stuffedMany => if x1 < x2 then f_X10_laysSeams_147 m_letter m_letters m_s FU x1 (-1) (-1) m_mostBy m_stuffing 0 else f_X10_laysSeams_14 m_letter m_letters m_s (f_X10_laysSeams_7 m_letter m_letters m_s n) FU x1 x2 0 m_mostBy m_stuffing m_stuffedMany
noncomputable def f_X10_laysSeams (m_letter : Nat → Int32) (m_letters : Int32) (m_s : Nat → Int32) (m_mostBy : Nat → Int32) (m_stuffing : Nat → Int32) (m_stuffedMany : Int32) : Option (Int32 × (Nat → Int32) × (Nat → Int32) × Int32) := b1 (f_X10_someLeft m_letter m_letters m_s) (fun v4 => f_X10_laysSeams_7 m_letter m_letters m_s FU v4 0 m_mostBy m_stuffing m_stuffedMany)
def rm_X10_laysSeams : Room := { frames := 2, cells := 0, slots := 0, locals := 44 }
set_option maxRecDepth 100000 in
set_option maxHeartbeats 4000000 in
theorem j_X10_laysSeams_256 {J : Jt} {Z : Zt} {a0 : Nat → Nat} {m_thrown : Int32} {m_refused : Nat → Int32} {m_taped : Int32} {m_size : Int32} {m_at : Int32} {m_bad : Int32} {m_badKind : Int32} {m_opens : Int32} {m_faultAt : Int32} {m_tape : Nat → Int32} {m_newBed : Nat → Int32} {m_newLetter : Nat → Int32} {m_newReader : Nat → Int32} {m_bed : Nat → Int32} {m_letter : Nat → Int32} {m_reader : Nat → Int32} {m_newBeds : Int32} {m_newLetters : Int32} {m_newReaders : Int32} {m_beds : Int32} {m_letters : Int32} {m_readers : Int32} {m_newCode : Nat → Int32} {m_newOf : Nat → Int32} {m_code : Nat → Int32} {m_ofCode : Nat → Int32} {m_stack : Nat → Int32} {m_newCodes : Int32} {m_codes : Int32} {m_facts : Nat → Int32} {m_newStep : Nat → Int32} {m_step : Nat → Int32} {m_newSteps : Int32} {m_works : Int32} {m_refusedSteps : Int32} {m_begun : Int32} {m_done : Int32} {m_refusedNow : Int32} {m_now : Nat → Int32} {m_s : Nat → Int32} {m_past : Nat → Int32} {m_newBook : Nat → Int32} {m_book : Nat → Int32} {m_written : Int32} {m_lastBy : Nat → Int32} {m_leftBy : Nat → Int32} {m_splitBy : Nat → Int64} {m_seedNow : Int32} {m_image : Nat → Int32} {m_images : Int32} {r : Int32} {o_m_mostBy : Nat → Int32} {o_m_stuffing : Nat → Int32} {o_m_stuffedMany : Int32} {k147 : Int32 → Int32 → Int32 → (Nat → Int32) → (Nat → Int32) → Int32 → Option (Int32 × (Nat → Int32) × (Nat → Int32) × Int32)} (C : Cx J Z cX10_laysSeams 9 RX10 (some .int) rm_X10_laysSeams) (E : Ez J Z 0 0 (some (.int r)) (cs_X10 J.2.2.1 a0 m_thrown m_refused m_taped m_size m_at m_bad m_badKind m_opens m_faultAt m_tape m_newBed m_newLetter m_newReader m_bed m_letter m_reader m_newBeds m_newLetters m_newReaders m_beds m_letters m_readers m_newCode m_newOf m_code m_ofCode m_stack m_newCodes m_codes m_facts m_newStep m_step m_newSteps m_works m_refusedSteps m_begun m_done m_refusedNow m_now m_s m_past m_newBook m_book m_written o_m_mostBy o_m_stuffing o_m_stuffedMany m_lastBy m_leftBy m_splitBy m_seedNow m_image m_images)) (hk147 : ∀ (x2 : Int32) (x3 : Int32) (x4 : Int32) (m_mostBy : Nat → Int32) (m_stuffing : Nat → Int32) (m_stuffedMany : Int32), k147 x2 x3 x4 m_mostBy m_stuffing m_stuffedMany = some (r, o_m_mostBy, o_m_stuffing, o_m_stuffedMany) → G J Z 0 0 (cs_X10 J.2.2.1 a0 m_thrown m_refused m_taped m_size m_at m_bad m_badKind m_opens m_faultAt m_tape m_newBed m_newLetter m_newReader m_bed m_letter m_reader m_newBeds m_newLetters m_newReaders m_beds m_letters m_readers m_newCode m_newOf m_code m_ofCode m_stack m_newCodes m_codes m_facts m_newStep m_step m_newSteps m_works m_refusedSteps m_begun m_done m_refusedNow m_now m_s m_past m_newBook m_book m_written m_mostBy m_stuffing m_stuffedMany m_lastBy m_leftBy m_splitBy m_seedNow m_image m_images) 9 [(0, .ref (a0 0)), (2, .int x2), (3, .int x3), (4, .int x4)] 147 []) : ∀ (x2 : Int32) (x5 : Int32) (y0 : Int32) (m_mostBy : Nat → Int32) (m_stuffing : Nat → Int32) (m_stuffedMany : Int32), f_X10_laysSeams_256 m_letter m_letters m_s k147 x2 x5 y0 m_mostBy m_stuffing m_stuffedMany = some (r, o_m_mostBy, o_m_stuffing, o_m_stuffedMany) → G J Z 0 0 (cs_X10 J.2.2.1 a0 m_thrown m_refused m_taped m_size m_at m_bad m_badKind m_opens m_faultAt m_tape m_newBed m_newLetter m_newReader m_bed m_letter m_reader m_newBeds m_newLetters m_newReaders m_beds m_letters m_readers m_newCode m_newOf m_code m_ofCode m_stack m_newCodes m_codes m_facts m_newStep m_step m_newSteps m_works m_refusedSteps m_begun m_done m_refusedNow m_now m_s m_past m_newBook m_book m_written m_mostBy m_stuffing m_stuffedMany m_lastBy m_leftBy m_splitBy m_seedNow m_image m_images) 9 [(0, .ref (a0 0)), (2, .int x2), (5, .int x5)] 256 [.int y0] := by
  intro x2 x5 y0 m_mostBy m_stuffing m_stuffedMany h
  unfold f_X10_laysSeams_256 at h
  refine g_istore (pc := 256) C [(4, .int y0), (0, .ref (a0 0)), (2, .int x2), (5, .int x5)] dX10_laysSeams_256 (by decide) rfl ?_
  refine g_aload_n (pc := 258) C 1 rfl dX10_laysSeams_258 ?_
  refine g_get (pc := 259) C FOK_X10 0 rfl rfl 45 (by decide) kw_1322 rfl dX10_laysSeams_259 ?_
  refine g_aload_n (pc := 262) C 1 rfl dX10_laysSeams_262 ?_
  refine g_get (pc := 263) C FOK_X10 0 rfl rfl 46 (by decide) kw_1323 rfl dX10_laysSeams_263 ?_
  refine g_iload (pc := 266) C 3 rfl dX10_laysSeams_266 ?_
  obtain ⟨hi, h⟩ := ix_of h
  refine g_iast (pc := 268) C (w' := cs_X10 J.2.2.1 a0 m_thrown m_refused m_taped m_size m_at m_bad m_badKind m_opens m_faultAt m_tape m_newBed m_newLetter m_newReader m_bed m_letter m_reader m_newBeds m_newLetters m_newReaders m_beds m_letters m_readers m_newCode m_newOf m_code m_ofCode m_stack m_newCodes m_codes m_facts m_newStep m_step m_newSteps m_works m_refusedSteps m_begun m_done m_refusedNow m_now m_s m_past m_newBook m_book m_written m_mostBy (upd m_stuffing m_stuffedMany.toNatClampNeg x5) m_stuffedMany m_lastBy m_leftBy m_splitBy m_seedNow m_image m_images) 23 rfl hi dX10_laysSeams_268 rfl ?_
  refine g_aload_n (pc := 269) C 1 rfl dX10_laysSeams_269 ?_
  refine g_dup (pc := 270) C dX10_laysSeams_270 rfl ?_
  refine g_get (pc := 271) C FOK_X10 0 rfl rfl 46 (by decide) kw_1323 rfl dX10_laysSeams_271 ?_
  refine g_iconst (pc := 274) C dX10_laysSeams_274 ci_1 ?_
  refine g_iadd (pc := 275) C dX10_laysSeams_275 ?_
  refine g_put (pc := 276) C (w' := cs_X10 J.2.2.1 a0 m_thrown m_refused m_taped m_size m_at m_bad m_badKind m_opens m_faultAt m_tape m_newBed m_newLetter m_newReader m_bed m_letter m_reader m_newBeds m_newLetters m_newReaders m_beds m_letters m_readers m_newCode m_newOf m_code m_ofCode m_stack m_newCodes m_codes m_facts m_newStep m_step m_newSteps m_works m_refusedSteps m_begun m_done m_refusedNow m_now m_s m_past m_newBook m_book m_written m_mostBy (upd m_stuffing m_stuffedMany.toNatClampNeg x5) (m_stuffedMany + 1) m_lastBy m_leftBy m_splitBy m_seedNow m_image m_images) FOK_X10 0 rfl rfl 46 (by decide) kw_1323 rfl rfl rfl (Nat.le_of_ble_eq_true rfl) dX10_laysSeams_276 rfl ?_
  refine g_iload (pc := 279) C 3 rfl dX10_laysSeams_279 ?_
  refine g_istore_n (pc := 281) C [(3, .int x5), (4, .int y0), (0, .ref (a0 0)), (2, .int x2), (5, .int x5)] dX10_laysSeams_281 rfl (by decide) rfl ?_
  refine g_iload_n (pc := 282) C 3 rfl dX10_laysSeams_282 ?_
  refine g_iconst (pc := 283) C dX10_laysSeams_283 ci_1 ?_
  refine g_iload (pc := 284) C 4 rfl dX10_laysSeams_284 ?_
  refine g_ishl (pc := 286) C dX10_laysSeams_286 ?_
  refine g_iconst (pc := 287) C dX10_laysSeams_287 ci_m1 ?_
  refine g_ixor (pc := 288) C dX10_laysSeams_288 ?_
  refine g_iand (pc := 289) C dX10_laysSeams_289 ?_
  refine g_istore_n (pc := 290) C [(2, .int (x2 &&& (((1 : Int32) <<< (x5 &&& 31)) ^^^ (-1)))), (3, .int x5), (4, .int y0), (0, .ref (a0 0)), (5, .int x5)] dX10_laysSeams_290 rfl (by decide) rfl ?_
  refine g_goto (pc := 291) C (tgt := 147) dX10_laysSeams_291 rfl ?_
  refine g_lv [3, 0, 1, 2] rfl ?_
  exact hk147 (x2 &&& (((1 : Int32) <<< (x5 &&& 31)) ^^^ (-1))) x5 y0 m_mostBy (upd m_stuffing m_stuffedMany.toNatClampNeg x5) (m_stuffedMany + 1) h
set_option maxRecDepth 100000 in
set_option maxHeartbeats 4000000 in
theorem j_X10_laysSeams_197 {J : Jt} {Z : Zt} {a0 : Nat → Nat} {m_thrown : Int32} {m_refused : Nat → Int32} {m_taped : Int32} {m_size : Int32} {m_at : Int32} {m_bad : Int32} {m_badKind : Int32} {m_opens : Int32} {m_faultAt : Int32} {m_tape : Nat → Int32} {m_newBed : Nat → Int32} {m_newLetter : Nat → Int32} {m_newReader : Nat → Int32} {m_bed : Nat → Int32} {m_letter : Nat → Int32} {m_reader : Nat → Int32} {m_newBeds : Int32} {m_newLetters : Int32} {m_newReaders : Int32} {m_beds : Int32} {m_letters : Int32} {m_readers : Int32} {m_newCode : Nat → Int32} {m_newOf : Nat → Int32} {m_code : Nat → Int32} {m_ofCode : Nat → Int32} {m_stack : Nat → Int32} {m_newCodes : Int32} {m_codes : Int32} {m_facts : Nat → Int32} {m_newStep : Nat → Int32} {m_step : Nat → Int32} {m_newSteps : Int32} {m_works : Int32} {m_refusedSteps : Int32} {m_begun : Int32} {m_done : Int32} {m_refusedNow : Int32} {m_now : Nat → Int32} {m_s : Nat → Int32} {m_past : Nat → Int32} {m_newBook : Nat → Int32} {m_book : Nat → Int32} {m_written : Int32} {m_lastBy : Nat → Int32} {m_leftBy : Nat → Int32} {m_splitBy : Nat → Int64} {m_seedNow : Int32} {m_image : Nat → Int32} {m_images : Int32} {r : Int32} {o_m_mostBy : Nat → Int32} {o_m_stuffing : Nat → Int32} {o_m_stuffedMany : Int32} {k147 : Int32 → Int32 → Int32 → (Nat → Int32) → (Nat → Int32) → Int32 → Option (Int32 × (Nat → Int32) × (Nat → Int32) × Int32)} {k160 : Int32 → Int32 → Int32 → Int32 → Int32 → Int32 → (Nat → Int32) → (Nat → Int32) → Int32 → Option (Int32 × (Nat → Int32) × (Nat → Int32) × Int32)} (C : Cx J Z cX10_laysSeams 9 RX10 (some .int) rm_X10_laysSeams) (E : Ez J Z 0 0 (some (.int r)) (cs_X10 J.2.2.1 a0 m_thrown m_refused m_taped m_size m_at m_bad m_badKind m_opens m_faultAt m_tape m_newBed m_newLetter m_newReader m_bed m_letter m_reader m_newBeds m_newLetters m_newReaders m_beds m_letters m_readers m_newCode m_newOf m_code m_ofCode m_stack m_newCodes m_codes m_facts m_newStep m_step m_newSteps m_works m_refusedSteps m_begun m_done m_refusedNow m_now m_s m_past m_newBook m_book m_written o_m_mostBy o_m_stuffing o_m_stuffedMany m_lastBy m_leftBy m_splitBy m_seedNow m_image m_images)) (hk147 : ∀ (x2 : Int32) (x3 : Int32) (x4 : Int32) (m_mostBy : Nat → Int32) (m_stuffing : Nat → Int32) (m_stuffedMany : Int32), k147 x2 x3 x4 m_mostBy m_stuffing m_stuffedMany = some (r, o_m_mostBy, o_m_stuffing, o_m_stuffedMany) → G J Z 0 0 (cs_X10 J.2.2.1 a0 m_thrown m_refused m_taped m_size m_at m_bad m_badKind m_opens m_faultAt m_tape m_newBed m_newLetter m_newReader m_bed m_letter m_reader m_newBeds m_newLetters m_newReaders m_beds m_letters m_readers m_newCode m_newOf m_code m_ofCode m_stack m_newCodes m_codes m_facts m_newStep m_step m_newSteps m_works m_refusedSteps m_begun m_done m_refusedNow m_now m_s m_past m_newBook m_book m_written m_mostBy m_stuffing m_stuffedMany m_lastBy m_leftBy m_splitBy m_seedNow m_image m_images) 9 [(0, .ref (a0 0)), (2, .int x2), (3, .int x3), (4, .int x4)] 147 []) (hk160 : ∀ (x2 : Int32) (x3 : Int32) (x4 : Int32) (x5 : Int32) (x6 : Int32) (x7 : Int32) (m_mostBy : Nat → Int32) (m_stuffing : Nat → Int32) (m_stuffedMany : Int32), k160 x2 x3 x4 x5 x6 x7 m_mostBy m_stuffing m_stuffedMany = some (r, o_m_mostBy, o_m_stuffing, o_m_stuffedMany) → G J Z 0 0 (cs_X10 J.2.2.1 a0 m_thrown m_refused m_taped m_size m_at m_bad m_badKind m_opens m_faultAt m_tape m_newBed m_newLetter m_newReader m_bed m_letter m_reader m_newBeds m_newLetters m_newReaders m_beds m_letters m_readers m_newCode m_newOf m_code m_ofCode m_stack m_newCodes m_codes m_facts m_newStep m_step m_newSteps m_works m_refusedSteps m_begun m_done m_refusedNow m_now m_s m_past m_newBook m_book m_written m_mostBy m_stuffing m_stuffedMany m_lastBy m_leftBy m_splitBy m_seedNow m_image m_images) 9 [(0, .ref (a0 0)), (2, .int x2), (3, .int x3), (4, .int x4), (5, .int x5), (6, .int x6), (7, .int x7)] 160 []) : ∀ (x2 : Int32) (x3 : Int32) (x4 : Int32) (x5 : Int32) (x6 : Int32) (x7 : Int32) (y0 : Int32) (m_mostBy : Nat → Int32) (m_stuffing : Nat → Int32) (m_stuffedMany : Int32), f_X10_laysSeams_197 m_letter m_letters m_s k147 k160 x2 x3 x4 x5 x6 x7 y0 m_mostBy m_stuffing m_stuffedMany = some (r, o_m_mostBy, o_m_stuffing, o_m_stuffedMany) → G J Z 0 0 (cs_X10 J.2.2.1 a0 m_thrown m_refused m_taped m_size m_at m_bad m_badKind m_opens m_faultAt m_tape m_newBed m_newLetter m_newReader m_bed m_letter m_reader m_newBeds m_newLetters m_newReaders m_beds m_letters m_readers m_newCode m_newOf m_code m_ofCode m_stack m_newCodes m_codes m_facts m_newStep m_step m_newSteps m_works m_refusedSteps m_begun m_done m_refusedNow m_now m_s m_past m_newBook m_book m_written m_mostBy m_stuffing m_stuffedMany m_lastBy m_leftBy m_splitBy m_seedNow m_image m_images) 9 [(0, .ref (a0 0)), (2, .int x2), (3, .int x3), (4, .int x4), (5, .int x5), (6, .int x6), (7, .int x7)] 197 [.int y0] := by
  intro x2 x3 x4 x5 x6 x7 y0 m_mostBy m_stuffing m_stuffedMany h
  unfold f_X10_laysSeams_197 at h
  refine g_aload_n (pc := 197) C 0 rfl dX10_laysSeams_197 ?_
  refine g_get (pc := 198) C FOK_X10 0 rfl rfl 44 (by decide) kw_1321 rfl dX10_laysSeams_198 ?_
  refine g_iload (pc := 201) C 6 rfl dX10_laysSeams_201 ?_
  refine g_bipush (pc := 203) C dX10_laysSeams_203 cb_6 ?_
  refine g_ishl (pc := 205) C dX10_laysSeams_205 ?_
  refine g_iload_n (pc := 206) C 1 rfl dX10_laysSeams_206 ?_
  refine g_iconst (pc := 207) C dX10_laysSeams_207 ci_1 ?_
  refine g_iload (pc := 208) C 6 rfl dX10_laysSeams_208 ?_
  refine g_ishl (pc := 210) C dX10_laysSeams_210 ?_
  refine g_iconst (pc := 211) C dX10_laysSeams_211 ci_m1 ?_
  refine g_ixor (pc := 212) C dX10_laysSeams_212 ?_
  refine g_iand (pc := 213) C dX10_laysSeams_213 ?_
  refine g_ior (pc := 214) C dX10_laysSeams_214 ?_
  obtain ⟨hi, h⟩ := ix_of h
  refine g_iald (pc := 215) C 22 rfl hi dX10_laysSeams_215 ?_
  refine g_iadd (pc := 216) C dX10_laysSeams_216 ?_
  refine g_istore (pc := 217) C [(8, .int (y0 + (m_mostBy ((x7 <<< ((6 : Int32) &&& 31)) ||| (x2 &&& (((1 : Int32) <<< (x7 &&& 31)) ^^^ (-1)))).toNatClampNeg))), (0, .ref (a0 0)), (2, .int x2), (3, .int x3), (4, .int x4), (5, .int x5), (6, .int x6), (7, .int x7)] dX10_laysSeams_217 (by decide) rfl ?_
  refine g_iload (pc := 219) C 0 rfl dX10_laysSeams_219 ?_
  refine g_iload (pc := 221) C 6 rfl dX10_laysSeams_221 ?_
  refine g_icmp_gt (pc := 223) C (tgt := 229) dX10_laysSeams_223 rfl h (fun h => ?_) (fun h => ?_)
  · refine g_iload (pc := 229) C 7 rfl dX10_laysSeams_229 ?_
    refine g_istore (pc := 231) C [(5, .int x7), (8, .int (y0 + (m_mostBy ((x7 <<< ((6 : Int32) &&& 31)) ||| (x2 &&& (((1 : Int32) <<< (x7 &&& 31)) ^^^ (-1)))).toNatClampNeg))), (0, .ref (a0 0)), (2, .int x2), (3, .int x3), (4, .int x4), (6, .int x6), (7, .int x7)] dX10_laysSeams_231 (by decide) rfl ?_
    refine g_iload (pc := 233) C 1 rfl dX10_laysSeams_233 ?_
    refine g_istore (pc := 235) C [(6, .int (y0 + (m_mostBy ((x7 <<< ((6 : Int32) &&& 31)) ||| (x2 &&& (((1 : Int32) <<< (x7 &&& 31)) ^^^ (-1)))).toNatClampNeg))), (5, .int x7), (8, .int (y0 + (m_mostBy ((x7 <<< ((6 : Int32) &&& 31)) ||| (x2 &&& (((1 : Int32) <<< (x7 &&& 31)) ^^^ (-1)))).toNatClampNeg))), (0, .ref (a0 0)), (2, .int x2), (3, .int x3), (4, .int x4), (7, .int x7)] dX10_laysSeams_235 (by decide) rfl ?_
    refine g_iinc (pc := 237) C (j := 7) [(7, .int (x7 + 1)), (6, .int (y0 + (m_mostBy ((x7 <<< ((6 : Int32) &&& 31)) ||| (x2 &&& (((1 : Int32) <<< (x7 &&& 31)) ^^^ (-1)))).toNatClampNeg))), (5, .int x7), (8, .int (y0 + (m_mostBy ((x7 <<< ((6 : Int32) &&& 31)) ||| (x2 &&& (((1 : Int32) <<< (x7 &&& 31)) ^^^ (-1)))).toNatClampNeg))), (0, .ref (a0 0)), (2, .int x2), (3, .int x3), (4, .int x4)] dX10_laysSeams_237 rfl (ii_1 _) (by decide) rfl ?_
    refine g_goto (pc := 240) C (tgt := 160) dX10_laysSeams_240 rfl ?_
    refine g_lv [4, 5, 6, 7, 2, 1, 0] rfl ?_
    exact hk160 x2 x3 x4 x7 (y0 + (m_mostBy ((x7 <<< ((6 : Int32) &&& 31)) ||| (x2 &&& (((1 : Int32) <<< (x7 &&& 31)) ^^^ (-1)))).toNatClampNeg)) (x7 + 1) m_mostBy m_stuffing m_stuffedMany h
  · refine g_goto (pc := 226) C (tgt := 237) dX10_laysSeams_226 rfl ?_
    refine g_iinc (pc := 237) C (j := 7) [(7, .int (x7 + 1)), (8, .int (y0 + (m_mostBy ((x7 <<< ((6 : Int32) &&& 31)) ||| (x2 &&& (((1 : Int32) <<< (x7 &&& 31)) ^^^ (-1)))).toNatClampNeg))), (0, .ref (a0 0)), (2, .int x2), (3, .int x3), (4, .int x4), (5, .int x5), (6, .int x6)] dX10_laysSeams_237 rfl (ii_1 _) (by decide) rfl ?_
    refine g_goto (pc := 240) C (tgt := 160) dX10_laysSeams_240 rfl ?_
    refine g_lv [2, 3, 4, 5, 6, 7, 0] rfl ?_
    exact hk160 x2 x3 x4 x5 x6 (x7 + 1) m_mostBy m_stuffing m_stuffedMany h
set_option maxRecDepth 100000 in
set_option maxHeartbeats 4000000 in
theorem j_X10_laysSeams_160 {J : Jt} {Z : Zt} {a0 : Nat → Nat} {m_thrown : Int32} {m_refused : Nat → Int32} {m_taped : Int32} {m_size : Int32} {m_at : Int32} {m_bad : Int32} {m_badKind : Int32} {m_opens : Int32} {m_faultAt : Int32} {m_tape : Nat → Int32} {m_newBed : Nat → Int32} {m_newLetter : Nat → Int32} {m_newReader : Nat → Int32} {m_bed : Nat → Int32} {m_letter : Nat → Int32} {m_reader : Nat → Int32} {m_newBeds : Int32} {m_newLetters : Int32} {m_newReaders : Int32} {m_beds : Int32} {m_letters : Int32} {m_readers : Int32} {m_newCode : Nat → Int32} {m_newOf : Nat → Int32} {m_code : Nat → Int32} {m_ofCode : Nat → Int32} {m_stack : Nat → Int32} {m_newCodes : Int32} {m_codes : Int32} {m_facts : Nat → Int32} {m_newStep : Nat → Int32} {m_step : Nat → Int32} {m_newSteps : Int32} {m_works : Int32} {m_refusedSteps : Int32} {m_begun : Int32} {m_done : Int32} {m_refusedNow : Int32} {m_now : Nat → Int32} {m_s : Nat → Int32} {m_past : Nat → Int32} {m_newBook : Nat → Int32} {m_book : Nat → Int32} {m_written : Int32} {m_lastBy : Nat → Int32} {m_leftBy : Nat → Int32} {m_splitBy : Nat → Int64} {m_seedNow : Int32} {m_image : Nat → Int32} {m_images : Int32} {r : Int32} {o_m_mostBy : Nat → Int32} {o_m_stuffing : Nat → Int32} {o_m_stuffedMany : Int32} {k147 : Int32 → Int32 → Int32 → (Nat → Int32) → (Nat → Int32) → Int32 → Option (Int32 × (Nat → Int32) × (Nat → Int32) × Int32)} (C : Cx J Z cX10_laysSeams 9 RX10 (some .int) rm_X10_laysSeams) (E : Ez J Z 0 0 (some (.int r)) (cs_X10 J.2.2.1 a0 m_thrown m_refused m_taped m_size m_at m_bad m_badKind m_opens m_faultAt m_tape m_newBed m_newLetter m_newReader m_bed m_letter m_reader m_newBeds m_newLetters m_newReaders m_beds m_letters m_readers m_newCode m_newOf m_code m_ofCode m_stack m_newCodes m_codes m_facts m_newStep m_step m_newSteps m_works m_refusedSteps m_begun m_done m_refusedNow m_now m_s m_past m_newBook m_book m_written o_m_mostBy o_m_stuffing o_m_stuffedMany m_lastBy m_leftBy m_splitBy m_seedNow m_image m_images)) (hk147 : ∀ (x2 : Int32) (x3 : Int32) (x4 : Int32) (m_mostBy : Nat → Int32) (m_stuffing : Nat → Int32) (m_stuffedMany : Int32), k147 x2 x3 x4 m_mostBy m_stuffing m_stuffedMany = some (r, o_m_mostBy, o_m_stuffing, o_m_stuffedMany) → G J Z 0 0 (cs_X10 J.2.2.1 a0 m_thrown m_refused m_taped m_size m_at m_bad m_badKind m_opens m_faultAt m_tape m_newBed m_newLetter m_newReader m_bed m_letter m_reader m_newBeds m_newLetters m_newReaders m_beds m_letters m_readers m_newCode m_newOf m_code m_ofCode m_stack m_newCodes m_codes m_facts m_newStep m_step m_newSteps m_works m_refusedSteps m_begun m_done m_refusedNow m_now m_s m_past m_newBook m_book m_written m_mostBy m_stuffing m_stuffedMany m_lastBy m_leftBy m_splitBy m_seedNow m_image m_images) 9 [(0, .ref (a0 0)), (2, .int x2), (3, .int x3), (4, .int x4)] 147 []) : ∀ (n : Nat) (x2 : Int32) (x3 : Int32) (x4 : Int32) (x5 : Int32) (x6 : Int32) (x7 : Int32) (m_mostBy : Nat → Int32) (m_stuffing : Nat → Int32) (m_stuffedMany : Int32), f_X10_laysSeams_160 m_letter m_letters m_s k147 n x2 x3 x4 x5 x6 x7 m_mostBy m_stuffing m_stuffedMany = some (r, o_m_mostBy, o_m_stuffing, o_m_stuffedMany) → G J Z 0 0 (cs_X10 J.2.2.1 a0 m_thrown m_refused m_taped m_size m_at m_bad m_badKind m_opens m_faultAt m_tape m_newBed m_newLetter m_newReader m_bed m_letter m_reader m_newBeds m_newLetters m_newReaders m_beds m_letters m_readers m_newCode m_newOf m_code m_ofCode m_stack m_newCodes m_codes m_facts m_newStep m_step m_newSteps m_works m_refusedSteps m_begun m_done m_refusedNow m_now m_s m_past m_newBook m_book m_written m_mostBy m_stuffing m_stuffedMany m_lastBy m_leftBy m_splitBy m_seedNow m_image m_images) 9 [(0, .ref (a0 0)), (2, .int x2), (3, .int x3), (4, .int x4), (5, .int x5), (6, .int x6), (7, .int x7)] 160 [] := by
  intro n
  induction n with
  | zero =>
    intro x2 x3 x4 x5 x6 x7 m_mostBy m_stuffing m_stuffedMany h
    rw [f_X10_laysSeams_160] at h
    cases h
  | succ n ih =>
    intro x2 x3 x4 x5 x6 x7 m_mostBy m_stuffing m_stuffedMany h
    rw [f_X10_laysSeams_160] at h
    refine g_iload (pc := 160) C 6 rfl dX10_laysSeams_160 ?_
    refine g_aload_n (pc := 162) C 0 rfl dX10_laysSeams_162 ?_
    refine g_get (pc := 163) C FOK_X10 0 rfl rfl 20 (by decide) kw_1297 rfl dX10_laysSeams_163 ?_
    refine g_icmp_ge (pc := 166) C (tgt := 243) dX10_laysSeams_166 rfl h (fun h => ?_) (fun h => ?_)
    · refine g_iload (pc := 243) C 3 rfl dX10_laysSeams_243 ?_
      refine g_iconst (pc := 245) C dX10_laysSeams_245 ci_m1 ?_
      refine g_icmp_ne (pc := 246) C (tgt := 254) dX10_laysSeams_246 rfl h (fun h => ?_) (fun h => ?_)
      · refine g_iload (pc := 254) C 3 rfl dX10_laysSeams_254 ?_
        refine g_lv [0, 1, 4] rfl ?_
        exact j_X10_laysSeams_256 C E   hk147 x2 x5 x4 m_mostBy m_stuffing m_stuffedMany h
      · refine g_iload (pc := 249) C 5 rfl dX10_laysSeams_249 ?_
        refine g_goto (pc := 251) C (tgt := 256) dX10_laysSeams_251 rfl ?_
        refine g_lv [0, 1, 4] rfl ?_
        exact j_X10_laysSeams_256 C E   hk147 x2 x5 x6 m_mostBy m_stuffing m_stuffedMany h
    · refine g_iload_n (pc := 169) C 1 rfl dX10_laysSeams_169 ?_
      refine g_iload (pc := 170) C 6 rfl dX10_laysSeams_170 ?_
      refine g_ishr (pc := 172) C dX10_laysSeams_172 ?_
      refine g_iconst (pc := 173) C dX10_laysSeams_173 ci_1 ?_
      refine g_iand (pc := 174) C dX10_laysSeams_174 ?_
      refine g_if_ne (pc := 175) C (tgt := 181) dX10_laysSeams_175 rfl h (fun h => ?_) (fun h => ?_)
      · refine g_iload_n (pc := 181) C 2 rfl dX10_laysSeams_181 ?_
        refine g_iconst (pc := 182) C dX10_laysSeams_182 ci_m1 ?_
        refine g_icmp_ne (pc := 183) C (tgt := 190) dX10_laysSeams_183 rfl h (fun h => ?_) (fun h => ?_)
        · refine g_aload_n (pc := 190) C 0 rfl dX10_laysSeams_190 ?_
          refine g_iload_n (pc := 191) C 2 rfl dX10_laysSeams_191 ?_
          refine g_iload (pc := 192) C 6 rfl dX10_laysSeams_192 ?_
          obtain ⟨v1, hc, h⟩ := b1_of h
          refine g_callV (pc := 194) C (w' := cs_X10 J.2.2.1 a0 m_thrown m_refused m_taped m_size m_at m_bad m_badKind m_opens m_faultAt m_tape m_newBed m_newLetter m_newReader m_bed m_letter m_reader m_newBeds m_newLetters m_newReaders m_beds m_letters m_readers m_newCode m_newOf m_code m_ofCode m_stack m_newCodes m_codes m_facts m_newStep m_step m_newSteps m_works m_refusedSteps m_begun m_done m_refusedNow m_now m_s m_past m_newBook m_book m_written m_mostBy m_stuffing m_stuffedMany m_lastBy m_leftBy m_splitBy m_seedNow m_image m_images) (As := [.int x3, .int x7]) (st := []) (ci := 10) (q0 := 0) rfl rfl (t_X10_seamOf (a0 := a0) hc) Sub.same kw_1768 kw_1770 kw_73 kw_95 hy_X10_seamOf kw_1771 rfl (Nat.le_of_ble_eq_true rfl) (Nat.le_of_ble_eq_true rfl) (Nat.le_of_ble_eq_true rfl) (Nat.le_of_ble_eq_true rfl) (Nat.le_of_ble_eq_true rfl) dX10_laysSeams_194 ?_
          exact j_X10_laysSeams_197 C E   hk147 ih x2 x3 x4 x5 x6 x7 v1 m_mostBy m_stuffing m_stuffedMany h
        · refine g_iconst (pc := 186) C dX10_laysSeams_186 ci_0 ?_
          refine g_goto (pc := 187) C (tgt := 197) dX10_laysSeams_187 rfl ?_
          exact j_X10_laysSeams_197 C E   hk147 ih x2 x3 x4 x5 x6 x7 0 m_mostBy m_stuffing m_stuffedMany h
      · refine g_goto (pc := 178) C (tgt := 237) dX10_laysSeams_178 rfl ?_
        refine g_iinc (pc := 237) C (j := 6) [(7, .int (x7 + 1)), (0, .ref (a0 0)), (2, .int x2), (3, .int x3), (4, .int x4), (5, .int x5), (6, .int x6)] dX10_laysSeams_237 rfl (ii_1 _) (by decide) rfl ?_
        refine g_goto (pc := 240) C (tgt := 160) dX10_laysSeams_240 rfl ?_
        refine g_lv [1, 2, 3, 4, 5, 6, 0] rfl ?_
        exact ih x2 x3 x4 x5 x6 (x7 + 1) m_mostBy m_stuffing m_stuffedMany h
set_option maxRecDepth 100000 in
set_option maxHeartbeats 4000000 in
theorem j_X10_laysSeams_147 {J : Jt} {Z : Zt} {a0 : Nat → Nat} {m_thrown : Int32} {m_refused : Nat → Int32} {m_taped : Int32} {m_size : Int32} {m_at : Int32} {m_bad : Int32} {m_badKind : Int32} {m_opens : Int32} {m_faultAt : Int32} {m_tape : Nat → Int32} {m_newBed : Nat → Int32} {m_newLetter : Nat → Int32} {m_newReader : Nat → Int32} {m_bed : Nat → Int32} {m_letter : Nat → Int32} {m_reader : Nat → Int32} {m_newBeds : Int32} {m_newLetters : Int32} {m_newReaders : Int32} {m_beds : Int32} {m_letters : Int32} {m_readers : Int32} {m_newCode : Nat → Int32} {m_newOf : Nat → Int32} {m_code : Nat → Int32} {m_ofCode : Nat → Int32} {m_stack : Nat → Int32} {m_newCodes : Int32} {m_codes : Int32} {m_facts : Nat → Int32} {m_newStep : Nat → Int32} {m_step : Nat → Int32} {m_newSteps : Int32} {m_works : Int32} {m_refusedSteps : Int32} {m_begun : Int32} {m_done : Int32} {m_refusedNow : Int32} {m_now : Nat → Int32} {m_s : Nat → Int32} {m_past : Nat → Int32} {m_newBook : Nat → Int32} {m_book : Nat → Int32} {m_written : Int32} {m_lastBy : Nat → Int32} {m_leftBy : Nat → Int32} {m_splitBy : Nat → Int64} {m_seedNow : Int32} {m_image : Nat → Int32} {m_images : Int32} {r : Int32} {o_m_mostBy : Nat → Int32} {o_m_stuffing : Nat → Int32} {o_m_stuffedMany : Int32} (C : Cx J Z cX10_laysSeams 9 RX10 (some .int) rm_X10_laysSeams) (E : Ez J Z 0 0 (some (.int r)) (cs_X10 J.2.2.1 a0 m_thrown m_refused m_taped m_size m_at m_bad m_badKind m_opens m_faultAt m_tape m_newBed m_newLetter m_newReader m_bed m_letter m_reader m_newBeds m_newLetters m_newReaders m_beds m_letters m_readers m_newCode m_newOf m_code m_ofCode m_stack m_newCodes m_codes m_facts m_newStep m_step m_newSteps m_works m_refusedSteps m_begun m_done m_refusedNow m_now m_s m_past m_newBook m_book m_written o_m_mostBy o_m_stuffing o_m_stuffedMany m_lastBy m_leftBy m_splitBy m_seedNow m_image m_images)) : ∀ (n : Nat) (x2 : Int32) (x3 : Int32) (x4 : Int32) (m_mostBy : Nat → Int32) (m_stuffing : Nat → Int32) (m_stuffedMany : Int32), f_X10_laysSeams_147 m_letter m_letters m_s n x2 x3 x4 m_mostBy m_stuffing m_stuffedMany = some (r, o_m_mostBy, o_m_stuffing, o_m_stuffedMany) → G J Z 0 0 (cs_X10 J.2.2.1 a0 m_thrown m_refused m_taped m_size m_at m_bad m_badKind m_opens m_faultAt m_tape m_newBed m_newLetter m_newReader m_bed m_letter m_reader m_newBeds m_newLetters m_newReaders m_beds m_letters m_readers m_newCode m_newOf m_code m_ofCode m_stack m_newCodes m_codes m_facts m_newStep m_step m_newSteps m_works m_refusedSteps m_begun m_done m_refusedNow m_now m_s m_past m_newBook m_book m_written m_mostBy m_stuffing m_stuffedMany m_lastBy m_leftBy m_splitBy m_seedNow m_image m_images) 9 [(0, .ref (a0 0)), (2, .int x2), (3, .int x3), (4, .int x4)] 147 [] := by
  intro n
  induction n with
  | zero =>
    intro x2 x3 x4 m_mostBy m_stuffing m_stuffedMany h
    rw [f_X10_laysSeams_147] at h
    cases h
  | succ n ih =>
    intro x2 x3 x4 m_mostBy m_stuffing m_stuffedMany h
    rw [f_X10_laysSeams_147] at h
    refine g_iload_n (pc := 147) C 1 rfl dX10_laysSeams_147 ?_
    refine g_if_eq (pc := 148) C (tgt := 294) dX10_laysSeams_148 rfl h (fun h => ?_) (fun h => ?_)
    · refine g_iload (pc := 294) C 3 rfl dX10_laysSeams_294 ?_
      refine g_iconst (pc := 296) C dX10_laysSeams_296 ci_m1 ?_
      refine g_icmp_ne (pc := 297) C (tgt := 304) dX10_laysSeams_297 rfl h (fun h => ?_) (fun h => ?_)
      · refine g_iload (pc := 304) C 3 rfl dX10_laysSeams_304 ?_
        cases h
        exact g_iret C E dX10_laysSeams_306
      · refine g_iconst (pc := 300) C dX10_laysSeams_300 ci_0 ?_
        refine g_goto (pc := 301) C (tgt := 306) dX10_laysSeams_301 rfl ?_
        cases h
        exact g_iret C E dX10_laysSeams_306
    · refine g_iconst (pc := 151) C dX10_laysSeams_151 ci_m1 ?_
      refine g_istore (pc := 152) C [(5, .int (-1)), (0, .ref (a0 0)), (2, .int x2), (3, .int x3), (4, .int x4)] dX10_laysSeams_152 (by decide) rfl ?_
      refine g_iconst (pc := 154) C dX10_laysSeams_154 ci_m1 ?_
      refine g_istore (pc := 155) C [(6, .int (-1)), (5, .int (-1)), (0, .ref (a0 0)), (2, .int x2), (3, .int x3), (4, .int x4)] dX10_laysSeams_155 (by decide) rfl ?_
      refine g_iconst (pc := 157) C dX10_laysSeams_157 ci_0 ?_
      refine g_istore (pc := 158) C [(7, .int 0), (6, .int (-1)), (5, .int (-1)), (0, .ref (a0 0)), (2, .int x2), (3, .int x3), (4, .int x4)] dX10_laysSeams_158 (by decide) rfl ?_
      refine g_lv [3, 4, 5, 6, 2, 1, 0] rfl ?_
      exact j_X10_laysSeams_160 C E   ih FU x2 x3 x4 (-1) (-1) 0 m_mostBy m_stuffing m_stuffedMany h
set_option maxRecDepth 100000 in
set_option maxHeartbeats 4000000 in
theorem j_X10_laysSeams_28 {J : Jt} {Z : Zt} {a0 : Nat → Nat} {m_thrown : Int32} {m_refused : Nat → Int32} {m_taped : Int32} {m_size : Int32} {m_at : Int32} {m_bad : Int32} {m_badKind : Int32} {m_opens : Int32} {m_faultAt : Int32} {m_tape : Nat → Int32} {m_newBed : Nat → Int32} {m_newLetter : Nat → Int32} {m_newReader : Nat → Int32} {m_bed : Nat → Int32} {m_letter : Nat → Int32} {m_reader : Nat → Int32} {m_newBeds : Int32} {m_newLetters : Int32} {m_newReaders : Int32} {m_beds : Int32} {m_letters : Int32} {m_readers : Int32} {m_newCode : Nat → Int32} {m_newOf : Nat → Int32} {m_code : Nat → Int32} {m_ofCode : Nat → Int32} {m_stack : Nat → Int32} {m_newCodes : Int32} {m_codes : Int32} {m_facts : Nat → Int32} {m_newStep : Nat → Int32} {m_step : Nat → Int32} {m_newSteps : Int32} {m_works : Int32} {m_refusedSteps : Int32} {m_begun : Int32} {m_done : Int32} {m_refusedNow : Int32} {m_now : Nat → Int32} {m_s : Nat → Int32} {m_past : Nat → Int32} {m_newBook : Nat → Int32} {m_book : Nat → Int32} {m_written : Int32} {m_lastBy : Nat → Int32} {m_leftBy : Nat → Int32} {m_splitBy : Nat → Int64} {m_seedNow : Int32} {m_image : Nat → Int32} {m_images : Int32} {r : Int32} {o_m_mostBy : Nat → Int32} {o_m_stuffing : Nat → Int32} {o_m_stuffedMany : Int32} {k7 : Int32 → Int32 → (Nat → Int32) → (Nat → Int32) → Int32 → Option (Int32 × (Nat → Int32) × (Nat → Int32) × Int32)} {k14 : Int32 → Int32 → Int32 → (Nat → Int32) → (Nat → Int32) → Int32 → Option (Int32 × (Nat → Int32) × (Nat → Int32) × Int32)} (C : Cx J Z cX10_laysSeams 9 RX10 (some .int) rm_X10_laysSeams) (E : Ez J Z 0 0 (some (.int r)) (cs_X10 J.2.2.1 a0 m_thrown m_refused m_taped m_size m_at m_bad m_badKind m_opens m_faultAt m_tape m_newBed m_newLetter m_newReader m_bed m_letter m_reader m_newBeds m_newLetters m_newReaders m_beds m_letters m_readers m_newCode m_newOf m_code m_ofCode m_stack m_newCodes m_codes m_facts m_newStep m_step m_newSteps m_works m_refusedSteps m_begun m_done m_refusedNow m_now m_s m_past m_newBook m_book m_written o_m_mostBy o_m_stuffing o_m_stuffedMany m_lastBy m_leftBy m_splitBy m_seedNow m_image m_images)) (hk7 : ∀ (x1 : Int32) (x2 : Int32) (m_mostBy : Nat → Int32) (m_stuffing : Nat → Int32) (m_stuffedMany : Int32), k7 x1 x2 m_mostBy m_stuffing m_stuffedMany = some (r, o_m_mostBy, o_m_stuffing, o_m_stuffedMany) → G J Z 0 0 (cs_X10 J.2.2.1 a0 m_thrown m_refused m_taped m_size m_at m_bad m_badKind m_opens m_faultAt m_tape m_newBed m_newLetter m_newReader m_bed m_letter m_reader m_newBeds m_newLetters m_newReaders m_beds m_letters m_readers m_newCode m_newOf m_code m_ofCode m_stack m_newCodes m_codes m_facts m_newStep m_step m_newSteps m_works m_refusedSteps m_begun m_done m_refusedNow m_now m_s m_past m_newBook m_book m_written m_mostBy m_stuffing m_stuffedMany m_lastBy m_leftBy m_splitBy m_seedNow m_image m_images) 9 [(0, .ref (a0 0)), (1, .int x1), (2, .int x2)] 7 []) (hk14 : ∀ (x1 : Int32) (x2 : Int32) (x3 : Int32) (m_mostBy : Nat → Int32) (m_stuffing : Nat → Int32) (m_stuffedMany : Int32), k14 x1 x2 x3 m_mostBy m_stuffing m_stuffedMany = some (r, o_m_mostBy, o_m_stuffing, o_m_stuffedMany) → G J Z 0 0 (cs_X10 J.2.2.1 a0 m_thrown m_refused m_taped m_size m_at m_bad m_badKind m_opens m_faultAt m_tape m_newBed m_newLetter m_newReader m_bed m_letter m_reader m_newBeds m_newLetters m_newReaders m_beds m_letters m_readers m_newCode m_newOf m_code m_ofCode m_stack m_newCodes m_codes m_facts m_newStep m_step m_newSteps m_works m_refusedSteps m_begun m_done m_refusedNow m_now m_s m_past m_newBook m_book m_written m_mostBy m_stuffing m_stuffedMany m_lastBy m_leftBy m_splitBy m_seedNow m_image m_images) 9 [(0, .ref (a0 0)), (1, .int x1), (2, .int x2), (3, .int x3)] 14 []) : ∀ (n : Nat) (x1 : Int32) (x2 : Int32) (x3 : Int32) (x4 : Int32) (x5 : Int32) (m_mostBy : Nat → Int32) (m_stuffing : Nat → Int32) (m_stuffedMany : Int32), f_X10_laysSeams_28 m_letter m_letters m_s k7 k14 n x1 x2 x3 x4 x5 m_mostBy m_stuffing m_stuffedMany = some (r, o_m_mostBy, o_m_stuffing, o_m_stuffedMany) → G J Z 0 0 (cs_X10 J.2.2.1 a0 m_thrown m_refused m_taped m_size m_at m_bad m_badKind m_opens m_faultAt m_tape m_newBed m_newLetter m_newReader m_bed m_letter m_reader m_newBeds m_newLetters m_newReaders m_beds m_letters m_readers m_newCode m_newOf m_code m_ofCode m_stack m_newCodes m_codes m_facts m_newStep m_step m_newSteps m_works m_refusedSteps m_begun m_done m_refusedNow m_now m_s m_past m_newBook m_book m_written m_mostBy m_stuffing m_stuffedMany m_lastBy m_leftBy m_splitBy m_seedNow m_image m_images) 9 [(0, .ref (a0 0)), (1, .int x1), (2, .int x2), (3, .int x3), (4, .int x4), (5, .int x5)] 28 [] := by
  intro n
  induction n with
  | zero =>
    intro x1 x2 x3 x4 x5 m_mostBy m_stuffing m_stuffedMany h
    rw [f_X10_laysSeams_28] at h
    cases h
  | succ n ih =>
    intro x1 x2 x3 x4 x5 m_mostBy m_stuffing m_stuffedMany h
    rw [f_X10_laysSeams_28] at h
    refine g_iload (pc := 28) C 5 rfl dX10_laysSeams_28 ?_
    refine g_aload_n (pc := 30) C 0 rfl dX10_laysSeams_30 ?_
    refine g_get (pc := 31) C FOK_X10 0 rfl rfl 20 (by decide) kw_1297 rfl dX10_laysSeams_31 ?_
    refine g_icmp_ge (pc := 34) C (tgt := 110) dX10_laysSeams_34 rfl h (fun h => ?_) (fun h => ?_)
    · refine g_aload_n (pc := 110) C 0 rfl dX10_laysSeams_110 ?_
      refine g_get (pc := 111) C FOK_X10 0 rfl rfl 44 (by decide) kw_1321 rfl dX10_laysSeams_111 ?_
      refine g_iload_n (pc := 114) C 3 rfl dX10_laysSeams_114 ?_
      refine g_bipush (pc := 115) C dX10_laysSeams_115 cb_6 ?_
      refine g_ishl (pc := 117) C dX10_laysSeams_117 ?_
      refine g_iload_n (pc := 118) C 2 rfl dX10_laysSeams_118 ?_
      refine g_ior (pc := 119) C dX10_laysSeams_119 ?_
      refine g_iload (pc := 120) C 4 rfl dX10_laysSeams_120 ?_
      obtain ⟨hi, h⟩ := ix_of h
      refine g_iast (pc := 122) C (w' := cs_X10 J.2.2.1 a0 m_thrown m_refused m_taped m_size m_at m_bad m_badKind m_opens m_faultAt m_tape m_newBed m_newLetter m_newReader m_bed m_letter m_reader m_newBeds m_newLetters m_newReaders m_beds m_letters m_readers m_newCode m_newOf m_code m_ofCode m_stack m_newCodes m_codes m_facts m_newStep m_step m_newSteps m_works m_refusedSteps m_begun m_done m_refusedNow m_now m_s m_past m_newBook m_book m_written (upd m_mostBy ((x3 <<< ((6 : Int32) &&& 31)) ||| x2).toNatClampNeg x4) m_stuffing m_stuffedMany m_lastBy m_leftBy m_splitBy m_seedNow m_image m_images) 22 rfl hi dX10_laysSeams_122 rfl ?_
      refine g_iinc (pc := 123) C (j := 3) [(3, .int (x3 + 1)), (0, .ref (a0 0)), (1, .int x1), (2, .int x2), (4, .int x4), (5, .int x5)] dX10_laysSeams_123 rfl (ii_1 _) (by decide) rfl ?_
      refine g_goto (pc := 126) C (tgt := 14) dX10_laysSeams_126 rfl ?_
      refine g_lv [1, 2, 3, 0] rfl ?_
      exact hk14 x1 x2 (x3 + 1) (upd m_mostBy ((x3 <<< ((6 : Int32) &&& 31)) ||| x2).toNatClampNeg x4) m_stuffing m_stuffedMany h
    · refine g_iload_n (pc := 37) C 2 rfl dX10_laysSeams_37 ?_
      refine g_iload_n (pc := 38) C 1 rfl dX10_laysSeams_38 ?_
      refine g_iand (pc := 39) C dX10_laysSeams_39 ?_
      refine g_iconst (pc := 40) C dX10_laysSeams_40 ci_1 ?_
      refine g_iload (pc := 41) C 5 rfl dX10_laysSeams_41 ?_
      refine g_ishl (pc := 43) C dX10_laysSeams_43 ?_
      refine g_iand (pc := 44) C dX10_laysSeams_44 ?_
      refine g_if_eq (pc := 45) C (tgt := 104) dX10_laysSeams_45 rfl h (fun h => ?_) (fun h => ?_)
      · refine g_iinc (pc := 104) C (j := 5) [(5, .int (x5 + 1)), (0, .ref (a0 0)), (1, .int x1), (2, .int x2), (3, .int x3), (4, .int x4)] dX10_laysSeams_104 rfl (ii_1 _) (by decide) rfl ?_
        refine g_goto (pc := 107) C (tgt := 28) dX10_laysSeams_107 rfl ?_
        refine g_lv [1, 2, 3, 4, 5, 0] rfl ?_
        exact ih x1 x2 x3 x4 (x5 + 1) m_mostBy m_stuffing m_stuffedMany h
      · refine g_aload_n (pc := 48) C 0 rfl dX10_laysSeams_48 ?_
        refine g_iload_n (pc := 49) C 3 rfl dX10_laysSeams_49 ?_
        obtain ⟨v2, hc, h⟩ := b1_of h
        refine g_callV (pc := 50) C (w' := cs_X10 J.2.2.1 a0 m_thrown m_refused m_taped m_size m_at m_bad m_badKind m_opens m_faultAt m_tape m_newBed m_newLetter m_newReader m_bed m_letter m_reader m_newBeds m_newLetters m_newReaders m_beds m_letters m_readers m_newCode m_newOf m_code m_ofCode m_stack m_newCodes m_codes m_facts m_newStep m_step m_newSteps m_works m_refusedSteps m_begun m_done m_refusedNow m_now m_s m_past m_newBook m_book m_written m_mostBy m_stuffing m_stuffedMany m_lastBy m_leftBy m_splitBy m_seedNow m_image m_images) (As := [.int x3]) (st := []) (ci := 10) (q0 := 0) rfl rfl (t_X10_leftOf (a0 := a0) hc) Sub.same kw_1619 kw_1621 kw_52 kw_95 hy_X10_leftOf kw_1622 rfl (Nat.le_of_ble_eq_true rfl) (Nat.le_of_ble_eq_true rfl) (Nat.le_of_ble_eq_true rfl) (Nat.le_of_ble_eq_true rfl) (Nat.le_of_ble_eq_true rfl) dX10_laysSeams_50 ?_
        refine g_if_ne (pc := 53) C (tgt := 59) dX10_laysSeams_53 rfl h (fun h => ?_) (fun h => ?_)
        · refine g_aload_n (pc := 59) C 0 rfl dX10_laysSeams_59 ?_
          refine g_iload_n (pc := 60) C 3 rfl dX10_laysSeams_60 ?_
          refine g_iload (pc := 61) C 5 rfl dX10_laysSeams_61 ?_
          obtain ⟨v3, hc, h⟩ := b1_of h
          refine g_callV (pc := 63) C (w' := cs_X10 J.2.2.1 a0 m_thrown m_refused m_taped m_size m_at m_bad m_badKind m_opens m_faultAt m_tape m_newBed m_newLetter m_newReader m_bed m_letter m_reader m_newBeds m_newLetters m_newReaders m_beds m_letters m_readers m_newCode m_newOf m_code m_ofCode m_stack m_newCodes m_codes m_facts m_newStep m_step m_newSteps m_works m_refusedSteps m_begun m_done m_refusedNow m_now m_s m_past m_newBook m_book m_written m_mostBy m_stuffing m_stuffedMany m_lastBy m_leftBy m_splitBy m_seedNow m_image m_images) (As := [.int x3, .int x5]) (st := []) (ci := 10) (q0 := 0) rfl rfl (t_X10_seamOf (a0 := a0) hc) Sub.same kw_1768 kw_1770 kw_73 kw_95 hy_X10_seamOf kw_1771 rfl (Nat.le_of_ble_eq_true rfl) (Nat.le_of_ble_eq_true rfl) (Nat.le_of_ble_eq_true rfl) (Nat.le_of_ble_eq_true rfl) (Nat.le_of_ble_eq_true rfl) dX10_laysSeams_63 ?_
          refine g_aload_n (pc := 66) C 0 rfl dX10_laysSeams_66 ?_
          refine g_get (pc := 67) C FOK_X10 0 rfl rfl 44 (by decide) kw_1321 rfl dX10_laysSeams_67 ?_
          refine g_iload (pc := 70) C 5 rfl dX10_laysSeams_70 ?_
          refine g_bipush (pc := 72) C dX10_laysSeams_72 cb_6 ?_
          refine g_ishl (pc := 74) C dX10_laysSeams_74 ?_
          refine g_iload_n (pc := 75) C 2 rfl dX10_laysSeams_75 ?_
          refine g_iconst (pc := 76) C dX10_laysSeams_76 ci_1 ?_
          refine g_iload (pc := 77) C 5 rfl dX10_laysSeams_77 ?_
          refine g_ishl (pc := 79) C dX10_laysSeams_79 ?_
          refine g_iconst (pc := 80) C dX10_laysSeams_80 ci_m1 ?_
          refine g_ixor (pc := 81) C dX10_laysSeams_81 ?_
          refine g_iand (pc := 82) C dX10_laysSeams_82 ?_
          refine g_ior (pc := 83) C dX10_laysSeams_83 ?_
          obtain ⟨hi, h⟩ := ix_of h
          refine g_iald (pc := 84) C 22 rfl hi dX10_laysSeams_84 ?_
          refine g_iadd (pc := 85) C dX10_laysSeams_85 ?_
          refine g_istore (pc := 86) C [(6, .int (v3 + (m_mostBy ((x5 <<< ((6 : Int32) &&& 31)) ||| (x2 &&& (((1 : Int32) <<< (x5 &&& 31)) ^^^ (-1)))).toNatClampNeg))), (0, .ref (a0 0)), (1, .int x1), (2, .int x2), (3, .int x3), (4, .int x4), (5, .int x5)] dX10_laysSeams_86 (by decide) rfl ?_
          refine g_iload (pc := 88) C 0 rfl dX10_laysSeams_88 ?_
          refine g_iload (pc := 90) C 5 rfl dX10_laysSeams_90 ?_
          refine g_icmp_le (pc := 92) C (tgt := 100) dX10_laysSeams_92 rfl h (fun h => ?_) (fun h => ?_)
          · refine g_iload (pc := 100) C 5 rfl dX10_laysSeams_100 ?_
            refine g_istore (pc := 102) C [(4, .int x4), (6, .int (v3 + (m_mostBy ((x5 <<< ((6 : Int32) &&& 31)) ||| (x2 &&& (((1 : Int32) <<< (x5 &&& 31)) ^^^ (-1)))).toNatClampNeg))), (0, .ref (a0 0)), (1, .int x1), (2, .int x2), (3, .int x3), (5, .int x5)] dX10_laysSeams_102 (by decide) rfl ?_
            refine g_iinc (pc := 104) C (j := 6) [(5, .int (x5 + 1)), (4, .int x4), (6, .int (v3 + (m_mostBy ((x5 <<< ((6 : Int32) &&& 31)) ||| (x2 &&& (((1 : Int32) <<< (x5 &&& 31)) ^^^ (-1)))).toNatClampNeg))), (0, .ref (a0 0)), (1, .int x1), (2, .int x2), (3, .int x3)] dX10_laysSeams_104 rfl (ii_1 _) (by decide) rfl ?_
            refine g_goto (pc := 107) C (tgt := 28) dX10_laysSeams_107 rfl ?_
            refine g_lv [3, 4, 5, 6, 1, 0] rfl ?_
            exact ih x1 x2 x3 x4 (x5 + 1) m_mostBy m_stuffing m_stuffedMany h
          · refine g_iload (pc := 95) C 0 rfl dX10_laysSeams_95 ?_
            refine g_goto (pc := 97) C (tgt := 102) dX10_laysSeams_97 rfl ?_
            refine g_istore (pc := 102) C [(4, .int (v3 + (m_mostBy ((x5 <<< ((6 : Int32) &&& 31)) ||| (x2 &&& (((1 : Int32) <<< (x5 &&& 31)) ^^^ (-1)))).toNatClampNeg))), (6, .int (v3 + (m_mostBy ((x5 <<< ((6 : Int32) &&& 31)) ||| (x2 &&& (((1 : Int32) <<< (x5 &&& 31)) ^^^ (-1)))).toNatClampNeg))), (0, .ref (a0 0)), (1, .int x1), (2, .int x2), (3, .int x3), (5, .int x5)] dX10_laysSeams_102 (by decide) rfl ?_
            refine g_iinc (pc := 104) C (j := 6) [(5, .int (x5 + 1)), (4, .int (v3 + (m_mostBy ((x5 <<< ((6 : Int32) &&& 31)) ||| (x2 &&& (((1 : Int32) <<< (x5 &&& 31)) ^^^ (-1)))).toNatClampNeg))), (6, .int (v3 + (m_mostBy ((x5 <<< ((6 : Int32) &&& 31)) ||| (x2 &&& (((1 : Int32) <<< (x5 &&& 31)) ^^^ (-1)))).toNatClampNeg))), (0, .ref (a0 0)), (1, .int x1), (2, .int x2), (3, .int x3)] dX10_laysSeams_104 rfl (ii_1 _) (by decide) rfl ?_
            refine g_goto (pc := 107) C (tgt := 28) dX10_laysSeams_107 rfl ?_
            refine g_lv [3, 4, 5, 6, 1, 0] rfl ?_
            exact ih x1 x2 x3 (v3 + (m_mostBy ((x5 <<< ((6 : Int32) &&& 31)) ||| (x2 &&& (((1 : Int32) <<< (x5 &&& 31)) ^^^ (-1)))).toNatClampNeg)) (x5 + 1) m_mostBy m_stuffing m_stuffedMany h
        · refine g_goto (pc := 56) C (tgt := 104) dX10_laysSeams_56 rfl ?_
          refine g_iinc (pc := 104) C (j := 5) [(5, .int (x5 + 1)), (0, .ref (a0 0)), (1, .int x1), (2, .int x2), (3, .int x3), (4, .int x4)] dX10_laysSeams_104 rfl (ii_1 _) (by decide) rfl ?_
          refine g_goto (pc := 107) C (tgt := 28) dX10_laysSeams_107 rfl ?_
          refine g_lv [1, 2, 3, 4, 5, 0] rfl ?_
          exact ih x1 x2 x3 x4 (x5 + 1) m_mostBy m_stuffing m_stuffedMany h
set_option maxRecDepth 100000 in
set_option maxHeartbeats 4000000 in
theorem j_X10_laysSeams_14 {J : Jt} {Z : Zt} {a0 : Nat → Nat} {m_thrown : Int32} {m_refused : Nat → Int32} {m_taped : Int32} {m_size : Int32} {m_at : Int32} {m_bad : Int32} {m_badKind : Int32} {m_opens : Int32} {m_faultAt : Int32} {m_tape : Nat → Int32} {m_newBed : Nat → Int32} {m_newLetter : Nat → Int32} {m_newReader : Nat → Int32} {m_bed : Nat → Int32} {m_letter : Nat → Int32} {m_reader : Nat → Int32} {m_newBeds : Int32} {m_newLetters : Int32} {m_newReaders : Int32} {m_beds : Int32} {m_letters : Int32} {m_readers : Int32} {m_newCode : Nat → Int32} {m_newOf : Nat → Int32} {m_code : Nat → Int32} {m_ofCode : Nat → Int32} {m_stack : Nat → Int32} {m_newCodes : Int32} {m_codes : Int32} {m_facts : Nat → Int32} {m_newStep : Nat → Int32} {m_step : Nat → Int32} {m_newSteps : Int32} {m_works : Int32} {m_refusedSteps : Int32} {m_begun : Int32} {m_done : Int32} {m_refusedNow : Int32} {m_now : Nat → Int32} {m_s : Nat → Int32} {m_past : Nat → Int32} {m_newBook : Nat → Int32} {m_book : Nat → Int32} {m_written : Int32} {m_lastBy : Nat → Int32} {m_leftBy : Nat → Int32} {m_splitBy : Nat → Int64} {m_seedNow : Int32} {m_image : Nat → Int32} {m_images : Int32} {r : Int32} {o_m_mostBy : Nat → Int32} {o_m_stuffing : Nat → Int32} {o_m_stuffedMany : Int32} {k7 : Int32 → Int32 → (Nat → Int32) → (Nat → Int32) → Int32 → Option (Int32 × (Nat → Int32) × (Nat → Int32) × Int32)} (C : Cx J Z cX10_laysSeams 9 RX10 (some .int) rm_X10_laysSeams) (E : Ez J Z 0 0 (some (.int r)) (cs_X10 J.2.2.1 a0 m_thrown m_refused m_taped m_size m_at m_bad m_badKind m_opens m_faultAt m_tape m_newBed m_newLetter m_newReader m_bed m_letter m_reader m_newBeds m_newLetters m_newReaders m_beds m_letters m_readers m_newCode m_newOf m_code m_ofCode m_stack m_newCodes m_codes m_facts m_newStep m_step m_newSteps m_works m_refusedSteps m_begun m_done m_refusedNow m_now m_s m_past m_newBook m_book m_written o_m_mostBy o_m_stuffing o_m_stuffedMany m_lastBy m_leftBy m_splitBy m_seedNow m_image m_images)) (hk7 : ∀ (x1 : Int32) (x2 : Int32) (m_mostBy : Nat → Int32) (m_stuffing : Nat → Int32) (m_stuffedMany : Int32), k7 x1 x2 m_mostBy m_stuffing m_stuffedMany = some (r, o_m_mostBy, o_m_stuffing, o_m_stuffedMany) → G J Z 0 0 (cs_X10 J.2.2.1 a0 m_thrown m_refused m_taped m_size m_at m_bad m_badKind m_opens m_faultAt m_tape m_newBed m_newLetter m_newReader m_bed m_letter m_reader m_newBeds m_newLetters m_newReaders m_beds m_letters m_readers m_newCode m_newOf m_code m_ofCode m_stack m_newCodes m_codes m_facts m_newStep m_step m_newSteps m_works m_refusedSteps m_begun m_done m_refusedNow m_now m_s m_past m_newBook m_book m_written m_mostBy m_stuffing m_stuffedMany m_lastBy m_leftBy m_splitBy m_seedNow m_image m_images) 9 [(0, .ref (a0 0)), (1, .int x1), (2, .int x2)] 7 []) : ∀ (n : Nat) (x1 : Int32) (x2 : Int32) (x3 : Int32) (m_mostBy : Nat → Int32) (m_stuffing : Nat → Int32) (m_stuffedMany : Int32), f_X10_laysSeams_14 m_letter m_letters m_s k7 n x1 x2 x3 m_mostBy m_stuffing m_stuffedMany = some (r, o_m_mostBy, o_m_stuffing, o_m_stuffedMany) → G J Z 0 0 (cs_X10 J.2.2.1 a0 m_thrown m_refused m_taped m_size m_at m_bad m_badKind m_opens m_faultAt m_tape m_newBed m_newLetter m_newReader m_bed m_letter m_reader m_newBeds m_newLetters m_newReaders m_beds m_letters m_readers m_newCode m_newOf m_code m_ofCode m_stack m_newCodes m_codes m_facts m_newStep m_step m_newSteps m_works m_refusedSteps m_begun m_done m_refusedNow m_now m_s m_past m_newBook m_book m_written m_mostBy m_stuffing m_stuffedMany m_lastBy m_leftBy m_splitBy m_seedNow m_image m_images) 9 [(0, .ref (a0 0)), (1, .int x1), (2, .int x2), (3, .int x3)] 14 [] := by
  intro n
  induction n with
  | zero =>
    intro x1 x2 x3 m_mostBy m_stuffing m_stuffedMany h
    rw [f_X10_laysSeams_14] at h
    cases h
  | succ n ih =>
    intro x1 x2 x3 m_mostBy m_stuffing m_stuffedMany h
    rw [f_X10_laysSeams_14] at h
    refine g_iload_n (pc := 14) C 3 rfl dX10_laysSeams_14 ?_
    refine g_aload_n (pc := 15) C 0 rfl dX10_laysSeams_15 ?_
    refine g_get (pc := 16) C FOK_X10 0 rfl rfl 20 (by decide) kw_1297 rfl dX10_laysSeams_16 ?_
    refine g_icmp_ge (pc := 19) C (tgt := 129) dX10_laysSeams_19 rfl h (fun h => ?_) (fun h => ?_)
    · refine g_iinc (pc := 129) C (j := 2) [(2, .int (x2 + 1)), (0, .ref (a0 0)), (1, .int x1), (3, .int x3)] dX10_laysSeams_129 rfl (ii_1 _) (by decide) rfl ?_
      refine g_goto (pc := 132) C (tgt := 7) dX10_laysSeams_132 rfl ?_
      refine g_lv [1, 2, 0] rfl ?_
      exact hk7 x1 (x2 + 1) m_mostBy m_stuffing m_stuffedMany h
    · refine g_iconst (pc := 22) C dX10_laysSeams_22 ci_0 ?_
      refine g_istore (pc := 23) C [(4, .int 0), (0, .ref (a0 0)), (1, .int x1), (2, .int x2), (3, .int x3)] dX10_laysSeams_23 (by decide) rfl ?_
      refine g_iconst (pc := 25) C dX10_laysSeams_25 ci_0 ?_
      refine g_istore (pc := 26) C [(5, .int 0), (4, .int 0), (0, .ref (a0 0)), (1, .int x1), (2, .int x2), (3, .int x3)] dX10_laysSeams_26 (by decide) rfl ?_
      refine g_lv [2, 3, 4, 5, 1, 0] rfl ?_
      exact j_X10_laysSeams_28 C E   hk7 ih FU x1 x2 x3 0 0 m_mostBy m_stuffing m_stuffedMany h
set_option maxRecDepth 100000 in
set_option maxHeartbeats 4000000 in
theorem j_X10_laysSeams_7 {J : Jt} {Z : Zt} {a0 : Nat → Nat} {m_thrown : Int32} {m_refused : Nat → Int32} {m_taped : Int32} {m_size : Int32} {m_at : Int32} {m_bad : Int32} {m_badKind : Int32} {m_opens : Int32} {m_faultAt : Int32} {m_tape : Nat → Int32} {m_newBed : Nat → Int32} {m_newLetter : Nat → Int32} {m_newReader : Nat → Int32} {m_bed : Nat → Int32} {m_letter : Nat → Int32} {m_reader : Nat → Int32} {m_newBeds : Int32} {m_newLetters : Int32} {m_newReaders : Int32} {m_beds : Int32} {m_letters : Int32} {m_readers : Int32} {m_newCode : Nat → Int32} {m_newOf : Nat → Int32} {m_code : Nat → Int32} {m_ofCode : Nat → Int32} {m_stack : Nat → Int32} {m_newCodes : Int32} {m_codes : Int32} {m_facts : Nat → Int32} {m_newStep : Nat → Int32} {m_step : Nat → Int32} {m_newSteps : Int32} {m_works : Int32} {m_refusedSteps : Int32} {m_begun : Int32} {m_done : Int32} {m_refusedNow : Int32} {m_now : Nat → Int32} {m_s : Nat → Int32} {m_past : Nat → Int32} {m_newBook : Nat → Int32} {m_book : Nat → Int32} {m_written : Int32} {m_lastBy : Nat → Int32} {m_leftBy : Nat → Int32} {m_splitBy : Nat → Int64} {m_seedNow : Int32} {m_image : Nat → Int32} {m_images : Int32} {r : Int32} {o_m_mostBy : Nat → Int32} {o_m_stuffing : Nat → Int32} {o_m_stuffedMany : Int32} (C : Cx J Z cX10_laysSeams 9 RX10 (some .int) rm_X10_laysSeams) (E : Ez J Z 0 0 (some (.int r)) (cs_X10 J.2.2.1 a0 m_thrown m_refused m_taped m_size m_at m_bad m_badKind m_opens m_faultAt m_tape m_newBed m_newLetter m_newReader m_bed m_letter m_reader m_newBeds m_newLetters m_newReaders m_beds m_letters m_readers m_newCode m_newOf m_code m_ofCode m_stack m_newCodes m_codes m_facts m_newStep m_step m_newSteps m_works m_refusedSteps m_begun m_done m_refusedNow m_now m_s m_past m_newBook m_book m_written o_m_mostBy o_m_stuffing o_m_stuffedMany m_lastBy m_leftBy m_splitBy m_seedNow m_image m_images)) : ∀ (n : Nat) (x1 : Int32) (x2 : Int32) (m_mostBy : Nat → Int32) (m_stuffing : Nat → Int32) (m_stuffedMany : Int32), f_X10_laysSeams_7 m_letter m_letters m_s n x1 x2 m_mostBy m_stuffing m_stuffedMany = some (r, o_m_mostBy, o_m_stuffing, o_m_stuffedMany) → G J Z 0 0 (cs_X10 J.2.2.1 a0 m_thrown m_refused m_taped m_size m_at m_bad m_badKind m_opens m_faultAt m_tape m_newBed m_newLetter m_newReader m_bed m_letter m_reader m_newBeds m_newLetters m_newReaders m_beds m_letters m_readers m_newCode m_newOf m_code m_ofCode m_stack m_newCodes m_codes m_facts m_newStep m_step m_newSteps m_works m_refusedSteps m_begun m_done m_refusedNow m_now m_s m_past m_newBook m_book m_written m_mostBy m_stuffing m_stuffedMany m_lastBy m_leftBy m_splitBy m_seedNow m_image m_images) 9 [(0, .ref (a0 0)), (1, .int x1), (2, .int x2)] 7 [] := by
  intro n
  induction n with
  | zero =>
    intro x1 x2 m_mostBy m_stuffing m_stuffedMany h
    rw [f_X10_laysSeams_7] at h
    cases h
  | succ n ih =>
    intro x1 x2 m_mostBy m_stuffing m_stuffedMany h
    rw [f_X10_laysSeams_7] at h
    refine g_iload_n (pc := 7) C 2 rfl dX10_laysSeams_7 ?_
    refine g_iload_n (pc := 8) C 1 rfl dX10_laysSeams_8 ?_
    refine g_icmp_gt (pc := 9) C (tgt := 135) dX10_laysSeams_9 rfl h (fun h => ?_) (fun h => ?_)
    · refine g_aload_n (pc := 135) C 0 rfl dX10_laysSeams_135 ?_
      refine g_iconst (pc := 136) C dX10_laysSeams_136 ci_0 ?_
      refine g_put (pc := 137) C (w' := cs_X10 J.2.2.1 a0 m_thrown m_refused m_taped m_size m_at m_bad m_badKind m_opens m_faultAt m_tape m_newBed m_newLetter m_newReader m_bed m_letter m_reader m_newBeds m_newLetters m_newReaders m_beds m_letters m_readers m_newCode m_newOf m_code m_ofCode m_stack m_newCodes m_codes m_facts m_newStep m_step m_newSteps m_works m_refusedSteps m_begun m_done m_refusedNow m_now m_s m_past m_newBook m_book m_written m_mostBy m_stuffing 0 m_lastBy m_leftBy m_splitBy m_seedNow m_image m_images) FOK_X10 0 rfl rfl 46 (by decide) kw_1323 rfl rfl rfl (Nat.le_of_ble_eq_true rfl) dX10_laysSeams_137 rfl ?_
      refine g_iload_n (pc := 140) C 1 rfl dX10_laysSeams_140 ?_
      refine g_istore_n (pc := 141) C [(2, .int x1), (0, .ref (a0 0)), (1, .int x1)] dX10_laysSeams_141 rfl (by decide) rfl ?_
      refine g_iconst (pc := 142) C dX10_laysSeams_142 ci_m1 ?_
      refine g_istore_n (pc := 143) C [(3, .int (-1)), (2, .int x1), (0, .ref (a0 0)), (1, .int x1)] dX10_laysSeams_143 rfl (by decide) rfl ?_
      refine g_iconst (pc := 144) C dX10_laysSeams_144 ci_m1 ?_
      refine g_istore (pc := 145) C [(4, .int (-1)), (3, .int (-1)), (2, .int x1), (0, .ref (a0 0)), (1, .int x1)] dX10_laysSeams_145 (by decide) rfl ?_
      refine g_lv [3, 2, 1, 0] rfl ?_
      exact j_X10_laysSeams_147 C E    FU x1 (-1) (-1) m_mostBy m_stuffing 0 h
    · refine g_iconst (pc := 12) C dX10_laysSeams_12 ci_0 ?_
      refine g_istore_n (pc := 13) C [(3, .int 0), (0, .ref (a0 0)), (1, .int x1), (2, .int x2)] dX10_laysSeams_13 rfl (by decide) rfl ?_
      refine g_lv [1, 2, 3, 0] rfl ?_
      exact j_X10_laysSeams_14 C E   ih FU x1 x2 0 m_mostBy m_stuffing m_stuffedMany h
set_option maxRecDepth 100000 in
set_option maxHeartbeats 4000000 in
theorem t_X10_laysSeams {J : Jt} {a0 : Nat → Nat} {m_thrown : Int32} {m_refused : Nat → Int32} {m_taped : Int32} {m_size : Int32} {m_at : Int32} {m_bad : Int32} {m_badKind : Int32} {m_opens : Int32} {m_faultAt : Int32} {m_tape : Nat → Int32} {m_newBed : Nat → Int32} {m_newLetter : Nat → Int32} {m_newReader : Nat → Int32} {m_bed : Nat → Int32} {m_letter : Nat → Int32} {m_reader : Nat → Int32} {m_newBeds : Int32} {m_newLetters : Int32} {m_newReaders : Int32} {m_beds : Int32} {m_letters : Int32} {m_readers : Int32} {m_newCode : Nat → Int32} {m_newOf : Nat → Int32} {m_code : Nat → Int32} {m_ofCode : Nat → Int32} {m_stack : Nat → Int32} {m_newCodes : Int32} {m_codes : Int32} {m_facts : Nat → Int32} {m_newStep : Nat → Int32} {m_step : Nat → Int32} {m_newSteps : Int32} {m_works : Int32} {m_refusedSteps : Int32} {m_begun : Int32} {m_done : Int32} {m_refusedNow : Int32} {m_now : Nat → Int32} {m_s : Nat → Int32} {m_past : Nat → Int32} {m_newBook : Nat → Int32} {m_book : Nat → Int32} {m_written : Int32} {m_mostBy : Nat → Int32} {m_stuffing : Nat → Int32} {m_stuffedMany : Int32} {m_lastBy : Nat → Int32} {m_leftBy : Nat → Int32} {m_splitBy : Nat → Int64} {m_seedNow : Int32} {m_image : Nat → Int32} {m_images : Int32} {r : Int32} {o_m_mostBy : Nat → Int32} {o_m_stuffing : Nat → Int32} {o_m_stuffedMany : Int32} (h : f_X10_laysSeams m_letter m_letters m_s m_mostBy m_stuffing m_stuffedMany = some (r, o_m_mostBy, o_m_stuffing, o_m_stuffedMany)) : Mt J yX10_laysSeams cX10_laysSeams 9 (some .int) rm_X10_laysSeams [.ref (a0 0)] (cs_X10 J.2.2.1 a0 m_thrown m_refused m_taped m_size m_at m_bad m_badKind m_opens m_faultAt m_tape m_newBed m_newLetter m_newReader m_bed m_letter m_reader m_newBeds m_newLetters m_newReaders m_beds m_letters m_readers m_newCode m_newOf m_code m_ofCode m_stack m_newCodes m_codes m_facts m_newStep m_step m_newSteps m_works m_refusedSteps m_begun m_done m_refusedNow m_now m_s m_past m_newBook m_book m_written m_mostBy m_stuffing m_stuffedMany m_lastBy m_leftBy m_splitBy m_seedNow m_image m_images) (some (.int r)) (cs_X10 J.2.2.1 a0 m_thrown m_refused m_taped m_size m_at m_bad m_badKind m_opens m_faultAt m_tape m_newBed m_newLetter m_newReader m_bed m_letter m_reader m_newBeds m_newLetters m_newReaders m_beds m_letters m_readers m_newCode m_newOf m_code m_ofCode m_stack m_newCodes m_codes m_facts m_newStep m_step m_newSteps m_works m_refusedSteps m_begun m_done m_refusedNow m_now m_s m_past m_newBook m_book m_written o_m_mostBy o_m_stuffing o_m_stuffedMany m_lastBy m_leftBy m_splitBy m_seedNow m_image m_images) := by
  refine Mt_of (own := RX10) (by decide) rfl (Nat.le_of_ble_eq_true rfl) rfl (fun Z C E => ?_)
  unfold f_X10_laysSeams at h
  show G J Z 0 0 (cs_X10 J.2.2.1 a0 m_thrown m_refused m_taped m_size m_at m_bad m_badKind m_opens m_faultAt m_tape m_newBed m_newLetter m_newReader m_bed m_letter m_reader m_newBeds m_newLetters m_newReaders m_beds m_letters m_readers m_newCode m_newOf m_code m_ofCode m_stack m_newCodes m_codes m_facts m_newStep m_step m_newSteps m_works m_refusedSteps m_begun m_done m_refusedNow m_now m_s m_past m_newBook m_book m_written m_mostBy m_stuffing m_stuffedMany m_lastBy m_leftBy m_splitBy m_seedNow m_image m_images) 9 [(0, .ref (a0 0))] 0 []
  refine g_aload_n (pc := 0) C 0 rfl dX10_laysSeams_0 ?_
  obtain ⟨v4, hc, h⟩ := b1_of h
  refine g_callV (pc := 1) C (w' := cs_X10 J.2.2.1 a0 m_thrown m_refused m_taped m_size m_at m_bad m_badKind m_opens m_faultAt m_tape m_newBed m_newLetter m_newReader m_bed m_letter m_reader m_newBeds m_newLetters m_newReaders m_beds m_letters m_readers m_newCode m_newOf m_code m_ofCode m_stack m_newCodes m_codes m_facts m_newStep m_step m_newSteps m_works m_refusedSteps m_begun m_done m_refusedNow m_now m_s m_past m_newBook m_book m_written m_mostBy m_stuffing m_stuffedMany m_lastBy m_leftBy m_splitBy m_seedNow m_image m_images) (As := []) (st := []) (ci := 10) (q0 := 0) rfl rfl (t_X10_someLeft (a0 := a0) hc) Sub.same kw_1764 kw_1766 kw_72 kw_95 hy_X10_someLeft kw_1767 rfl (Nat.le_of_ble_eq_true rfl) (Nat.le_of_ble_eq_true rfl) (Nat.le_of_ble_eq_true rfl) (Nat.le_of_ble_eq_true rfl) (Nat.le_of_ble_eq_true rfl) dX10_laysSeams_1 ?_
  refine g_istore_n (pc := 4) C [(1, .int v4), (0, .ref (a0 0))] dX10_laysSeams_4 rfl (by decide) rfl ?_
  refine g_iconst (pc := 5) C dX10_laysSeams_5 ci_0 ?_
  refine g_istore_n (pc := 6) C [(2, .int 0), (1, .int v4), (0, .ref (a0 0))] dX10_laysSeams_6 rfl (by decide) rfl ?_
  refine g_lv [2, 1, 0] rfl ?_
  exact j_X10_laysSeams_7 C E    FU v4 0 m_mostBy m_stuffing m_stuffedMany h
noncomputable def f_X10_stuff (m_thrown : Int32) (m_letter : Nat → Int32) (m_letters : Int32) (m_now : Nat → Int32) (m_s : Nat → Int32) (m_mostBy : Nat → Int32) (m_stuffing : Nat → Int32) (m_stuffedMany : Int32) : Option (Int32 × Int32 × (Nat → Int32) × (Nat → Int32) × (Nat → Int32) × Int32) := b1 (f_X10_take m_now m_s) (fun c1 => b4 (f_X10_laysSeams m_letter m_letters c1 m_mostBy m_stuffing m_stuffedMany) (fun v2 c3 c4 c5 => some (v2, 0, c1, c3, c4, c5)))
def rm_X10_stuff : Room := { frames := 3, cells := 0, slots := 0, locals := 72 }
set_option maxRecDepth 100000 in
set_option maxHeartbeats 4000000 in
theorem t_X10_stuff {J : Jt} {a0 : Nat → Nat} {m_thrown : Int32} {m_refused : Nat → Int32} {m_taped : Int32} {m_size : Int32} {m_at : Int32} {m_bad : Int32} {m_badKind : Int32} {m_opens : Int32} {m_faultAt : Int32} {m_tape : Nat → Int32} {m_newBed : Nat → Int32} {m_newLetter : Nat → Int32} {m_newReader : Nat → Int32} {m_bed : Nat → Int32} {m_letter : Nat → Int32} {m_reader : Nat → Int32} {m_newBeds : Int32} {m_newLetters : Int32} {m_newReaders : Int32} {m_beds : Int32} {m_letters : Int32} {m_readers : Int32} {m_newCode : Nat → Int32} {m_newOf : Nat → Int32} {m_code : Nat → Int32} {m_ofCode : Nat → Int32} {m_stack : Nat → Int32} {m_newCodes : Int32} {m_codes : Int32} {m_facts : Nat → Int32} {m_newStep : Nat → Int32} {m_step : Nat → Int32} {m_newSteps : Int32} {m_works : Int32} {m_refusedSteps : Int32} {m_begun : Int32} {m_done : Int32} {m_refusedNow : Int32} {m_now : Nat → Int32} {m_s : Nat → Int32} {m_past : Nat → Int32} {m_newBook : Nat → Int32} {m_book : Nat → Int32} {m_written : Int32} {m_mostBy : Nat → Int32} {m_stuffing : Nat → Int32} {m_stuffedMany : Int32} {m_lastBy : Nat → Int32} {m_leftBy : Nat → Int32} {m_splitBy : Nat → Int64} {m_seedNow : Int32} {m_image : Nat → Int32} {m_images : Int32} {r : Int32} {o_m_thrown : Int32} {o_m_s : Nat → Int32} {o_m_mostBy : Nat → Int32} {o_m_stuffing : Nat → Int32} {o_m_stuffedMany : Int32} (h : f_X10_stuff m_thrown m_letter m_letters m_now m_s m_mostBy m_stuffing m_stuffedMany = some (r, o_m_thrown, o_m_s, o_m_mostBy, o_m_stuffing, o_m_stuffedMany)) : Mt J yX10_stuff cX10_stuff 1 (some .int) rm_X10_stuff [.ref (a0 0)] (cs_X10 J.2.2.1 a0 m_thrown m_refused m_taped m_size m_at m_bad m_badKind m_opens m_faultAt m_tape m_newBed m_newLetter m_newReader m_bed m_letter m_reader m_newBeds m_newLetters m_newReaders m_beds m_letters m_readers m_newCode m_newOf m_code m_ofCode m_stack m_newCodes m_codes m_facts m_newStep m_step m_newSteps m_works m_refusedSteps m_begun m_done m_refusedNow m_now m_s m_past m_newBook m_book m_written m_mostBy m_stuffing m_stuffedMany m_lastBy m_leftBy m_splitBy m_seedNow m_image m_images) (some (.int r)) (cs_X10 J.2.2.1 a0 o_m_thrown m_refused m_taped m_size m_at m_bad m_badKind m_opens m_faultAt m_tape m_newBed m_newLetter m_newReader m_bed m_letter m_reader m_newBeds m_newLetters m_newReaders m_beds m_letters m_readers m_newCode m_newOf m_code m_ofCode m_stack m_newCodes m_codes m_facts m_newStep m_step m_newSteps m_works m_refusedSteps m_begun m_done m_refusedNow m_now o_m_s m_past m_newBook m_book m_written o_m_mostBy o_m_stuffing o_m_stuffedMany m_lastBy m_leftBy m_splitBy m_seedNow m_image m_images) := by
  refine Mt_of (own := RX10) (by decide) rfl (Nat.le_of_ble_eq_true rfl) rfl (fun Z C E => ?_)
  unfold f_X10_stuff at h
  show G J Z 0 0 (cs_X10 J.2.2.1 a0 m_thrown m_refused m_taped m_size m_at m_bad m_badKind m_opens m_faultAt m_tape m_newBed m_newLetter m_newReader m_bed m_letter m_reader m_newBeds m_newLetters m_newReaders m_beds m_letters m_readers m_newCode m_newOf m_code m_ofCode m_stack m_newCodes m_codes m_facts m_newStep m_step m_newSteps m_works m_refusedSteps m_begun m_done m_refusedNow m_now m_s m_past m_newBook m_book m_written m_mostBy m_stuffing m_stuffedMany m_lastBy m_leftBy m_splitBy m_seedNow m_image m_images) 1 [(0, .ref (a0 0))] 0 []
  refine g_aload_n (pc := 0) C 0 rfl dX10_stuff_0 ?_
  refine g_iconst (pc := 1) C dX10_stuff_1 ci_0 ?_
  refine g_put (pc := 2) C (w' := cs_X10 J.2.2.1 a0 0 m_refused m_taped m_size m_at m_bad m_badKind m_opens m_faultAt m_tape m_newBed m_newLetter m_newReader m_bed m_letter m_reader m_newBeds m_newLetters m_newReaders m_beds m_letters m_readers m_newCode m_newOf m_code m_ofCode m_stack m_newCodes m_codes m_facts m_newStep m_step m_newSteps m_works m_refusedSteps m_begun m_done m_refusedNow m_now m_s m_past m_newBook m_book m_written m_mostBy m_stuffing m_stuffedMany m_lastBy m_leftBy m_splitBy m_seedNow m_image m_images) FOK_X10 0 rfl rfl 0 (by decide) kw_1277 rfl rfl rfl (Nat.le_of_ble_eq_true rfl) dX10_stuff_2 rfl ?_
  refine g_aload_n (pc := 5) C 0 rfl dX10_stuff_5 ?_
  obtain ⟨c1, hc, h⟩ := b1_of h
  refine g_callV (pc := 6) C (w' := cs_X10 J.2.2.1 a0 0 m_refused m_taped m_size m_at m_bad m_badKind m_opens m_faultAt m_tape m_newBed m_newLetter m_newReader m_bed m_letter m_reader m_newBeds m_newLetters m_newReaders m_beds m_letters m_readers m_newCode m_newOf m_code m_ofCode m_stack m_newCodes m_codes m_facts m_newStep m_step m_newSteps m_works m_refusedSteps m_begun m_done m_refusedNow m_now c1 m_past m_newBook m_book m_written m_mostBy m_stuffing m_stuffedMany m_lastBy m_leftBy m_splitBy m_seedNow m_image m_images) (As := []) (st := []) (ci := 10) (q0 := 0) rfl rfl (t_X10_take (a0 := a0) hc) Sub.same kw_1595 kw_1597 kw_46 kw_95 hy_X10_take kw_1598 rfl (Nat.le_of_ble_eq_true rfl) (Nat.le_of_ble_eq_true rfl) (Nat.le_of_ble_eq_true rfl) (Nat.le_of_ble_eq_true rfl) (Nat.le_of_ble_eq_true rfl) dX10_stuff_6 ?_
  refine g_aload_n (pc := 9) C 0 rfl dX10_stuff_9 ?_
  obtain ⟨v2, c3, c4, c5, hc, h⟩ := b4_of h
  refine g_callV (pc := 10) C (w' := cs_X10 J.2.2.1 a0 0 m_refused m_taped m_size m_at m_bad m_badKind m_opens m_faultAt m_tape m_newBed m_newLetter m_newReader m_bed m_letter m_reader m_newBeds m_newLetters m_newReaders m_beds m_letters m_readers m_newCode m_newOf m_code m_ofCode m_stack m_newCodes m_codes m_facts m_newStep m_step m_newSteps m_works m_refusedSteps m_begun m_done m_refusedNow m_now c1 m_past m_newBook m_book m_written c3 c4 c5 m_lastBy m_leftBy m_splitBy m_seedNow m_image m_images) (As := []) (st := []) (ci := 10) (q0 := 0) rfl rfl (t_X10_laysSeams (a0 := a0) hc) Sub.same kw_1760 kw_1762 kw_71 kw_95 hy_X10_laysSeams kw_1763 rfl (Nat.le_of_ble_eq_true rfl) (Nat.le_of_ble_eq_true rfl) (Nat.le_of_ble_eq_true rfl) (Nat.le_of_ble_eq_true rfl) (Nat.le_of_ble_eq_true rfl) dX10_stuff_10 ?_
  cases h
  exact g_iret C E dX10_stuff_13
noncomputable def f_X10_stuffed_15  (m_letter : Nat → Int32) (m_letters : Int32) (m_now : Nat → Int32) (n1 : Int32) (y1 : Int32) (m_thrown : Int32) (m_refused : Nat → Int32) (m_s : Nat → Int32) (m_mostBy : Nat → Int32) (m_stuffing : Nat → Int32) (m_stuffedMany : Int32) : Option (Int32 × Int32 × (Nat → Int32) × (Nat → Int32) × (Nat → Int32) × (Nat → Int32) × Int32) := b3 (f_X10_may m_thrown m_refused y1 1 1) (fun v1 c2 c3 => if v1 = 0 then some (0, c2, c3, m_s, m_mostBy, m_stuffing, m_stuffedMany) else b1 (f_X10_take m_now m_s) (fun c4 => b4 (f_X10_laysSeams m_letter m_letters c4 m_mostBy m_stuffing m_stuffedMany) (fun v5 c6 c7 c8 => if c8 ≤ n1 then some ((-1), c2, c3, c4, c6, c7, c8) else if ixb n1 6 then some (c7 n1.toNatClampNeg, c2, c3, c4, c6, c7, c8) else none)))
noncomputable def f_X10_stuffed (m_thrown : Int32) (m_refused : Nat → Int32) (m_letter : Nat → Int32) (m_letters : Int32) (m_now : Nat → Int32) (m_s : Nat → Int32) (m_mostBy : Nat → Int32) (m_stuffing : Nat → Int32) (m_stuffedMany : Int32) (n1 : Int32) : Option (Int32 × Int32 × (Nat → Int32) × (Nat → Int32) × (Nat → Int32) × (Nat → Int32) × Int32) := if n1 < 0 then f_X10_stuffed_15 m_letter m_letters m_now n1 0 0 m_refused m_s m_mostBy m_stuffing m_stuffedMany else f_X10_stuffed_15 m_letter m_letters m_now n1 1 0 m_refused m_s m_mostBy m_stuffing m_stuffedMany
def rm_X10_stuffed : Room := { frames := 3, cells := 0, slots := 0, locals := 72 }
set_option maxRecDepth 100000 in
set_option maxHeartbeats 4000000 in
theorem j_X10_stuffed_15 {J : Jt} {Z : Zt} {a0 : Nat → Nat} {m_taped : Int32} {m_size : Int32} {m_at : Int32} {m_bad : Int32} {m_badKind : Int32} {m_opens : Int32} {m_faultAt : Int32} {m_tape : Nat → Int32} {m_newBed : Nat → Int32} {m_newLetter : Nat → Int32} {m_newReader : Nat → Int32} {m_bed : Nat → Int32} {m_letter : Nat → Int32} {m_reader : Nat → Int32} {m_newBeds : Int32} {m_newLetters : Int32} {m_newReaders : Int32} {m_beds : Int32} {m_letters : Int32} {m_readers : Int32} {m_newCode : Nat → Int32} {m_newOf : Nat → Int32} {m_code : Nat → Int32} {m_ofCode : Nat → Int32} {m_stack : Nat → Int32} {m_newCodes : Int32} {m_codes : Int32} {m_facts : Nat → Int32} {m_newStep : Nat → Int32} {m_step : Nat → Int32} {m_newSteps : Int32} {m_works : Int32} {m_refusedSteps : Int32} {m_begun : Int32} {m_done : Int32} {m_refusedNow : Int32} {m_now : Nat → Int32} {m_past : Nat → Int32} {m_newBook : Nat → Int32} {m_book : Nat → Int32} {m_written : Int32} {m_lastBy : Nat → Int32} {m_leftBy : Nat → Int32} {m_splitBy : Nat → Int64} {m_seedNow : Int32} {m_image : Nat → Int32} {m_images : Int32} {n1 : Int32} {r : Int32} {o_m_thrown : Int32} {o_m_refused : Nat → Int32} {o_m_s : Nat → Int32} {o_m_mostBy : Nat → Int32} {o_m_stuffing : Nat → Int32} {o_m_stuffedMany : Int32} (C : Cx J Z cX10_stuffed 2 RX10 (some .int) rm_X10_stuffed) (E : Ez J Z 0 0 (some (.int r)) (cs_X10 J.2.2.1 a0 o_m_thrown o_m_refused m_taped m_size m_at m_bad m_badKind m_opens m_faultAt m_tape m_newBed m_newLetter m_newReader m_bed m_letter m_reader m_newBeds m_newLetters m_newReaders m_beds m_letters m_readers m_newCode m_newOf m_code m_ofCode m_stack m_newCodes m_codes m_facts m_newStep m_step m_newSteps m_works m_refusedSteps m_begun m_done m_refusedNow m_now o_m_s m_past m_newBook m_book m_written o_m_mostBy o_m_stuffing o_m_stuffedMany m_lastBy m_leftBy m_splitBy m_seedNow m_image m_images)) : ∀ (y1 : Int32) (m_thrown : Int32) (m_refused : Nat → Int32) (m_s : Nat → Int32) (m_mostBy : Nat → Int32) (m_stuffing : Nat → Int32) (m_stuffedMany : Int32), f_X10_stuffed_15 m_letter m_letters m_now n1 y1 m_thrown m_refused m_s m_mostBy m_stuffing m_stuffedMany = some (r, o_m_thrown, o_m_refused, o_m_s, o_m_mostBy, o_m_stuffing, o_m_stuffedMany) → G J Z 0 0 (cs_X10 J.2.2.1 a0 m_thrown m_refused m_taped m_size m_at m_bad m_badKind m_opens m_faultAt m_tape m_newBed m_newLetter m_newReader m_bed m_letter m_reader m_newBeds m_newLetters m_newReaders m_beds m_letters m_readers m_newCode m_newOf m_code m_ofCode m_stack m_newCodes m_codes m_facts m_newStep m_step m_newSteps m_works m_refusedSteps m_begun m_done m_refusedNow m_now m_s m_past m_newBook m_book m_written m_mostBy m_stuffing m_stuffedMany m_lastBy m_leftBy m_splitBy m_seedNow m_image m_images) 2 [(0, .ref (a0 0)), (1, .int n1)] 15 [.int y1, .ref (a0 0)] := by
  intro y1 m_thrown m_refused m_s m_mostBy m_stuffing m_stuffedMany h
  unfold f_X10_stuffed_15 at h
  refine g_iconst (pc := 15) C dX10_stuffed_15 ci_1 ?_
  refine g_iconst (pc := 16) C dX10_stuffed_16 ci_1 ?_
  obtain ⟨v1, c2, c3, hc, h⟩ := b3_of h
  refine g_callV (pc := 17) C (w' := cs_X10 J.2.2.1 a0 c2 c3 m_taped m_size m_at m_bad m_badKind m_opens m_faultAt m_tape m_newBed m_newLetter m_newReader m_bed m_letter m_reader m_newBeds m_newLetters m_newReaders m_beds m_letters m_readers m_newCode m_newOf m_code m_ofCode m_stack m_newCodes m_codes m_facts m_newStep m_step m_newSteps m_works m_refusedSteps m_begun m_done m_refusedNow m_now m_s m_past m_newBook m_book m_written m_mostBy m_stuffing m_stuffedMany m_lastBy m_leftBy m_splitBy m_seedNow m_image m_images) (As := [.int y1, .int 1, .int 1]) (st := []) (ci := 10) (q0 := 0) rfl rfl (t_X10_may (a0 := a0) hc) Sub.same kw_1450 kw_1452 kw_20 kw_95 hy_X10_may kw_1453 rfl (Nat.le_of_ble_eq_true rfl) (Nat.le_of_ble_eq_true rfl) (Nat.le_of_ble_eq_true rfl) (Nat.le_of_ble_eq_true rfl) (Nat.le_of_ble_eq_true rfl) dX10_stuffed_17 ?_
  refine g_if_ne (pc := 20) C (tgt := 25) dX10_stuffed_20 rfl h (fun h => ?_) (fun h => ?_)
  · refine g_aload_n (pc := 25) C 0 rfl dX10_stuffed_25 ?_
    obtain ⟨c4, hc, h⟩ := b1_of h
    refine g_callV (pc := 26) C (w' := cs_X10 J.2.2.1 a0 c2 c3 m_taped m_size m_at m_bad m_badKind m_opens m_faultAt m_tape m_newBed m_newLetter m_newReader m_bed m_letter m_reader m_newBeds m_newLetters m_newReaders m_beds m_letters m_readers m_newCode m_newOf m_code m_ofCode m_stack m_newCodes m_codes m_facts m_newStep m_step m_newSteps m_works m_refusedSteps m_begun m_done m_refusedNow m_now c4 m_past m_newBook m_book m_written m_mostBy m_stuffing m_stuffedMany m_lastBy m_leftBy m_splitBy m_seedNow m_image m_images) (As := []) (st := []) (ci := 10) (q0 := 0) rfl rfl (t_X10_take (a0 := a0) hc) Sub.same kw_1595 kw_1597 kw_46 kw_95 hy_X10_take kw_1598 rfl (Nat.le_of_ble_eq_true rfl) (Nat.le_of_ble_eq_true rfl) (Nat.le_of_ble_eq_true rfl) (Nat.le_of_ble_eq_true rfl) (Nat.le_of_ble_eq_true rfl) dX10_stuffed_26 ?_
    refine g_aload_n (pc := 29) C 0 rfl dX10_stuffed_29 ?_
    obtain ⟨v5, c6, c7, c8, hc, h⟩ := b4_of h
    refine g_callV (pc := 30) C (w' := cs_X10 J.2.2.1 a0 c2 c3 m_taped m_size m_at m_bad m_badKind m_opens m_faultAt m_tape m_newBed m_newLetter m_newReader m_bed m_letter m_reader m_newBeds m_newLetters m_newReaders m_beds m_letters m_readers m_newCode m_newOf m_code m_ofCode m_stack m_newCodes m_codes m_facts m_newStep m_step m_newSteps m_works m_refusedSteps m_begun m_done m_refusedNow m_now c4 m_past m_newBook m_book m_written c6 c7 c8 m_lastBy m_leftBy m_splitBy m_seedNow m_image m_images) (As := []) (st := []) (ci := 10) (q0 := 0) rfl rfl (t_X10_laysSeams (a0 := a0) hc) Sub.same kw_1760 kw_1762 kw_71 kw_95 hy_X10_laysSeams kw_1763 rfl (Nat.le_of_ble_eq_true rfl) (Nat.le_of_ble_eq_true rfl) (Nat.le_of_ble_eq_true rfl) (Nat.le_of_ble_eq_true rfl) (Nat.le_of_ble_eq_true rfl) dX10_stuffed_30 ?_
    refine g_pop (pc := 33) C dX10_stuffed_33 rfl ?_
    refine g_iload_n (pc := 34) C 1 rfl dX10_stuffed_34 ?_
    refine g_aload_n (pc := 35) C 0 rfl dX10_stuffed_35 ?_
    refine g_get (pc := 36) C FOK_X10 0 rfl rfl 46 (by decide) kw_1323 rfl dX10_stuffed_36 ?_
    refine g_icmp_ge (pc := 39) C (tgt := 51) dX10_stuffed_39 rfl h (fun h => ?_) (fun h => ?_)
    · refine g_iconst (pc := 51) C dX10_stuffed_51 ci_m1 ?_
      cases h
      exact g_iret C E dX10_stuffed_52
    · refine g_aload_n (pc := 42) C 0 rfl dX10_stuffed_42 ?_
      refine g_get (pc := 43) C FOK_X10 0 rfl rfl 45 (by decide) kw_1322 rfl dX10_stuffed_43 ?_
      refine g_iload_n (pc := 46) C 1 rfl dX10_stuffed_46 ?_
      obtain ⟨hi, h⟩ := ix_of h
      refine g_iald (pc := 47) C 23 rfl hi dX10_stuffed_47 ?_
      refine g_goto (pc := 48) C (tgt := 52) dX10_stuffed_48 rfl ?_
      cases h
      exact g_iret C E dX10_stuffed_52
  · refine g_iconst (pc := 23) C dX10_stuffed_23 ci_0 ?_
    cases h
    exact g_iret C E dX10_stuffed_24
set_option maxRecDepth 100000 in
set_option maxHeartbeats 4000000 in
theorem t_X10_stuffed {J : Jt} {a0 : Nat → Nat} {m_thrown : Int32} {m_refused : Nat → Int32} {m_taped : Int32} {m_size : Int32} {m_at : Int32} {m_bad : Int32} {m_badKind : Int32} {m_opens : Int32} {m_faultAt : Int32} {m_tape : Nat → Int32} {m_newBed : Nat → Int32} {m_newLetter : Nat → Int32} {m_newReader : Nat → Int32} {m_bed : Nat → Int32} {m_letter : Nat → Int32} {m_reader : Nat → Int32} {m_newBeds : Int32} {m_newLetters : Int32} {m_newReaders : Int32} {m_beds : Int32} {m_letters : Int32} {m_readers : Int32} {m_newCode : Nat → Int32} {m_newOf : Nat → Int32} {m_code : Nat → Int32} {m_ofCode : Nat → Int32} {m_stack : Nat → Int32} {m_newCodes : Int32} {m_codes : Int32} {m_facts : Nat → Int32} {m_newStep : Nat → Int32} {m_step : Nat → Int32} {m_newSteps : Int32} {m_works : Int32} {m_refusedSteps : Int32} {m_begun : Int32} {m_done : Int32} {m_refusedNow : Int32} {m_now : Nat → Int32} {m_s : Nat → Int32} {m_past : Nat → Int32} {m_newBook : Nat → Int32} {m_book : Nat → Int32} {m_written : Int32} {m_mostBy : Nat → Int32} {m_stuffing : Nat → Int32} {m_stuffedMany : Int32} {m_lastBy : Nat → Int32} {m_leftBy : Nat → Int32} {m_splitBy : Nat → Int64} {m_seedNow : Int32} {m_image : Nat → Int32} {m_images : Int32} {n1 : Int32} {r : Int32} {o_m_thrown : Int32} {o_m_refused : Nat → Int32} {o_m_s : Nat → Int32} {o_m_mostBy : Nat → Int32} {o_m_stuffing : Nat → Int32} {o_m_stuffedMany : Int32} (h : f_X10_stuffed m_thrown m_refused m_letter m_letters m_now m_s m_mostBy m_stuffing m_stuffedMany n1 = some (r, o_m_thrown, o_m_refused, o_m_s, o_m_mostBy, o_m_stuffing, o_m_stuffedMany)) : Mt J yX10_stuffed cX10_stuffed 2 (some .int) rm_X10_stuffed [.ref (a0 0), .int n1] (cs_X10 J.2.2.1 a0 m_thrown m_refused m_taped m_size m_at m_bad m_badKind m_opens m_faultAt m_tape m_newBed m_newLetter m_newReader m_bed m_letter m_reader m_newBeds m_newLetters m_newReaders m_beds m_letters m_readers m_newCode m_newOf m_code m_ofCode m_stack m_newCodes m_codes m_facts m_newStep m_step m_newSteps m_works m_refusedSteps m_begun m_done m_refusedNow m_now m_s m_past m_newBook m_book m_written m_mostBy m_stuffing m_stuffedMany m_lastBy m_leftBy m_splitBy m_seedNow m_image m_images) (some (.int r)) (cs_X10 J.2.2.1 a0 o_m_thrown o_m_refused m_taped m_size m_at m_bad m_badKind m_opens m_faultAt m_tape m_newBed m_newLetter m_newReader m_bed m_letter m_reader m_newBeds m_newLetters m_newReaders m_beds m_letters m_readers m_newCode m_newOf m_code m_ofCode m_stack m_newCodes m_codes m_facts m_newStep m_step m_newSteps m_works m_refusedSteps m_begun m_done m_refusedNow m_now o_m_s m_past m_newBook m_book m_written o_m_mostBy o_m_stuffing o_m_stuffedMany m_lastBy m_leftBy m_splitBy m_seedNow m_image m_images) := by
  refine Mt_of (own := RX10) (by decide) rfl (Nat.le_of_ble_eq_true rfl) rfl (fun Z C E => ?_)
  unfold f_X10_stuffed at h
  show G J Z 0 0 (cs_X10 J.2.2.1 a0 m_thrown m_refused m_taped m_size m_at m_bad m_badKind m_opens m_faultAt m_tape m_newBed m_newLetter m_newReader m_bed m_letter m_reader m_newBeds m_newLetters m_newReaders m_beds m_letters m_readers m_newCode m_newOf m_code m_ofCode m_stack m_newCodes m_codes m_facts m_newStep m_step m_newSteps m_works m_refusedSteps m_begun m_done m_refusedNow m_now m_s m_past m_newBook m_book m_written m_mostBy m_stuffing m_stuffedMany m_lastBy m_leftBy m_splitBy m_seedNow m_image m_images) 2 [(0, .ref (a0 0)), (1, .int n1)] 0 []
  refine g_aload_n (pc := 0) C 0 rfl dX10_stuffed_0 ?_
  refine g_iconst (pc := 1) C dX10_stuffed_1 ci_0 ?_
  refine g_put (pc := 2) C (w' := cs_X10 J.2.2.1 a0 0 m_refused m_taped m_size m_at m_bad m_badKind m_opens m_faultAt m_tape m_newBed m_newLetter m_newReader m_bed m_letter m_reader m_newBeds m_newLetters m_newReaders m_beds m_letters m_readers m_newCode m_newOf m_code m_ofCode m_stack m_newCodes m_codes m_facts m_newStep m_step m_newSteps m_works m_refusedSteps m_begun m_done m_refusedNow m_now m_s m_past m_newBook m_book m_written m_mostBy m_stuffing m_stuffedMany m_lastBy m_leftBy m_splitBy m_seedNow m_image m_images) FOK_X10 0 rfl rfl 0 (by decide) kw_1277 rfl rfl rfl (Nat.le_of_ble_eq_true rfl) dX10_stuffed_2 rfl ?_
  refine g_aload_n (pc := 5) C 0 rfl dX10_stuffed_5 ?_
  refine g_iload_n (pc := 6) C 1 rfl dX10_stuffed_6 ?_
  refine g_if_lt (pc := 7) C (tgt := 14) dX10_stuffed_7 rfl h (fun h => ?_) (fun h => ?_)
  · refine g_iconst (pc := 14) C dX10_stuffed_14 ci_0 ?_
    exact j_X10_stuffed_15 C E    0 0 m_refused m_s m_mostBy m_stuffing m_stuffedMany h
  · refine g_iconst (pc := 10) C dX10_stuffed_10 ci_1 ?_
    refine g_goto (pc := 11) C (tgt := 15) dX10_stuffed_11 rfl ?_
    exact j_X10_stuffed_15 C E    1 0 m_refused m_s m_mostBy m_stuffing m_stuffedMany h
noncomputable def f_X10_bedsWith_49  (m_beds : Int32) (m_s : Nat → Int32) (n1 : Int32) (n2 : Int32) (k5 : Int32 → Int32 → Option (Int32)) : Nat → Int32 → Int32 → Int32 → Int32 → Option (Int32)
  | 0, _, _, _, _ => none
  | n + 1, x3, x4, x5, x6 => if m_beds ≤ x6 then if (n1 &&& (x5 ^^^ (-1))) = 0 then k5 x4 (x4 + 1) else k5 x3 (x4 + 1) else if ((x4 >>> (x6 &&& 31)) &&& 1) = 1 then b1 (f_X10_wordsIn m_s x6) (fun v1 => f_X10_bedsWith_49 m_beds m_s n1 n2 k5 n x3 x4 (x5 ||| v1) (x6 + 1)) else f_X10_bedsWith_49 m_beds m_s n1 n2 k5 n x3 x4 (x5 ||| 0) (x6 + 1)
noncomputable def f_X10_bedsWith_5  (m_beds : Int32) (m_s : Nat → Int32) (n1 : Int32) (n2 : Int32) : Nat → Int32 → Int32 → Option (Int32)
  | 0, _, _ => none
  | n + 1, x3, x4 => if ((1 : Int32) <<< (m_beds &&& 31)) ≤ x4 then some x3 else if (x4 &&& n2) = 0 then if x3 = (-1) then f_X10_bedsWith_49 m_beds m_s n1 n2 (f_X10_bedsWith_5 m_beds m_s n1 n2 n) FU x3 x4 0 0 else b1 (f_X10_ones x4) (fun v2 => b1 (f_X10_ones x3) (fun v3 => if v2 < v3 then f_X10_bedsWith_49 m_beds m_s n1 n2 (f_X10_bedsWith_5 m_beds m_s n1 n2 n) FU x3 x4 0 0 else f_X10_bedsWith_5 m_beds m_s n1 n2 n x3 (x4 + 1))) else f_X10_bedsWith_5 m_beds m_s n1 n2 n x3 (x4 + 1)
noncomputable def f_X10_bedsWith (m_beds : Int32) (m_s : Nat → Int32) (n1 : Int32) (n2 : Int32) : Option (Int32) := f_X10_bedsWith_5 m_beds m_s n1 n2 FU (-1) 0
def rm_X10_bedsWith : Room := { frames := 1, cells := 0, slots := 0, locals := 23 }
set_option maxRecDepth 100000 in
set_option maxHeartbeats 4000000 in
theorem j_X10_bedsWith_49 {J : Jt} {Z : Zt} {a0 : Nat → Nat} {m_thrown : Int32} {m_refused : Nat → Int32} {m_taped : Int32} {m_size : Int32} {m_at : Int32} {m_bad : Int32} {m_badKind : Int32} {m_opens : Int32} {m_faultAt : Int32} {m_tape : Nat → Int32} {m_newBed : Nat → Int32} {m_newLetter : Nat → Int32} {m_newReader : Nat → Int32} {m_bed : Nat → Int32} {m_letter : Nat → Int32} {m_reader : Nat → Int32} {m_newBeds : Int32} {m_newLetters : Int32} {m_newReaders : Int32} {m_beds : Int32} {m_letters : Int32} {m_readers : Int32} {m_newCode : Nat → Int32} {m_newOf : Nat → Int32} {m_code : Nat → Int32} {m_ofCode : Nat → Int32} {m_stack : Nat → Int32} {m_newCodes : Int32} {m_codes : Int32} {m_facts : Nat → Int32} {m_newStep : Nat → Int32} {m_step : Nat → Int32} {m_newSteps : Int32} {m_works : Int32} {m_refusedSteps : Int32} {m_begun : Int32} {m_done : Int32} {m_refusedNow : Int32} {m_now : Nat → Int32} {m_s : Nat → Int32} {m_past : Nat → Int32} {m_newBook : Nat → Int32} {m_book : Nat → Int32} {m_written : Int32} {m_mostBy : Nat → Int32} {m_stuffing : Nat → Int32} {m_stuffedMany : Int32} {m_lastBy : Nat → Int32} {m_leftBy : Nat → Int32} {m_splitBy : Nat → Int64} {m_seedNow : Int32} {m_image : Nat → Int32} {m_images : Int32} {n1 : Int32} {n2 : Int32} {r : Int32} {k5 : Int32 → Int32 → Option (Int32)} (C : Cx J Z cX10_bedsWith 7 RX10 (some .int) rm_X10_bedsWith) (E : Ez J Z 0 0 (some (.int r)) (cs_X10 J.2.2.1 a0 m_thrown m_refused m_taped m_size m_at m_bad m_badKind m_opens m_faultAt m_tape m_newBed m_newLetter m_newReader m_bed m_letter m_reader m_newBeds m_newLetters m_newReaders m_beds m_letters m_readers m_newCode m_newOf m_code m_ofCode m_stack m_newCodes m_codes m_facts m_newStep m_step m_newSteps m_works m_refusedSteps m_begun m_done m_refusedNow m_now m_s m_past m_newBook m_book m_written m_mostBy m_stuffing m_stuffedMany m_lastBy m_leftBy m_splitBy m_seedNow m_image m_images)) (hk5 : ∀ (x3 : Int32) (x4 : Int32), k5 x3 x4 = some r → G J Z 0 0 (cs_X10 J.2.2.1 a0 m_thrown m_refused m_taped m_size m_at m_bad m_badKind m_opens m_faultAt m_tape m_newBed m_newLetter m_newReader m_bed m_letter m_reader m_newBeds m_newLetters m_newReaders m_beds m_letters m_readers m_newCode m_newOf m_code m_ofCode m_stack m_newCodes m_codes m_facts m_newStep m_step m_newSteps m_works m_refusedSteps m_begun m_done m_refusedNow m_now m_s m_past m_newBook m_book m_written m_mostBy m_stuffing m_stuffedMany m_lastBy m_leftBy m_splitBy m_seedNow m_image m_images) 7 [(0, .ref (a0 0)), (1, .int n1), (2, .int n2), (3, .int x3), (4, .int x4)] 5 []) : ∀ (n : Nat) (x3 : Int32) (x4 : Int32) (x5 : Int32) (x6 : Int32), f_X10_bedsWith_49 m_beds m_s n1 n2 k5 n x3 x4 x5 x6 = some r → G J Z 0 0 (cs_X10 J.2.2.1 a0 m_thrown m_refused m_taped m_size m_at m_bad m_badKind m_opens m_faultAt m_tape m_newBed m_newLetter m_newReader m_bed m_letter m_reader m_newBeds m_newLetters m_newReaders m_beds m_letters m_readers m_newCode m_newOf m_code m_ofCode m_stack m_newCodes m_codes m_facts m_newStep m_step m_newSteps m_works m_refusedSteps m_begun m_done m_refusedNow m_now m_s m_past m_newBook m_book m_written m_mostBy m_stuffing m_stuffedMany m_lastBy m_leftBy m_splitBy m_seedNow m_image m_images) 7 [(0, .ref (a0 0)), (1, .int n1), (2, .int n2), (3, .int x3), (4, .int x4), (5, .int x5), (6, .int x6)] 49 [] := by
  intro n
  induction n with
  | zero =>
    intro x3 x4 x5 x6 h
    rw [f_X10_bedsWith_49] at h
    cases h
  | succ n ih =>
    intro x3 x4 x5 x6 h
    rw [f_X10_bedsWith_49] at h
    refine g_iload (pc := 49) C 6 rfl dX10_bedsWith_49 ?_
    refine g_aload_n (pc := 51) C 0 rfl dX10_bedsWith_51 ?_
    refine g_get (pc := 52) C FOK_X10 0 rfl rfl 19 (by decide) kw_1296 rfl dX10_bedsWith_52 ?_
    refine g_icmp_ge (pc := 55) C (tgt := 90) dX10_bedsWith_55 rfl h (fun h => ?_) (fun h => ?_)
    · refine g_iload_n (pc := 90) C 1 rfl dX10_bedsWith_90 ?_
      refine g_iload (pc := 91) C 5 rfl dX10_bedsWith_91 ?_
      refine g_iconst (pc := 93) C dX10_bedsWith_93 ci_m1 ?_
      refine g_ixor (pc := 94) C dX10_bedsWith_94 ?_
      refine g_iand (pc := 95) C dX10_bedsWith_95 ?_
      refine g_if_ne (pc := 96) C (tgt := 102) dX10_bedsWith_96 rfl h (fun h => ?_) (fun h => ?_)
      · refine g_iinc (pc := 102) C (j := 4) [(4, .int (x4 + 1)), (0, .ref (a0 0)), (1, .int n1), (2, .int n2), (3, .int x3), (5, .int x5), (6, .int x6)] dX10_bedsWith_102 rfl (ii_1 _) (by decide) rfl ?_
        refine g_goto (pc := 105) C (tgt := 5) dX10_bedsWith_105 rfl ?_
        refine g_lv [1, 2, 3, 4, 0] rfl ?_
        exact hk5 x3 (x4 + 1) h
      · refine g_iload (pc := 99) C 4 rfl dX10_bedsWith_99 ?_
        refine g_istore_n (pc := 101) C [(3, .int x4), (0, .ref (a0 0)), (1, .int n1), (2, .int n2), (4, .int x4), (5, .int x5), (6, .int x6)] dX10_bedsWith_101 rfl (by decide) rfl ?_
        refine g_iinc (pc := 102) C (j := 4) [(4, .int (x4 + 1)), (3, .int x4), (0, .ref (a0 0)), (1, .int n1), (2, .int n2), (5, .int x5), (6, .int x6)] dX10_bedsWith_102 rfl (ii_1 _) (by decide) rfl ?_
        refine g_goto (pc := 105) C (tgt := 5) dX10_bedsWith_105 rfl ?_
        refine g_lv [2, 3, 4, 1, 0] rfl ?_
        exact hk5 x4 (x4 + 1) h
    · refine g_iload (pc := 58) C 5 rfl dX10_bedsWith_58 ?_
      refine g_iload (pc := 60) C 4 rfl dX10_bedsWith_60 ?_
      refine g_iload (pc := 62) C 6 rfl dX10_bedsWith_62 ?_
      refine g_ishr (pc := 64) C dX10_bedsWith_64 ?_
      refine g_iconst (pc := 65) C dX10_bedsWith_65 ci_1 ?_
      refine g_iand (pc := 66) C dX10_bedsWith_66 ?_
      refine g_iconst (pc := 67) C dX10_bedsWith_67 ci_1 ?_
      refine g_icmp_ne (pc := 68) C (tgt := 80) dX10_bedsWith_68 rfl h (fun h => ?_) (fun h => ?_)
      · refine g_iconst (pc := 80) C dX10_bedsWith_80 ci_0 ?_
        refine g_ior (pc := 81) C dX10_bedsWith_81 ?_
        refine g_istore (pc := 82) C [(5, .int (x5 ||| 0)), (0, .ref (a0 0)), (1, .int n1), (2, .int n2), (3, .int x3), (4, .int x4), (6, .int x6)] dX10_bedsWith_82 (by decide) rfl ?_
        refine g_iinc (pc := 84) C (j := 6) [(6, .int (x6 + 1)), (5, .int (x5 ||| 0)), (0, .ref (a0 0)), (1, .int n1), (2, .int n2), (3, .int x3), (4, .int x4)] dX10_bedsWith_84 rfl (ii_1 _) (by decide) rfl ?_
        refine g_goto (pc := 87) C (tgt := 49) dX10_bedsWith_87 rfl ?_
        refine g_lv [2, 3, 4, 5, 6, 1, 0] rfl ?_
        exact ih x3 x4 (x5 ||| 0) (x6 + 1) h
      · refine g_aload_n (pc := 71) C 0 rfl dX10_bedsWith_71 ?_
        refine g_iload (pc := 72) C 6 rfl dX10_bedsWith_72 ?_
        obtain ⟨v1, hc, h⟩ := b1_of h
        refine g_callV (pc := 74) C (w' := cs_X10 J.2.2.1 a0 m_thrown m_refused m_taped m_size m_at m_bad m_badKind m_opens m_faultAt m_tape m_newBed m_newLetter m_newReader m_bed m_letter m_reader m_newBeds m_newLetters m_newReaders m_beds m_letters m_readers m_newCode m_newOf m_code m_ofCode m_stack m_newCodes m_codes m_facts m_newStep m_step m_newSteps m_works m_refusedSteps m_begun m_done m_refusedNow m_now m_s m_past m_newBook m_book m_written m_mostBy m_stuffing m_stuffedMany m_lastBy m_leftBy m_splitBy m_seedNow m_image m_images) (As := [.int x6]) (st := [.int x5]) (ci := 10) (q0 := 0) rfl rfl (t_X10_wordsIn (a0 := a0) hc) Sub.same kw_1631 kw_1633 kw_55 kw_95 hy_X10_wordsIn kw_1634 rfl (Nat.le_of_ble_eq_true rfl) (Nat.le_of_ble_eq_true rfl) (Nat.le_of_ble_eq_true rfl) (Nat.le_of_ble_eq_true rfl) (Nat.le_of_ble_eq_true rfl) dX10_bedsWith_74 ?_
        refine g_goto (pc := 77) C (tgt := 81) dX10_bedsWith_77 rfl ?_
        refine g_ior (pc := 81) C dX10_bedsWith_81 ?_
        refine g_istore (pc := 82) C [(5, .int (x5 ||| v1)), (0, .ref (a0 0)), (1, .int n1), (2, .int n2), (3, .int x3), (4, .int x4), (6, .int x6)] dX10_bedsWith_82 (by decide) rfl ?_
        refine g_iinc (pc := 84) C (j := 6) [(6, .int (x6 + 1)), (5, .int (x5 ||| v1)), (0, .ref (a0 0)), (1, .int n1), (2, .int n2), (3, .int x3), (4, .int x4)] dX10_bedsWith_84 rfl (ii_1 _) (by decide) rfl ?_
        refine g_goto (pc := 87) C (tgt := 49) dX10_bedsWith_87 rfl ?_
        refine g_lv [2, 3, 4, 5, 6, 1, 0] rfl ?_
        exact ih x3 x4 (x5 ||| v1) (x6 + 1) h
set_option maxRecDepth 100000 in
set_option maxHeartbeats 4000000 in
theorem j_X10_bedsWith_5 {J : Jt} {Z : Zt} {a0 : Nat → Nat} {m_thrown : Int32} {m_refused : Nat → Int32} {m_taped : Int32} {m_size : Int32} {m_at : Int32} {m_bad : Int32} {m_badKind : Int32} {m_opens : Int32} {m_faultAt : Int32} {m_tape : Nat → Int32} {m_newBed : Nat → Int32} {m_newLetter : Nat → Int32} {m_newReader : Nat → Int32} {m_bed : Nat → Int32} {m_letter : Nat → Int32} {m_reader : Nat → Int32} {m_newBeds : Int32} {m_newLetters : Int32} {m_newReaders : Int32} {m_beds : Int32} {m_letters : Int32} {m_readers : Int32} {m_newCode : Nat → Int32} {m_newOf : Nat → Int32} {m_code : Nat → Int32} {m_ofCode : Nat → Int32} {m_stack : Nat → Int32} {m_newCodes : Int32} {m_codes : Int32} {m_facts : Nat → Int32} {m_newStep : Nat → Int32} {m_step : Nat → Int32} {m_newSteps : Int32} {m_works : Int32} {m_refusedSteps : Int32} {m_begun : Int32} {m_done : Int32} {m_refusedNow : Int32} {m_now : Nat → Int32} {m_s : Nat → Int32} {m_past : Nat → Int32} {m_newBook : Nat → Int32} {m_book : Nat → Int32} {m_written : Int32} {m_mostBy : Nat → Int32} {m_stuffing : Nat → Int32} {m_stuffedMany : Int32} {m_lastBy : Nat → Int32} {m_leftBy : Nat → Int32} {m_splitBy : Nat → Int64} {m_seedNow : Int32} {m_image : Nat → Int32} {m_images : Int32} {n1 : Int32} {n2 : Int32} {r : Int32} (C : Cx J Z cX10_bedsWith 7 RX10 (some .int) rm_X10_bedsWith) (E : Ez J Z 0 0 (some (.int r)) (cs_X10 J.2.2.1 a0 m_thrown m_refused m_taped m_size m_at m_bad m_badKind m_opens m_faultAt m_tape m_newBed m_newLetter m_newReader m_bed m_letter m_reader m_newBeds m_newLetters m_newReaders m_beds m_letters m_readers m_newCode m_newOf m_code m_ofCode m_stack m_newCodes m_codes m_facts m_newStep m_step m_newSteps m_works m_refusedSteps m_begun m_done m_refusedNow m_now m_s m_past m_newBook m_book m_written m_mostBy m_stuffing m_stuffedMany m_lastBy m_leftBy m_splitBy m_seedNow m_image m_images)) : ∀ (n : Nat) (x3 : Int32) (x4 : Int32), f_X10_bedsWith_5 m_beds m_s n1 n2 n x3 x4 = some r → G J Z 0 0 (cs_X10 J.2.2.1 a0 m_thrown m_refused m_taped m_size m_at m_bad m_badKind m_opens m_faultAt m_tape m_newBed m_newLetter m_newReader m_bed m_letter m_reader m_newBeds m_newLetters m_newReaders m_beds m_letters m_readers m_newCode m_newOf m_code m_ofCode m_stack m_newCodes m_codes m_facts m_newStep m_step m_newSteps m_works m_refusedSteps m_begun m_done m_refusedNow m_now m_s m_past m_newBook m_book m_written m_mostBy m_stuffing m_stuffedMany m_lastBy m_leftBy m_splitBy m_seedNow m_image m_images) 7 [(0, .ref (a0 0)), (1, .int n1), (2, .int n2), (3, .int x3), (4, .int x4)] 5 [] := by
  intro n
  induction n with
  | zero =>
    intro x3 x4 h
    rw [f_X10_bedsWith_5] at h
    cases h
  | succ n ih =>
    intro x3 x4 h
    rw [f_X10_bedsWith_5] at h
    refine g_iload (pc := 5) C 4 rfl dX10_bedsWith_5 ?_
    refine g_iconst (pc := 7) C dX10_bedsWith_7 ci_1 ?_
    refine g_aload_n (pc := 8) C 0 rfl dX10_bedsWith_8 ?_
    refine g_get (pc := 9) C FOK_X10 0 rfl rfl 19 (by decide) kw_1296 rfl dX10_bedsWith_9 ?_
    refine g_ishl (pc := 12) C dX10_bedsWith_12 ?_
    refine g_icmp_ge (pc := 13) C (tgt := 108) dX10_bedsWith_13 rfl h (fun h => ?_) (fun h => ?_)
    · refine g_iload_n (pc := 108) C 3 rfl dX10_bedsWith_108 ?_
      cases h
      exact g_iret C E dX10_bedsWith_109
    · refine g_iload (pc := 16) C 4 rfl dX10_bedsWith_16 ?_
      refine g_iload_n (pc := 18) C 2 rfl dX10_bedsWith_18 ?_
      refine g_iand (pc := 19) C dX10_bedsWith_19 ?_
      refine g_if_ne (pc := 20) C (tgt := 102) dX10_bedsWith_20 rfl h (fun h => ?_) (fun h => ?_)
      · refine g_iinc (pc := 102) C (j := 4) [(4, .int (x4 + 1)), (0, .ref (a0 0)), (1, .int n1), (2, .int n2), (3, .int x3)] dX10_bedsWith_102 rfl (ii_1 _) (by decide) rfl ?_
        refine g_goto (pc := 105) C (tgt := 5) dX10_bedsWith_105 rfl ?_
        refine g_lv [1, 2, 3, 4, 0] rfl ?_
        exact ih x3 (x4 + 1) h
      · refine g_iload_n (pc := 23) C 3 rfl dX10_bedsWith_23 ?_
        refine g_iconst (pc := 24) C dX10_bedsWith_24 ci_m1 ?_
        refine g_icmp_eq (pc := 25) C (tgt := 43) dX10_bedsWith_25 rfl h (fun h => ?_) (fun h => ?_)
        · refine g_iconst (pc := 43) C dX10_bedsWith_43 ci_0 ?_
          refine g_istore (pc := 44) C [(5, .int 0), (0, .ref (a0 0)), (1, .int n1), (2, .int n2), (3, .int x3), (4, .int x4)] dX10_bedsWith_44 (by decide) rfl ?_
          refine g_iconst (pc := 46) C dX10_bedsWith_46 ci_0 ?_
          refine g_istore (pc := 47) C [(6, .int 0), (5, .int 0), (0, .ref (a0 0)), (1, .int n1), (2, .int n2), (3, .int x3), (4, .int x4)] dX10_bedsWith_47 (by decide) rfl ?_
          refine g_lv [2, 3, 4, 5, 6, 1, 0] rfl ?_
          exact j_X10_bedsWith_49 C E   ih FU x3 x4 0 0 h
        · refine g_iload (pc := 28) C 4 rfl dX10_bedsWith_28 ?_
          obtain ⟨v2, hc, h⟩ := b1_of h
          refine g_callS (pc := 30) C (w' := cs_X10 J.2.2.1 a0 m_thrown m_refused m_taped m_size m_at m_bad m_badKind m_opens m_faultAt m_tape m_newBed m_newLetter m_newReader m_bed m_letter m_reader m_newBeds m_newLetters m_newReaders m_beds m_letters m_readers m_newCode m_newOf m_code m_ofCode m_stack m_newCodes m_codes m_facts m_newStep m_step m_newSteps m_works m_refusedSteps m_begun m_done m_refusedNow m_now m_s m_past m_newBook m_book m_written m_mostBy m_stuffing m_stuffedMany m_lastBy m_leftBy m_splitBy m_seedNow m_image m_images) (As := [.int x4]) (st := []) (t_X10_ones hc) Sub.nil kw_1785 kw_1786 kw_95 hy_X10_ones kw_1787 rfl (Nat.le_of_ble_eq_true rfl) (Nat.le_of_ble_eq_true rfl) (Nat.le_of_ble_eq_true rfl) (Nat.le_of_ble_eq_true rfl) (Nat.le_of_ble_eq_true rfl) dX10_bedsWith_30 ?_
          refine g_iload_n (pc := 33) C 3 rfl dX10_bedsWith_33 ?_
          obtain ⟨v3, hc, h⟩ := b1_of h
          refine g_callS (pc := 34) C (w' := cs_X10 J.2.2.1 a0 m_thrown m_refused m_taped m_size m_at m_bad m_badKind m_opens m_faultAt m_tape m_newBed m_newLetter m_newReader m_bed m_letter m_reader m_newBeds m_newLetters m_newReaders m_beds m_letters m_readers m_newCode m_newOf m_code m_ofCode m_stack m_newCodes m_codes m_facts m_newStep m_step m_newSteps m_works m_refusedSteps m_begun m_done m_refusedNow m_now m_s m_past m_newBook m_book m_written m_mostBy m_stuffing m_stuffedMany m_lastBy m_leftBy m_splitBy m_seedNow m_image m_images) (As := [.int x3]) (st := [.int v2]) (t_X10_ones hc) Sub.nil kw_1785 kw_1786 kw_95 hy_X10_ones kw_1787 rfl (Nat.le_of_ble_eq_true rfl) (Nat.le_of_ble_eq_true rfl) (Nat.le_of_ble_eq_true rfl) (Nat.le_of_ble_eq_true rfl) (Nat.le_of_ble_eq_true rfl) dX10_bedsWith_34 ?_
          refine g_icmp_lt (pc := 37) C (tgt := 43) dX10_bedsWith_37 rfl h (fun h => ?_) (fun h => ?_)
          · refine g_iconst (pc := 43) C dX10_bedsWith_43 ci_0 ?_
            refine g_istore (pc := 44) C [(5, .int 0), (0, .ref (a0 0)), (1, .int n1), (2, .int n2), (3, .int x3), (4, .int x4)] dX10_bedsWith_44 (by decide) rfl ?_
            refine g_iconst (pc := 46) C dX10_bedsWith_46 ci_0 ?_
            refine g_istore (pc := 47) C [(6, .int 0), (5, .int 0), (0, .ref (a0 0)), (1, .int n1), (2, .int n2), (3, .int x3), (4, .int x4)] dX10_bedsWith_47 (by decide) rfl ?_
            refine g_lv [2, 3, 4, 5, 6, 1, 0] rfl ?_
            exact j_X10_bedsWith_49 C E   ih FU x3 x4 0 0 h
          · refine g_goto (pc := 40) C (tgt := 102) dX10_bedsWith_40 rfl ?_
            refine g_iinc (pc := 102) C (j := 4) [(4, .int (x4 + 1)), (0, .ref (a0 0)), (1, .int n1), (2, .int n2), (3, .int x3)] dX10_bedsWith_102 rfl (ii_1 _) (by decide) rfl ?_
            refine g_goto (pc := 105) C (tgt := 5) dX10_bedsWith_105 rfl ?_
            refine g_lv [1, 2, 3, 4, 0] rfl ?_
            exact ih x3 (x4 + 1) h
set_option maxRecDepth 100000 in
set_option maxHeartbeats 4000000 in
theorem t_X10_bedsWith {J : Jt} {a0 : Nat → Nat} {m_thrown : Int32} {m_refused : Nat → Int32} {m_taped : Int32} {m_size : Int32} {m_at : Int32} {m_bad : Int32} {m_badKind : Int32} {m_opens : Int32} {m_faultAt : Int32} {m_tape : Nat → Int32} {m_newBed : Nat → Int32} {m_newLetter : Nat → Int32} {m_newReader : Nat → Int32} {m_bed : Nat → Int32} {m_letter : Nat → Int32} {m_reader : Nat → Int32} {m_newBeds : Int32} {m_newLetters : Int32} {m_newReaders : Int32} {m_beds : Int32} {m_letters : Int32} {m_readers : Int32} {m_newCode : Nat → Int32} {m_newOf : Nat → Int32} {m_code : Nat → Int32} {m_ofCode : Nat → Int32} {m_stack : Nat → Int32} {m_newCodes : Int32} {m_codes : Int32} {m_facts : Nat → Int32} {m_newStep : Nat → Int32} {m_step : Nat → Int32} {m_newSteps : Int32} {m_works : Int32} {m_refusedSteps : Int32} {m_begun : Int32} {m_done : Int32} {m_refusedNow : Int32} {m_now : Nat → Int32} {m_s : Nat → Int32} {m_past : Nat → Int32} {m_newBook : Nat → Int32} {m_book : Nat → Int32} {m_written : Int32} {m_mostBy : Nat → Int32} {m_stuffing : Nat → Int32} {m_stuffedMany : Int32} {m_lastBy : Nat → Int32} {m_leftBy : Nat → Int32} {m_splitBy : Nat → Int64} {m_seedNow : Int32} {m_image : Nat → Int32} {m_images : Int32} {n1 : Int32} {n2 : Int32} {r : Int32} (h : f_X10_bedsWith m_beds m_s n1 n2 = some r) : Mt J yX10_bedsWith cX10_bedsWith 7 (some .int) rm_X10_bedsWith [.ref (a0 0), .int n1, .int n2] (cs_X10 J.2.2.1 a0 m_thrown m_refused m_taped m_size m_at m_bad m_badKind m_opens m_faultAt m_tape m_newBed m_newLetter m_newReader m_bed m_letter m_reader m_newBeds m_newLetters m_newReaders m_beds m_letters m_readers m_newCode m_newOf m_code m_ofCode m_stack m_newCodes m_codes m_facts m_newStep m_step m_newSteps m_works m_refusedSteps m_begun m_done m_refusedNow m_now m_s m_past m_newBook m_book m_written m_mostBy m_stuffing m_stuffedMany m_lastBy m_leftBy m_splitBy m_seedNow m_image m_images) (some (.int r)) (cs_X10 J.2.2.1 a0 m_thrown m_refused m_taped m_size m_at m_bad m_badKind m_opens m_faultAt m_tape m_newBed m_newLetter m_newReader m_bed m_letter m_reader m_newBeds m_newLetters m_newReaders m_beds m_letters m_readers m_newCode m_newOf m_code m_ofCode m_stack m_newCodes m_codes m_facts m_newStep m_step m_newSteps m_works m_refusedSteps m_begun m_done m_refusedNow m_now m_s m_past m_newBook m_book m_written m_mostBy m_stuffing m_stuffedMany m_lastBy m_leftBy m_splitBy m_seedNow m_image m_images) := by
  refine Mt_of (own := RX10) (by decide) rfl (Nat.le_of_ble_eq_true rfl) rfl (fun Z C E => ?_)
  unfold f_X10_bedsWith at h
  show G J Z 0 0 (cs_X10 J.2.2.1 a0 m_thrown m_refused m_taped m_size m_at m_bad m_badKind m_opens m_faultAt m_tape m_newBed m_newLetter m_newReader m_bed m_letter m_reader m_newBeds m_newLetters m_newReaders m_beds m_letters m_readers m_newCode m_newOf m_code m_ofCode m_stack m_newCodes m_codes m_facts m_newStep m_step m_newSteps m_works m_refusedSteps m_begun m_done m_refusedNow m_now m_s m_past m_newBook m_book m_written m_mostBy m_stuffing m_stuffedMany m_lastBy m_leftBy m_splitBy m_seedNow m_image m_images) 7 [(0, .ref (a0 0)), (1, .int n1), (2, .int n2)] 0 []
  refine g_iconst (pc := 0) C dX10_bedsWith_0 ci_m1 ?_
  refine g_istore_n (pc := 1) C [(3, .int (-1)), (0, .ref (a0 0)), (1, .int n1), (2, .int n2)] dX10_bedsWith_1 rfl (by decide) rfl ?_
  refine g_iconst (pc := 2) C dX10_bedsWith_2 ci_0 ?_
  refine g_istore (pc := 3) C [(4, .int 0), (3, .int (-1)), (0, .ref (a0 0)), (1, .int n1), (2, .int n2)] dX10_bedsWith_3 (by decide) rfl ?_
  refine g_lv [2, 3, 4, 1, 0] rfl ?_
  exact j_X10_bedsWith_5 C E    FU (-1) 0 h
noncomputable def f_X10_all (m_thrown : Int32) (m_refused : Nat → Int32) (m_beds : Int32) (m_now : Nat → Int32) (m_s : Nat → Int32) (n1 : Int32) : Option (Int32 × Int32 × (Nat → Int32) × (Nat → Int32)) := b1 (f_X10_within n1 0 65535) (fun v1 => b3 (f_X10_may 0 m_refused v1 1 1) (fun v2 c3 c4 => if v2 = 0 then some (0, c3, c4, m_s) else b1 (f_X10_take m_now m_s) (fun c5 => b1 (f_X10_bedsWith m_beds c5 n1 0) (fun v6 => some (v6, c3, c4, c5)))))
def rm_X10_all : Room := { frames := 2, cells := 0, slots := 0, locals := 49 }
set_option maxRecDepth 100000 in
set_option maxHeartbeats 4000000 in
theorem t_X10_all {J : Jt} {a0 : Nat → Nat} {m_thrown : Int32} {m_refused : Nat → Int32} {m_taped : Int32} {m_size : Int32} {m_at : Int32} {m_bad : Int32} {m_badKind : Int32} {m_opens : Int32} {m_faultAt : Int32} {m_tape : Nat → Int32} {m_newBed : Nat → Int32} {m_newLetter : Nat → Int32} {m_newReader : Nat → Int32} {m_bed : Nat → Int32} {m_letter : Nat → Int32} {m_reader : Nat → Int32} {m_newBeds : Int32} {m_newLetters : Int32} {m_newReaders : Int32} {m_beds : Int32} {m_letters : Int32} {m_readers : Int32} {m_newCode : Nat → Int32} {m_newOf : Nat → Int32} {m_code : Nat → Int32} {m_ofCode : Nat → Int32} {m_stack : Nat → Int32} {m_newCodes : Int32} {m_codes : Int32} {m_facts : Nat → Int32} {m_newStep : Nat → Int32} {m_step : Nat → Int32} {m_newSteps : Int32} {m_works : Int32} {m_refusedSteps : Int32} {m_begun : Int32} {m_done : Int32} {m_refusedNow : Int32} {m_now : Nat → Int32} {m_s : Nat → Int32} {m_past : Nat → Int32} {m_newBook : Nat → Int32} {m_book : Nat → Int32} {m_written : Int32} {m_mostBy : Nat → Int32} {m_stuffing : Nat → Int32} {m_stuffedMany : Int32} {m_lastBy : Nat → Int32} {m_leftBy : Nat → Int32} {m_splitBy : Nat → Int64} {m_seedNow : Int32} {m_image : Nat → Int32} {m_images : Int32} {n1 : Int32} {r : Int32} {o_m_thrown : Int32} {o_m_refused : Nat → Int32} {o_m_s : Nat → Int32} (h : f_X10_all m_thrown m_refused m_beds m_now m_s n1 = some (r, o_m_thrown, o_m_refused, o_m_s)) : Mt J yX10_all cX10_all 2 (some .int) rm_X10_all [.ref (a0 0), .int n1] (cs_X10 J.2.2.1 a0 m_thrown m_refused m_taped m_size m_at m_bad m_badKind m_opens m_faultAt m_tape m_newBed m_newLetter m_newReader m_bed m_letter m_reader m_newBeds m_newLetters m_newReaders m_beds m_letters m_readers m_newCode m_newOf m_code m_ofCode m_stack m_newCodes m_codes m_facts m_newStep m_step m_newSteps m_works m_refusedSteps m_begun m_done m_refusedNow m_now m_s m_past m_newBook m_book m_written m_mostBy m_stuffing m_stuffedMany m_lastBy m_leftBy m_splitBy m_seedNow m_image m_images) (some (.int r)) (cs_X10 J.2.2.1 a0 o_m_thrown o_m_refused m_taped m_size m_at m_bad m_badKind m_opens m_faultAt m_tape m_newBed m_newLetter m_newReader m_bed m_letter m_reader m_newBeds m_newLetters m_newReaders m_beds m_letters m_readers m_newCode m_newOf m_code m_ofCode m_stack m_newCodes m_codes m_facts m_newStep m_step m_newSteps m_works m_refusedSteps m_begun m_done m_refusedNow m_now o_m_s m_past m_newBook m_book m_written m_mostBy m_stuffing m_stuffedMany m_lastBy m_leftBy m_splitBy m_seedNow m_image m_images) := by
  refine Mt_of (own := RX10) (by decide) rfl (Nat.le_of_ble_eq_true rfl) rfl (fun Z C E => ?_)
  unfold f_X10_all at h
  show G J Z 0 0 (cs_X10 J.2.2.1 a0 m_thrown m_refused m_taped m_size m_at m_bad m_badKind m_opens m_faultAt m_tape m_newBed m_newLetter m_newReader m_bed m_letter m_reader m_newBeds m_newLetters m_newReaders m_beds m_letters m_readers m_newCode m_newOf m_code m_ofCode m_stack m_newCodes m_codes m_facts m_newStep m_step m_newSteps m_works m_refusedSteps m_begun m_done m_refusedNow m_now m_s m_past m_newBook m_book m_written m_mostBy m_stuffing m_stuffedMany m_lastBy m_leftBy m_splitBy m_seedNow m_image m_images) 2 [(0, .ref (a0 0)), (1, .int n1)] 0 []
  refine g_aload_n (pc := 0) C 0 rfl dX10_all_0 ?_
  refine g_iconst (pc := 1) C dX10_all_1 ci_0 ?_
  refine g_put (pc := 2) C (w' := cs_X10 J.2.2.1 a0 0 m_refused m_taped m_size m_at m_bad m_badKind m_opens m_faultAt m_tape m_newBed m_newLetter m_newReader m_bed m_letter m_reader m_newBeds m_newLetters m_newReaders m_beds m_letters m_readers m_newCode m_newOf m_code m_ofCode m_stack m_newCodes m_codes m_facts m_newStep m_step m_newSteps m_works m_refusedSteps m_begun m_done m_refusedNow m_now m_s m_past m_newBook m_book m_written m_mostBy m_stuffing m_stuffedMany m_lastBy m_leftBy m_splitBy m_seedNow m_image m_images) FOK_X10 0 rfl rfl 0 (by decide) kw_1277 rfl rfl rfl (Nat.le_of_ble_eq_true rfl) dX10_all_2 rfl ?_
  refine g_aload_n (pc := 5) C 0 rfl dX10_all_5 ?_
  refine g_iload_n (pc := 6) C 1 rfl dX10_all_6 ?_
  refine g_iconst (pc := 7) C dX10_all_7 ci_0 ?_
  refine g_ldcw (pc := 8) C dX10_all_8 kw_1780 ?_
  obtain ⟨v1, hc, h⟩ := b1_of h
  refine g_callS (pc := 11) C (w' := cs_X10 J.2.2.1 a0 0 m_refused m_taped m_size m_at m_bad m_badKind m_opens m_faultAt m_tape m_newBed m_newLetter m_newReader m_bed m_letter m_reader m_newBeds m_newLetters m_newReaders m_beds m_letters m_readers m_newCode m_newOf m_code m_ofCode m_stack m_newCodes m_codes m_facts m_newStep m_step m_newSteps m_works m_refusedSteps m_begun m_done m_refusedNow m_now m_s m_past m_newBook m_book m_written m_mostBy m_stuffing m_stuffedMany m_lastBy m_leftBy m_splitBy m_seedNow m_image m_images) (As := [.int n1, .int 0, .int 65535]) (st := [.ref (a0 0)]) (t_X10_within hc) Sub.nil kw_1689 kw_1690 kw_95 hy_X10_within kw_1691 rfl (Nat.le_of_ble_eq_true rfl) (Nat.le_of_ble_eq_true rfl) (Nat.le_of_ble_eq_true rfl) (Nat.le_of_ble_eq_true rfl) (Nat.le_of_ble_eq_true rfl) dX10_all_11 ?_
  refine g_iconst (pc := 14) C dX10_all_14 ci_1 ?_
  refine g_iconst (pc := 15) C dX10_all_15 ci_1 ?_
  obtain ⟨v2, c3, c4, hc, h⟩ := b3_of h
  refine g_callV (pc := 16) C (w' := cs_X10 J.2.2.1 a0 c3 c4 m_taped m_size m_at m_bad m_badKind m_opens m_faultAt m_tape m_newBed m_newLetter m_newReader m_bed m_letter m_reader m_newBeds m_newLetters m_newReaders m_beds m_letters m_readers m_newCode m_newOf m_code m_ofCode m_stack m_newCodes m_codes m_facts m_newStep m_step m_newSteps m_works m_refusedSteps m_begun m_done m_refusedNow m_now m_s m_past m_newBook m_book m_written m_mostBy m_stuffing m_stuffedMany m_lastBy m_leftBy m_splitBy m_seedNow m_image m_images) (As := [.int v1, .int 1, .int 1]) (st := []) (ci := 10) (q0 := 0) rfl rfl (t_X10_may (a0 := a0) hc) Sub.same kw_1450 kw_1452 kw_20 kw_95 hy_X10_may kw_1453 rfl (Nat.le_of_ble_eq_true rfl) (Nat.le_of_ble_eq_true rfl) (Nat.le_of_ble_eq_true rfl) (Nat.le_of_ble_eq_true rfl) (Nat.le_of_ble_eq_true rfl) dX10_all_16 ?_
  refine g_if_ne (pc := 19) C (tgt := 24) dX10_all_19 rfl h (fun h => ?_) (fun h => ?_)
  · refine g_aload_n (pc := 24) C 0 rfl dX10_all_24 ?_
    obtain ⟨c5, hc, h⟩ := b1_of h
    refine g_callV (pc := 25) C (w' := cs_X10 J.2.2.1 a0 c3 c4 m_taped m_size m_at m_bad m_badKind m_opens m_faultAt m_tape m_newBed m_newLetter m_newReader m_bed m_letter m_reader m_newBeds m_newLetters m_newReaders m_beds m_letters m_readers m_newCode m_newOf m_code m_ofCode m_stack m_newCodes m_codes m_facts m_newStep m_step m_newSteps m_works m_refusedSteps m_begun m_done m_refusedNow m_now c5 m_past m_newBook m_book m_written m_mostBy m_stuffing m_stuffedMany m_lastBy m_leftBy m_splitBy m_seedNow m_image m_images) (As := []) (st := []) (ci := 10) (q0 := 0) rfl rfl (t_X10_take (a0 := a0) hc) Sub.same kw_1595 kw_1597 kw_46 kw_95 hy_X10_take kw_1598 rfl (Nat.le_of_ble_eq_true rfl) (Nat.le_of_ble_eq_true rfl) (Nat.le_of_ble_eq_true rfl) (Nat.le_of_ble_eq_true rfl) (Nat.le_of_ble_eq_true rfl) dX10_all_25 ?_
    refine g_aload_n (pc := 28) C 0 rfl dX10_all_28 ?_
    refine g_iload_n (pc := 29) C 1 rfl dX10_all_29 ?_
    refine g_iconst (pc := 30) C dX10_all_30 ci_0 ?_
    obtain ⟨v6, hc, h⟩ := b1_of h
    refine g_callV (pc := 31) C (w' := cs_X10 J.2.2.1 a0 c3 c4 m_taped m_size m_at m_bad m_badKind m_opens m_faultAt m_tape m_newBed m_newLetter m_newReader m_bed m_letter m_reader m_newBeds m_newLetters m_newReaders m_beds m_letters m_readers m_newCode m_newOf m_code m_ofCode m_stack m_newCodes m_codes m_facts m_newStep m_step m_newSteps m_works m_refusedSteps m_begun m_done m_refusedNow m_now c5 m_past m_newBook m_book m_written m_mostBy m_stuffing m_stuffedMany m_lastBy m_leftBy m_splitBy m_seedNow m_image m_images) (As := [.int n1, .int 0]) (st := []) (ci := 10) (q0 := 0) rfl rfl (t_X10_bedsWith (a0 := a0) hc) Sub.same kw_1781 kw_1783 kw_74 kw_95 hy_X10_bedsWith kw_1784 rfl (Nat.le_of_ble_eq_true rfl) (Nat.le_of_ble_eq_true rfl) (Nat.le_of_ble_eq_true rfl) (Nat.le_of_ble_eq_true rfl) (Nat.le_of_ble_eq_true rfl) dX10_all_31 ?_
    cases h
    exact g_iret C E dX10_all_34
  · refine g_iconst (pc := 22) C dX10_all_22 ci_0 ?_
    cases h
    exact g_iret C E dX10_all_23
