noncomputable def f_X10_isSummer  (n1 : Int32) (n2 : Int32) : Option (Int32) := if n1 < 0 then some 0 else if 16 < n1 then some 0 else if n2 < 1 then some 0 else if 48 < n2 then some 0 else some 1
def rm_X10_isSummer : Room := { frames := 0, cells := 0, slots := 0, locals := 0 }
set_option maxRecDepth 100000 in
set_option maxHeartbeats 4000000 in
theorem t_X10_isSummer {J : Jt}  {n1 : Int32} {n2 : Int32} {r : Int32} (h : f_X10_isSummer n1 n2 = some r) : Mt J yX10_isSummer cX10_isSummer 2 (some .boolean) rm_X10_isSummer [.int n1, .int n2] ([]) (some (.int r)) ([]) := by
  refine Mt_of (own := RX10) (by decide) rfl (Nat.le_of_ble_eq_true rfl) rfl (fun Z C E => ?_)
  unfold f_X10_isSummer at h
  show G J Z 0 0 ([]) 2 [(0, .int n1), (1, .int n2)] 0 []
  refine g_iload_n (pc := 0) C 0 rfl dX10_isSummer_0 ?_
  refine g_if_lt (pc := 1) C (tgt := 25) dX10_isSummer_1 rfl h (fun h => ?_) (fun h => ?_)
  · refine g_iconst (pc := 25) C dX10_isSummer_25 ci_0 ?_
    cases h
    exact g_zret C rfl E dX10_isSummer_26
  · refine g_iload_n (pc := 4) C 0 rfl dX10_isSummer_4 ?_
    refine g_bipush (pc := 5) C dX10_isSummer_5 cb_16 ?_
    refine g_icmp_gt (pc := 7) C (tgt := 25) dX10_isSummer_7 rfl h (fun h => ?_) (fun h => ?_)
    · refine g_iconst (pc := 25) C dX10_isSummer_25 ci_0 ?_
      cases h
      exact g_zret C rfl E dX10_isSummer_26
    · refine g_iload_n (pc := 10) C 1 rfl dX10_isSummer_10 ?_
      refine g_iconst (pc := 11) C dX10_isSummer_11 ci_1 ?_
      refine g_icmp_lt (pc := 12) C (tgt := 25) dX10_isSummer_12 rfl h (fun h => ?_) (fun h => ?_)
      · refine g_iconst (pc := 25) C dX10_isSummer_25 ci_0 ?_
        cases h
        exact g_zret C rfl E dX10_isSummer_26
      · refine g_iload_n (pc := 15) C 1 rfl dX10_isSummer_15 ?_
        refine g_bipush (pc := 16) C dX10_isSummer_16 cb_48 ?_
        refine g_icmp_gt (pc := 18) C (tgt := 25) dX10_isSummer_18 rfl h (fun h => ?_) (fun h => ?_)
        · refine g_iconst (pc := 25) C dX10_isSummer_25 ci_0 ?_
          cases h
          exact g_zret C rfl E dX10_isSummer_26
        · refine g_iconst (pc := 21) C dX10_isSummer_21 ci_1 ?_
          refine g_goto (pc := 22) C (tgt := 26) dX10_isSummer_22 rfl ?_
          cases h
          exact g_zret C rfl E dX10_isSummer_26
noncomputable def f_X10_heardAny_4 (m_readers : Int32) (m_s : Nat → Int32) : Nat → Int32 → Int32 → Option (Int32)
  | 0, _, _ => none
  | n + 1, x1, x2 => if m_readers ≤ x2 then some x1 else if ixb (95 + x2) 165 then f_X10_heardAny_4 m_readers m_s n (x1 ||| (m_s (95 + x2).toNatClampNeg)) (x2 + 1) else none
noncomputable def f_X10_heardAny (m_readers : Int32) (m_s : Nat → Int32) : Option (Int32) := f_X10_heardAny_4 m_readers m_s FU 0 0
def rm_X10_heardAny : Room := { frames := 0, cells := 0, slots := 0, locals := 0 }
set_option maxRecDepth 100000 in
set_option maxHeartbeats 4000000 in
theorem j_X10_heardAny_4 {J : Jt} {Z : Zt} {a0 : Nat → Nat} {m_thrown : Int32} {m_refused : Nat → Int32} {m_taped : Int32} {m_size : Int32} {m_at : Int32} {m_bad : Int32} {m_badKind : Int32} {m_opens : Int32} {m_faultAt : Int32} {m_tape : Nat → Int32} {m_newBed : Nat → Int32} {m_newLetter : Nat → Int32} {m_newReader : Nat → Int32} {m_bed : Nat → Int32} {m_letter : Nat → Int32} {m_reader : Nat → Int32} {m_newBeds : Int32} {m_newLetters : Int32} {m_newReaders : Int32} {m_beds : Int32} {m_letters : Int32} {m_readers : Int32} {m_newCode : Nat → Int32} {m_newOf : Nat → Int32} {m_code : Nat → Int32} {m_ofCode : Nat → Int32} {m_stack : Nat → Int32} {m_newCodes : Int32} {m_codes : Int32} {m_facts : Nat → Int32} {m_newStep : Nat → Int32} {m_step : Nat → Int32} {m_newSteps : Int32} {m_works : Int32} {m_refusedSteps : Int32} {m_begun : Int32} {m_done : Int32} {m_refusedNow : Int32} {m_now : Nat → Int32} {m_s : Nat → Int32} {m_past : Nat → Int32} {m_newBook : Nat → Int32} {m_book : Nat → Int32} {m_written : Int32} {m_mostBy : Nat → Int32} {m_stuffing : Nat → Int32} {m_stuffedMany : Int32} {m_lastBy : Nat → Int32} {m_leftBy : Nat → Int32} {m_splitBy : Nat → Int64} {m_seedNow : Int32} {m_image : Nat → Int32} {m_images : Int32} {r : Int32} (C : Cx J Z cX10_heardAny 3 RX10 (some .int) rm_X10_heardAny) (E : Ez J Z 0 0 (some (.int r)) (cs_X10 J.2.2.1 a0 m_thrown m_refused m_taped m_size m_at m_bad m_badKind m_opens m_faultAt m_tape m_newBed m_newLetter m_newReader m_bed m_letter m_reader m_newBeds m_newLetters m_newReaders m_beds m_letters m_readers m_newCode m_newOf m_code m_ofCode m_stack m_newCodes m_codes m_facts m_newStep m_step m_newSteps m_works m_refusedSteps m_begun m_done m_refusedNow m_now m_s m_past m_newBook m_book m_written m_mostBy m_stuffing m_stuffedMany m_lastBy m_leftBy m_splitBy m_seedNow m_image m_images)) : ∀ (n : Nat) (x1 : Int32) (x2 : Int32), f_X10_heardAny_4 m_readers m_s n x1 x2 = some r → G J Z 0 0 (cs_X10 J.2.2.1 a0 m_thrown m_refused m_taped m_size m_at m_bad m_badKind m_opens m_faultAt m_tape m_newBed m_newLetter m_newReader m_bed m_letter m_reader m_newBeds m_newLetters m_newReaders m_beds m_letters m_readers m_newCode m_newOf m_code m_ofCode m_stack m_newCodes m_codes m_facts m_newStep m_step m_newSteps m_works m_refusedSteps m_begun m_done m_refusedNow m_now m_s m_past m_newBook m_book m_written m_mostBy m_stuffing m_stuffedMany m_lastBy m_leftBy m_splitBy m_seedNow m_image m_images) 3 [(0, .ref (a0 0)), (1, .int x1), (2, .int x2)] 4 [] := by
  intro n
  induction n with
  | zero =>
    intro x1 x2 h
    rw [f_X10_heardAny_4] at h
    cases h
  | succ n ih =>
    intro x1 x2 h
    rw [f_X10_heardAny_4] at h
    refine g_iload_n (pc := 4) C 2 rfl dX10_heardAny_4 ?_
    refine g_aload_n (pc := 5) C 0 rfl dX10_heardAny_5 ?_
    refine g_get (pc := 6) C FOK_X10 0 rfl rfl 21 (by decide) kw_1298 rfl dX10_heardAny_6 ?_
    refine g_icmp_ge (pc := 9) C (tgt := 30) dX10_heardAny_9 rfl h (fun h => ?_) (fun h => ?_)
    · refine g_iload_n (pc := 30) C 1 rfl dX10_heardAny_30 ?_
      cases h
      exact g_iret C E dX10_heardAny_31
    · refine g_iload_n (pc := 12) C 1 rfl dX10_heardAny_12 ?_
      refine g_aload_n (pc := 13) C 0 rfl dX10_heardAny_13 ?_
      refine g_get (pc := 14) C FOK_X10 0 rfl rfl 39 (by decide) kw_1316 rfl dX10_heardAny_14 ?_
      refine g_bipush (pc := 17) C dX10_heardAny_17 cb_95 ?_
      refine g_iload_n (pc := 19) C 2 rfl dX10_heardAny_19 ?_
      refine g_iadd (pc := 20) C dX10_heardAny_20 ?_
      obtain ⟨hi, h⟩ := ix_of h
      refine g_iald (pc := 21) C 18 rfl hi dX10_heardAny_21 ?_
      refine g_ior (pc := 22) C dX10_heardAny_22 ?_
      refine g_istore_n (pc := 23) C [(1, .int (x1 ||| (m_s (95 + x2).toNatClampNeg))), (0, .ref (a0 0)), (2, .int x2)] dX10_heardAny_23 rfl (by decide) rfl ?_
      refine g_iinc (pc := 24) C (j := 2) [(2, .int (x2 + 1)), (1, .int (x1 ||| (m_s (95 + x2).toNatClampNeg))), (0, .ref (a0 0))] dX10_heardAny_24 rfl (ii_1 _) (by decide) rfl ?_
      refine g_goto (pc := 27) C (tgt := 4) dX10_heardAny_27 rfl ?_
      refine g_lv [2, 1, 0] rfl ?_
      exact ih (x1 ||| (m_s (95 + x2).toNatClampNeg)) (x2 + 1) h
set_option maxRecDepth 100000 in
set_option maxHeartbeats 4000000 in
theorem t_X10_heardAny {J : Jt} {a0 : Nat → Nat} {m_thrown : Int32} {m_refused : Nat → Int32} {m_taped : Int32} {m_size : Int32} {m_at : Int32} {m_bad : Int32} {m_badKind : Int32} {m_opens : Int32} {m_faultAt : Int32} {m_tape : Nat → Int32} {m_newBed : Nat → Int32} {m_newLetter : Nat → Int32} {m_newReader : Nat → Int32} {m_bed : Nat → Int32} {m_letter : Nat → Int32} {m_reader : Nat → Int32} {m_newBeds : Int32} {m_newLetters : Int32} {m_newReaders : Int32} {m_beds : Int32} {m_letters : Int32} {m_readers : Int32} {m_newCode : Nat → Int32} {m_newOf : Nat → Int32} {m_code : Nat → Int32} {m_ofCode : Nat → Int32} {m_stack : Nat → Int32} {m_newCodes : Int32} {m_codes : Int32} {m_facts : Nat → Int32} {m_newStep : Nat → Int32} {m_step : Nat → Int32} {m_newSteps : Int32} {m_works : Int32} {m_refusedSteps : Int32} {m_begun : Int32} {m_done : Int32} {m_refusedNow : Int32} {m_now : Nat → Int32} {m_s : Nat → Int32} {m_past : Nat → Int32} {m_newBook : Nat → Int32} {m_book : Nat → Int32} {m_written : Int32} {m_mostBy : Nat → Int32} {m_stuffing : Nat → Int32} {m_stuffedMany : Int32} {m_lastBy : Nat → Int32} {m_leftBy : Nat → Int32} {m_splitBy : Nat → Int64} {m_seedNow : Int32} {m_image : Nat → Int32} {m_images : Int32} {r : Int32} (h : f_X10_heardAny m_readers m_s = some r) : Mt J yX10_heardAny cX10_heardAny 3 (some .int) rm_X10_heardAny [.ref (a0 0)] (cs_X10 J.2.2.1 a0 m_thrown m_refused m_taped m_size m_at m_bad m_badKind m_opens m_faultAt m_tape m_newBed m_newLetter m_newReader m_bed m_letter m_reader m_newBeds m_newLetters m_newReaders m_beds m_letters m_readers m_newCode m_newOf m_code m_ofCode m_stack m_newCodes m_codes m_facts m_newStep m_step m_newSteps m_works m_refusedSteps m_begun m_done m_refusedNow m_now m_s m_past m_newBook m_book m_written m_mostBy m_stuffing m_stuffedMany m_lastBy m_leftBy m_splitBy m_seedNow m_image m_images) (some (.int r)) (cs_X10 J.2.2.1 a0 m_thrown m_refused m_taped m_size m_at m_bad m_badKind m_opens m_faultAt m_tape m_newBed m_newLetter m_newReader m_bed m_letter m_reader m_newBeds m_newLetters m_newReaders m_beds m_letters m_readers m_newCode m_newOf m_code m_ofCode m_stack m_newCodes m_codes m_facts m_newStep m_step m_newSteps m_works m_refusedSteps m_begun m_done m_refusedNow m_now m_s m_past m_newBook m_book m_written m_mostBy m_stuffing m_stuffedMany m_lastBy m_leftBy m_splitBy m_seedNow m_image m_images) := by
  refine Mt_of (own := RX10) (by decide) rfl (Nat.le_of_ble_eq_true rfl) rfl (fun Z C E => ?_)
  unfold f_X10_heardAny at h
  show G J Z 0 0 (cs_X10 J.2.2.1 a0 m_thrown m_refused m_taped m_size m_at m_bad m_badKind m_opens m_faultAt m_tape m_newBed m_newLetter m_newReader m_bed m_letter m_reader m_newBeds m_newLetters m_newReaders m_beds m_letters m_readers m_newCode m_newOf m_code m_ofCode m_stack m_newCodes m_codes m_facts m_newStep m_step m_newSteps m_works m_refusedSteps m_begun m_done m_refusedNow m_now m_s m_past m_newBook m_book m_written m_mostBy m_stuffing m_stuffedMany m_lastBy m_leftBy m_splitBy m_seedNow m_image m_images) 3 [(0, .ref (a0 0))] 0 []
  refine g_iconst (pc := 0) C dX10_heardAny_0 ci_0 ?_
  refine g_istore_n (pc := 1) C [(1, .int 0), (0, .ref (a0 0))] dX10_heardAny_1 rfl (by decide) rfl ?_
  refine g_iconst (pc := 2) C dX10_heardAny_2 ci_0 ?_
  refine g_istore_n (pc := 3) C [(2, .int 0), (1, .int 0), (0, .ref (a0 0))] dX10_heardAny_3 rfl (by decide) rfl ?_
  refine g_lv [2, 1, 0] rfl ?_
  exact j_X10_heardAny_4 C E  FU 0 0 h
noncomputable def f_X10_summer_29 (m_bed : Nat → Int32) (m_letter : Nat → Int32) (m_beds : Int32) (m_letters : Int32) (m_readers : Int32) (m_code : Nat → Int32) (m_ofCode : Nat → Int32) (m_codes : Int32) (m_now : Nat → Int32) (n1 : Int32) (n2 : Int32) (n3 : Int32) (n4 : Int32) (y1 : Int32) (m_thrown : Int32) (m_refused : Nat → Int32) (m_stack : Nat → Int32) (m_facts : Nat → Int32) (m_s : Nat → Int32) (m_seedNow : Int32) : Option (Int32 × Int32 × (Nat → Int32) × (Nat → Int32) × (Nat → Int32) × (Nat → Int32) × Int32) := b3 (f_X10_may m_thrown m_refused y1 1 1) (fun v1 c2 c3 => if v1 = 0 then some (0, c2, c3, m_stack, m_facts, m_s, m_seedNow) else b4 (f_X10_summerGoes m_bed m_letter m_beds m_letters m_readers m_code m_ofCode m_stack m_codes m_facts m_now m_s m_seedNow n1 n2 n3) (fun c4 c5 c6 c7 => if n4 = 0 then b1 (f_X10_leftAll m_letter m_letters c6) (fun v10 => some (v10, c2, c3, c4, c5, c6, c7)) else if n4 = 1 then if ixb 160 165 then some (c6 (160 : Int32).toNatClampNeg, c2, c3, c4, c5, c6, c7) else none else if n4 = 2 then b1 (f_X10_sumOf c6 84 6) (fun v9 => some (v9, c2, c3, c4, c5, c6, c7)) else b1 (f_X10_heardAny m_readers c6) (fun v8 => some (v8, c2, c3, c4, c5, c6, c7))))
noncomputable def f_X10_summer (m_thrown : Int32) (m_refused : Nat → Int32) (m_bed : Nat → Int32) (m_letter : Nat → Int32) (m_beds : Int32) (m_letters : Int32) (m_readers : Int32) (m_code : Nat → Int32) (m_ofCode : Nat → Int32) (m_stack : Nat → Int32) (m_codes : Int32) (m_facts : Nat → Int32) (m_now : Nat → Int32) (m_s : Nat → Int32) (m_seedNow : Int32) (n1 : Int32) (n2 : Int32) (n3 : Int32) (n4 : Int32) : Option (Int32 × Int32 × (Nat → Int32) × (Nat → Int32) × (Nat → Int32) × (Nat → Int32) × Int32) := b1 (f_X10_isSummer n2 n3) (fun v11 => if v11 = 0 then f_X10_summer_29 m_bed m_letter m_beds m_letters m_readers m_code m_ofCode m_codes m_now n1 n2 n3 n4 0 0 m_refused m_stack m_facts m_s m_seedNow else b1 (f_X10_within n4 0 3) (fun v12 => if v12 = 0 then f_X10_summer_29 m_bed m_letter m_beds m_letters m_readers m_code m_ofCode m_codes m_now n1 n2 n3 n4 0 0 m_refused m_stack m_facts m_s m_seedNow else f_X10_summer_29 m_bed m_letter m_beds m_letters m_readers m_code m_ofCode m_codes m_now n1 n2 n3 n4 1 0 m_refused m_stack m_facts m_s m_seedNow))
def rm_X10_summer : Room := { frames := 7, cells := 0, slots := 0, locals := 164 }
set_option maxRecDepth 100000 in
set_option maxHeartbeats 4000000 in
theorem j_X10_summer_29 {J : Jt} {Z : Zt} {a0 : Nat → Nat} {m_taped : Int32} {m_size : Int32} {m_at : Int32} {m_bad : Int32} {m_badKind : Int32} {m_opens : Int32} {m_faultAt : Int32} {m_tape : Nat → Int32} {m_newBed : Nat → Int32} {m_newLetter : Nat → Int32} {m_newReader : Nat → Int32} {m_bed : Nat → Int32} {m_letter : Nat → Int32} {m_reader : Nat → Int32} {m_newBeds : Int32} {m_newLetters : Int32} {m_newReaders : Int32} {m_beds : Int32} {m_letters : Int32} {m_readers : Int32} {m_newCode : Nat → Int32} {m_newOf : Nat → Int32} {m_code : Nat → Int32} {m_ofCode : Nat → Int32} {m_newCodes : Int32} {m_codes : Int32} {m_newStep : Nat → Int32} {m_step : Nat → Int32} {m_newSteps : Int32} {m_works : Int32} {m_refusedSteps : Int32} {m_begun : Int32} {m_done : Int32} {m_refusedNow : Int32} {m_now : Nat → Int32} {m_past : Nat → Int32} {m_newBook : Nat → Int32} {m_book : Nat → Int32} {m_written : Int32} {m_mostBy : Nat → Int32} {m_stuffing : Nat → Int32} {m_stuffedMany : Int32} {m_lastBy : Nat → Int32} {m_leftBy : Nat → Int32} {m_splitBy : Nat → Int64} {m_image : Nat → Int32} {m_images : Int32} {n1 : Int32} {n2 : Int32} {n3 : Int32} {n4 : Int32} {r : Int32} {o_m_thrown : Int32} {o_m_refused : Nat → Int32} {o_m_stack : Nat → Int32} {o_m_facts : Nat → Int32} {o_m_s : Nat → Int32} {o_m_seedNow : Int32} (C : Cx J Z cX10_summer 5 RX10 (some .int) rm_X10_summer) (E : Ez J Z 0 0 (some (.int r)) (cs_X10 J.2.2.1 a0 o_m_thrown o_m_refused m_taped m_size m_at m_bad m_badKind m_opens m_faultAt m_tape m_newBed m_newLetter m_newReader m_bed m_letter m_reader m_newBeds m_newLetters m_newReaders m_beds m_letters m_readers m_newCode m_newOf m_code m_ofCode o_m_stack m_newCodes m_codes o_m_facts m_newStep m_step m_newSteps m_works m_refusedSteps m_begun m_done m_refusedNow m_now o_m_s m_past m_newBook m_book m_written m_mostBy m_stuffing m_stuffedMany m_lastBy m_leftBy m_splitBy o_m_seedNow m_image m_images)) : ∀ (y1 : Int32) (m_thrown : Int32) (m_refused : Nat → Int32) (m_stack : Nat → Int32) (m_facts : Nat → Int32) (m_s : Nat → Int32) (m_seedNow : Int32), f_X10_summer_29 m_bed m_letter m_beds m_letters m_readers m_code m_ofCode m_codes m_now n1 n2 n3 n4 y1 m_thrown m_refused m_stack m_facts m_s m_seedNow = some (r, o_m_thrown, o_m_refused, o_m_stack, o_m_facts, o_m_s, o_m_seedNow) → G J Z 0 0 (cs_X10 J.2.2.1 a0 m_thrown m_refused m_taped m_size m_at m_bad m_badKind m_opens m_faultAt m_tape m_newBed m_newLetter m_newReader m_bed m_letter m_reader m_newBeds m_newLetters m_newReaders m_beds m_letters m_readers m_newCode m_newOf m_code m_ofCode m_stack m_newCodes m_codes m_facts m_newStep m_step m_newSteps m_works m_refusedSteps m_begun m_done m_refusedNow m_now m_s m_past m_newBook m_book m_written m_mostBy m_stuffing m_stuffedMany m_lastBy m_leftBy m_splitBy m_seedNow m_image m_images) 5 [(0, .ref (a0 0)), (1, .int n1), (2, .int n2), (3, .int n3), (4, .int n4)] 29 [.int y1, .ref (a0 0)] := by
  intro y1 m_thrown m_refused m_stack m_facts m_s m_seedNow h
  unfold f_X10_summer_29 at h
  refine g_iconst (pc := 29) C dX10_summer_29 ci_1 ?_
  refine g_iconst (pc := 30) C dX10_summer_30 ci_1 ?_
  obtain ⟨v1, c2, c3, hc, h⟩ := b3_of h
  refine g_callV (pc := 31) C (w' := cs_X10 J.2.2.1 a0 c2 c3 m_taped m_size m_at m_bad m_badKind m_opens m_faultAt m_tape m_newBed m_newLetter m_newReader m_bed m_letter m_reader m_newBeds m_newLetters m_newReaders m_beds m_letters m_readers m_newCode m_newOf m_code m_ofCode m_stack m_newCodes m_codes m_facts m_newStep m_step m_newSteps m_works m_refusedSteps m_begun m_done m_refusedNow m_now m_s m_past m_newBook m_book m_written m_mostBy m_stuffing m_stuffedMany m_lastBy m_leftBy m_splitBy m_seedNow m_image m_images) (As := [.int y1, .int 1, .int 1]) (st := []) (ci := 10) (q0 := 0) rfl rfl (t_X10_may (a0 := a0) hc) Sub.same kw_1450 kw_1452 kw_20 kw_95 hy_X10_may kw_1453 rfl (Nat.le_of_ble_eq_true rfl) (Nat.le_of_ble_eq_true rfl) (Nat.le_of_ble_eq_true rfl) (Nat.le_of_ble_eq_true rfl) (Nat.le_of_ble_eq_true rfl) dX10_summer_31 ?_
  refine g_if_ne (pc := 34) C (tgt := 39) dX10_summer_34 rfl h (fun h => ?_) (fun h => ?_)
  · refine g_aload_n (pc := 39) C 0 rfl dX10_summer_39 ?_
    refine g_iload_n (pc := 40) C 1 rfl dX10_summer_40 ?_
    refine g_iload_n (pc := 41) C 2 rfl dX10_summer_41 ?_
    refine g_iload_n (pc := 42) C 3 rfl dX10_summer_42 ?_
    obtain ⟨c4, c5, c6, c7, hc, h⟩ := b4_of h
    refine g_callV (pc := 43) C (w' := cs_X10 J.2.2.1 a0 c2 c3 m_taped m_size m_at m_bad m_badKind m_opens m_faultAt m_tape m_newBed m_newLetter m_newReader m_bed m_letter m_reader m_newBeds m_newLetters m_newReaders m_beds m_letters m_readers m_newCode m_newOf m_code m_ofCode c4 m_newCodes m_codes c5 m_newStep m_step m_newSteps m_works m_refusedSteps m_begun m_done m_refusedNow m_now c6 m_past m_newBook m_book m_written m_mostBy m_stuffing m_stuffedMany m_lastBy m_leftBy m_splitBy c7 m_image m_images) (As := [.int n1, .int n2, .int n3]) (st := []) (ci := 10) (q0 := 0) rfl rfl (t_X10_summerGoes (a0 := a0) hc) Sub.same kw_1878 kw_1880 kw_80 kw_95 hy_X10_summerGoes kw_1881 rfl (Nat.le_of_ble_eq_true rfl) (Nat.le_of_ble_eq_true rfl) (Nat.le_of_ble_eq_true rfl) (Nat.le_of_ble_eq_true rfl) (Nat.le_of_ble_eq_true rfl) dX10_summer_43 ?_
    refine g_iload (pc := 46) C 4 rfl dX10_summer_46 ?_
    refine g_if_ne (pc := 48) C (tgt := 58) dX10_summer_48 rfl h (fun h => ?_) (fun h => ?_)
    · refine g_iload (pc := 58) C 4 rfl dX10_summer_58 ?_
      refine g_iconst (pc := 60) C dX10_summer_60 ci_1 ?_
      refine g_icmp_ne (pc := 61) C (tgt := 75) dX10_summer_61 rfl h (fun h => ?_) (fun h => ?_)
      · refine g_iload (pc := 75) C 4 rfl dX10_summer_75 ?_
        refine g_iconst (pc := 77) C dX10_summer_77 ci_2 ?_
        refine g_icmp_ne (pc := 78) C (tgt := 92) dX10_summer_78 rfl h (fun h => ?_) (fun h => ?_)
        · refine g_aload_n (pc := 92) C 0 rfl dX10_summer_92 ?_
          obtain ⟨v8, hc, h⟩ := b1_of h
          refine g_callV (pc := 93) C (w' := cs_X10 J.2.2.1 a0 c2 c3 m_taped m_size m_at m_bad m_badKind m_opens m_faultAt m_tape m_newBed m_newLetter m_newReader m_bed m_letter m_reader m_newBeds m_newLetters m_newReaders m_beds m_letters m_readers m_newCode m_newOf m_code m_ofCode c4 m_newCodes m_codes c5 m_newStep m_step m_newSteps m_works m_refusedSteps m_begun m_done m_refusedNow m_now c6 m_past m_newBook m_book m_written m_mostBy m_stuffing m_stuffedMany m_lastBy m_leftBy m_splitBy c7 m_image m_images) (As := []) (st := []) (ci := 10) (q0 := 0) rfl rfl (t_X10_heardAny (a0 := a0) hc) Sub.same kw_1887 kw_1889 kw_82 kw_95 hy_X10_heardAny kw_1890 rfl (Nat.le_of_ble_eq_true rfl) (Nat.le_of_ble_eq_true rfl) (Nat.le_of_ble_eq_true rfl) (Nat.le_of_ble_eq_true rfl) (Nat.le_of_ble_eq_true rfl) dX10_summer_93 ?_
          cases h
          exact g_iret C E dX10_summer_96
        · refine g_aload_n (pc := 81) C 0 rfl dX10_summer_81 ?_
          refine g_bipush (pc := 82) C dX10_summer_82 cb_84 ?_
          refine g_bipush (pc := 84) C dX10_summer_84 cb_6 ?_
          obtain ⟨v9, hc, h⟩ := b1_of h
          refine g_callV (pc := 86) C (w' := cs_X10 J.2.2.1 a0 c2 c3 m_taped m_size m_at m_bad m_badKind m_opens m_faultAt m_tape m_newBed m_newLetter m_newReader m_bed m_letter m_reader m_newBeds m_newLetters m_newReaders m_beds m_letters m_readers m_newCode m_newOf m_code m_ofCode c4 m_newCodes m_codes c5 m_newStep m_step m_newSteps m_works m_refusedSteps m_begun m_done m_refusedNow m_now c6 m_past m_newBook m_book m_written m_mostBy m_stuffing m_stuffedMany m_lastBy m_leftBy m_splitBy c7 m_image m_images) (As := [.int 84, .int 6]) (st := []) (ci := 10) (q0 := 0) rfl rfl (t_X10_sumOf (a0 := a0) hc) Sub.same kw_1696 kw_1698 kw_66 kw_95 hy_X10_sumOf kw_1699 rfl (Nat.le_of_ble_eq_true rfl) (Nat.le_of_ble_eq_true rfl) (Nat.le_of_ble_eq_true rfl) (Nat.le_of_ble_eq_true rfl) (Nat.le_of_ble_eq_true rfl) dX10_summer_86 ?_
          refine g_goto (pc := 89) C (tgt := 96) dX10_summer_89 rfl ?_
          cases h
          exact g_iret C E dX10_summer_96
      · refine g_aload_n (pc := 64) C 0 rfl dX10_summer_64 ?_
        refine g_get (pc := 65) C FOK_X10 0 rfl rfl 39 (by decide) kw_1316 rfl dX10_summer_65 ?_
        refine g_sipush (pc := 68) C dX10_summer_68 cs_160 ?_
        obtain ⟨hi, h⟩ := ix_of h
        refine g_iald (pc := 71) C 18 rfl hi dX10_summer_71 ?_
        refine g_goto (pc := 72) C (tgt := 96) dX10_summer_72 rfl ?_
        cases h
        exact g_iret C E dX10_summer_96
    · refine g_aload_n (pc := 51) C 0 rfl dX10_summer_51 ?_
      obtain ⟨v10, hc, h⟩ := b1_of h
      refine g_callV (pc := 52) C (w' := cs_X10 J.2.2.1 a0 c2 c3 m_taped m_size m_at m_bad m_badKind m_opens m_faultAt m_tape m_newBed m_newLetter m_newReader m_bed m_letter m_reader m_newBeds m_newLetters m_newReaders m_beds m_letters m_readers m_newCode m_newOf m_code m_ofCode c4 m_newCodes m_codes c5 m_newStep m_step m_newSteps m_works m_refusedSteps m_begun m_done m_refusedNow m_now c6 m_past m_newBook m_book m_written m_mostBy m_stuffing m_stuffedMany m_lastBy m_leftBy m_splitBy c7 m_image m_images) (As := []) (st := []) (ci := 10) (q0 := 0) rfl rfl (t_X10_leftAll (a0 := a0) hc) Sub.same kw_1692 kw_1694 kw_65 kw_95 hy_X10_leftAll kw_1695 rfl (Nat.le_of_ble_eq_true rfl) (Nat.le_of_ble_eq_true rfl) (Nat.le_of_ble_eq_true rfl) (Nat.le_of_ble_eq_true rfl) (Nat.le_of_ble_eq_true rfl) dX10_summer_52 ?_
      refine g_goto (pc := 55) C (tgt := 96) dX10_summer_55 rfl ?_
      cases h
      exact g_iret C E dX10_summer_96
  · refine g_iconst (pc := 37) C dX10_summer_37 ci_0 ?_
    cases h
    exact g_iret C E dX10_summer_38
set_option maxRecDepth 100000 in
set_option maxHeartbeats 4000000 in
theorem t_X10_summer {J : Jt} {a0 : Nat → Nat} {m_thrown : Int32} {m_refused : Nat → Int32} {m_taped : Int32} {m_size : Int32} {m_at : Int32} {m_bad : Int32} {m_badKind : Int32} {m_opens : Int32} {m_faultAt : Int32} {m_tape : Nat → Int32} {m_newBed : Nat → Int32} {m_newLetter : Nat → Int32} {m_newReader : Nat → Int32} {m_bed : Nat → Int32} {m_letter : Nat → Int32} {m_reader : Nat → Int32} {m_newBeds : Int32} {m_newLetters : Int32} {m_newReaders : Int32} {m_beds : Int32} {m_letters : Int32} {m_readers : Int32} {m_newCode : Nat → Int32} {m_newOf : Nat → Int32} {m_code : Nat → Int32} {m_ofCode : Nat → Int32} {m_stack : Nat → Int32} {m_newCodes : Int32} {m_codes : Int32} {m_facts : Nat → Int32} {m_newStep : Nat → Int32} {m_step : Nat → Int32} {m_newSteps : Int32} {m_works : Int32} {m_refusedSteps : Int32} {m_begun : Int32} {m_done : Int32} {m_refusedNow : Int32} {m_now : Nat → Int32} {m_s : Nat → Int32} {m_past : Nat → Int32} {m_newBook : Nat → Int32} {m_book : Nat → Int32} {m_written : Int32} {m_mostBy : Nat → Int32} {m_stuffing : Nat → Int32} {m_stuffedMany : Int32} {m_lastBy : Nat → Int32} {m_leftBy : Nat → Int32} {m_splitBy : Nat → Int64} {m_seedNow : Int32} {m_image : Nat → Int32} {m_images : Int32} {n1 : Int32} {n2 : Int32} {n3 : Int32} {n4 : Int32} {r : Int32} {o_m_thrown : Int32} {o_m_refused : Nat → Int32} {o_m_stack : Nat → Int32} {o_m_facts : Nat → Int32} {o_m_s : Nat → Int32} {o_m_seedNow : Int32} (h : f_X10_summer m_thrown m_refused m_bed m_letter m_beds m_letters m_readers m_code m_ofCode m_stack m_codes m_facts m_now m_s m_seedNow n1 n2 n3 n4 = some (r, o_m_thrown, o_m_refused, o_m_stack, o_m_facts, o_m_s, o_m_seedNow)) : Mt J yX10_summer cX10_summer 5 (some .int) rm_X10_summer [.ref (a0 0), .int n1, .int n2, .int n3, .int n4] (cs_X10 J.2.2.1 a0 m_thrown m_refused m_taped m_size m_at m_bad m_badKind m_opens m_faultAt m_tape m_newBed m_newLetter m_newReader m_bed m_letter m_reader m_newBeds m_newLetters m_newReaders m_beds m_letters m_readers m_newCode m_newOf m_code m_ofCode m_stack m_newCodes m_codes m_facts m_newStep m_step m_newSteps m_works m_refusedSteps m_begun m_done m_refusedNow m_now m_s m_past m_newBook m_book m_written m_mostBy m_stuffing m_stuffedMany m_lastBy m_leftBy m_splitBy m_seedNow m_image m_images) (some (.int r)) (cs_X10 J.2.2.1 a0 o_m_thrown o_m_refused m_taped m_size m_at m_bad m_badKind m_opens m_faultAt m_tape m_newBed m_newLetter m_newReader m_bed m_letter m_reader m_newBeds m_newLetters m_newReaders m_beds m_letters m_readers m_newCode m_newOf m_code m_ofCode o_m_stack m_newCodes m_codes o_m_facts m_newStep m_step m_newSteps m_works m_refusedSteps m_begun m_done m_refusedNow m_now o_m_s m_past m_newBook m_book m_written m_mostBy m_stuffing m_stuffedMany m_lastBy m_leftBy m_splitBy o_m_seedNow m_image m_images) := by
  refine Mt_of (own := RX10) (by decide) rfl (Nat.le_of_ble_eq_true rfl) rfl (fun Z C E => ?_)
  unfold f_X10_summer at h
  show G J Z 0 0 (cs_X10 J.2.2.1 a0 m_thrown m_refused m_taped m_size m_at m_bad m_badKind m_opens m_faultAt m_tape m_newBed m_newLetter m_newReader m_bed m_letter m_reader m_newBeds m_newLetters m_newReaders m_beds m_letters m_readers m_newCode m_newOf m_code m_ofCode m_stack m_newCodes m_codes m_facts m_newStep m_step m_newSteps m_works m_refusedSteps m_begun m_done m_refusedNow m_now m_s m_past m_newBook m_book m_written m_mostBy m_stuffing m_stuffedMany m_lastBy m_leftBy m_splitBy m_seedNow m_image m_images) 5 [(0, .ref (a0 0)), (1, .int n1), (2, .int n2), (3, .int n3), (4, .int n4)] 0 []
  refine g_aload_n (pc := 0) C 0 rfl dX10_summer_0 ?_
  refine g_iconst (pc := 1) C dX10_summer_1 ci_0 ?_
  refine g_put (pc := 2) C (w' := cs_X10 J.2.2.1 a0 0 m_refused m_taped m_size m_at m_bad m_badKind m_opens m_faultAt m_tape m_newBed m_newLetter m_newReader m_bed m_letter m_reader m_newBeds m_newLetters m_newReaders m_beds m_letters m_readers m_newCode m_newOf m_code m_ofCode m_stack m_newCodes m_codes m_facts m_newStep m_step m_newSteps m_works m_refusedSteps m_begun m_done m_refusedNow m_now m_s m_past m_newBook m_book m_written m_mostBy m_stuffing m_stuffedMany m_lastBy m_leftBy m_splitBy m_seedNow m_image m_images) FOK_X10 0 rfl rfl 0 (by decide) kw_1277 rfl rfl rfl (Nat.le_of_ble_eq_true rfl) dX10_summer_2 rfl ?_
  refine g_aload_n (pc := 5) C 0 rfl dX10_summer_5 ?_
  refine g_iload_n (pc := 6) C 2 rfl dX10_summer_6 ?_
  refine g_iload_n (pc := 7) C 3 rfl dX10_summer_7 ?_
  obtain ⟨v11, hc, h⟩ := b1_of h
  refine g_callS (pc := 8) C (w' := cs_X10 J.2.2.1 a0 0 m_refused m_taped m_size m_at m_bad m_badKind m_opens m_faultAt m_tape m_newBed m_newLetter m_newReader m_bed m_letter m_reader m_newBeds m_newLetters m_newReaders m_beds m_letters m_readers m_newCode m_newOf m_code m_ofCode m_stack m_newCodes m_codes m_facts m_newStep m_step m_newSteps m_works m_refusedSteps m_begun m_done m_refusedNow m_now m_s m_past m_newBook m_book m_written m_mostBy m_stuffing m_stuffedMany m_lastBy m_leftBy m_splitBy m_seedNow m_image m_images) (As := [.int n2, .int n3]) (st := [.ref (a0 0)]) (t_X10_isSummer hc) Sub.nil kw_1875 kw_1876 kw_95 hy_X10_isSummer kw_1877 rfl (Nat.le_of_ble_eq_true rfl) (Nat.le_of_ble_eq_true rfl) (Nat.le_of_ble_eq_true rfl) (Nat.le_of_ble_eq_true rfl) (Nat.le_of_ble_eq_true rfl) dX10_summer_8 ?_
  refine g_if_eq (pc := 11) C (tgt := 28) dX10_summer_11 rfl h (fun h => ?_) (fun h => ?_)
  · refine g_iconst (pc := 28) C dX10_summer_28 ci_0 ?_
    exact j_X10_summer_29 C E  0 0 m_refused m_stack m_facts m_s m_seedNow h
  · refine g_iload (pc := 14) C 4 rfl dX10_summer_14 ?_
    refine g_iconst (pc := 16) C dX10_summer_16 ci_0 ?_
    refine g_iconst (pc := 17) C dX10_summer_17 ci_3 ?_
    obtain ⟨v12, hc, h⟩ := b1_of h
    refine g_callS (pc := 18) C (w' := cs_X10 J.2.2.1 a0 0 m_refused m_taped m_size m_at m_bad m_badKind m_opens m_faultAt m_tape m_newBed m_newLetter m_newReader m_bed m_letter m_reader m_newBeds m_newLetters m_newReaders m_beds m_letters m_readers m_newCode m_newOf m_code m_ofCode m_stack m_newCodes m_codes m_facts m_newStep m_step m_newSteps m_works m_refusedSteps m_begun m_done m_refusedNow m_now m_s m_past m_newBook m_book m_written m_mostBy m_stuffing m_stuffedMany m_lastBy m_leftBy m_splitBy m_seedNow m_image m_images) (As := [.int n4, .int 0, .int 3]) (st := [.ref (a0 0)]) (t_X10_within hc) Sub.nil kw_1689 kw_1690 kw_95 hy_X10_within kw_1691 rfl (Nat.le_of_ble_eq_true rfl) (Nat.le_of_ble_eq_true rfl) (Nat.le_of_ble_eq_true rfl) (Nat.le_of_ble_eq_true rfl) (Nat.le_of_ble_eq_true rfl) dX10_summer_18 ?_
    refine g_if_eq (pc := 21) C (tgt := 28) dX10_summer_21 rfl h (fun h => ?_) (fun h => ?_)
    · refine g_iconst (pc := 28) C dX10_summer_28 ci_0 ?_
      exact j_X10_summer_29 C E  0 0 m_refused m_stack m_facts m_s m_seedNow h
    · refine g_iconst (pc := 24) C dX10_summer_24 ci_1 ?_
      refine g_goto (pc := 25) C (tgt := 29) dX10_summer_25 rfl ?_
      exact j_X10_summer_29 C E  1 0 m_refused m_stack m_facts m_s m_seedNow h
noncomputable def f_X10_span_136 (m_bed : Nat → Int32) (m_letter : Nat → Int32) (m_beds : Int32) (m_letters : Int32) (m_readers : Int32) (m_code : Nat → Int32) (m_ofCode : Nat → Int32) (m_codes : Int32) (m_now : Nat → Int32) (n1 : Int32) (n2 : Int32) (n3 : Int32) (n4 : Int32) (n5 : Int32) (n6 : Int32) (k77 : Int32 → Int32 → Int32 → Int32 → Int32 → (Nat → Int32) → (Nat → Int32) → (Nat → Int32) → (Nat → Int32) → Int32 → Option (Int32 × Int32 × (Nat → Int32) × (Nat → Int32) × (Nat → Int32) × (Nat → Int32) × Int32)) (x7 : Int32) (x9 : Int32) (x10 : Int32) (y0 : Int32) (m_thrown : Int32) (m_refused : Nat → Int32) (m_stack : Nat → Int32) (m_facts : Nat → Int32) (m_s : Nat → Int32) (m_seedNow : Int32) : Option (Int32 × Int32 × (Nat → Int32) × (Nat → Int32) × (Nat → Int32) × (Nat → Int32) × Int32) := if ixb (84 + n6) 165 then if (m_s (84 + n6).toNatClampNeg) ≤ 0 then k77 x7 y0 (x9 + 0) (x10 + 1) m_thrown m_refused m_stack m_facts m_s m_seedNow else k77 x7 y0 (x9 + 1) (x10 + 1) m_thrown m_refused m_stack m_facts m_s m_seedNow else none
noncomputable def f_X10_span_120 (m_bed : Nat → Int32) (m_letter : Nat → Int32) (m_beds : Int32) (m_letters : Int32) (m_readers : Int32) (m_code : Nat → Int32) (m_ofCode : Nat → Int32) (m_codes : Int32) (m_now : Nat → Int32) (n1 : Int32) (n2 : Int32) (n3 : Int32) (n4 : Int32) (n5 : Int32) (n6 : Int32) (k77 : Int32 → Int32 → Int32 → Int32 → Int32 → (Nat → Int32) → (Nat → Int32) → (Nat → Int32) → (Nat → Int32) → Int32 → Option (Int32 × Int32 × (Nat → Int32) × (Nat → Int32) × (Nat → Int32) × (Nat → Int32) × Int32)) (x8 : Int32) (x9 : Int32) (x10 : Int32) (x11 : Int32) (y0 : Int32) (m_thrown : Int32) (m_refused : Nat → Int32) (m_stack : Nat → Int32) (m_facts : Nat → Int32) (m_s : Nat → Int32) (m_seedNow : Int32) : Option (Int32 × Int32 × (Nat → Int32) × (Nat → Int32) × (Nat → Int32) × (Nat → Int32) × Int32) := if x11 ≤ x8 then f_X10_span_136 m_bed m_letter m_beds m_letters m_readers m_code m_ofCode m_codes m_now n1 n2 n3 n4 n5 n6 k77 y0 x9 x10 x8 m_thrown m_refused m_stack m_facts m_s m_seedNow else f_X10_span_136 m_bed m_letter m_beds m_letters m_readers m_code m_ofCode m_codes m_now n1 n2 n3 n4 n5 n6 k77 y0 x9 x10 x11 m_thrown m_refused m_stack m_facts m_s m_seedNow
noncomputable def f_X10_span_77 (m_bed : Nat → Int32) (m_letter : Nat → Int32) (m_beds : Int32) (m_letters : Int32) (m_readers : Int32) (m_code : Nat → Int32) (m_ofCode : Nat → Int32) (m_codes : Int32) (m_now : Nat → Int32) (n1 : Int32) (n2 : Int32) (n3 : Int32) (n4 : Int32) (n5 : Int32) (n6 : Int32) : Nat → Int32 → Int32 → Int32 → Int32 → Int32 → (Nat → Int32) → (Nat → Int32) → (Nat → Int32) → (Nat → Int32) → Int32 → Option (Int32 × Int32 × (Nat → Int32) × (Nat → Int32) × (Nat → Int32) × (Nat → Int32) × Int32)
  | 0, _, _, _, _, _, _, _, _, _, _ => none
  | n + 1, x7, x8, x9, x10, m_thrown, m_refused, m_stack, m_facts, m_s, m_seedNow => if n2 ≤ x10 then if n5 = 0 then some (x7, m_thrown, m_refused, m_stack, m_facts, m_s, m_seedNow) else if n5 = 1 then some (x8, m_thrown, m_refused, m_stack, m_facts, m_s, m_seedNow) else some (x9, m_thrown, m_refused, m_stack, m_facts, m_s, m_seedNow) else b4 (f_X10_summerGoes m_bed m_letter m_beds m_letters m_readers m_code m_ofCode m_stack m_codes m_facts m_now m_s m_seedNow (n1 + x10) n3 n4) (fun c1 c2 c3 c4 => b1 (f_X10_leftAll m_letter m_letters c3) (fun v5 => if x7 = (-1) then f_X10_span_120 m_bed m_letter m_beds m_letters m_readers m_code m_ofCode m_codes m_now n1 n2 n3 n4 n5 n6 (f_X10_span_77 m_bed m_letter m_beds m_letters m_readers m_code m_ofCode m_codes m_now n1 n2 n3 n4 n5 n6 n) x8 x9 x10 v5 v5 m_thrown m_refused c1 c2 c3 c4 else if x7 ≤ v5 then f_X10_span_120 m_bed m_letter m_beds m_letters m_readers m_code m_ofCode m_codes m_now n1 n2 n3 n4 n5 n6 (f_X10_span_77 m_bed m_letter m_beds m_letters m_readers m_code m_ofCode m_codes m_now n1 n2 n3 n4 n5 n6 n) x8 x9 x10 v5 x7 m_thrown m_refused c1 c2 c3 c4 else f_X10_span_120 m_bed m_letter m_beds m_letters m_readers m_code m_ofCode m_codes m_now n1 n2 n3 n4 n5 n6 (f_X10_span_77 m_bed m_letter m_beds m_letters m_readers m_code m_ofCode m_codes m_now n1 n2 n3 n4 n5 n6 n) x8 x9 x10 v5 v5 m_thrown m_refused c1 c2 c3 c4))
noncomputable def f_X10_span_55 (m_bed : Nat → Int32) (m_letter : Nat → Int32) (m_beds : Int32) (m_letters : Int32) (m_readers : Int32) (m_code : Nat → Int32) (m_ofCode : Nat → Int32) (m_codes : Int32) (m_now : Nat → Int32) (n1 : Int32) (n2 : Int32) (n3 : Int32) (n4 : Int32) (n5 : Int32) (n6 : Int32) (y1 : Int32) (m_thrown : Int32) (m_refused : Nat → Int32) (m_stack : Nat → Int32) (m_facts : Nat → Int32) (m_s : Nat → Int32) (m_seedNow : Int32) : Option (Int32 × Int32 × (Nat → Int32) × (Nat → Int32) × (Nat → Int32) × (Nat → Int32) × Int32) := b3 (f_X10_may m_thrown m_refused y1 1 1) (fun v6 c7 c8 => if v6 = 0 then some (0, c7, c8, m_stack, m_facts, m_s, m_seedNow) else f_X10_span_77 m_bed m_letter m_beds m_letters m_readers m_code m_ofCode m_codes m_now n1 n2 n3 n4 n5 n6 FU (-1) 0 0 0 c7 c8 m_stack m_facts m_s m_seedNow)
noncomputable def f_X10_span (m_thrown : Int32) (m_refused : Nat → Int32) (m_bed : Nat → Int32) (m_letter : Nat → Int32) (m_beds : Int32) (m_letters : Int32) (m_readers : Int32) (m_code : Nat → Int32) (m_ofCode : Nat → Int32) (m_stack : Nat → Int32) (m_codes : Int32) (m_facts : Nat → Int32) (m_now : Nat → Int32) (m_s : Nat → Int32) (m_seedNow : Int32) (n1 : Int32) (n2 : Int32) (n3 : Int32) (n4 : Int32) (n5 : Int32) (n6 : Int32) : Option (Int32 × Int32 × (Nat → Int32) × (Nat → Int32) × (Nat → Int32) × (Nat → Int32) × Int32) := b1 (f_X10_within n2 1 10) (fun v9 => if v9 = 0 then f_X10_span_55 m_bed m_letter m_beds m_letters m_readers m_code m_ofCode m_codes m_now n1 n2 n3 n4 n5 n6 0 0 m_refused m_stack m_facts m_s m_seedNow else b1 (f_X10_isSummer n3 n4) (fun v10 => if v10 = 0 then f_X10_span_55 m_bed m_letter m_beds m_letters m_readers m_code m_ofCode m_codes m_now n1 n2 n3 n4 n5 n6 0 0 m_refused m_stack m_facts m_s m_seedNow else b1 (f_X10_within n5 0 2) (fun v11 => if v11 = 0 then f_X10_span_55 m_bed m_letter m_beds m_letters m_readers m_code m_ofCode m_codes m_now n1 n2 n3 n4 n5 n6 0 0 m_refused m_stack m_facts m_s m_seedNow else b1 (f_X10_within n6 0 (m_beds - 1)) (fun v12 => if v12 = 0 then f_X10_span_55 m_bed m_letter m_beds m_letters m_readers m_code m_ofCode m_codes m_now n1 n2 n3 n4 n5 n6 0 0 m_refused m_stack m_facts m_s m_seedNow else f_X10_span_55 m_bed m_letter m_beds m_letters m_readers m_code m_ofCode m_codes m_now n1 n2 n3 n4 n5 n6 1 0 m_refused m_stack m_facts m_s m_seedNow))))
def rm_X10_span : Room := { frames := 7, cells := 0, slots := 0, locals := 164 }
set_option maxRecDepth 100000 in
set_option maxHeartbeats 4000000 in
theorem j_X10_span_136 {J : Jt} {Z : Zt} {a0 : Nat → Nat} {m_taped : Int32} {m_size : Int32} {m_at : Int32} {m_bad : Int32} {m_badKind : Int32} {m_opens : Int32} {m_faultAt : Int32} {m_tape : Nat → Int32} {m_newBed : Nat → Int32} {m_newLetter : Nat → Int32} {m_newReader : Nat → Int32} {m_bed : Nat → Int32} {m_letter : Nat → Int32} {m_reader : Nat → Int32} {m_newBeds : Int32} {m_newLetters : Int32} {m_newReaders : Int32} {m_beds : Int32} {m_letters : Int32} {m_readers : Int32} {m_newCode : Nat → Int32} {m_newOf : Nat → Int32} {m_code : Nat → Int32} {m_ofCode : Nat → Int32} {m_newCodes : Int32} {m_codes : Int32} {m_newStep : Nat → Int32} {m_step : Nat → Int32} {m_newSteps : Int32} {m_works : Int32} {m_refusedSteps : Int32} {m_begun : Int32} {m_done : Int32} {m_refusedNow : Int32} {m_now : Nat → Int32} {m_past : Nat → Int32} {m_newBook : Nat → Int32} {m_book : Nat → Int32} {m_written : Int32} {m_mostBy : Nat → Int32} {m_stuffing : Nat → Int32} {m_stuffedMany : Int32} {m_lastBy : Nat → Int32} {m_leftBy : Nat → Int32} {m_splitBy : Nat → Int64} {m_image : Nat → Int32} {m_images : Int32} {n1 : Int32} {n2 : Int32} {n3 : Int32} {n4 : Int32} {n5 : Int32} {n6 : Int32} {r : Int32} {o_m_thrown : Int32} {o_m_refused : Nat → Int32} {o_m_stack : Nat → Int32} {o_m_facts : Nat → Int32} {o_m_s : Nat → Int32} {o_m_seedNow : Int32} {k77 : Int32 → Int32 → Int32 → Int32 → Int32 → (Nat → Int32) → (Nat → Int32) → (Nat → Int32) → (Nat → Int32) → Int32 → Option (Int32 × Int32 × (Nat → Int32) × (Nat → Int32) × (Nat → Int32) × (Nat → Int32) × Int32)} (C : Cx J Z cX10_span 12 RX10 (some .int) rm_X10_span) (E : Ez J Z 0 0 (some (.int r)) (cs_X10 J.2.2.1 a0 o_m_thrown o_m_refused m_taped m_size m_at m_bad m_badKind m_opens m_faultAt m_tape m_newBed m_newLetter m_newReader m_bed m_letter m_reader m_newBeds m_newLetters m_newReaders m_beds m_letters m_readers m_newCode m_newOf m_code m_ofCode o_m_stack m_newCodes m_codes o_m_facts m_newStep m_step m_newSteps m_works m_refusedSteps m_begun m_done m_refusedNow m_now o_m_s m_past m_newBook m_book m_written m_mostBy m_stuffing m_stuffedMany m_lastBy m_leftBy m_splitBy o_m_seedNow m_image m_images)) (hk77 : ∀ (x7 : Int32) (x8 : Int32) (x9 : Int32) (x10 : Int32) (m_thrown : Int32) (m_refused : Nat → Int32) (m_stack : Nat → Int32) (m_facts : Nat → Int32) (m_s : Nat → Int32) (m_seedNow : Int32), k77 x7 x8 x9 x10 m_thrown m_refused m_stack m_facts m_s m_seedNow = some (r, o_m_thrown, o_m_refused, o_m_stack, o_m_facts, o_m_s, o_m_seedNow) → G J Z 0 0 (cs_X10 J.2.2.1 a0 m_thrown m_refused m_taped m_size m_at m_bad m_badKind m_opens m_faultAt m_tape m_newBed m_newLetter m_newReader m_bed m_letter m_reader m_newBeds m_newLetters m_newReaders m_beds m_letters m_readers m_newCode m_newOf m_code m_ofCode m_stack m_newCodes m_codes m_facts m_newStep m_step m_newSteps m_works m_refusedSteps m_begun m_done m_refusedNow m_now m_s m_past m_newBook m_book m_written m_mostBy m_stuffing m_stuffedMany m_lastBy m_leftBy m_splitBy m_seedNow m_image m_images) 12 [(0, .ref (a0 0)), (1, .int n1), (2, .int n2), (3, .int n3), (4, .int n4), (5, .int n5), (6, .int n6), (7, .int x7), (8, .int x8), (9, .int x9), (10, .int x10)] 77 []) : ∀ (x7 : Int32) (x9 : Int32) (x10 : Int32) (y0 : Int32) (m_thrown : Int32) (m_refused : Nat → Int32) (m_stack : Nat → Int32) (m_facts : Nat → Int32) (m_s : Nat → Int32) (m_seedNow : Int32), f_X10_span_136 m_bed m_letter m_beds m_letters m_readers m_code m_ofCode m_codes m_now n1 n2 n3 n4 n5 n6 k77 x7 x9 x10 y0 m_thrown m_refused m_stack m_facts m_s m_seedNow = some (r, o_m_thrown, o_m_refused, o_m_stack, o_m_facts, o_m_s, o_m_seedNow) → G J Z 0 0 (cs_X10 J.2.2.1 a0 m_thrown m_refused m_taped m_size m_at m_bad m_badKind m_opens m_faultAt m_tape m_newBed m_newLetter m_newReader m_bed m_letter m_reader m_newBeds m_newLetters m_newReaders m_beds m_letters m_readers m_newCode m_newOf m_code m_ofCode m_stack m_newCodes m_codes m_facts m_newStep m_step m_newSteps m_works m_refusedSteps m_begun m_done m_refusedNow m_now m_s m_past m_newBook m_book m_written m_mostBy m_stuffing m_stuffedMany m_lastBy m_leftBy m_splitBy m_seedNow m_image m_images) 12 [(0, .ref (a0 0)), (1, .int n1), (2, .int n2), (3, .int n3), (4, .int n4), (5, .int n5), (6, .int n6), (7, .int x7), (9, .int x9), (10, .int x10)] 136 [.int y0] := by
  intro x7 x9 x10 y0 m_thrown m_refused m_stack m_facts m_s m_seedNow h
  unfold f_X10_span_136 at h
  refine g_istore (pc := 136) C [(8, .int y0), (0, .ref (a0 0)), (1, .int n1), (2, .int n2), (3, .int n3), (4, .int n4), (5, .int n5), (6, .int n6), (7, .int x7), (9, .int x9), (10, .int x10)] dX10_span_136 (by decide) rfl ?_
  refine g_iload (pc := 138) C 9 rfl dX10_span_138 ?_
  refine g_aload_n (pc := 140) C 1 rfl dX10_span_140 ?_
  refine g_get (pc := 141) C FOK_X10 0 rfl rfl 39 (by decide) kw_1316 rfl dX10_span_141 ?_
  refine g_bipush (pc := 144) C dX10_span_144 cb_84 ?_
  refine g_iload (pc := 146) C 7 rfl dX10_span_146 ?_
  refine g_iadd (pc := 148) C dX10_span_148 ?_
  obtain ⟨hi, h⟩ := ix_of h
  refine g_iald (pc := 149) C 18 rfl hi dX10_span_149 ?_
  refine g_if_le (pc := 150) C (tgt := 157) dX10_span_150 rfl h (fun h => ?_) (fun h => ?_)
  · refine g_iconst (pc := 157) C dX10_span_157 ci_0 ?_
    refine g_iadd (pc := 158) C dX10_span_158 ?_
    refine g_istore (pc := 159) C [(9, .int (x9 + 0)), (8, .int y0), (0, .ref (a0 0)), (1, .int n1), (2, .int n2), (3, .int n3), (4, .int n4), (5, .int n5), (6, .int n6), (7, .int x7), (10, .int x10)] dX10_span_159 (by decide) rfl ?_
    refine g_iinc (pc := 161) C (j := 10) [(10, .int (x10 + 1)), (9, .int (x9 + 0)), (8, .int y0), (0, .ref (a0 0)), (1, .int n1), (2, .int n2), (3, .int n3), (4, .int n4), (5, .int n5), (6, .int n6), (7, .int x7)] dX10_span_161 rfl (ii_1 _) (by decide) rfl ?_
    refine g_goto (pc := 164) C (tgt := 77) dX10_span_164 rfl ?_
    refine g_lv [3, 4, 5, 6, 7, 8, 9, 10, 2, 1, 0] rfl ?_
    exact hk77 x7 y0 (x9 + 0) (x10 + 1) m_thrown m_refused m_stack m_facts m_s m_seedNow h
  · refine g_iconst (pc := 153) C dX10_span_153 ci_1 ?_
    refine g_goto (pc := 154) C (tgt := 158) dX10_span_154 rfl ?_
    refine g_iadd (pc := 158) C dX10_span_158 ?_
    refine g_istore (pc := 159) C [(9, .int (x9 + 1)), (8, .int y0), (0, .ref (a0 0)), (1, .int n1), (2, .int n2), (3, .int n3), (4, .int n4), (5, .int n5), (6, .int n6), (7, .int x7), (10, .int x10)] dX10_span_159 (by decide) rfl ?_
    refine g_iinc (pc := 161) C (j := 10) [(10, .int (x10 + 1)), (9, .int (x9 + 1)), (8, .int y0), (0, .ref (a0 0)), (1, .int n1), (2, .int n2), (3, .int n3), (4, .int n4), (5, .int n5), (6, .int n6), (7, .int x7)] dX10_span_161 rfl (ii_1 _) (by decide) rfl ?_
    refine g_goto (pc := 164) C (tgt := 77) dX10_span_164 rfl ?_
    refine g_lv [3, 4, 5, 6, 7, 8, 9, 10, 2, 1, 0] rfl ?_
    exact hk77 x7 y0 (x9 + 1) (x10 + 1) m_thrown m_refused m_stack m_facts m_s m_seedNow h
set_option maxRecDepth 100000 in
set_option maxHeartbeats 4000000 in
theorem j_X10_span_120 {J : Jt} {Z : Zt} {a0 : Nat → Nat} {m_taped : Int32} {m_size : Int32} {m_at : Int32} {m_bad : Int32} {m_badKind : Int32} {m_opens : Int32} {m_faultAt : Int32} {m_tape : Nat → Int32} {m_newBed : Nat → Int32} {m_newLetter : Nat → Int32} {m_newReader : Nat → Int32} {m_bed : Nat → Int32} {m_letter : Nat → Int32} {m_reader : Nat → Int32} {m_newBeds : Int32} {m_newLetters : Int32} {m_newReaders : Int32} {m_beds : Int32} {m_letters : Int32} {m_readers : Int32} {m_newCode : Nat → Int32} {m_newOf : Nat → Int32} {m_code : Nat → Int32} {m_ofCode : Nat → Int32} {m_newCodes : Int32} {m_codes : Int32} {m_newStep : Nat → Int32} {m_step : Nat → Int32} {m_newSteps : Int32} {m_works : Int32} {m_refusedSteps : Int32} {m_begun : Int32} {m_done : Int32} {m_refusedNow : Int32} {m_now : Nat → Int32} {m_past : Nat → Int32} {m_newBook : Nat → Int32} {m_book : Nat → Int32} {m_written : Int32} {m_mostBy : Nat → Int32} {m_stuffing : Nat → Int32} {m_stuffedMany : Int32} {m_lastBy : Nat → Int32} {m_leftBy : Nat → Int32} {m_splitBy : Nat → Int64} {m_image : Nat → Int32} {m_images : Int32} {n1 : Int32} {n2 : Int32} {n3 : Int32} {n4 : Int32} {n5 : Int32} {n6 : Int32} {r : Int32} {o_m_thrown : Int32} {o_m_refused : Nat → Int32} {o_m_stack : Nat → Int32} {o_m_facts : Nat → Int32} {o_m_s : Nat → Int32} {o_m_seedNow : Int32} {k77 : Int32 → Int32 → Int32 → Int32 → Int32 → (Nat → Int32) → (Nat → Int32) → (Nat → Int32) → (Nat → Int32) → Int32 → Option (Int32 × Int32 × (Nat → Int32) × (Nat → Int32) × (Nat → Int32) × (Nat → Int32) × Int32)} (C : Cx J Z cX10_span 12 RX10 (some .int) rm_X10_span) (E : Ez J Z 0 0 (some (.int r)) (cs_X10 J.2.2.1 a0 o_m_thrown o_m_refused m_taped m_size m_at m_bad m_badKind m_opens m_faultAt m_tape m_newBed m_newLetter m_newReader m_bed m_letter m_reader m_newBeds m_newLetters m_newReaders m_beds m_letters m_readers m_newCode m_newOf m_code m_ofCode o_m_stack m_newCodes m_codes o_m_facts m_newStep m_step m_newSteps m_works m_refusedSteps m_begun m_done m_refusedNow m_now o_m_s m_past m_newBook m_book m_written m_mostBy m_stuffing m_stuffedMany m_lastBy m_leftBy m_splitBy o_m_seedNow m_image m_images)) (hk77 : ∀ (x7 : Int32) (x8 : Int32) (x9 : Int32) (x10 : Int32) (m_thrown : Int32) (m_refused : Nat → Int32) (m_stack : Nat → Int32) (m_facts : Nat → Int32) (m_s : Nat → Int32) (m_seedNow : Int32), k77 x7 x8 x9 x10 m_thrown m_refused m_stack m_facts m_s m_seedNow = some (r, o_m_thrown, o_m_refused, o_m_stack, o_m_facts, o_m_s, o_m_seedNow) → G J Z 0 0 (cs_X10 J.2.2.1 a0 m_thrown m_refused m_taped m_size m_at m_bad m_badKind m_opens m_faultAt m_tape m_newBed m_newLetter m_newReader m_bed m_letter m_reader m_newBeds m_newLetters m_newReaders m_beds m_letters m_readers m_newCode m_newOf m_code m_ofCode m_stack m_newCodes m_codes m_facts m_newStep m_step m_newSteps m_works m_refusedSteps m_begun m_done m_refusedNow m_now m_s m_past m_newBook m_book m_written m_mostBy m_stuffing m_stuffedMany m_lastBy m_leftBy m_splitBy m_seedNow m_image m_images) 12 [(0, .ref (a0 0)), (1, .int n1), (2, .int n2), (3, .int n3), (4, .int n4), (5, .int n5), (6, .int n6), (7, .int x7), (8, .int x8), (9, .int x9), (10, .int x10)] 77 []) : ∀ (x8 : Int32) (x9 : Int32) (x10 : Int32) (x11 : Int32) (y0 : Int32) (m_thrown : Int32) (m_refused : Nat → Int32) (m_stack : Nat → Int32) (m_facts : Nat → Int32) (m_s : Nat → Int32) (m_seedNow : Int32), f_X10_span_120 m_bed m_letter m_beds m_letters m_readers m_code m_ofCode m_codes m_now n1 n2 n3 n4 n5 n6 k77 x8 x9 x10 x11 y0 m_thrown m_refused m_stack m_facts m_s m_seedNow = some (r, o_m_thrown, o_m_refused, o_m_stack, o_m_facts, o_m_s, o_m_seedNow) → G J Z 0 0 (cs_X10 J.2.2.1 a0 m_thrown m_refused m_taped m_size m_at m_bad m_badKind m_opens m_faultAt m_tape m_newBed m_newLetter m_newReader m_bed m_letter m_reader m_newBeds m_newLetters m_newReaders m_beds m_letters m_readers m_newCode m_newOf m_code m_ofCode m_stack m_newCodes m_codes m_facts m_newStep m_step m_newSteps m_works m_refusedSteps m_begun m_done m_refusedNow m_now m_s m_past m_newBook m_book m_written m_mostBy m_stuffing m_stuffedMany m_lastBy m_leftBy m_splitBy m_seedNow m_image m_images) 12 [(0, .ref (a0 0)), (1, .int n1), (2, .int n2), (3, .int n3), (4, .int n4), (5, .int n5), (6, .int n6), (8, .int x8), (9, .int x9), (10, .int x10), (11, .int x11)] 120 [.int y0] := by
  intro x8 x9 x10 x11 y0 m_thrown m_refused m_stack m_facts m_s m_seedNow h
  unfold f_X10_span_120 at h
  refine g_istore (pc := 120) C [(7, .int y0), (0, .ref (a0 0)), (1, .int n1), (2, .int n2), (3, .int n3), (4, .int n4), (5, .int n5), (6, .int n6), (8, .int x8), (9, .int x9), (10, .int x10), (11, .int x11)] dX10_span_120 (by decide) rfl ?_
  refine g_iload (pc := 122) C 11 rfl dX10_span_122 ?_
  refine g_iload (pc := 124) C 8 rfl dX10_span_124 ?_
  refine g_icmp_le (pc := 126) C (tgt := 134) dX10_span_126 rfl h (fun h => ?_) (fun h => ?_)
  · refine g_iload (pc := 134) C 8 rfl dX10_span_134 ?_
    refine g_lv [1, 2, 3, 4, 5, 6, 7, 0, 9, 10] rfl ?_
    exact j_X10_span_136 C E hk77 y0 x9 x10 x8 m_thrown m_refused m_stack m_facts m_s m_seedNow h
  · refine g_iload (pc := 129) C 11 rfl dX10_span_129 ?_
    refine g_goto (pc := 131) C (tgt := 136) dX10_span_131 rfl ?_
    refine g_lv [1, 2, 3, 4, 5, 6, 7, 0, 9, 10] rfl ?_
    exact j_X10_span_136 C E hk77 y0 x9 x10 x11 m_thrown m_refused m_stack m_facts m_s m_seedNow h
set_option maxRecDepth 100000 in
set_option maxHeartbeats 4000000 in
theorem j_X10_span_77 {J : Jt} {Z : Zt} {a0 : Nat → Nat} {m_taped : Int32} {m_size : Int32} {m_at : Int32} {m_bad : Int32} {m_badKind : Int32} {m_opens : Int32} {m_faultAt : Int32} {m_tape : Nat → Int32} {m_newBed : Nat → Int32} {m_newLetter : Nat → Int32} {m_newReader : Nat → Int32} {m_bed : Nat → Int32} {m_letter : Nat → Int32} {m_reader : Nat → Int32} {m_newBeds : Int32} {m_newLetters : Int32} {m_newReaders : Int32} {m_beds : Int32} {m_letters : Int32} {m_readers : Int32} {m_newCode : Nat → Int32} {m_newOf : Nat → Int32} {m_code : Nat → Int32} {m_ofCode : Nat → Int32} {m_newCodes : Int32} {m_codes : Int32} {m_newStep : Nat → Int32} {m_step : Nat → Int32} {m_newSteps : Int32} {m_works : Int32} {m_refusedSteps : Int32} {m_begun : Int32} {m_done : Int32} {m_refusedNow : Int32} {m_now : Nat → Int32} {m_past : Nat → Int32} {m_newBook : Nat → Int32} {m_book : Nat → Int32} {m_written : Int32} {m_mostBy : Nat → Int32} {m_stuffing : Nat → Int32} {m_stuffedMany : Int32} {m_lastBy : Nat → Int32} {m_leftBy : Nat → Int32} {m_splitBy : Nat → Int64} {m_image : Nat → Int32} {m_images : Int32} {n1 : Int32} {n2 : Int32} {n3 : Int32} {n4 : Int32} {n5 : Int32} {n6 : Int32} {r : Int32} {o_m_thrown : Int32} {o_m_refused : Nat → Int32} {o_m_stack : Nat → Int32} {o_m_facts : Nat → Int32} {o_m_s : Nat → Int32} {o_m_seedNow : Int32} (C : Cx J Z cX10_span 12 RX10 (some .int) rm_X10_span) (E : Ez J Z 0 0 (some (.int r)) (cs_X10 J.2.2.1 a0 o_m_thrown o_m_refused m_taped m_size m_at m_bad m_badKind m_opens m_faultAt m_tape m_newBed m_newLetter m_newReader m_bed m_letter m_reader m_newBeds m_newLetters m_newReaders m_beds m_letters m_readers m_newCode m_newOf m_code m_ofCode o_m_stack m_newCodes m_codes o_m_facts m_newStep m_step m_newSteps m_works m_refusedSteps m_begun m_done m_refusedNow m_now o_m_s m_past m_newBook m_book m_written m_mostBy m_stuffing m_stuffedMany m_lastBy m_leftBy m_splitBy o_m_seedNow m_image m_images)) : ∀ (n : Nat) (x7 : Int32) (x8 : Int32) (x9 : Int32) (x10 : Int32) (m_thrown : Int32) (m_refused : Nat → Int32) (m_stack : Nat → Int32) (m_facts : Nat → Int32) (m_s : Nat → Int32) (m_seedNow : Int32), f_X10_span_77 m_bed m_letter m_beds m_letters m_readers m_code m_ofCode m_codes m_now n1 n2 n3 n4 n5 n6 n x7 x8 x9 x10 m_thrown m_refused m_stack m_facts m_s m_seedNow = some (r, o_m_thrown, o_m_refused, o_m_stack, o_m_facts, o_m_s, o_m_seedNow) → G J Z 0 0 (cs_X10 J.2.2.1 a0 m_thrown m_refused m_taped m_size m_at m_bad m_badKind m_opens m_faultAt m_tape m_newBed m_newLetter m_newReader m_bed m_letter m_reader m_newBeds m_newLetters m_newReaders m_beds m_letters m_readers m_newCode m_newOf m_code m_ofCode m_stack m_newCodes m_codes m_facts m_newStep m_step m_newSteps m_works m_refusedSteps m_begun m_done m_refusedNow m_now m_s m_past m_newBook m_book m_written m_mostBy m_stuffing m_stuffedMany m_lastBy m_leftBy m_splitBy m_seedNow m_image m_images) 12 [(0, .ref (a0 0)), (1, .int n1), (2, .int n2), (3, .int n3), (4, .int n4), (5, .int n5), (6, .int n6), (7, .int x7), (8, .int x8), (9, .int x9), (10, .int x10)] 77 [] := by
  intro n
  induction n with
  | zero =>
    intro x7 x8 x9 x10 m_thrown m_refused m_stack m_facts m_s m_seedNow h
    rw [f_X10_span_77] at h
    cases h
  | succ n ih =>
    intro x7 x8 x9 x10 m_thrown m_refused m_stack m_facts m_s m_seedNow h
    rw [f_X10_span_77] at h
    refine g_iload (pc := 77) C 10 rfl dX10_span_77 ?_
    refine g_iload_n (pc := 79) C 2 rfl dX10_span_79 ?_
    refine g_icmp_ge (pc := 80) C (tgt := 167) dX10_span_80 rfl h (fun h => ?_) (fun h => ?_)
    · refine g_iload (pc := 167) C 5 rfl dX10_span_167 ?_
      refine g_if_ne (pc := 169) C (tgt := 177) dX10_span_169 rfl h (fun h => ?_) (fun h => ?_)
      · refine g_iload (pc := 177) C 5 rfl dX10_span_177 ?_
        refine g_iconst (pc := 179) C dX10_span_179 ci_1 ?_
        refine g_icmp_ne (pc := 180) C (tgt := 188) dX10_span_180 rfl h (fun h => ?_) (fun h => ?_)
        · refine g_iload (pc := 188) C 9 rfl dX10_span_188 ?_
          cases h
          exact g_iret C E dX10_span_190
        · refine g_iload (pc := 183) C 8 rfl dX10_span_183 ?_
          refine g_goto (pc := 185) C (tgt := 190) dX10_span_185 rfl ?_
          cases h
          exact g_iret C E dX10_span_190
      · refine g_iload (pc := 172) C 7 rfl dX10_span_172 ?_
        refine g_goto (pc := 174) C (tgt := 190) dX10_span_174 rfl ?_
        cases h
        exact g_iret C E dX10_span_190
    · refine g_aload_n (pc := 83) C 0 rfl dX10_span_83 ?_
      refine g_iload_n (pc := 84) C 1 rfl dX10_span_84 ?_
      refine g_iload (pc := 85) C 10 rfl dX10_span_85 ?_
      refine g_iadd (pc := 87) C dX10_span_87 ?_
      refine g_iload_n (pc := 88) C 3 rfl dX10_span_88 ?_
      refine g_iload (pc := 89) C 4 rfl dX10_span_89 ?_
      obtain ⟨c1, c2, c3, c4, hc, h⟩ := b4_of h
      refine g_callV (pc := 91) C (w' := cs_X10 J.2.2.1 a0 m_thrown m_refused m_taped m_size m_at m_bad m_badKind m_opens m_faultAt m_tape m_newBed m_newLetter m_newReader m_bed m_letter m_reader m_newBeds m_newLetters m_newReaders m_beds m_letters m_readers m_newCode m_newOf m_code m_ofCode c1 m_newCodes m_codes c2 m_newStep m_step m_newSteps m_works m_refusedSteps m_begun m_done m_refusedNow m_now c3 m_past m_newBook m_book m_written m_mostBy m_stuffing m_stuffedMany m_lastBy m_leftBy m_splitBy c4 m_image m_images) (As := [.int (n1 + x10), .int n3, .int n4]) (st := []) (ci := 10) (q0 := 0) rfl rfl (t_X10_summerGoes (a0 := a0) hc) Sub.same kw_1878 kw_1880 kw_80 kw_95 hy_X10_summerGoes kw_1881 rfl (Nat.le_of_ble_eq_true rfl) (Nat.le_of_ble_eq_true rfl) (Nat.le_of_ble_eq_true rfl) (Nat.le_of_ble_eq_true rfl) (Nat.le_of_ble_eq_true rfl) dX10_span_91 ?_
      refine g_aload_n (pc := 94) C 0 rfl dX10_span_94 ?_
      obtain ⟨v5, hc, h⟩ := b1_of h
      refine g_callV (pc := 95) C (w' := cs_X10 J.2.2.1 a0 m_thrown m_refused m_taped m_size m_at m_bad m_badKind m_opens m_faultAt m_tape m_newBed m_newLetter m_newReader m_bed m_letter m_reader m_newBeds m_newLetters m_newReaders m_beds m_letters m_readers m_newCode m_newOf m_code m_ofCode c1 m_newCodes m_codes c2 m_newStep m_step m_newSteps m_works m_refusedSteps m_begun m_done m_refusedNow m_now c3 m_past m_newBook m_book m_written m_mostBy m_stuffing m_stuffedMany m_lastBy m_leftBy m_splitBy c4 m_image m_images) (As := []) (st := []) (ci := 10) (q0 := 0) rfl rfl (t_X10_leftAll (a0 := a0) hc) Sub.same kw_1692 kw_1694 kw_65 kw_95 hy_X10_leftAll kw_1695 rfl (Nat.le_of_ble_eq_true rfl) (Nat.le_of_ble_eq_true rfl) (Nat.le_of_ble_eq_true rfl) (Nat.le_of_ble_eq_true rfl) (Nat.le_of_ble_eq_true rfl) dX10_span_95 ?_
      refine g_istore (pc := 98) C [(11, .int v5), (0, .ref (a0 0)), (1, .int n1), (2, .int n2), (3, .int n3), (4, .int n4), (5, .int n5), (6, .int n6), (7, .int x7), (8, .int x8), (9, .int x9), (10, .int x10)] dX10_span_98 (by decide) rfl ?_
      refine g_iload (pc := 100) C 8 rfl dX10_span_100 ?_
      refine g_iconst (pc := 102) C dX10_span_102 ci_m1 ?_
      refine g_icmp_eq (pc := 103) C (tgt := 113) dX10_span_103 rfl h (fun h => ?_) (fun h => ?_)
      · refine g_iload (pc := 113) C 0 rfl dX10_span_113 ?_
        refine g_goto (pc := 115) C (tgt := 120) dX10_span_115 rfl ?_
        refine g_lv [1, 2, 3, 4, 5, 6, 7, 9, 10, 11, 0] rfl ?_
        exact j_X10_span_120 C E ih x8 x9 x10 v5 v5 m_thrown m_refused c1 c2 c3 c4 h
      · refine g_iload (pc := 106) C 0 rfl dX10_span_106 ?_
        refine g_iload (pc := 108) C 8 rfl dX10_span_108 ?_
        refine g_icmp_ge (pc := 110) C (tgt := 118) dX10_span_110 rfl h (fun h => ?_) (fun h => ?_)
        · refine g_iload (pc := 118) C 8 rfl dX10_span_118 ?_
          refine g_lv [1, 2, 3, 4, 5, 6, 7, 9, 10, 11, 0] rfl ?_
          exact j_X10_span_120 C E ih x8 x9 x10 v5 x7 m_thrown m_refused c1 c2 c3 c4 h
        · refine g_iload (pc := 113) C 0 rfl dX10_span_113 ?_
          refine g_goto (pc := 115) C (tgt := 120) dX10_span_115 rfl ?_
          refine g_lv [1, 2, 3, 4, 5, 6, 7, 9, 10, 11, 0] rfl ?_
          exact j_X10_span_120 C E ih x8 x9 x10 v5 v5 m_thrown m_refused c1 c2 c3 c4 h
set_option maxRecDepth 100000 in
set_option maxHeartbeats 4000000 in
theorem j_X10_span_55 {J : Jt} {Z : Zt} {a0 : Nat → Nat} {m_taped : Int32} {m_size : Int32} {m_at : Int32} {m_bad : Int32} {m_badKind : Int32} {m_opens : Int32} {m_faultAt : Int32} {m_tape : Nat → Int32} {m_newBed : Nat → Int32} {m_newLetter : Nat → Int32} {m_newReader : Nat → Int32} {m_bed : Nat → Int32} {m_letter : Nat → Int32} {m_reader : Nat → Int32} {m_newBeds : Int32} {m_newLetters : Int32} {m_newReaders : Int32} {m_beds : Int32} {m_letters : Int32} {m_readers : Int32} {m_newCode : Nat → Int32} {m_newOf : Nat → Int32} {m_code : Nat → Int32} {m_ofCode : Nat → Int32} {m_newCodes : Int32} {m_codes : Int32} {m_newStep : Nat → Int32} {m_step : Nat → Int32} {m_newSteps : Int32} {m_works : Int32} {m_refusedSteps : Int32} {m_begun : Int32} {m_done : Int32} {m_refusedNow : Int32} {m_now : Nat → Int32} {m_past : Nat → Int32} {m_newBook : Nat → Int32} {m_book : Nat → Int32} {m_written : Int32} {m_mostBy : Nat → Int32} {m_stuffing : Nat → Int32} {m_stuffedMany : Int32} {m_lastBy : Nat → Int32} {m_leftBy : Nat → Int32} {m_splitBy : Nat → Int64} {m_image : Nat → Int32} {m_images : Int32} {n1 : Int32} {n2 : Int32} {n3 : Int32} {n4 : Int32} {n5 : Int32} {n6 : Int32} {r : Int32} {o_m_thrown : Int32} {o_m_refused : Nat → Int32} {o_m_stack : Nat → Int32} {o_m_facts : Nat → Int32} {o_m_s : Nat → Int32} {o_m_seedNow : Int32} (C : Cx J Z cX10_span 12 RX10 (some .int) rm_X10_span) (E : Ez J Z 0 0 (some (.int r)) (cs_X10 J.2.2.1 a0 o_m_thrown o_m_refused m_taped m_size m_at m_bad m_badKind m_opens m_faultAt m_tape m_newBed m_newLetter m_newReader m_bed m_letter m_reader m_newBeds m_newLetters m_newReaders m_beds m_letters m_readers m_newCode m_newOf m_code m_ofCode o_m_stack m_newCodes m_codes o_m_facts m_newStep m_step m_newSteps m_works m_refusedSteps m_begun m_done m_refusedNow m_now o_m_s m_past m_newBook m_book m_written m_mostBy m_stuffing m_stuffedMany m_lastBy m_leftBy m_splitBy o_m_seedNow m_image m_images)) : ∀ (y1 : Int32) (m_thrown : Int32) (m_refused : Nat → Int32) (m_stack : Nat → Int32) (m_facts : Nat → Int32) (m_s : Nat → Int32) (m_seedNow : Int32), f_X10_span_55 m_bed m_letter m_beds m_letters m_readers m_code m_ofCode m_codes m_now n1 n2 n3 n4 n5 n6 y1 m_thrown m_refused m_stack m_facts m_s m_seedNow = some (r, o_m_thrown, o_m_refused, o_m_stack, o_m_facts, o_m_s, o_m_seedNow) → G J Z 0 0 (cs_X10 J.2.2.1 a0 m_thrown m_refused m_taped m_size m_at m_bad m_badKind m_opens m_faultAt m_tape m_newBed m_newLetter m_newReader m_bed m_letter m_reader m_newBeds m_newLetters m_newReaders m_beds m_letters m_readers m_newCode m_newOf m_code m_ofCode m_stack m_newCodes m_codes m_facts m_newStep m_step m_newSteps m_works m_refusedSteps m_begun m_done m_refusedNow m_now m_s m_past m_newBook m_book m_written m_mostBy m_stuffing m_stuffedMany m_lastBy m_leftBy m_splitBy m_seedNow m_image m_images) 12 [(0, .ref (a0 0)), (1, .int n1), (2, .int n2), (3, .int n3), (4, .int n4), (5, .int n5), (6, .int n6)] 55 [.int y1, .ref (a0 0)] := by
  intro y1 m_thrown m_refused m_stack m_facts m_s m_seedNow h
  unfold f_X10_span_55 at h
  refine g_iconst (pc := 55) C dX10_span_55 ci_1 ?_
  refine g_iconst (pc := 56) C dX10_span_56 ci_1 ?_
  obtain ⟨v6, c7, c8, hc, h⟩ := b3_of h
  refine g_callV (pc := 57) C (w' := cs_X10 J.2.2.1 a0 c7 c8 m_taped m_size m_at m_bad m_badKind m_opens m_faultAt m_tape m_newBed m_newLetter m_newReader m_bed m_letter m_reader m_newBeds m_newLetters m_newReaders m_beds m_letters m_readers m_newCode m_newOf m_code m_ofCode m_stack m_newCodes m_codes m_facts m_newStep m_step m_newSteps m_works m_refusedSteps m_begun m_done m_refusedNow m_now m_s m_past m_newBook m_book m_written m_mostBy m_stuffing m_stuffedMany m_lastBy m_leftBy m_splitBy m_seedNow m_image m_images) (As := [.int y1, .int 1, .int 1]) (st := []) (ci := 10) (q0 := 0) rfl rfl (t_X10_may (a0 := a0) hc) Sub.same kw_1450 kw_1452 kw_20 kw_95 hy_X10_may kw_1453 rfl (Nat.le_of_ble_eq_true rfl) (Nat.le_of_ble_eq_true rfl) (Nat.le_of_ble_eq_true rfl) (Nat.le_of_ble_eq_true rfl) (Nat.le_of_ble_eq_true rfl) dX10_span_57 ?_
  refine g_if_ne (pc := 60) C (tgt := 65) dX10_span_60 rfl h (fun h => ?_) (fun h => ?_)
  · refine g_iconst (pc := 65) C dX10_span_65 ci_m1 ?_
    refine g_istore (pc := 66) C [(7, .int (-1)), (0, .ref (a0 0)), (1, .int n1), (2, .int n2), (3, .int n3), (4, .int n4), (5, .int n5), (6, .int n6)] dX10_span_66 (by decide) rfl ?_
    refine g_iconst (pc := 68) C dX10_span_68 ci_0 ?_
    refine g_istore (pc := 69) C [(8, .int 0), (7, .int (-1)), (0, .ref (a0 0)), (1, .int n1), (2, .int n2), (3, .int n3), (4, .int n4), (5, .int n5), (6, .int n6)] dX10_span_69 (by decide) rfl ?_
    refine g_iconst (pc := 71) C dX10_span_71 ci_0 ?_
    refine g_istore (pc := 72) C [(9, .int 0), (8, .int 0), (7, .int (-1)), (0, .ref (a0 0)), (1, .int n1), (2, .int n2), (3, .int n3), (4, .int n4), (5, .int n5), (6, .int n6)] dX10_span_72 (by decide) rfl ?_
    refine g_iconst (pc := 74) C dX10_span_74 ci_0 ?_
    refine g_istore (pc := 75) C [(10, .int 0), (9, .int 0), (8, .int 0), (7, .int (-1)), (0, .ref (a0 0)), (1, .int n1), (2, .int n2), (3, .int n3), (4, .int n4), (5, .int n5), (6, .int n6)] dX10_span_75 (by decide) rfl ?_
    refine g_lv [4, 5, 6, 7, 8, 9, 10, 3, 2, 1, 0] rfl ?_
    exact j_X10_span_77 C E  FU (-1) 0 0 0 c7 c8 m_stack m_facts m_s m_seedNow h
  · refine g_iconst (pc := 63) C dX10_span_63 ci_0 ?_
    cases h
    exact g_iret C E dX10_span_64
set_option maxRecDepth 100000 in
set_option maxHeartbeats 4000000 in
theorem t_X10_span {J : Jt} {a0 : Nat → Nat} {m_thrown : Int32} {m_refused : Nat → Int32} {m_taped : Int32} {m_size : Int32} {m_at : Int32} {m_bad : Int32} {m_badKind : Int32} {m_opens : Int32} {m_faultAt : Int32} {m_tape : Nat → Int32} {m_newBed : Nat → Int32} {m_newLetter : Nat → Int32} {m_newReader : Nat → Int32} {m_bed : Nat → Int32} {m_letter : Nat → Int32} {m_reader : Nat → Int32} {m_newBeds : Int32} {m_newLetters : Int32} {m_newReaders : Int32} {m_beds : Int32} {m_letters : Int32} {m_readers : Int32} {m_newCode : Nat → Int32} {m_newOf : Nat → Int32} {m_code : Nat → Int32} {m_ofCode : Nat → Int32} {m_stack : Nat → Int32} {m_newCodes : Int32} {m_codes : Int32} {m_facts : Nat → Int32} {m_newStep : Nat → Int32} {m_step : Nat → Int32} {m_newSteps : Int32} {m_works : Int32} {m_refusedSteps : Int32} {m_begun : Int32} {m_done : Int32} {m_refusedNow : Int32} {m_now : Nat → Int32} {m_s : Nat → Int32} {m_past : Nat → Int32} {m_newBook : Nat → Int32} {m_book : Nat → Int32} {m_written : Int32} {m_mostBy : Nat → Int32} {m_stuffing : Nat → Int32} {m_stuffedMany : Int32} {m_lastBy : Nat → Int32} {m_leftBy : Nat → Int32} {m_splitBy : Nat → Int64} {m_seedNow : Int32} {m_image : Nat → Int32} {m_images : Int32} {n1 : Int32} {n2 : Int32} {n3 : Int32} {n4 : Int32} {n5 : Int32} {n6 : Int32} {r : Int32} {o_m_thrown : Int32} {o_m_refused : Nat → Int32} {o_m_stack : Nat → Int32} {o_m_facts : Nat → Int32} {o_m_s : Nat → Int32} {o_m_seedNow : Int32} (h : f_X10_span m_thrown m_refused m_bed m_letter m_beds m_letters m_readers m_code m_ofCode m_stack m_codes m_facts m_now m_s m_seedNow n1 n2 n3 n4 n5 n6 = some (r, o_m_thrown, o_m_refused, o_m_stack, o_m_facts, o_m_s, o_m_seedNow)) : Mt J yX10_span cX10_span 12 (some .int) rm_X10_span [.ref (a0 0), .int n1, .int n2, .int n3, .int n4, .int n5, .int n6] (cs_X10 J.2.2.1 a0 m_thrown m_refused m_taped m_size m_at m_bad m_badKind m_opens m_faultAt m_tape m_newBed m_newLetter m_newReader m_bed m_letter m_reader m_newBeds m_newLetters m_newReaders m_beds m_letters m_readers m_newCode m_newOf m_code m_ofCode m_stack m_newCodes m_codes m_facts m_newStep m_step m_newSteps m_works m_refusedSteps m_begun m_done m_refusedNow m_now m_s m_past m_newBook m_book m_written m_mostBy m_stuffing m_stuffedMany m_lastBy m_leftBy m_splitBy m_seedNow m_image m_images) (some (.int r)) (cs_X10 J.2.2.1 a0 o_m_thrown o_m_refused m_taped m_size m_at m_bad m_badKind m_opens m_faultAt m_tape m_newBed m_newLetter m_newReader m_bed m_letter m_reader m_newBeds m_newLetters m_newReaders m_beds m_letters m_readers m_newCode m_newOf m_code m_ofCode o_m_stack m_newCodes m_codes o_m_facts m_newStep m_step m_newSteps m_works m_refusedSteps m_begun m_done m_refusedNow m_now o_m_s m_past m_newBook m_book m_written m_mostBy m_stuffing m_stuffedMany m_lastBy m_leftBy m_splitBy o_m_seedNow m_image m_images) := by
  refine Mt_of (own := RX10) (by decide) rfl (Nat.le_of_ble_eq_true rfl) rfl (fun Z C E => ?_)
  unfold f_X10_span at h
  show G J Z 0 0 (cs_X10 J.2.2.1 a0 m_thrown m_refused m_taped m_size m_at m_bad m_badKind m_opens m_faultAt m_tape m_newBed m_newLetter m_newReader m_bed m_letter m_reader m_newBeds m_newLetters m_newReaders m_beds m_letters m_readers m_newCode m_newOf m_code m_ofCode m_stack m_newCodes m_codes m_facts m_newStep m_step m_newSteps m_works m_refusedSteps m_begun m_done m_refusedNow m_now m_s m_past m_newBook m_book m_written m_mostBy m_stuffing m_stuffedMany m_lastBy m_leftBy m_splitBy m_seedNow m_image m_images) 12 [(0, .ref (a0 0)), (1, .int n1), (2, .int n2), (3, .int n3), (4, .int n4), (5, .int n5), (6, .int n6)] 0 []
  refine g_aload_n (pc := 0) C 0 rfl dX10_span_0 ?_
  refine g_iconst (pc := 1) C dX10_span_1 ci_0 ?_
  refine g_put (pc := 2) C (w' := cs_X10 J.2.2.1 a0 0 m_refused m_taped m_size m_at m_bad m_badKind m_opens m_faultAt m_tape m_newBed m_newLetter m_newReader m_bed m_letter m_reader m_newBeds m_newLetters m_newReaders m_beds m_letters m_readers m_newCode m_newOf m_code m_ofCode m_stack m_newCodes m_codes m_facts m_newStep m_step m_newSteps m_works m_refusedSteps m_begun m_done m_refusedNow m_now m_s m_past m_newBook m_book m_written m_mostBy m_stuffing m_stuffedMany m_lastBy m_leftBy m_splitBy m_seedNow m_image m_images) FOK_X10 0 rfl rfl 0 (by decide) kw_1277 rfl rfl rfl (Nat.le_of_ble_eq_true rfl) dX10_span_2 rfl ?_
  refine g_aload_n (pc := 5) C 0 rfl dX10_span_5 ?_
  refine g_iload_n (pc := 6) C 2 rfl dX10_span_6 ?_
  refine g_iconst (pc := 7) C dX10_span_7 ci_1 ?_
  refine g_bipush (pc := 8) C dX10_span_8 cb_10 ?_
  obtain ⟨v9, hc, h⟩ := b1_of h
  refine g_callS (pc := 10) C (w' := cs_X10 J.2.2.1 a0 0 m_refused m_taped m_size m_at m_bad m_badKind m_opens m_faultAt m_tape m_newBed m_newLetter m_newReader m_bed m_letter m_reader m_newBeds m_newLetters m_newReaders m_beds m_letters m_readers m_newCode m_newOf m_code m_ofCode m_stack m_newCodes m_codes m_facts m_newStep m_step m_newSteps m_works m_refusedSteps m_begun m_done m_refusedNow m_now m_s m_past m_newBook m_book m_written m_mostBy m_stuffing m_stuffedMany m_lastBy m_leftBy m_splitBy m_seedNow m_image m_images) (As := [.int n2, .int 1, .int 10]) (st := [.ref (a0 0)]) (t_X10_within hc) Sub.nil kw_1689 kw_1690 kw_95 hy_X10_within kw_1691 rfl (Nat.le_of_ble_eq_true rfl) (Nat.le_of_ble_eq_true rfl) (Nat.le_of_ble_eq_true rfl) (Nat.le_of_ble_eq_true rfl) (Nat.le_of_ble_eq_true rfl) dX10_span_10 ?_
  refine g_if_eq (pc := 13) C (tgt := 54) dX10_span_13 rfl h (fun h => ?_) (fun h => ?_)
  · refine g_iconst (pc := 54) C dX10_span_54 ci_0 ?_
    exact j_X10_span_55 C E  0 0 m_refused m_stack m_facts m_s m_seedNow h
  · refine g_iload_n (pc := 16) C 3 rfl dX10_span_16 ?_
    refine g_iload (pc := 17) C 4 rfl dX10_span_17 ?_
    obtain ⟨v10, hc, h⟩ := b1_of h
    refine g_callS (pc := 19) C (w' := cs_X10 J.2.2.1 a0 0 m_refused m_taped m_size m_at m_bad m_badKind m_opens m_faultAt m_tape m_newBed m_newLetter m_newReader m_bed m_letter m_reader m_newBeds m_newLetters m_newReaders m_beds m_letters m_readers m_newCode m_newOf m_code m_ofCode m_stack m_newCodes m_codes m_facts m_newStep m_step m_newSteps m_works m_refusedSteps m_begun m_done m_refusedNow m_now m_s m_past m_newBook m_book m_written m_mostBy m_stuffing m_stuffedMany m_lastBy m_leftBy m_splitBy m_seedNow m_image m_images) (As := [.int n3, .int n4]) (st := [.ref (a0 0)]) (t_X10_isSummer hc) Sub.nil kw_1875 kw_1876 kw_95 hy_X10_isSummer kw_1877 rfl (Nat.le_of_ble_eq_true rfl) (Nat.le_of_ble_eq_true rfl) (Nat.le_of_ble_eq_true rfl) (Nat.le_of_ble_eq_true rfl) (Nat.le_of_ble_eq_true rfl) dX10_span_19 ?_
    refine g_if_eq (pc := 22) C (tgt := 54) dX10_span_22 rfl h (fun h => ?_) (fun h => ?_)
    · refine g_iconst (pc := 54) C dX10_span_54 ci_0 ?_
      exact j_X10_span_55 C E  0 0 m_refused m_stack m_facts m_s m_seedNow h
    · refine g_iload (pc := 25) C 5 rfl dX10_span_25 ?_
      refine g_iconst (pc := 27) C dX10_span_27 ci_0 ?_
      refine g_iconst (pc := 28) C dX10_span_28 ci_2 ?_
      obtain ⟨v11, hc, h⟩ := b1_of h
      refine g_callS (pc := 29) C (w' := cs_X10 J.2.2.1 a0 0 m_refused m_taped m_size m_at m_bad m_badKind m_opens m_faultAt m_tape m_newBed m_newLetter m_newReader m_bed m_letter m_reader m_newBeds m_newLetters m_newReaders m_beds m_letters m_readers m_newCode m_newOf m_code m_ofCode m_stack m_newCodes m_codes m_facts m_newStep m_step m_newSteps m_works m_refusedSteps m_begun m_done m_refusedNow m_now m_s m_past m_newBook m_book m_written m_mostBy m_stuffing m_stuffedMany m_lastBy m_leftBy m_splitBy m_seedNow m_image m_images) (As := [.int n5, .int 0, .int 2]) (st := [.ref (a0 0)]) (t_X10_within hc) Sub.nil kw_1689 kw_1690 kw_95 hy_X10_within kw_1691 rfl (Nat.le_of_ble_eq_true rfl) (Nat.le_of_ble_eq_true rfl) (Nat.le_of_ble_eq_true rfl) (Nat.le_of_ble_eq_true rfl) (Nat.le_of_ble_eq_true rfl) dX10_span_29 ?_
      refine g_if_eq (pc := 32) C (tgt := 54) dX10_span_32 rfl h (fun h => ?_) (fun h => ?_)
      · refine g_iconst (pc := 54) C dX10_span_54 ci_0 ?_
        exact j_X10_span_55 C E  0 0 m_refused m_stack m_facts m_s m_seedNow h
      · refine g_iload (pc := 35) C 6 rfl dX10_span_35 ?_
        refine g_iconst (pc := 37) C dX10_span_37 ci_0 ?_
        refine g_aload_n (pc := 38) C 0 rfl dX10_span_38 ?_
        refine g_get (pc := 39) C FOK_X10 0 rfl rfl 19 (by decide) kw_1296 rfl dX10_span_39 ?_
        refine g_iconst (pc := 42) C dX10_span_42 ci_1 ?_
        refine g_isub (pc := 43) C dX10_span_43 ?_
        obtain ⟨v12, hc, h⟩ := b1_of h
        refine g_callS (pc := 44) C (w' := cs_X10 J.2.2.1 a0 0 m_refused m_taped m_size m_at m_bad m_badKind m_opens m_faultAt m_tape m_newBed m_newLetter m_newReader m_bed m_letter m_reader m_newBeds m_newLetters m_newReaders m_beds m_letters m_readers m_newCode m_newOf m_code m_ofCode m_stack m_newCodes m_codes m_facts m_newStep m_step m_newSteps m_works m_refusedSteps m_begun m_done m_refusedNow m_now m_s m_past m_newBook m_book m_written m_mostBy m_stuffing m_stuffedMany m_lastBy m_leftBy m_splitBy m_seedNow m_image m_images) (As := [.int n6, .int 0, .int (m_beds - 1)]) (st := [.ref (a0 0)]) (t_X10_within hc) Sub.nil kw_1689 kw_1690 kw_95 hy_X10_within kw_1691 rfl (Nat.le_of_ble_eq_true rfl) (Nat.le_of_ble_eq_true rfl) (Nat.le_of_ble_eq_true rfl) (Nat.le_of_ble_eq_true rfl) (Nat.le_of_ble_eq_true rfl) dX10_span_44 ?_
        refine g_if_eq (pc := 47) C (tgt := 54) dX10_span_47 rfl h (fun h => ?_) (fun h => ?_)
        · refine g_iconst (pc := 54) C dX10_span_54 ci_0 ?_
          exact j_X10_span_55 C E  0 0 m_refused m_stack m_facts m_s m_seedNow h
        · refine g_iconst (pc := 50) C dX10_span_50 ci_1 ?_
          refine g_goto (pc := 51) C (tgt := 55) dX10_span_51 rfl ?_
          exact j_X10_span_55 C E  1 0 m_refused m_stack m_facts m_s m_seedNow h
noncomputable def f_X10_keepsRow_3 (r_n : Nat) (n1 : Int32) (n2 : Int32) (n3 : Int32) : Nat → Int32 → (Nat → Int32) → (Nat → Int32) → Option (Int32 × (Nat → Int32) × (Nat → Int32))
  | 0, _, _, _ => none
  | n + 1, x5, m_image, r_v => if n2 ≤ x5 then some (n1 + n2, m_image, r_v) else if n3 = 0 then if ixb (n1 + x5) 8418 then if ixb x5 r_n then f_X10_keepsRow_3 r_n n1 n2 n3 n (x5 + 1) m_image (upd r_v x5.toNatClampNeg (m_image (n1 + x5).toNatClampNeg)) else none else none else if ixb x5 r_n then if ixb (n1 + x5) 8418 then f_X10_keepsRow_3 r_n n1 n2 n3 n (x5 + 1) (upd m_image (n1 + x5).toNatClampNeg (r_v x5.toNatClampNeg)) r_v else none else none
noncomputable def f_X10_keepsRow (m_image : Nat → Int32) (r_n : Nat) (r_v : Nat → Int32) (n1 : Int32) (n2 : Int32) (n3 : Int32) : Option (Int32 × (Nat → Int32) × (Nat → Int32)) := f_X10_keepsRow_3 r_n n1 n2 n3 FU 0 m_image r_v
def rm_X10_keepsRow : Room := { frames := 0, cells := 0, slots := 0, locals := 0 }
set_option maxRecDepth 100000 in
set_option maxHeartbeats 4000000 in
theorem j_X10_keepsRow_3 {J : Jt} {Z : Zt} {a0 : Nat → Nat} {a1 : Nat → Nat} {m_thrown : Int32} {m_taped : Int32} {m_size : Int32} {m_at : Int32} {m_bad : Int32} {m_badKind : Int32} {m_opens : Int32} {m_faultAt : Int32} {m_newBeds : Int32} {m_newLetters : Int32} {m_newReaders : Int32} {m_beds : Int32} {m_letters : Int32} {m_readers : Int32} {m_newCodes : Int32} {m_codes : Int32} {m_newSteps : Int32} {m_works : Int32} {m_refusedSteps : Int32} {m_begun : Int32} {m_done : Int32} {m_refusedNow : Int32} {m_written : Int32} {m_stuffedMany : Int32} {m_seedNow : Int32} {m_images : Int32} {r_n : Nat} {n1 : Int32} {n2 : Int32} {n3 : Int32} {r : Int32} {o_m_image : Nat → Int32} {o_r_v : Nat → Int32} (C : Cx J Z cX10_keepsRow 6 RX10 (some .int) rm_X10_keepsRow) (E : Ez J Z 0 0 (some (.int r)) (cs_X10_image J.2.2.1 a0 m_thrown m_taped m_size m_at m_bad m_badKind m_opens m_faultAt m_newBeds m_newLetters m_newReaders m_beds m_letters m_readers m_newCodes m_codes m_newSteps m_works m_refusedSteps m_begun m_done m_refusedNow m_written m_stuffedMany m_seedNow o_m_image m_images ++ cs_A J.2.2.1 a1 r_n o_r_v)) : ∀ (n : Nat) (x5 : Int32) (m_image : Nat → Int32) (r_v : Nat → Int32), f_X10_keepsRow_3 r_n n1 n2 n3 n x5 m_image r_v = some (r, o_m_image, o_r_v) → G J Z 0 0 (cs_X10_image J.2.2.1 a0 m_thrown m_taped m_size m_at m_bad m_badKind m_opens m_faultAt m_newBeds m_newLetters m_newReaders m_beds m_letters m_readers m_newCodes m_codes m_newSteps m_works m_refusedSteps m_begun m_done m_refusedNow m_written m_stuffedMany m_seedNow m_image m_images ++ cs_A J.2.2.1 a1 r_n r_v) 6 [(0, .ref (a0 0)), (1, .int n1), (2, .ref (a1 0)), (3, .int n2), (4, .int n3), (5, .int x5)] 3 [] := by
  intro n
  induction n with
  | zero =>
    intro x5 m_image r_v h
    rw [f_X10_keepsRow_3] at h
    cases h
  | succ n ih =>
    intro x5 m_image r_v h
    rw [f_X10_keepsRow_3] at h
    refine g_iload (pc := 3) C 5 rfl dX10_keepsRow_3 ?_
    refine g_iload_n (pc := 5) C 3 rfl dX10_keepsRow_5 ?_
    refine g_icmp_ge (pc := 6) C (tgt := 49) dX10_keepsRow_6 rfl h (fun h => ?_) (fun h => ?_)
    · refine g_iload_n (pc := 49) C 1 rfl dX10_keepsRow_49 ?_
      refine g_iload_n (pc := 50) C 3 rfl dX10_keepsRow_50 ?_
      refine g_iadd (pc := 51) C dX10_keepsRow_51 ?_
      cases h
      exact g_iret C E dX10_keepsRow_52
    · refine g_iload (pc := 9) C 4 rfl dX10_keepsRow_9 ?_
      refine g_if_eq (pc := 11) C (tgt := 30) dX10_keepsRow_11 rfl h (fun h => ?_) (fun h => ?_)
      · refine g_aload_n (pc := 30) C 2 rfl dX10_keepsRow_30 ?_
        refine g_iload (pc := 31) C 5 rfl dX10_keepsRow_31 ?_
        refine g_aload_n (pc := 33) C 0 rfl dX10_keepsRow_33 ?_
        refine g_get (pc := 34) C FOK_X10 0 rfl rfl 51 (by decide) kw_1328 rfl dX10_keepsRow_34 ?_
        refine g_iload_n (pc := 37) C 1 rfl dX10_keepsRow_37 ?_
        refine g_iload (pc := 38) C 5 rfl dX10_keepsRow_38 ?_
        refine g_iadd (pc := 40) C dX10_keepsRow_40 ?_
        obtain ⟨hi, h⟩ := ix_of h
        refine g_iald (pc := 41) C 1 rfl hi dX10_keepsRow_41 ?_
        obtain ⟨hi, h⟩ := ix_of h
        refine g_iast (pc := 42) C (w' := cs_X10_image J.2.2.1 a0 m_thrown m_taped m_size m_at m_bad m_badKind m_opens m_faultAt m_newBeds m_newLetters m_newReaders m_beds m_letters m_readers m_newCodes m_codes m_newSteps m_works m_refusedSteps m_begun m_done m_refusedNow m_written m_stuffedMany m_seedNow m_image m_images ++ cs_A J.2.2.1 a1 r_n (upd r_v x5.toNatClampNeg (m_image (n1 + x5).toNatClampNeg))) 2 rfl hi dX10_keepsRow_42 rfl ?_
        refine g_iinc (pc := 43) C (j := 5) [(5, .int (x5 + 1)), (0, .ref (a0 0)), (1, .int n1), (2, .ref (a1 0)), (3, .int n2), (4, .int n3)] dX10_keepsRow_43 rfl (ii_1 _) (by decide) rfl ?_
        refine g_goto (pc := 46) C (tgt := 3) dX10_keepsRow_46 rfl ?_
        refine g_lv [1, 2, 3, 4, 5, 0] rfl ?_
        exact ih (x5 + 1) m_image (upd r_v x5.toNatClampNeg (m_image (n1 + x5).toNatClampNeg)) h
      · refine g_aload_n (pc := 14) C 0 rfl dX10_keepsRow_14 ?_
        refine g_get (pc := 15) C FOK_X10 0 rfl rfl 51 (by decide) kw_1328 rfl dX10_keepsRow_15 ?_
        refine g_iload_n (pc := 18) C 1 rfl dX10_keepsRow_18 ?_
        refine g_iload (pc := 19) C 5 rfl dX10_keepsRow_19 ?_
        refine g_iadd (pc := 21) C dX10_keepsRow_21 ?_
        refine g_aload_n (pc := 22) C 2 rfl dX10_keepsRow_22 ?_
        refine g_iload (pc := 23) C 5 rfl dX10_keepsRow_23 ?_
        obtain ⟨hi, h⟩ := ix_of h
        refine g_iald (pc := 25) C 2 rfl hi dX10_keepsRow_25 ?_
        obtain ⟨hi, h⟩ := ix_of h
        refine g_iast (pc := 26) C (w' := cs_X10_image J.2.2.1 a0 m_thrown m_taped m_size m_at m_bad m_badKind m_opens m_faultAt m_newBeds m_newLetters m_newReaders m_beds m_letters m_readers m_newCodes m_codes m_newSteps m_works m_refusedSteps m_begun m_done m_refusedNow m_written m_stuffedMany m_seedNow (upd m_image (n1 + x5).toNatClampNeg (r_v x5.toNatClampNeg)) m_images ++ cs_A J.2.2.1 a1 r_n r_v) 1 rfl hi dX10_keepsRow_26 rfl ?_
        refine g_goto (pc := 27) C (tgt := 43) dX10_keepsRow_27 rfl ?_
        refine g_iinc (pc := 43) C (j := 5) [(5, .int (x5 + 1)), (0, .ref (a0 0)), (1, .int n1), (2, .ref (a1 0)), (3, .int n2), (4, .int n3)] dX10_keepsRow_43 rfl (ii_1 _) (by decide) rfl ?_
        refine g_goto (pc := 46) C (tgt := 3) dX10_keepsRow_46 rfl ?_
        refine g_lv [1, 2, 3, 4, 5, 0] rfl ?_
        exact ih (x5 + 1) (upd m_image (n1 + x5).toNatClampNeg (r_v x5.toNatClampNeg)) r_v h
set_option maxRecDepth 100000 in
set_option maxHeartbeats 4000000 in
theorem t_X10_keepsRow {J : Jt} {a0 : Nat → Nat} {a1 : Nat → Nat} {m_thrown : Int32} {m_taped : Int32} {m_size : Int32} {m_at : Int32} {m_bad : Int32} {m_badKind : Int32} {m_opens : Int32} {m_faultAt : Int32} {m_newBeds : Int32} {m_newLetters : Int32} {m_newReaders : Int32} {m_beds : Int32} {m_letters : Int32} {m_readers : Int32} {m_newCodes : Int32} {m_codes : Int32} {m_newSteps : Int32} {m_works : Int32} {m_refusedSteps : Int32} {m_begun : Int32} {m_done : Int32} {m_refusedNow : Int32} {m_written : Int32} {m_stuffedMany : Int32} {m_seedNow : Int32} {m_image : Nat → Int32} {m_images : Int32} {r_n : Nat} {r_v : Nat → Int32} {n1 : Int32} {n2 : Int32} {n3 : Int32} {r : Int32} {o_m_image : Nat → Int32} {o_r_v : Nat → Int32} (h : f_X10_keepsRow m_image r_n r_v n1 n2 n3 = some (r, o_m_image, o_r_v)) : Mt J yX10_keepsRow cX10_keepsRow 6 (some .int) rm_X10_keepsRow [.ref (a0 0), .int n1, .ref (a1 0), .int n2, .int n3] (cs_X10_image J.2.2.1 a0 m_thrown m_taped m_size m_at m_bad m_badKind m_opens m_faultAt m_newBeds m_newLetters m_newReaders m_beds m_letters m_readers m_newCodes m_codes m_newSteps m_works m_refusedSteps m_begun m_done m_refusedNow m_written m_stuffedMany m_seedNow m_image m_images ++ cs_A J.2.2.1 a1 r_n r_v) (some (.int r)) (cs_X10_image J.2.2.1 a0 m_thrown m_taped m_size m_at m_bad m_badKind m_opens m_faultAt m_newBeds m_newLetters m_newReaders m_beds m_letters m_readers m_newCodes m_codes m_newSteps m_works m_refusedSteps m_begun m_done m_refusedNow m_written m_stuffedMany m_seedNow o_m_image m_images ++ cs_A J.2.2.1 a1 r_n o_r_v) := by
  refine Mt_of (own := RX10) (by decide) rfl (Nat.le_of_ble_eq_true rfl) rfl (fun Z C E => ?_)
  unfold f_X10_keepsRow at h
  show G J Z 0 0 (cs_X10_image J.2.2.1 a0 m_thrown m_taped m_size m_at m_bad m_badKind m_opens m_faultAt m_newBeds m_newLetters m_newReaders m_beds m_letters m_readers m_newCodes m_codes m_newSteps m_works m_refusedSteps m_begun m_done m_refusedNow m_written m_stuffedMany m_seedNow m_image m_images ++ cs_A J.2.2.1 a1 r_n r_v) 6 [(0, .ref (a0 0)), (1, .int n1), (2, .ref (a1 0)), (3, .int n2), (4, .int n3)] 0 []
  refine g_iconst (pc := 0) C dX10_keepsRow_0 ci_0 ?_
  refine g_istore (pc := 1) C [(5, .int 0), (0, .ref (a0 0)), (1, .int n1), (2, .ref (a1 0)), (3, .int n2), (4, .int n3)] dX10_keepsRow_1 (by decide) rfl ?_
  refine g_lv [1, 2, 3, 4, 5, 0] rfl ?_
  exact j_X10_keepsRow_3 C E  FU 0 m_image r_v h
noncomputable def f_X10_keepsAll (m_works : Int32) (m_now : Nat → Int32) (m_past : Nat → Int32) (m_image : Nat → Int32) (n1 : Int32) (n2 : Int32) : Option (Int32 × (Nat → Int32) × (Nat → Int32) × (Nat → Int32)) := b3 (f_X10_keepsRow m_image 165 m_now (2806 * n1) 165 n2) (fun v1 c2 c3 => b3 (f_X10_keepsRow c2 2640 m_past v1 2640 n2) (fun v4 c5 c6 => if n2 = 0 then if ixb v4 8418 then some (c5 v4.toNatClampNeg, c3, c6, c5) else none else if ixb v4 8418 then some (m_works, c3, c6, upd c5 v4.toNatClampNeg m_works) else none))
def rm_X10_keepsAll : Room := { frames := 1, cells := 0, slots := 0, locals := 25 }
set_option maxRecDepth 100000 in
set_option maxHeartbeats 4000000 in
theorem t_X10_keepsAll {J : Jt} {a0 : Nat → Nat} {m_thrown : Int32} {m_refused : Nat → Int32} {m_taped : Int32} {m_size : Int32} {m_at : Int32} {m_bad : Int32} {m_badKind : Int32} {m_opens : Int32} {m_faultAt : Int32} {m_tape : Nat → Int32} {m_newBed : Nat → Int32} {m_newLetter : Nat → Int32} {m_newReader : Nat → Int32} {m_bed : Nat → Int32} {m_letter : Nat → Int32} {m_reader : Nat → Int32} {m_newBeds : Int32} {m_newLetters : Int32} {m_newReaders : Int32} {m_beds : Int32} {m_letters : Int32} {m_readers : Int32} {m_newCode : Nat → Int32} {m_newOf : Nat → Int32} {m_code : Nat → Int32} {m_ofCode : Nat → Int32} {m_stack : Nat → Int32} {m_newCodes : Int32} {m_codes : Int32} {m_facts : Nat → Int32} {m_newStep : Nat → Int32} {m_step : Nat → Int32} {m_newSteps : Int32} {m_works : Int32} {m_refusedSteps : Int32} {m_begun : Int32} {m_done : Int32} {m_refusedNow : Int32} {m_now : Nat → Int32} {m_s : Nat → Int32} {m_past : Nat → Int32} {m_newBook : Nat → Int32} {m_book : Nat → Int32} {m_written : Int32} {m_mostBy : Nat → Int32} {m_stuffing : Nat → Int32} {m_stuffedMany : Int32} {m_lastBy : Nat → Int32} {m_leftBy : Nat → Int32} {m_splitBy : Nat → Int64} {m_seedNow : Int32} {m_image : Nat → Int32} {m_images : Int32} {n1 : Int32} {n2 : Int32} {o_m_works : Int32} {o_m_now : Nat → Int32} {o_m_past : Nat → Int32} {o_m_image : Nat → Int32} (h : f_X10_keepsAll m_works m_now m_past m_image n1 n2 = some (o_m_works, o_m_now, o_m_past, o_m_image)) : Mt J yX10_keepsAll cX10_keepsAll 4 none rm_X10_keepsAll [.ref (a0 0), .int n1, .int n2] (cs_X10 J.2.2.1 a0 m_thrown m_refused m_taped m_size m_at m_bad m_badKind m_opens m_faultAt m_tape m_newBed m_newLetter m_newReader m_bed m_letter m_reader m_newBeds m_newLetters m_newReaders m_beds m_letters m_readers m_newCode m_newOf m_code m_ofCode m_stack m_newCodes m_codes m_facts m_newStep m_step m_newSteps m_works m_refusedSteps m_begun m_done m_refusedNow m_now m_s m_past m_newBook m_book m_written m_mostBy m_stuffing m_stuffedMany m_lastBy m_leftBy m_splitBy m_seedNow m_image m_images) none (cs_X10 J.2.2.1 a0 m_thrown m_refused m_taped m_size m_at m_bad m_badKind m_opens m_faultAt m_tape m_newBed m_newLetter m_newReader m_bed m_letter m_reader m_newBeds m_newLetters m_newReaders m_beds m_letters m_readers m_newCode m_newOf m_code m_ofCode m_stack m_newCodes m_codes m_facts m_newStep m_step m_newSteps o_m_works m_refusedSteps m_begun m_done m_refusedNow o_m_now m_s o_m_past m_newBook m_book m_written m_mostBy m_stuffing m_stuffedMany m_lastBy m_leftBy m_splitBy m_seedNow o_m_image m_images) := by
  refine Mt_of (own := RX10) (by decide) rfl (Nat.le_of_ble_eq_true rfl) rfl (fun Z C E => ?_)
  unfold f_X10_keepsAll at h
  show G J Z 0 0 (cs_X10 J.2.2.1 a0 m_thrown m_refused m_taped m_size m_at m_bad m_badKind m_opens m_faultAt m_tape m_newBed m_newLetter m_newReader m_bed m_letter m_reader m_newBeds m_newLetters m_newReaders m_beds m_letters m_readers m_newCode m_newOf m_code m_ofCode m_stack m_newCodes m_codes m_facts m_newStep m_step m_newSteps m_works m_refusedSteps m_begun m_done m_refusedNow m_now m_s m_past m_newBook m_book m_written m_mostBy m_stuffing m_stuffedMany m_lastBy m_leftBy m_splitBy m_seedNow m_image m_images) 4 [(0, .ref (a0 0)), (1, .int n1), (2, .int n2)] 0 []
  refine g_aload_n (pc := 0) C 0 rfl dX10_keepsAll_0 ?_
  refine g_sipush (pc := 1) C dX10_keepsAll_1 cs_2806 ?_
  refine g_iload_n (pc := 4) C 1 rfl dX10_keepsAll_4 ?_
  refine g_imul (pc := 5) C dX10_keepsAll_5 ?_
  refine g_aload_n (pc := 6) C 0 rfl dX10_keepsAll_6 ?_
  refine g_get (pc := 7) C FOK_X10 0 rfl rfl 38 (by decide) kw_1315 rfl dX10_keepsAll_7 ?_
  refine g_sipush (pc := 10) C dX10_keepsAll_10 cs_165 ?_
  refine g_iload_n (pc := 13) C 2 rfl dX10_keepsAll_13 ?_
  obtain ⟨v1, c2, c3, hc, h⟩ := b3_of h
  refine g_callV (pc := 14) C (w' := cs_X10 J.2.2.1 a0 m_thrown m_refused m_taped m_size m_at m_bad m_badKind m_opens m_faultAt m_tape m_newBed m_newLetter m_newReader m_bed m_letter m_reader m_newBeds m_newLetters m_newReaders m_beds m_letters m_readers m_newCode m_newOf m_code m_ofCode m_stack m_newCodes m_codes m_facts m_newStep m_step m_newSteps m_works m_refusedSteps m_begun m_done m_refusedNow c3 m_s m_past m_newBook m_book m_written m_mostBy m_stuffing m_stuffedMany m_lastBy m_leftBy m_splitBy m_seedNow c2 m_images) (As := [.int (2806 * n1), .ref (a0 17), .int 165, .int n2]) (st := []) (ci := 10) (q0 := 0) rfl rfl (t_X10_keepsRow (a0 := a0) (a1 := (fun _ => a0 17)) hc) (Sub.gen [0, 27, 17] [1, 2, 3, 4, 5, 6, 7, 8, 9, 10, 11, 12, 13, 14, 15, 16, 18, 19, 20, 21, 22, 23, 24, 25, 26] [25, 0, 1, 2, 3, 4, 5, 6, 7, 8, 9, 10, 11, 12, 13, 14, 15, 27, 16, 17, 18, 19, 20, 21, 22, 23, 24, 26] rfl (by decide) rfl (by decide) (by decide) rfl (by decide)) kw_1903 kw_1905 kw_84 kw_95 hy_X10_keepsRow kw_1906 rfl (Nat.le_of_ble_eq_true rfl) (Nat.le_of_ble_eq_true rfl) (Nat.le_of_ble_eq_true rfl) (Nat.le_of_ble_eq_true rfl) (Nat.le_of_ble_eq_true rfl) dX10_keepsAll_14 ?_
  refine g_istore_n (pc := 17) C [(3, .int v1), (0, .ref (a0 0)), (1, .int n1), (2, .int n2)] dX10_keepsAll_17 rfl (by decide) rfl ?_
  refine g_aload_n (pc := 18) C 1 rfl dX10_keepsAll_18 ?_
  refine g_iload_n (pc := 19) C 0 rfl dX10_keepsAll_19 ?_
  refine g_aload_n (pc := 20) C 1 rfl dX10_keepsAll_20 ?_
  refine g_get (pc := 21) C FOK_X10 0 rfl rfl 40 (by decide) kw_1317 rfl dX10_keepsAll_21 ?_
  refine g_sipush (pc := 24) C dX10_keepsAll_24 cs_2640 ?_
  refine g_iload_n (pc := 27) C 3 rfl dX10_keepsAll_27 ?_
  obtain ⟨v4, c5, c6, hc, h⟩ := b3_of h
  refine g_callV (pc := 28) C (w' := cs_X10 J.2.2.1 a0 m_thrown m_refused m_taped m_size m_at m_bad m_badKind m_opens m_faultAt m_tape m_newBed m_newLetter m_newReader m_bed m_letter m_reader m_newBeds m_newLetters m_newReaders m_beds m_letters m_readers m_newCode m_newOf m_code m_ofCode m_stack m_newCodes m_codes m_facts m_newStep m_step m_newSteps m_works m_refusedSteps m_begun m_done m_refusedNow c3 m_s c6 m_newBook m_book m_written m_mostBy m_stuffing m_stuffedMany m_lastBy m_leftBy m_splitBy m_seedNow c5 m_images) (As := [.int v1, .ref (a0 19), .int 2640, .int n2]) (st := []) (ci := 10) (q0 := 0) rfl rfl (t_X10_keepsRow (a0 := a0) (a1 := (fun _ => a0 19)) hc) (Sub.gen [0, 27, 19] [1, 2, 3, 4, 5, 6, 7, 8, 9, 10, 11, 12, 13, 14, 15, 16, 17, 18, 20, 21, 22, 23, 24, 25, 26] [25, 0, 1, 2, 3, 4, 5, 6, 7, 8, 9, 10, 11, 12, 13, 14, 15, 16, 17, 27, 18, 19, 20, 21, 22, 23, 24, 26] rfl (by decide) rfl (by decide) (by decide) rfl (by decide)) kw_1903 kw_1905 kw_84 kw_95 hy_X10_keepsRow kw_1906 rfl (Nat.le_of_ble_eq_true rfl) (Nat.le_of_ble_eq_true rfl) (Nat.le_of_ble_eq_true rfl) (Nat.le_of_ble_eq_true rfl) (Nat.le_of_ble_eq_true rfl) dX10_keepsAll_28 ?_
  refine g_istore_n (pc := 31) C [(3, .int v4), (0, .ref (a0 0)), (1, .int n1), (2, .int n2)] dX10_keepsAll_31 rfl (by decide) rfl ?_
  refine g_iload_n (pc := 32) C 3 rfl dX10_keepsAll_32 ?_
  refine g_if_eq (pc := 33) C (tgt := 49) dX10_keepsAll_33 rfl h (fun h => ?_) (fun h => ?_)
  · refine g_aload_n (pc := 49) C 1 rfl dX10_keepsAll_49 ?_
    refine g_aload_n (pc := 50) C 1 rfl dX10_keepsAll_50 ?_
    refine g_get (pc := 51) C FOK_X10 0 rfl rfl 51 (by decide) kw_1328 rfl dX10_keepsAll_51 ?_
    refine g_iload_n (pc := 54) C 0 rfl dX10_keepsAll_54 ?_
    obtain ⟨hi, h⟩ := ix_of h
    refine g_iald (pc := 55) C 27 rfl hi dX10_keepsAll_55 ?_
    refine g_put (pc := 56) C (w' := cs_X10 J.2.2.1 a0 m_thrown m_refused m_taped m_size m_at m_bad m_badKind m_opens m_faultAt m_tape m_newBed m_newLetter m_newReader m_bed m_letter m_reader m_newBeds m_newLetters m_newReaders m_beds m_letters m_readers m_newCode m_newOf m_code m_ofCode m_stack m_newCodes m_codes m_facts m_newStep m_step m_newSteps (c5 v4.toNatClampNeg) m_refusedSteps m_begun m_done m_refusedNow c3 m_s c6 m_newBook m_book m_written m_mostBy m_stuffing m_stuffedMany m_lastBy m_leftBy m_splitBy m_seedNow c5 m_images) FOK_X10 0 rfl rfl 33 (by decide) kw_1310 rfl rfl rfl (Nat.le_of_ble_eq_true rfl) dX10_keepsAll_56 rfl ?_
    cases h
    exact g_vret C E dX10_keepsAll_59
  · refine g_aload_n (pc := 36) C 1 rfl dX10_keepsAll_36 ?_
    refine g_get (pc := 37) C FOK_X10 0 rfl rfl 51 (by decide) kw_1328 rfl dX10_keepsAll_37 ?_
    refine g_iload_n (pc := 40) C 0 rfl dX10_keepsAll_40 ?_
    refine g_aload_n (pc := 41) C 1 rfl dX10_keepsAll_41 ?_
    refine g_get (pc := 42) C FOK_X10 0 rfl rfl 33 (by decide) kw_1310 rfl dX10_keepsAll_42 ?_
    obtain ⟨hi, h⟩ := ix_of h
    refine g_iast (pc := 45) C (w' := cs_X10 J.2.2.1 a0 m_thrown m_refused m_taped m_size m_at m_bad m_badKind m_opens m_faultAt m_tape m_newBed m_newLetter m_newReader m_bed m_letter m_reader m_newBeds m_newLetters m_newReaders m_beds m_letters m_readers m_newCode m_newOf m_code m_ofCode m_stack m_newCodes m_codes m_facts m_newStep m_step m_newSteps m_works m_refusedSteps m_begun m_done m_refusedNow c3 m_s c6 m_newBook m_book m_written m_mostBy m_stuffing m_stuffedMany m_lastBy m_leftBy m_splitBy m_seedNow (upd c5 v4.toNatClampNeg m_works) m_images) 27 rfl hi dX10_keepsAll_45 rfl ?_
    refine g_goto (pc := 46) C (tgt := 59) dX10_keepsAll_46 rfl ?_
    cases h
    exact g_vret C E dX10_keepsAll_59
noncomputable def f_X10_image (m_thrown : Int32) (m_works : Int32) (m_now : Nat → Int32) (m_past : Nat → Int32) (m_image : Nat → Int32) (m_images : Int32) : Option (Int32 × Int32 × Int32 × (Nat → Int32) × (Nat → Int32) × (Nat → Int32) × Int32) := if m_images = 3 then some ((-1), 0, m_works, m_now, m_past, m_image, m_images) else b4 (f_X10_keepsAll m_works m_now m_past m_image m_images 1) (fun c1 c2 c3 c4 => some (m_images + 1, 0, c1, c2, c3, c4, m_images + 1))
def rm_X10_image : Room := { frames := 2, cells := 0, slots := 0, locals := 48 }
set_option maxRecDepth 100000 in
set_option maxHeartbeats 4000000 in
theorem t_X10_image {J : Jt} {a0 : Nat → Nat} {m_thrown : Int32} {m_refused : Nat → Int32} {m_taped : Int32} {m_size : Int32} {m_at : Int32} {m_bad : Int32} {m_badKind : Int32} {m_opens : Int32} {m_faultAt : Int32} {m_tape : Nat → Int32} {m_newBed : Nat → Int32} {m_newLetter : Nat → Int32} {m_newReader : Nat → Int32} {m_bed : Nat → Int32} {m_letter : Nat → Int32} {m_reader : Nat → Int32} {m_newBeds : Int32} {m_newLetters : Int32} {m_newReaders : Int32} {m_beds : Int32} {m_letters : Int32} {m_readers : Int32} {m_newCode : Nat → Int32} {m_newOf : Nat → Int32} {m_code : Nat → Int32} {m_ofCode : Nat → Int32} {m_stack : Nat → Int32} {m_newCodes : Int32} {m_codes : Int32} {m_facts : Nat → Int32} {m_newStep : Nat → Int32} {m_step : Nat → Int32} {m_newSteps : Int32} {m_works : Int32} {m_refusedSteps : Int32} {m_begun : Int32} {m_done : Int32} {m_refusedNow : Int32} {m_now : Nat → Int32} {m_s : Nat → Int32} {m_past : Nat → Int32} {m_newBook : Nat → Int32} {m_book : Nat → Int32} {m_written : Int32} {m_mostBy : Nat → Int32} {m_stuffing : Nat → Int32} {m_stuffedMany : Int32} {m_lastBy : Nat → Int32} {m_leftBy : Nat → Int32} {m_splitBy : Nat → Int64} {m_seedNow : Int32} {m_image : Nat → Int32} {m_images : Int32} {r : Int32} {o_m_thrown : Int32} {o_m_works : Int32} {o_m_now : Nat → Int32} {o_m_past : Nat → Int32} {o_m_image : Nat → Int32} {o_m_images : Int32} (h : f_X10_image m_thrown m_works m_now m_past m_image m_images = some (r, o_m_thrown, o_m_works, o_m_now, o_m_past, o_m_image, o_m_images)) : Mt J yX10_image cX10_image 1 (some .int) rm_X10_image [.ref (a0 0)] (cs_X10 J.2.2.1 a0 m_thrown m_refused m_taped m_size m_at m_bad m_badKind m_opens m_faultAt m_tape m_newBed m_newLetter m_newReader m_bed m_letter m_reader m_newBeds m_newLetters m_newReaders m_beds m_letters m_readers m_newCode m_newOf m_code m_ofCode m_stack m_newCodes m_codes m_facts m_newStep m_step m_newSteps m_works m_refusedSteps m_begun m_done m_refusedNow m_now m_s m_past m_newBook m_book m_written m_mostBy m_stuffing m_stuffedMany m_lastBy m_leftBy m_splitBy m_seedNow m_image m_images) (some (.int r)) (cs_X10 J.2.2.1 a0 o_m_thrown m_refused m_taped m_size m_at m_bad m_badKind m_opens m_faultAt m_tape m_newBed m_newLetter m_newReader m_bed m_letter m_reader m_newBeds m_newLetters m_newReaders m_beds m_letters m_readers m_newCode m_newOf m_code m_ofCode m_stack m_newCodes m_codes m_facts m_newStep m_step m_newSteps o_m_works m_refusedSteps m_begun m_done m_refusedNow o_m_now m_s o_m_past m_newBook m_book m_written m_mostBy m_stuffing m_stuffedMany m_lastBy m_leftBy m_splitBy m_seedNow o_m_image o_m_images) := by
  refine Mt_of (own := RX10) (by decide) rfl (Nat.le_of_ble_eq_true rfl) rfl (fun Z C E => ?_)
  unfold f_X10_image at h
  show G J Z 0 0 (cs_X10 J.2.2.1 a0 m_thrown m_refused m_taped m_size m_at m_bad m_badKind m_opens m_faultAt m_tape m_newBed m_newLetter m_newReader m_bed m_letter m_reader m_newBeds m_newLetters m_newReaders m_beds m_letters m_readers m_newCode m_newOf m_code m_ofCode m_stack m_newCodes m_codes m_facts m_newStep m_step m_newSteps m_works m_refusedSteps m_begun m_done m_refusedNow m_now m_s m_past m_newBook m_book m_written m_mostBy m_stuffing m_stuffedMany m_lastBy m_leftBy m_splitBy m_seedNow m_image m_images) 1 [(0, .ref (a0 0))] 0 []
  refine g_aload_n (pc := 0) C 0 rfl dX10_image_0 ?_
  refine g_iconst (pc := 1) C dX10_image_1 ci_0 ?_
  refine g_put (pc := 2) C (w' := cs_X10 J.2.2.1 a0 0 m_refused m_taped m_size m_at m_bad m_badKind m_opens m_faultAt m_tape m_newBed m_newLetter m_newReader m_bed m_letter m_reader m_newBeds m_newLetters m_newReaders m_beds m_letters m_readers m_newCode m_newOf m_code m_ofCode m_stack m_newCodes m_codes m_facts m_newStep m_step m_newSteps m_works m_refusedSteps m_begun m_done m_refusedNow m_now m_s m_past m_newBook m_book m_written m_mostBy m_stuffing m_stuffedMany m_lastBy m_leftBy m_splitBy m_seedNow m_image m_images) FOK_X10 0 rfl rfl 0 (by decide) kw_1277 rfl rfl rfl (Nat.le_of_ble_eq_true rfl) dX10_image_2 rfl ?_
  refine g_aload_n (pc := 5) C 0 rfl dX10_image_5 ?_
  refine g_get (pc := 6) C FOK_X10 0 rfl rfl 52 (by decide) kw_1329 rfl dX10_image_6 ?_
  refine g_iconst (pc := 9) C dX10_image_9 ci_3 ?_
  refine g_icmp_ne (pc := 10) C (tgt := 15) dX10_image_10 rfl h (fun h => ?_) (fun h => ?_)
  · refine g_aload_n (pc := 15) C 0 rfl dX10_image_15 ?_
    refine g_aload_n (pc := 16) C 0 rfl dX10_image_16 ?_
    refine g_get (pc := 17) C FOK_X10 0 rfl rfl 52 (by decide) kw_1329 rfl dX10_image_17 ?_
    refine g_iconst (pc := 20) C dX10_image_20 ci_1 ?_
    obtain ⟨c1, c2, c3, c4, hc, h⟩ := b4_of h
    refine g_callV (pc := 21) C (w' := cs_X10 J.2.2.1 a0 0 m_refused m_taped m_size m_at m_bad m_badKind m_opens m_faultAt m_tape m_newBed m_newLetter m_newReader m_bed m_letter m_reader m_newBeds m_newLetters m_newReaders m_beds m_letters m_readers m_newCode m_newOf m_code m_ofCode m_stack m_newCodes m_codes m_facts m_newStep m_step m_newSteps c1 m_refusedSteps m_begun m_done m_refusedNow c2 m_s c3 m_newBook m_book m_written m_mostBy m_stuffing m_stuffedMany m_lastBy m_leftBy m_splitBy m_seedNow c4 m_images) (As := [.int m_images, .int 1]) (st := []) (ci := 10) (q0 := 0) rfl rfl (t_X10_keepsAll (a0 := a0) hc) Sub.same kw_1899 kw_1901 kw_83 kw_95 hy_X10_keepsAll kw_1902 rfl (Nat.le_of_ble_eq_true rfl) (Nat.le_of_ble_eq_true rfl) (Nat.le_of_ble_eq_true rfl) (Nat.le_of_ble_eq_true rfl) (Nat.le_of_ble_eq_true rfl) dX10_image_21 ?_
    refine g_aload_n (pc := 24) C 0 rfl dX10_image_24 ?_
    refine g_dup (pc := 25) C dX10_image_25 rfl ?_
    refine g_get (pc := 26) C FOK_X10 0 rfl rfl 52 (by decide) kw_1329 rfl dX10_image_26 ?_
    refine g_iconst (pc := 29) C dX10_image_29 ci_1 ?_
    refine g_iadd (pc := 30) C dX10_image_30 ?_
    refine g_put (pc := 31) C (w' := cs_X10 J.2.2.1 a0 0 m_refused m_taped m_size m_at m_bad m_badKind m_opens m_faultAt m_tape m_newBed m_newLetter m_newReader m_bed m_letter m_reader m_newBeds m_newLetters m_newReaders m_beds m_letters m_readers m_newCode m_newOf m_code m_ofCode m_stack m_newCodes m_codes m_facts m_newStep m_step m_newSteps c1 m_refusedSteps m_begun m_done m_refusedNow c2 m_s c3 m_newBook m_book m_written m_mostBy m_stuffing m_stuffedMany m_lastBy m_leftBy m_splitBy m_seedNow c4 (m_images + 1)) FOK_X10 0 rfl rfl 52 (by decide) kw_1329 rfl rfl rfl (Nat.le_of_ble_eq_true rfl) dX10_image_31 rfl ?_
    refine g_aload_n (pc := 34) C 0 rfl dX10_image_34 ?_
    refine g_get (pc := 35) C FOK_X10 0 rfl rfl 52 (by decide) kw_1329 rfl dX10_image_35 ?_
    cases h
    exact g_iret C E dX10_image_38
  · refine g_iconst (pc := 13) C dX10_image_13 ci_m1 ?_
    cases h
    exact g_iret C E dX10_image_14
noncomputable def f_X10_restore (m_thrown : Int32) (m_works : Int32) (m_refusedSteps : Int32) (m_now : Nat → Int32) (m_past : Nat → Int32) (m_image : Nat → Int32) (m_images : Int32) : Option (Int32 × Int32 × Int32 × Int32 × (Nat → Int32) × (Nat → Int32) × (Nat → Int32) × Int32) := if m_images = 0 then some ((-1), 0, m_works, m_refusedSteps, m_now, m_past, m_image, m_images) else b4 (f_X10_keepsAll m_works m_now m_past m_image (m_images - 1) 0) (fun c1 c2 c3 c4 => some (m_images - 1, 0, c1, 0, c2, c3, c4, m_images - 1))
def rm_X10_restore : Room := { frames := 2, cells := 0, slots := 0, locals := 48 }
set_option maxRecDepth 100000 in
set_option maxHeartbeats 4000000 in
theorem t_X10_restore {J : Jt} {a0 : Nat → Nat} {m_thrown : Int32} {m_refused : Nat → Int32} {m_taped : Int32} {m_size : Int32} {m_at : Int32} {m_bad : Int32} {m_badKind : Int32} {m_opens : Int32} {m_faultAt : Int32} {m_tape : Nat → Int32} {m_newBed : Nat → Int32} {m_newLetter : Nat → Int32} {m_newReader : Nat → Int32} {m_bed : Nat → Int32} {m_letter : Nat → Int32} {m_reader : Nat → Int32} {m_newBeds : Int32} {m_newLetters : Int32} {m_newReaders : Int32} {m_beds : Int32} {m_letters : Int32} {m_readers : Int32} {m_newCode : Nat → Int32} {m_newOf : Nat → Int32} {m_code : Nat → Int32} {m_ofCode : Nat → Int32} {m_stack : Nat → Int32} {m_newCodes : Int32} {m_codes : Int32} {m_facts : Nat → Int32} {m_newStep : Nat → Int32} {m_step : Nat → Int32} {m_newSteps : Int32} {m_works : Int32} {m_refusedSteps : Int32} {m_begun : Int32} {m_done : Int32} {m_refusedNow : Int32} {m_now : Nat → Int32} {m_s : Nat → Int32} {m_past : Nat → Int32} {m_newBook : Nat → Int32} {m_book : Nat → Int32} {m_written : Int32} {m_mostBy : Nat → Int32} {m_stuffing : Nat → Int32} {m_stuffedMany : Int32} {m_lastBy : Nat → Int32} {m_leftBy : Nat → Int32} {m_splitBy : Nat → Int64} {m_seedNow : Int32} {m_image : Nat → Int32} {m_images : Int32} {r : Int32} {o_m_thrown : Int32} {o_m_works : Int32} {o_m_refusedSteps : Int32} {o_m_now : Nat → Int32} {o_m_past : Nat → Int32} {o_m_image : Nat → Int32} {o_m_images : Int32} (h : f_X10_restore m_thrown m_works m_refusedSteps m_now m_past m_image m_images = some (r, o_m_thrown, o_m_works, o_m_refusedSteps, o_m_now, o_m_past, o_m_image, o_m_images)) : Mt J yX10_restore cX10_restore 1 (some .int) rm_X10_restore [.ref (a0 0)] (cs_X10 J.2.2.1 a0 m_thrown m_refused m_taped m_size m_at m_bad m_badKind m_opens m_faultAt m_tape m_newBed m_newLetter m_newReader m_bed m_letter m_reader m_newBeds m_newLetters m_newReaders m_beds m_letters m_readers m_newCode m_newOf m_code m_ofCode m_stack m_newCodes m_codes m_facts m_newStep m_step m_newSteps m_works m_refusedSteps m_begun m_done m_refusedNow m_now m_s m_past m_newBook m_book m_written m_mostBy m_stuffing m_stuffedMany m_lastBy m_leftBy m_splitBy m_seedNow m_image m_images) (some (.int r)) (cs_X10 J.2.2.1 a0 o_m_thrown m_refused m_taped m_size m_at m_bad m_badKind m_opens m_faultAt m_tape m_newBed m_newLetter m_newReader m_bed m_letter m_reader m_newBeds m_newLetters m_newReaders m_beds m_letters m_readers m_newCode m_newOf m_code m_ofCode m_stack m_newCodes m_codes m_facts m_newStep m_step m_newSteps o_m_works o_m_refusedSteps m_begun m_done m_refusedNow o_m_now m_s o_m_past m_newBook m_book m_written m_mostBy m_stuffing m_stuffedMany m_lastBy m_leftBy m_splitBy m_seedNow o_m_image o_m_images) := by
  refine Mt_of (own := RX10) (by decide) rfl (Nat.le_of_ble_eq_true rfl) rfl (fun Z C E => ?_)
  unfold f_X10_restore at h
  show G J Z 0 0 (cs_X10 J.2.2.1 a0 m_thrown m_refused m_taped m_size m_at m_bad m_badKind m_opens m_faultAt m_tape m_newBed m_newLetter m_newReader m_bed m_letter m_reader m_newBeds m_newLetters m_newReaders m_beds m_letters m_readers m_newCode m_newOf m_code m_ofCode m_stack m_newCodes m_codes m_facts m_newStep m_step m_newSteps m_works m_refusedSteps m_begun m_done m_refusedNow m_now m_s m_past m_newBook m_book m_written m_mostBy m_stuffing m_stuffedMany m_lastBy m_leftBy m_splitBy m_seedNow m_image m_images) 1 [(0, .ref (a0 0))] 0 []
  refine g_aload_n (pc := 0) C 0 rfl dX10_restore_0 ?_
  refine g_iconst (pc := 1) C dX10_restore_1 ci_0 ?_
  refine g_put (pc := 2) C (w' := cs_X10 J.2.2.1 a0 0 m_refused m_taped m_size m_at m_bad m_badKind m_opens m_faultAt m_tape m_newBed m_newLetter m_newReader m_bed m_letter m_reader m_newBeds m_newLetters m_newReaders m_beds m_letters m_readers m_newCode m_newOf m_code m_ofCode m_stack m_newCodes m_codes m_facts m_newStep m_step m_newSteps m_works m_refusedSteps m_begun m_done m_refusedNow m_now m_s m_past m_newBook m_book m_written m_mostBy m_stuffing m_stuffedMany m_lastBy m_leftBy m_splitBy m_seedNow m_image m_images) FOK_X10 0 rfl rfl 0 (by decide) kw_1277 rfl rfl rfl (Nat.le_of_ble_eq_true rfl) dX10_restore_2 rfl ?_
  refine g_aload_n (pc := 5) C 0 rfl dX10_restore_5 ?_
  refine g_get (pc := 6) C FOK_X10 0 rfl rfl 52 (by decide) kw_1329 rfl dX10_restore_6 ?_
  refine g_if_ne (pc := 9) C (tgt := 14) dX10_restore_9 rfl h (fun h => ?_) (fun h => ?_)
  · refine g_aload_n (pc := 14) C 0 rfl dX10_restore_14 ?_
    refine g_dup (pc := 15) C dX10_restore_15 rfl ?_
    refine g_get (pc := 16) C FOK_X10 0 rfl rfl 52 (by decide) kw_1329 rfl dX10_restore_16 ?_
    refine g_iconst (pc := 19) C dX10_restore_19 ci_1 ?_
    refine g_isub (pc := 20) C dX10_restore_20 ?_
    refine g_put (pc := 21) C (w' := cs_X10 J.2.2.1 a0 0 m_refused m_taped m_size m_at m_bad m_badKind m_opens m_faultAt m_tape m_newBed m_newLetter m_newReader m_bed m_letter m_reader m_newBeds m_newLetters m_newReaders m_beds m_letters m_readers m_newCode m_newOf m_code m_ofCode m_stack m_newCodes m_codes m_facts m_newStep m_step m_newSteps m_works m_refusedSteps m_begun m_done m_refusedNow m_now m_s m_past m_newBook m_book m_written m_mostBy m_stuffing m_stuffedMany m_lastBy m_leftBy m_splitBy m_seedNow m_image (m_images - 1)) FOK_X10 0 rfl rfl 52 (by decide) kw_1329 rfl rfl rfl (Nat.le_of_ble_eq_true rfl) dX10_restore_21 rfl ?_
    refine g_aload_n (pc := 24) C 0 rfl dX10_restore_24 ?_
    refine g_aload_n (pc := 25) C 0 rfl dX10_restore_25 ?_
    refine g_get (pc := 26) C FOK_X10 0 rfl rfl 52 (by decide) kw_1329 rfl dX10_restore_26 ?_
    refine g_iconst (pc := 29) C dX10_restore_29 ci_0 ?_
    obtain ⟨c1, c2, c3, c4, hc, h⟩ := b4_of h
    refine g_callV (pc := 30) C (w' := cs_X10 J.2.2.1 a0 0 m_refused m_taped m_size m_at m_bad m_badKind m_opens m_faultAt m_tape m_newBed m_newLetter m_newReader m_bed m_letter m_reader m_newBeds m_newLetters m_newReaders m_beds m_letters m_readers m_newCode m_newOf m_code m_ofCode m_stack m_newCodes m_codes m_facts m_newStep m_step m_newSteps c1 m_refusedSteps m_begun m_done m_refusedNow c2 m_s c3 m_newBook m_book m_written m_mostBy m_stuffing m_stuffedMany m_lastBy m_leftBy m_splitBy m_seedNow c4 (m_images - 1)) (As := [.int (m_images - 1), .int 0]) (st := []) (ci := 10) (q0 := 0) rfl rfl (t_X10_keepsAll (a0 := a0) hc) Sub.same kw_1899 kw_1901 kw_83 kw_95 hy_X10_keepsAll kw_1902 rfl (Nat.le_of_ble_eq_true rfl) (Nat.le_of_ble_eq_true rfl) (Nat.le_of_ble_eq_true rfl) (Nat.le_of_ble_eq_true rfl) (Nat.le_of_ble_eq_true rfl) dX10_restore_30 ?_
    refine g_aload_n (pc := 33) C 0 rfl dX10_restore_33 ?_
    refine g_iconst (pc := 34) C dX10_restore_34 ci_0 ?_
    refine g_put (pc := 35) C (w' := cs_X10 J.2.2.1 a0 0 m_refused m_taped m_size m_at m_bad m_badKind m_opens m_faultAt m_tape m_newBed m_newLetter m_newReader m_bed m_letter m_reader m_newBeds m_newLetters m_newReaders m_beds m_letters m_readers m_newCode m_newOf m_code m_ofCode m_stack m_newCodes m_codes m_facts m_newStep m_step m_newSteps c1 0 m_begun m_done m_refusedNow c2 m_s c3 m_newBook m_book m_written m_mostBy m_stuffing m_stuffedMany m_lastBy m_leftBy m_splitBy m_seedNow c4 (m_images - 1)) FOK_X10 0 rfl rfl 34 (by decide) kw_1311 rfl rfl rfl (Nat.le_of_ble_eq_true rfl) dX10_restore_35 rfl ?_
    refine g_aload_n (pc := 38) C 0 rfl dX10_restore_38 ?_
    refine g_get (pc := 39) C FOK_X10 0 rfl rfl 52 (by decide) kw_1329 rfl dX10_restore_39 ?_
    cases h
    exact g_iret C E dX10_restore_42
  · refine g_iconst (pc := 12) C dX10_restore_12 ci_m1 ?_
    cases h
    exact g_iret C E dX10_restore_13
noncomputable def f_X10_status (m_thrown : Int32) (m_refused : Nat → Int32) (n1 : Int32) : Option (Int32 × Int32) := b1 (f_X10_within n1 0 1) (fun v1 => if v1 = 0 then some ((-1), 0) else if ixb n1 2 then some (m_refused n1.toNatClampNeg, 0) else none)
def rm_X10_status : Room := { frames := 1, cells := 0, slots := 0, locals := 22 }
set_option maxRecDepth 100000 in
set_option maxHeartbeats 4000000 in
theorem t_X10_status {J : Jt} {a0 : Nat → Nat} {m_thrown : Int32} {m_refused : Nat → Int32} {m_taped : Int32} {m_size : Int32} {m_at : Int32} {m_bad : Int32} {m_badKind : Int32} {m_opens : Int32} {m_faultAt : Int32} {m_tape : Nat → Int32} {m_newBed : Nat → Int32} {m_newLetter : Nat → Int32} {m_newReader : Nat → Int32} {m_bed : Nat → Int32} {m_letter : Nat → Int32} {m_reader : Nat → Int32} {m_newBeds : Int32} {m_newLetters : Int32} {m_newReaders : Int32} {m_beds : Int32} {m_letters : Int32} {m_readers : Int32} {m_newCode : Nat → Int32} {m_newOf : Nat → Int32} {m_code : Nat → Int32} {m_ofCode : Nat → Int32} {m_stack : Nat → Int32} {m_newCodes : Int32} {m_codes : Int32} {m_facts : Nat → Int32} {m_newStep : Nat → Int32} {m_step : Nat → Int32} {m_newSteps : Int32} {m_works : Int32} {m_refusedSteps : Int32} {m_begun : Int32} {m_done : Int32} {m_refusedNow : Int32} {m_now : Nat → Int32} {m_s : Nat → Int32} {m_past : Nat → Int32} {m_newBook : Nat → Int32} {m_book : Nat → Int32} {m_written : Int32} {m_mostBy : Nat → Int32} {m_stuffing : Nat → Int32} {m_stuffedMany : Int32} {m_lastBy : Nat → Int32} {m_leftBy : Nat → Int32} {m_splitBy : Nat → Int64} {m_seedNow : Int32} {m_image : Nat → Int32} {m_images : Int32} {n1 : Int32} {r : Int32} {o_m_thrown : Int32} (h : f_X10_status m_thrown m_refused n1 = some (r, o_m_thrown)) : Mt J yX10_status cX10_status 2 (some .int) rm_X10_status [.ref (a0 0), .int n1] (cs_X10 J.2.2.1 a0 m_thrown m_refused m_taped m_size m_at m_bad m_badKind m_opens m_faultAt m_tape m_newBed m_newLetter m_newReader m_bed m_letter m_reader m_newBeds m_newLetters m_newReaders m_beds m_letters m_readers m_newCode m_newOf m_code m_ofCode m_stack m_newCodes m_codes m_facts m_newStep m_step m_newSteps m_works m_refusedSteps m_begun m_done m_refusedNow m_now m_s m_past m_newBook m_book m_written m_mostBy m_stuffing m_stuffedMany m_lastBy m_leftBy m_splitBy m_seedNow m_image m_images) (some (.int r)) (cs_X10 J.2.2.1 a0 o_m_thrown m_refused m_taped m_size m_at m_bad m_badKind m_opens m_faultAt m_tape m_newBed m_newLetter m_newReader m_bed m_letter m_reader m_newBeds m_newLetters m_newReaders m_beds m_letters m_readers m_newCode m_newOf m_code m_ofCode m_stack m_newCodes m_codes m_facts m_newStep m_step m_newSteps m_works m_refusedSteps m_begun m_done m_refusedNow m_now m_s m_past m_newBook m_book m_written m_mostBy m_stuffing m_stuffedMany m_lastBy m_leftBy m_splitBy m_seedNow m_image m_images) := by
  refine Mt_of (own := RX10) (by decide) rfl (Nat.le_of_ble_eq_true rfl) rfl (fun Z C E => ?_)
  unfold f_X10_status at h
  show G J Z 0 0 (cs_X10 J.2.2.1 a0 m_thrown m_refused m_taped m_size m_at m_bad m_badKind m_opens m_faultAt m_tape m_newBed m_newLetter m_newReader m_bed m_letter m_reader m_newBeds m_newLetters m_newReaders m_beds m_letters m_readers m_newCode m_newOf m_code m_ofCode m_stack m_newCodes m_codes m_facts m_newStep m_step m_newSteps m_works m_refusedSteps m_begun m_done m_refusedNow m_now m_s m_past m_newBook m_book m_written m_mostBy m_stuffing m_stuffedMany m_lastBy m_leftBy m_splitBy m_seedNow m_image m_images) 2 [(0, .ref (a0 0)), (1, .int n1)] 0 []
  refine g_aload_n (pc := 0) C 0 rfl dX10_status_0 ?_
  refine g_iconst (pc := 1) C dX10_status_1 ci_0 ?_
  refine g_put (pc := 2) C (w' := cs_X10 J.2.2.1 a0 0 m_refused m_taped m_size m_at m_bad m_badKind m_opens m_faultAt m_tape m_newBed m_newLetter m_newReader m_bed m_letter m_reader m_newBeds m_newLetters m_newReaders m_beds m_letters m_readers m_newCode m_newOf m_code m_ofCode m_stack m_newCodes m_codes m_facts m_newStep m_step m_newSteps m_works m_refusedSteps m_begun m_done m_refusedNow m_now m_s m_past m_newBook m_book m_written m_mostBy m_stuffing m_stuffedMany m_lastBy m_leftBy m_splitBy m_seedNow m_image m_images) FOK_X10 0 rfl rfl 0 (by decide) kw_1277 rfl rfl rfl (Nat.le_of_ble_eq_true rfl) dX10_status_2 rfl ?_
  refine g_iload_n (pc := 5) C 1 rfl dX10_status_5 ?_
  refine g_iconst (pc := 6) C dX10_status_6 ci_0 ?_
  refine g_iconst (pc := 7) C dX10_status_7 ci_1 ?_
  obtain ⟨v1, hc, h⟩ := b1_of h
  refine g_callS (pc := 8) C (w' := cs_X10 J.2.2.1 a0 0 m_refused m_taped m_size m_at m_bad m_badKind m_opens m_faultAt m_tape m_newBed m_newLetter m_newReader m_bed m_letter m_reader m_newBeds m_newLetters m_newReaders m_beds m_letters m_readers m_newCode m_newOf m_code m_ofCode m_stack m_newCodes m_codes m_facts m_newStep m_step m_newSteps m_works m_refusedSteps m_begun m_done m_refusedNow m_now m_s m_past m_newBook m_book m_written m_mostBy m_stuffing m_stuffedMany m_lastBy m_leftBy m_splitBy m_seedNow m_image m_images) (As := [.int n1, .int 0, .int 1]) (st := []) (t_X10_within hc) Sub.nil kw_1689 kw_1690 kw_95 hy_X10_within kw_1691 rfl (Nat.le_of_ble_eq_true rfl) (Nat.le_of_ble_eq_true rfl) (Nat.le_of_ble_eq_true rfl) (Nat.le_of_ble_eq_true rfl) (Nat.le_of_ble_eq_true rfl) dX10_status_8 ?_
  refine g_if_eq (pc := 11) C (tgt := 23) dX10_status_11 rfl h (fun h => ?_) (fun h => ?_)
  · refine g_iconst (pc := 23) C dX10_status_23 ci_m1 ?_
    cases h
    exact g_iret C E dX10_status_24
  · refine g_aload_n (pc := 14) C 0 rfl dX10_status_14 ?_
    refine g_get (pc := 15) C FOK_X10 0 rfl rfl 1 (by decide) kw_1278 rfl dX10_status_15 ?_
    refine g_iload_n (pc := 18) C 1 rfl dX10_status_18 ?_
    obtain ⟨hi, h⟩ := ix_of h
    refine g_iald (pc := 19) C 1 rfl hi dX10_status_19 ?_
    refine g_goto (pc := 20) C (tgt := 24) dX10_status_20 rfl ?_
    cases h
    exact g_iret C E dX10_status_24
noncomputable def f_X10_count (m_thrown : Int32) (m_taped : Int32) (m_works : Int32) (m_images : Int32) (n1 : Int32) : Option (Int32 × Int32) := if n1 = 0 then some (m_images, 0) else if n1 = 1 then some (m_taped, 0) else if n1 = 2 then some (m_works, 0) else some ((-1), 0)
def rm_X10_count : Room := { frames := 0, cells := 0, slots := 0, locals := 0 }
set_option maxRecDepth 100000 in
set_option maxHeartbeats 4000000 in
theorem t_X10_count {J : Jt} {a0 : Nat → Nat} {m_thrown : Int32} {m_refused : Nat → Int32} {m_taped : Int32} {m_size : Int32} {m_at : Int32} {m_bad : Int32} {m_badKind : Int32} {m_opens : Int32} {m_faultAt : Int32} {m_tape : Nat → Int32} {m_newBed : Nat → Int32} {m_newLetter : Nat → Int32} {m_newReader : Nat → Int32} {m_bed : Nat → Int32} {m_letter : Nat → Int32} {m_reader : Nat → Int32} {m_newBeds : Int32} {m_newLetters : Int32} {m_newReaders : Int32} {m_beds : Int32} {m_letters : Int32} {m_readers : Int32} {m_newCode : Nat → Int32} {m_newOf : Nat → Int32} {m_code : Nat → Int32} {m_ofCode : Nat → Int32} {m_stack : Nat → Int32} {m_newCodes : Int32} {m_codes : Int32} {m_facts : Nat → Int32} {m_newStep : Nat → Int32} {m_step : Nat → Int32} {m_newSteps : Int32} {m_works : Int32} {m_refusedSteps : Int32} {m_begun : Int32} {m_done : Int32} {m_refusedNow : Int32} {m_now : Nat → Int32} {m_s : Nat → Int32} {m_past : Nat → Int32} {m_newBook : Nat → Int32} {m_book : Nat → Int32} {m_written : Int32} {m_mostBy : Nat → Int32} {m_stuffing : Nat → Int32} {m_stuffedMany : Int32} {m_lastBy : Nat → Int32} {m_leftBy : Nat → Int32} {m_splitBy : Nat → Int64} {m_seedNow : Int32} {m_image : Nat → Int32} {m_images : Int32} {n1 : Int32} {r : Int32} {o_m_thrown : Int32} (h : f_X10_count m_thrown m_taped m_works m_images n1 = some (r, o_m_thrown)) : Mt J yX10_count cX10_count 2 (some .int) rm_X10_count [.ref (a0 0), .int n1] (cs_X10 J.2.2.1 a0 m_thrown m_refused m_taped m_size m_at m_bad m_badKind m_opens m_faultAt m_tape m_newBed m_newLetter m_newReader m_bed m_letter m_reader m_newBeds m_newLetters m_newReaders m_beds m_letters m_readers m_newCode m_newOf m_code m_ofCode m_stack m_newCodes m_codes m_facts m_newStep m_step m_newSteps m_works m_refusedSteps m_begun m_done m_refusedNow m_now m_s m_past m_newBook m_book m_written m_mostBy m_stuffing m_stuffedMany m_lastBy m_leftBy m_splitBy m_seedNow m_image m_images) (some (.int r)) (cs_X10 J.2.2.1 a0 o_m_thrown m_refused m_taped m_size m_at m_bad m_badKind m_opens m_faultAt m_tape m_newBed m_newLetter m_newReader m_bed m_letter m_reader m_newBeds m_newLetters m_newReaders m_beds m_letters m_readers m_newCode m_newOf m_code m_ofCode m_stack m_newCodes m_codes m_facts m_newStep m_step m_newSteps m_works m_refusedSteps m_begun m_done m_refusedNow m_now m_s m_past m_newBook m_book m_written m_mostBy m_stuffing m_stuffedMany m_lastBy m_leftBy m_splitBy m_seedNow m_image m_images) := by
  refine Mt_of (own := RX10) (by decide) rfl (Nat.le_of_ble_eq_true rfl) rfl (fun Z C E => ?_)
  unfold f_X10_count at h
  show G J Z 0 0 (cs_X10 J.2.2.1 a0 m_thrown m_refused m_taped m_size m_at m_bad m_badKind m_opens m_faultAt m_tape m_newBed m_newLetter m_newReader m_bed m_letter m_reader m_newBeds m_newLetters m_newReaders m_beds m_letters m_readers m_newCode m_newOf m_code m_ofCode m_stack m_newCodes m_codes m_facts m_newStep m_step m_newSteps m_works m_refusedSteps m_begun m_done m_refusedNow m_now m_s m_past m_newBook m_book m_written m_mostBy m_stuffing m_stuffedMany m_lastBy m_leftBy m_splitBy m_seedNow m_image m_images) 2 [(0, .ref (a0 0)), (1, .int n1)] 0 []
  refine g_aload_n (pc := 0) C 0 rfl dX10_count_0 ?_
  refine g_iconst (pc := 1) C dX10_count_1 ci_0 ?_
  refine g_put (pc := 2) C (w' := cs_X10 J.2.2.1 a0 0 m_refused m_taped m_size m_at m_bad m_badKind m_opens m_faultAt m_tape m_newBed m_newLetter m_newReader m_bed m_letter m_reader m_newBeds m_newLetters m_newReaders m_beds m_letters m_readers m_newCode m_newOf m_code m_ofCode m_stack m_newCodes m_codes m_facts m_newStep m_step m_newSteps m_works m_refusedSteps m_begun m_done m_refusedNow m_now m_s m_past m_newBook m_book m_written m_mostBy m_stuffing m_stuffedMany m_lastBy m_leftBy m_splitBy m_seedNow m_image m_images) FOK_X10 0 rfl rfl 0 (by decide) kw_1277 rfl rfl rfl (Nat.le_of_ble_eq_true rfl) dX10_count_2 rfl ?_
  refine g_iload_n (pc := 5) C 1 rfl dX10_count_5 ?_
  refine g_if_ne (pc := 6) C (tgt := 16) dX10_count_6 rfl h (fun h => ?_) (fun h => ?_)
  · refine g_iload_n (pc := 16) C 1 rfl dX10_count_16 ?_
    refine g_iconst (pc := 17) C dX10_count_17 ci_1 ?_
    refine g_icmp_ne (pc := 18) C (tgt := 28) dX10_count_18 rfl h (fun h => ?_) (fun h => ?_)
    · refine g_iload_n (pc := 28) C 1 rfl dX10_count_28 ?_
      refine g_iconst (pc := 29) C dX10_count_29 ci_2 ?_
      refine g_icmp_ne (pc := 30) C (tgt := 40) dX10_count_30 rfl h (fun h => ?_) (fun h => ?_)
      · refine g_iconst (pc := 40) C dX10_count_40 ci_m1 ?_
        cases h
        exact g_iret C E dX10_count_41
      · refine g_aload_n (pc := 33) C 0 rfl dX10_count_33 ?_
        refine g_get (pc := 34) C FOK_X10 0 rfl rfl 33 (by decide) kw_1310 rfl dX10_count_34 ?_
        refine g_goto (pc := 37) C (tgt := 41) dX10_count_37 rfl ?_
        cases h
        exact g_iret C E dX10_count_41
    · refine g_aload_n (pc := 21) C 0 rfl dX10_count_21 ?_
      refine g_get (pc := 22) C FOK_X10 0 rfl rfl 2 (by decide) kw_1279 rfl dX10_count_22 ?_
      refine g_goto (pc := 25) C (tgt := 41) dX10_count_25 rfl ?_
      cases h
      exact g_iret C E dX10_count_41
  · refine g_aload_n (pc := 9) C 0 rfl dX10_count_9 ?_
    refine g_get (pc := 10) C FOK_X10 0 rfl rfl 52 (by decide) kw_1329 rfl dX10_count_10 ?_
    refine g_goto (pc := 13) C (tgt := 41) dX10_count_13 rfl ?_
    cases h
    exact g_iret C E dX10_count_41
