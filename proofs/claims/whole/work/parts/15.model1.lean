noncomputable def f_X10_thrown (m_thrown : Int32) : Option (Int32) := some m_thrown
def rm_X10_thrown : Room := { frames := 0, cells := 0, slots := 0, locals := 0 }
set_option maxRecDepth 100000 in
set_option maxHeartbeats 4000000 in
theorem t_X10_thrown {J : Jt} {a0 : Nat → Nat} {m_thrown : Int32} {m_refused : Nat → Int32} {m_taped : Int32} {m_size : Int32} {m_at : Int32} {m_bad : Int32} {m_badKind : Int32} {m_opens : Int32} {m_faultAt : Int32} {m_tape : Nat → Int32} {m_newBed : Nat → Int32} {m_newLetter : Nat → Int32} {m_newReader : Nat → Int32} {m_bed : Nat → Int32} {m_letter : Nat → Int32} {m_reader : Nat → Int32} {m_newBeds : Int32} {m_newLetters : Int32} {m_newReaders : Int32} {m_beds : Int32} {m_letters : Int32} {m_readers : Int32} {m_newCode : Nat → Int32} {m_newOf : Nat → Int32} {m_code : Nat → Int32} {m_ofCode : Nat → Int32} {m_stack : Nat → Int32} {m_newCodes : Int32} {m_codes : Int32} {m_facts : Nat → Int32} {m_newStep : Nat → Int32} {m_step : Nat → Int32} {m_newSteps : Int32} {m_works : Int32} {m_refusedSteps : Int32} {m_begun : Int32} {m_done : Int32} {m_refusedNow : Int32} {m_now : Nat → Int32} {m_s : Nat → Int32} {m_past : Nat → Int32} {m_newBook : Nat → Int32} {m_book : Nat → Int32} {m_written : Int32} {m_mostBy : Nat → Int32} {m_stuffing : Nat → Int32} {m_stuffedMany : Int32} {m_lastBy : Nat → Int32} {m_leftBy : Nat → Int32} {m_splitBy : Nat → Int64} {m_seedNow : Int32} {m_image : Nat → Int32} {m_images : Int32} {r : Int32} (h : f_X10_thrown m_thrown = some r) : Mt J yX10_thrown cX10_thrown 1 (some .int) rm_X10_thrown [.ref (a0 0)] (cs_X10 J.2.2.1 a0 m_thrown m_refused m_taped m_size m_at m_bad m_badKind m_opens m_faultAt m_tape m_newBed m_newLetter m_newReader m_bed m_letter m_reader m_newBeds m_newLetters m_newReaders m_beds m_letters m_readers m_newCode m_newOf m_code m_ofCode m_stack m_newCodes m_codes m_facts m_newStep m_step m_newSteps m_works m_refusedSteps m_begun m_done m_refusedNow m_now m_s m_past m_newBook m_book m_written m_mostBy m_stuffing m_stuffedMany m_lastBy m_leftBy m_splitBy m_seedNow m_image m_images) (some (.int r)) (cs_X10 J.2.2.1 a0 m_thrown m_refused m_taped m_size m_at m_bad m_badKind m_opens m_faultAt m_tape m_newBed m_newLetter m_newReader m_bed m_letter m_reader m_newBeds m_newLetters m_newReaders m_beds m_letters m_readers m_newCode m_newOf m_code m_ofCode m_stack m_newCodes m_codes m_facts m_newStep m_step m_newSteps m_works m_refusedSteps m_begun m_done m_refusedNow m_now m_s m_past m_newBook m_book m_written m_mostBy m_stuffing m_stuffedMany m_lastBy m_leftBy m_splitBy m_seedNow m_image m_images) := by
  refine Mt_of (own := RX10) (by decide) rfl (Nat.le_of_ble_eq_true rfl) rfl (fun Z C E => ?_)
  unfold f_X10_thrown at h
  show G J Z 0 0 (cs_X10 J.2.2.1 a0 m_thrown m_refused m_taped m_size m_at m_bad m_badKind m_opens m_faultAt m_tape m_newBed m_newLetter m_newReader m_bed m_letter m_reader m_newBeds m_newLetters m_newReaders m_beds m_letters m_readers m_newCode m_newOf m_code m_ofCode m_stack m_newCodes m_codes m_facts m_newStep m_step m_newSteps m_works m_refusedSteps m_begun m_done m_refusedNow m_now m_s m_past m_newBook m_book m_written m_mostBy m_stuffing m_stuffedMany m_lastBy m_leftBy m_splitBy m_seedNow m_image m_images) 1 [(0, .ref (a0 0))] 0 []
  refine g_aload_n (pc := 0) C 0 rfl dX10_thrown_0 ?_
  refine g_get (pc := 1) C FOK_X10 0 rfl rfl 0 (by decide) kw_1277 rfl dX10_thrown_1 ?_
  cases h
  exact g_iret C E dX10_thrown_4
noncomputable def f_X10_may_26  (n1 : Int32) (n2 : Int32) (n3 : Int32) (m_thrown : Int32) (m_refused : Nat → Int32) : Option (Int32 × Int32 × (Nat → Int32)) := if m_thrown = 0 then some (1, m_thrown, m_refused) else some (0, m_thrown, m_refused)
noncomputable def f_X10_may (m_thrown : Int32) (m_refused : Nat → Int32) (n1 : Int32) (n2 : Int32) (n3 : Int32) : Option (Int32 × Int32 × (Nat → Int32)) := if n1 = 0 then if m_thrown = 0 then if ixb n3 2 then if ixb n3 2 then f_X10_may_26 n1 n2 n3 n2 (upd m_refused n3.toNatClampNeg ((m_refused n3.toNatClampNeg) + 1)) else none else none else f_X10_may_26 n1 n2 n3 m_thrown m_refused else f_X10_may_26 n1 n2 n3 m_thrown m_refused
def rm_X10_may : Room := { frames := 0, cells := 0, slots := 0, locals := 0 }
set_option maxRecDepth 100000 in
set_option maxHeartbeats 4000000 in
theorem j_X10_may_26 {J : Jt} {Z : Zt} {a0 : Nat → Nat} {m_taped : Int32} {m_size : Int32} {m_at : Int32} {m_bad : Int32} {m_badKind : Int32} {m_opens : Int32} {m_faultAt : Int32} {m_tape : Nat → Int32} {m_newBed : Nat → Int32} {m_newLetter : Nat → Int32} {m_newReader : Nat → Int32} {m_bed : Nat → Int32} {m_letter : Nat → Int32} {m_reader : Nat → Int32} {m_newBeds : Int32} {m_newLetters : Int32} {m_newReaders : Int32} {m_beds : Int32} {m_letters : Int32} {m_readers : Int32} {m_newCode : Nat → Int32} {m_newOf : Nat → Int32} {m_code : Nat → Int32} {m_ofCode : Nat → Int32} {m_stack : Nat → Int32} {m_newCodes : Int32} {m_codes : Int32} {m_facts : Nat → Int32} {m_newStep : Nat → Int32} {m_step : Nat → Int32} {m_newSteps : Int32} {m_works : Int32} {m_refusedSteps : Int32} {m_begun : Int32} {m_done : Int32} {m_refusedNow : Int32} {m_now : Nat → Int32} {m_s : Nat → Int32} {m_past : Nat → Int32} {m_newBook : Nat → Int32} {m_book : Nat → Int32} {m_written : Int32} {m_mostBy : Nat → Int32} {m_stuffing : Nat → Int32} {m_stuffedMany : Int32} {m_lastBy : Nat → Int32} {m_leftBy : Nat → Int32} {m_splitBy : Nat → Int64} {m_seedNow : Int32} {m_image : Nat → Int32} {m_images : Int32} {n1 : Int32} {n2 : Int32} {n3 : Int32} {r : Int32} {o_m_thrown : Int32} {o_m_refused : Nat → Int32} (C : Cx J Z cX10_may 4 RX10 (some .boolean) rm_X10_may) (E : Ez J Z 0 0 (some (.int r)) (cs_X10 J.2.2.1 a0 o_m_thrown o_m_refused m_taped m_size m_at m_bad m_badKind m_opens m_faultAt m_tape m_newBed m_newLetter m_newReader m_bed m_letter m_reader m_newBeds m_newLetters m_newReaders m_beds m_letters m_readers m_newCode m_newOf m_code m_ofCode m_stack m_newCodes m_codes m_facts m_newStep m_step m_newSteps m_works m_refusedSteps m_begun m_done m_refusedNow m_now m_s m_past m_newBook m_book m_written m_mostBy m_stuffing m_stuffedMany m_lastBy m_leftBy m_splitBy m_seedNow m_image m_images)) : ∀ (m_thrown : Int32) (m_refused : Nat → Int32), f_X10_may_26 n1 n2 n3 m_thrown m_refused = some (r, o_m_thrown, o_m_refused) → G J Z 0 0 (cs_X10 J.2.2.1 a0 m_thrown m_refused m_taped m_size m_at m_bad m_badKind m_opens m_faultAt m_tape m_newBed m_newLetter m_newReader m_bed m_letter m_reader m_newBeds m_newLetters m_newReaders m_beds m_letters m_readers m_newCode m_newOf m_code m_ofCode m_stack m_newCodes m_codes m_facts m_newStep m_step m_newSteps m_works m_refusedSteps m_begun m_done m_refusedNow m_now m_s m_past m_newBook m_book m_written m_mostBy m_stuffing m_stuffedMany m_lastBy m_leftBy m_splitBy m_seedNow m_image m_images) 4 [(0, .ref (a0 0))] 26 [] := by
  intro m_thrown m_refused h
  unfold f_X10_may_26 at h
  refine g_aload_n (pc := 26) C 0 rfl dX10_may_26 ?_
  refine g_get (pc := 27) C FOK_X10 0 rfl rfl 0 (by decide) kw_1277 rfl dX10_may_27 ?_
  refine g_if_ne (pc := 30) C (tgt := 37) dX10_may_30 rfl h (fun h => ?_) (fun h => ?_)
  · refine g_iconst (pc := 37) C dX10_may_37 ci_0 ?_
    cases h
    exact g_zret C rfl E dX10_may_38
  · refine g_iconst (pc := 33) C dX10_may_33 ci_1 ?_
    refine g_goto (pc := 34) C (tgt := 38) dX10_may_34 rfl ?_
    cases h
    exact g_zret C rfl E dX10_may_38
set_option maxRecDepth 100000 in
set_option maxHeartbeats 4000000 in
theorem t_X10_may {J : Jt} {a0 : Nat → Nat} {m_thrown : Int32} {m_refused : Nat → Int32} {m_taped : Int32} {m_size : Int32} {m_at : Int32} {m_bad : Int32} {m_badKind : Int32} {m_opens : Int32} {m_faultAt : Int32} {m_tape : Nat → Int32} {m_newBed : Nat → Int32} {m_newLetter : Nat → Int32} {m_newReader : Nat → Int32} {m_bed : Nat → Int32} {m_letter : Nat → Int32} {m_reader : Nat → Int32} {m_newBeds : Int32} {m_newLetters : Int32} {m_newReaders : Int32} {m_beds : Int32} {m_letters : Int32} {m_readers : Int32} {m_newCode : Nat → Int32} {m_newOf : Nat → Int32} {m_code : Nat → Int32} {m_ofCode : Nat → Int32} {m_stack : Nat → Int32} {m_newCodes : Int32} {m_codes : Int32} {m_facts : Nat → Int32} {m_newStep : Nat → Int32} {m_step : Nat → Int32} {m_newSteps : Int32} {m_works : Int32} {m_refusedSteps : Int32} {m_begun : Int32} {m_done : Int32} {m_refusedNow : Int32} {m_now : Nat → Int32} {m_s : Nat → Int32} {m_past : Nat → Int32} {m_newBook : Nat → Int32} {m_book : Nat → Int32} {m_written : Int32} {m_mostBy : Nat → Int32} {m_stuffing : Nat → Int32} {m_stuffedMany : Int32} {m_lastBy : Nat → Int32} {m_leftBy : Nat → Int32} {m_splitBy : Nat → Int64} {m_seedNow : Int32} {m_image : Nat → Int32} {m_images : Int32} {n1 : Int32} {n2 : Int32} {n3 : Int32} {r : Int32} {o_m_thrown : Int32} {o_m_refused : Nat → Int32} (h : f_X10_may m_thrown m_refused n1 n2 n3 = some (r, o_m_thrown, o_m_refused)) : Mt J yX10_may cX10_may 4 (some .boolean) rm_X10_may [.ref (a0 0), .int n1, .int n2, .int n3] (cs_X10 J.2.2.1 a0 m_thrown m_refused m_taped m_size m_at m_bad m_badKind m_opens m_faultAt m_tape m_newBed m_newLetter m_newReader m_bed m_letter m_reader m_newBeds m_newLetters m_newReaders m_beds m_letters m_readers m_newCode m_newOf m_code m_ofCode m_stack m_newCodes m_codes m_facts m_newStep m_step m_newSteps m_works m_refusedSteps m_begun m_done m_refusedNow m_now m_s m_past m_newBook m_book m_written m_mostBy m_stuffing m_stuffedMany m_lastBy m_leftBy m_splitBy m_seedNow m_image m_images) (some (.int r)) (cs_X10 J.2.2.1 a0 o_m_thrown o_m_refused m_taped m_size m_at m_bad m_badKind m_opens m_faultAt m_tape m_newBed m_newLetter m_newReader m_bed m_letter m_reader m_newBeds m_newLetters m_newReaders m_beds m_letters m_readers m_newCode m_newOf m_code m_ofCode m_stack m_newCodes m_codes m_facts m_newStep m_step m_newSteps m_works m_refusedSteps m_begun m_done m_refusedNow m_now m_s m_past m_newBook m_book m_written m_mostBy m_stuffing m_stuffedMany m_lastBy m_leftBy m_splitBy m_seedNow m_image m_images) := by
  refine Mt_of (own := RX10) (by decide) rfl (Nat.le_of_ble_eq_true rfl) rfl (fun Z C E => ?_)
  unfold f_X10_may at h
  show G J Z 0 0 (cs_X10 J.2.2.1 a0 m_thrown m_refused m_taped m_size m_at m_bad m_badKind m_opens m_faultAt m_tape m_newBed m_newLetter m_newReader m_bed m_letter m_reader m_newBeds m_newLetters m_newReaders m_beds m_letters m_readers m_newCode m_newOf m_code m_ofCode m_stack m_newCodes m_codes m_facts m_newStep m_step m_newSteps m_works m_refusedSteps m_begun m_done m_refusedNow m_now m_s m_past m_newBook m_book m_written m_mostBy m_stuffing m_stuffedMany m_lastBy m_leftBy m_splitBy m_seedNow m_image m_images) 4 [(0, .ref (a0 0)), (1, .int n1), (2, .int n2), (3, .int n3)] 0 []
  refine g_iload_n (pc := 0) C 1 rfl dX10_may_0 ?_
  refine g_if_ne (pc := 1) C (tgt := 26) dX10_may_1 rfl h (fun h => ?_) (fun h => ?_)
  · refine g_lv [0] rfl ?_
    exact j_X10_may_26 C E  m_thrown m_refused h
  · refine g_aload_n (pc := 4) C 0 rfl dX10_may_4 ?_
    refine g_get (pc := 5) C FOK_X10 0 rfl rfl 0 (by decide) kw_1277 rfl dX10_may_5 ?_
    refine g_if_ne (pc := 8) C (tgt := 26) dX10_may_8 rfl h (fun h => ?_) (fun h => ?_)
    · refine g_lv [0] rfl ?_
      exact j_X10_may_26 C E  m_thrown m_refused h
    · refine g_aload_n (pc := 11) C 0 rfl dX10_may_11 ?_
      refine g_iload_n (pc := 12) C 2 rfl dX10_may_12 ?_
      refine g_put (pc := 13) C (w' := cs_X10 J.2.2.1 a0 n2 m_refused m_taped m_size m_at m_bad m_badKind m_opens m_faultAt m_tape m_newBed m_newLetter m_newReader m_bed m_letter m_reader m_newBeds m_newLetters m_newReaders m_beds m_letters m_readers m_newCode m_newOf m_code m_ofCode m_stack m_newCodes m_codes m_facts m_newStep m_step m_newSteps m_works m_refusedSteps m_begun m_done m_refusedNow m_now m_s m_past m_newBook m_book m_written m_mostBy m_stuffing m_stuffedMany m_lastBy m_leftBy m_splitBy m_seedNow m_image m_images) FOK_X10 0 rfl rfl 0 (by decide) kw_1277 rfl rfl rfl (Nat.le_of_ble_eq_true rfl) dX10_may_13 rfl ?_
      refine g_aload_n (pc := 16) C 0 rfl dX10_may_16 ?_
      refine g_get (pc := 17) C FOK_X10 0 rfl rfl 1 (by decide) kw_1278 rfl dX10_may_17 ?_
      refine g_iload_n (pc := 20) C 3 rfl dX10_may_20 ?_
      refine g_dup2 (pc := 21) C dX10_may_21 rfl rfl ?_
      obtain ⟨hi, h⟩ := ix_of h
      refine g_iald (pc := 22) C 1 rfl hi dX10_may_22 ?_
      refine g_iconst (pc := 23) C dX10_may_23 ci_1 ?_
      refine g_iadd (pc := 24) C dX10_may_24 ?_
      obtain ⟨hi, h⟩ := ix_of h
      refine g_iast (pc := 25) C (w' := cs_X10 J.2.2.1 a0 n2 (upd m_refused n3.toNatClampNeg ((m_refused n3.toNatClampNeg) + 1)) m_taped m_size m_at m_bad m_badKind m_opens m_faultAt m_tape m_newBed m_newLetter m_newReader m_bed m_letter m_reader m_newBeds m_newLetters m_newReaders m_beds m_letters m_readers m_newCode m_newOf m_code m_ofCode m_stack m_newCodes m_codes m_facts m_newStep m_step m_newSteps m_works m_refusedSteps m_begun m_done m_refusedNow m_now m_s m_past m_newBook m_book m_written m_mostBy m_stuffing m_stuffedMany m_lastBy m_leftBy m_splitBy m_seedNow m_image m_images) 1 rfl hi dX10_may_25 rfl ?_
      refine g_lv [0] rfl ?_
      exact j_X10_may_26 C E  n2 (upd m_refused n3.toNatClampNeg ((m_refused n3.toNatClampNeg) + 1)) h
noncomputable def f_X10_within  (n1 : Int32) (n2 : Int32) (n3 : Int32) : Option (Int32) := if n1 < n2 then some 0 else if n3 < n1 then some 0 else some 1
def rm_X10_within : Room := { frames := 0, cells := 0, slots := 0, locals := 0 }
set_option maxRecDepth 100000 in
set_option maxHeartbeats 4000000 in
theorem t_X10_within {J : Jt}  {n1 : Int32} {n2 : Int32} {n3 : Int32} {r : Int32} (h : f_X10_within n1 n2 n3 = some r) : Mt J yX10_within cX10_within 3 (some .boolean) rm_X10_within [.int n1, .int n2, .int n3] ([]) (some (.int r)) ([]) := by
  refine Mt_of (own := RX10) (by decide) rfl (Nat.le_of_ble_eq_true rfl) rfl (fun Z C E => ?_)
  unfold f_X10_within at h
  show G J Z 0 0 ([]) 3 [(0, .int n1), (1, .int n2), (2, .int n3)] 0 []
  refine g_iload_n (pc := 0) C 0 rfl dX10_within_0 ?_
  refine g_iload_n (pc := 1) C 1 rfl dX10_within_1 ?_
  refine g_icmp_lt (pc := 2) C (tgt := 14) dX10_within_2 rfl h (fun h => ?_) (fun h => ?_)
  · refine g_iconst (pc := 14) C dX10_within_14 ci_0 ?_
    cases h
    exact g_zret C rfl E dX10_within_15
  · refine g_iload_n (pc := 5) C 0 rfl dX10_within_5 ?_
    refine g_iload_n (pc := 6) C 2 rfl dX10_within_6 ?_
    refine g_icmp_gt (pc := 7) C (tgt := 14) dX10_within_7 rfl h (fun h => ?_) (fun h => ?_)
    · refine g_iconst (pc := 14) C dX10_within_14 ci_0 ?_
      cases h
      exact g_zret C rfl E dX10_within_15
    · refine g_iconst (pc := 10) C dX10_within_10 ci_1 ?_
      refine g_goto (pc := 11) C (tgt := 15) dX10_within_11 rfl ?_
      cases h
      exact g_zret C rfl E dX10_within_15
noncomputable def f_X10_feed_76  (n1 : Int32) (n2 : Int32) (n3 : Int32) (n4 : Int32) (n5 : Int32) (k23 : Int32 → Int32 → Int32 → (Nat → Int32) → Option (Int32 × Int32 × Int32 × (Nat → Int32))) (x6 : Int32) (y0 : Int32) (m_thrown : Int32) (m_taped : Int32) (m_tape : Nat → Int32) : Option (Int32 × Int32 × Int32 × (Nat → Int32)) := if ixb m_taped 600 then k23 (x6 + 1) m_thrown (m_taped + 1) (upd m_tape m_taped.toNatClampNeg ((y0 >>> ((24 - (8 * (x6 - x6 / 4 * 4))) &&& 31)) &&& 255)) else none
noncomputable def f_X10_feed_23  (n1 : Int32) (n2 : Int32) (n3 : Int32) (n4 : Int32) (n5 : Int32) : Nat → Int32 → Int32 → Int32 → (Nat → Int32) → Option (Int32 × Int32 × Int32 × (Nat → Int32))
  | 0, _, _, _, _ => none
  | n + 1, x6, m_thrown, m_taped, m_tape => if 20 ≤ x6 then some (m_taped, m_thrown, m_taped, m_tape) else if 4 ≤ x6 then if 8 ≤ x6 then if 12 ≤ x6 then if 16 ≤ x6 then f_X10_feed_76 n1 n2 n3 n4 n5 (f_X10_feed_23 n1 n2 n3 n4 n5 n) x6 n5 m_thrown m_taped m_tape else f_X10_feed_76 n1 n2 n3 n4 n5 (f_X10_feed_23 n1 n2 n3 n4 n5 n) x6 n4 m_thrown m_taped m_tape else f_X10_feed_76 n1 n2 n3 n4 n5 (f_X10_feed_23 n1 n2 n3 n4 n5 n) x6 n3 m_thrown m_taped m_tape else f_X10_feed_76 n1 n2 n3 n4 n5 (f_X10_feed_23 n1 n2 n3 n4 n5 n) x6 n2 m_thrown m_taped m_tape else f_X10_feed_76 n1 n2 n3 n4 n5 (f_X10_feed_23 n1 n2 n3 n4 n5 n) x6 n1 m_thrown m_taped m_tape
noncomputable def f_X10_feed (m_thrown : Int32) (m_taped : Int32) (m_tape : Nat → Int32) (n1 : Int32) (n2 : Int32) (n3 : Int32) (n4 : Int32) (n5 : Int32) : Option (Int32 × Int32 × Int32 × (Nat → Int32)) := if (m_taped + 20) ≤ 600 then f_X10_feed_23 n1 n2 n3 n4 n5 FU 0 0 m_taped m_tape else some ((-1), 0, m_taped, m_tape)
def rm_X10_feed : Room := { frames := 0, cells := 0, slots := 0, locals := 0 }
set_option maxRecDepth 100000 in
set_option maxHeartbeats 4000000 in
theorem j_X10_feed_76 {J : Jt} {Z : Zt} {a0 : Nat → Nat} {m_refused : Nat → Int32} {m_size : Int32} {m_at : Int32} {m_bad : Int32} {m_badKind : Int32} {m_opens : Int32} {m_faultAt : Int32} {m_newBed : Nat → Int32} {m_newLetter : Nat → Int32} {m_newReader : Nat → Int32} {m_bed : Nat → Int32} {m_letter : Nat → Int32} {m_reader : Nat → Int32} {m_newBeds : Int32} {m_newLetters : Int32} {m_newReaders : Int32} {m_beds : Int32} {m_letters : Int32} {m_readers : Int32} {m_newCode : Nat → Int32} {m_newOf : Nat → Int32} {m_code : Nat → Int32} {m_ofCode : Nat → Int32} {m_stack : Nat → Int32} {m_newCodes : Int32} {m_codes : Int32} {m_facts : Nat → Int32} {m_newStep : Nat → Int32} {m_step : Nat → Int32} {m_newSteps : Int32} {m_works : Int32} {m_refusedSteps : Int32} {m_begun : Int32} {m_done : Int32} {m_refusedNow : Int32} {m_now : Nat → Int32} {m_s : Nat → Int32} {m_past : Nat → Int32} {m_newBook : Nat → Int32} {m_book : Nat → Int32} {m_written : Int32} {m_mostBy : Nat → Int32} {m_stuffing : Nat → Int32} {m_stuffedMany : Int32} {m_lastBy : Nat → Int32} {m_leftBy : Nat → Int32} {m_splitBy : Nat → Int64} {m_seedNow : Int32} {m_image : Nat → Int32} {m_images : Int32} {n1 : Int32} {n2 : Int32} {n3 : Int32} {n4 : Int32} {n5 : Int32} {r : Int32} {o_m_thrown : Int32} {o_m_taped : Int32} {o_m_tape : Nat → Int32} {k23 : Int32 → Int32 → Int32 → (Nat → Int32) → Option (Int32 × Int32 × Int32 × (Nat → Int32))} (C : Cx J Z cX10_feed 8 RX10 (some .int) rm_X10_feed) (E : Ez J Z 0 0 (some (.int r)) (cs_X10 J.2.2.1 a0 o_m_thrown m_refused o_m_taped m_size m_at m_bad m_badKind m_opens m_faultAt o_m_tape m_newBed m_newLetter m_newReader m_bed m_letter m_reader m_newBeds m_newLetters m_newReaders m_beds m_letters m_readers m_newCode m_newOf m_code m_ofCode m_stack m_newCodes m_codes m_facts m_newStep m_step m_newSteps m_works m_refusedSteps m_begun m_done m_refusedNow m_now m_s m_past m_newBook m_book m_written m_mostBy m_stuffing m_stuffedMany m_lastBy m_leftBy m_splitBy m_seedNow m_image m_images)) (hk23 : ∀ (x6 : Int32) (m_thrown : Int32) (m_taped : Int32) (m_tape : Nat → Int32), k23 x6 m_thrown m_taped m_tape = some (r, o_m_thrown, o_m_taped, o_m_tape) → G J Z 0 0 (cs_X10 J.2.2.1 a0 m_thrown m_refused m_taped m_size m_at m_bad m_badKind m_opens m_faultAt m_tape m_newBed m_newLetter m_newReader m_bed m_letter m_reader m_newBeds m_newLetters m_newReaders m_beds m_letters m_readers m_newCode m_newOf m_code m_ofCode m_stack m_newCodes m_codes m_facts m_newStep m_step m_newSteps m_works m_refusedSteps m_begun m_done m_refusedNow m_now m_s m_past m_newBook m_book m_written m_mostBy m_stuffing m_stuffedMany m_lastBy m_leftBy m_splitBy m_seedNow m_image m_images) 8 [(0, .ref (a0 0)), (1, .int n1), (2, .int n2), (3, .int n3), (4, .int n4), (5, .int n5), (6, .int x6)] 23 []) : ∀ (x6 : Int32) (y0 : Int32) (m_thrown : Int32) (m_taped : Int32) (m_tape : Nat → Int32), f_X10_feed_76 n1 n2 n3 n4 n5 k23 x6 y0 m_thrown m_taped m_tape = some (r, o_m_thrown, o_m_taped, o_m_tape) → G J Z 0 0 (cs_X10 J.2.2.1 a0 m_thrown m_refused m_taped m_size m_at m_bad m_badKind m_opens m_faultAt m_tape m_newBed m_newLetter m_newReader m_bed m_letter m_reader m_newBeds m_newLetters m_newReaders m_beds m_letters m_readers m_newCode m_newOf m_code m_ofCode m_stack m_newCodes m_codes m_facts m_newStep m_step m_newSteps m_works m_refusedSteps m_begun m_done m_refusedNow m_now m_s m_past m_newBook m_book m_written m_mostBy m_stuffing m_stuffedMany m_lastBy m_leftBy m_splitBy m_seedNow m_image m_images) 8 [(0, .ref (a0 0)), (1, .int n1), (2, .int n2), (3, .int n3), (4, .int n4), (5, .int n5), (6, .int x6)] 76 [.int y0] := by
  intro x6 y0 m_thrown m_taped m_tape h
  unfold f_X10_feed_76 at h
  refine g_istore (pc := 76) C [(7, .int y0), (0, .ref (a0 0)), (1, .int n1), (2, .int n2), (3, .int n3), (4, .int n4), (5, .int n5), (6, .int x6)] dX10_feed_76 (by decide) rfl ?_
  refine g_aload_n (pc := 78) C 1 rfl dX10_feed_78 ?_
  refine g_get (pc := 79) C FOK_X10 0 rfl rfl 9 (by decide) kw_1286 rfl dX10_feed_79 ?_
  refine g_aload_n (pc := 82) C 1 rfl dX10_feed_82 ?_
  refine g_get (pc := 83) C FOK_X10 0 rfl rfl 2 (by decide) kw_1279 rfl dX10_feed_83 ?_
  refine g_iload (pc := 86) C 0 rfl dX10_feed_86 ?_
  refine g_bipush (pc := 88) C dX10_feed_88 cb_24 ?_
  refine g_bipush (pc := 90) C dX10_feed_90 cb_8 ?_
  refine g_iload (pc := 92) C 7 rfl dX10_feed_92 ?_
  refine g_iconst (pc := 94) C dX10_feed_94 ci_4 ?_
  refine g_irem (pc := 95) C dX10_feed_95 (by decide) ?_
  refine g_imul (pc := 96) C dX10_feed_96 ?_
  refine g_isub (pc := 97) C dX10_feed_97 ?_
  refine g_ishr (pc := 98) C dX10_feed_98 ?_
  refine g_sipush (pc := 99) C dX10_feed_99 cs_255 ?_
  refine g_iand (pc := 102) C dX10_feed_102 ?_
  obtain ⟨hi, h⟩ := ix_of h
  refine g_iast (pc := 103) C (w' := cs_X10 J.2.2.1 a0 m_thrown m_refused m_taped m_size m_at m_bad m_badKind m_opens m_faultAt (upd m_tape m_taped.toNatClampNeg ((y0 >>> ((24 - (8 * (x6 - x6 / 4 * 4))) &&& 31)) &&& 255)) m_newBed m_newLetter m_newReader m_bed m_letter m_reader m_newBeds m_newLetters m_newReaders m_beds m_letters m_readers m_newCode m_newOf m_code m_ofCode m_stack m_newCodes m_codes m_facts m_newStep m_step m_newSteps m_works m_refusedSteps m_begun m_done m_refusedNow m_now m_s m_past m_newBook m_book m_written m_mostBy m_stuffing m_stuffedMany m_lastBy m_leftBy m_splitBy m_seedNow m_image m_images) 2 rfl hi dX10_feed_103 rfl ?_
  refine g_aload_n (pc := 104) C 1 rfl dX10_feed_104 ?_
  refine g_dup (pc := 105) C dX10_feed_105 rfl ?_
  refine g_get (pc := 106) C FOK_X10 0 rfl rfl 2 (by decide) kw_1279 rfl dX10_feed_106 ?_
  refine g_iconst (pc := 109) C dX10_feed_109 ci_1 ?_
  refine g_iadd (pc := 110) C dX10_feed_110 ?_
  refine g_put (pc := 111) C (w' := cs_X10 J.2.2.1 a0 m_thrown m_refused (m_taped + 1) m_size m_at m_bad m_badKind m_opens m_faultAt (upd m_tape m_taped.toNatClampNeg ((y0 >>> ((24 - (8 * (x6 - x6 / 4 * 4))) &&& 31)) &&& 255)) m_newBed m_newLetter m_newReader m_bed m_letter m_reader m_newBeds m_newLetters m_newReaders m_beds m_letters m_readers m_newCode m_newOf m_code m_ofCode m_stack m_newCodes m_codes m_facts m_newStep m_step m_newSteps m_works m_refusedSteps m_begun m_done m_refusedNow m_now m_s m_past m_newBook m_book m_written m_mostBy m_stuffing m_stuffedMany m_lastBy m_leftBy m_splitBy m_seedNow m_image m_images) FOK_X10 0 rfl rfl 2 (by decide) kw_1279 rfl rfl rfl (Nat.le_of_ble_eq_true rfl) dX10_feed_111 rfl ?_
  refine g_iinc (pc := 114) C (j := 7) [(6, .int (x6 + 1)), (7, .int y0), (0, .ref (a0 0)), (1, .int n1), (2, .int n2), (3, .int n3), (4, .int n4), (5, .int n5)] dX10_feed_114 rfl (ii_1 _) (by decide) rfl ?_
  refine g_goto (pc := 117) C (tgt := 23) dX10_feed_117 rfl ?_
  refine g_lv [2, 3, 4, 5, 6, 7, 0] rfl ?_
  exact hk23 (x6 + 1) m_thrown (m_taped + 1) (upd m_tape m_taped.toNatClampNeg ((y0 >>> ((24 - (8 * (x6 - x6 / 4 * 4))) &&& 31)) &&& 255)) h
set_option maxRecDepth 100000 in
set_option maxHeartbeats 4000000 in
theorem j_X10_feed_23 {J : Jt} {Z : Zt} {a0 : Nat → Nat} {m_refused : Nat → Int32} {m_size : Int32} {m_at : Int32} {m_bad : Int32} {m_badKind : Int32} {m_opens : Int32} {m_faultAt : Int32} {m_newBed : Nat → Int32} {m_newLetter : Nat → Int32} {m_newReader : Nat → Int32} {m_bed : Nat → Int32} {m_letter : Nat → Int32} {m_reader : Nat → Int32} {m_newBeds : Int32} {m_newLetters : Int32} {m_newReaders : Int32} {m_beds : Int32} {m_letters : Int32} {m_readers : Int32} {m_newCode : Nat → Int32} {m_newOf : Nat → Int32} {m_code : Nat → Int32} {m_ofCode : Nat → Int32} {m_stack : Nat → Int32} {m_newCodes : Int32} {m_codes : Int32} {m_facts : Nat → Int32} {m_newStep : Nat → Int32} {m_step : Nat → Int32} {m_newSteps : Int32} {m_works : Int32} {m_refusedSteps : Int32} {m_begun : Int32} {m_done : Int32} {m_refusedNow : Int32} {m_now : Nat → Int32} {m_s : Nat → Int32} {m_past : Nat → Int32} {m_newBook : Nat → Int32} {m_book : Nat → Int32} {m_written : Int32} {m_mostBy : Nat → Int32} {m_stuffing : Nat → Int32} {m_stuffedMany : Int32} {m_lastBy : Nat → Int32} {m_leftBy : Nat → Int32} {m_splitBy : Nat → Int64} {m_seedNow : Int32} {m_image : Nat → Int32} {m_images : Int32} {n1 : Int32} {n2 : Int32} {n3 : Int32} {n4 : Int32} {n5 : Int32} {r : Int32} {o_m_thrown : Int32} {o_m_taped : Int32} {o_m_tape : Nat → Int32} (C : Cx J Z cX10_feed 8 RX10 (some .int) rm_X10_feed) (E : Ez J Z 0 0 (some (.int r)) (cs_X10 J.2.2.1 a0 o_m_thrown m_refused o_m_taped m_size m_at m_bad m_badKind m_opens m_faultAt o_m_tape m_newBed m_newLetter m_newReader m_bed m_letter m_reader m_newBeds m_newLetters m_newReaders m_beds m_letters m_readers m_newCode m_newOf m_code m_ofCode m_stack m_newCodes m_codes m_facts m_newStep m_step m_newSteps m_works m_refusedSteps m_begun m_done m_refusedNow m_now m_s m_past m_newBook m_book m_written m_mostBy m_stuffing m_stuffedMany m_lastBy m_leftBy m_splitBy m_seedNow m_image m_images)) : ∀ (n : Nat) (x6 : Int32) (m_thrown : Int32) (m_taped : Int32) (m_tape : Nat → Int32), f_X10_feed_23 n1 n2 n3 n4 n5 n x6 m_thrown m_taped m_tape = some (r, o_m_thrown, o_m_taped, o_m_tape) → G J Z 0 0 (cs_X10 J.2.2.1 a0 m_thrown m_refused m_taped m_size m_at m_bad m_badKind m_opens m_faultAt m_tape m_newBed m_newLetter m_newReader m_bed m_letter m_reader m_newBeds m_newLetters m_newReaders m_beds m_letters m_readers m_newCode m_newOf m_code m_ofCode m_stack m_newCodes m_codes m_facts m_newStep m_step m_newSteps m_works m_refusedSteps m_begun m_done m_refusedNow m_now m_s m_past m_newBook m_book m_written m_mostBy m_stuffing m_stuffedMany m_lastBy m_leftBy m_splitBy m_seedNow m_image m_images) 8 [(0, .ref (a0 0)), (1, .int n1), (2, .int n2), (3, .int n3), (4, .int n4), (5, .int n5), (6, .int x6)] 23 [] := by
  intro n
  induction n with
  | zero =>
    intro x6 m_thrown m_taped m_tape h
    rw [f_X10_feed_23] at h
    cases h
  | succ n ih =>
    intro x6 m_thrown m_taped m_tape h
    rw [f_X10_feed_23] at h
    refine g_iload (pc := 23) C 6 rfl dX10_feed_23 ?_
    refine g_bipush (pc := 25) C dX10_feed_25 cb_20 ?_
    refine g_icmp_ge (pc := 27) C (tgt := 120) dX10_feed_27 rfl h (fun h => ?_) (fun h => ?_)
    · refine g_aload_n (pc := 120) C 0 rfl dX10_feed_120 ?_
      refine g_get (pc := 121) C FOK_X10 0 rfl rfl 2 (by decide) kw_1279 rfl dX10_feed_121 ?_
      cases h
      exact g_iret C E dX10_feed_124
    · refine g_iload (pc := 30) C 6 rfl dX10_feed_30 ?_
      refine g_iconst (pc := 32) C dX10_feed_32 ci_4 ?_
      refine g_icmp_ge (pc := 33) C (tgt := 40) dX10_feed_33 rfl h (fun h => ?_) (fun h => ?_)
      · refine g_iload (pc := 40) C 6 rfl dX10_feed_40 ?_
        refine g_bipush (pc := 42) C dX10_feed_42 cb_8 ?_
        refine g_icmp_ge (pc := 44) C (tgt := 51) dX10_feed_44 rfl h (fun h => ?_) (fun h => ?_)
        · refine g_iload (pc := 51) C 6 rfl dX10_feed_51 ?_
          refine g_bipush (pc := 53) C dX10_feed_53 cb_12 ?_
          refine g_icmp_ge (pc := 55) C (tgt := 62) dX10_feed_55 rfl h (fun h => ?_) (fun h => ?_)
          · refine g_iload (pc := 62) C 6 rfl dX10_feed_62 ?_
            refine g_bipush (pc := 64) C dX10_feed_64 cb_16 ?_
            refine g_icmp_ge (pc := 66) C (tgt := 74) dX10_feed_66 rfl h (fun h => ?_) (fun h => ?_)
            · refine g_iload (pc := 74) C 5 rfl dX10_feed_74 ?_
              exact j_X10_feed_76 C E ih x6 n5 m_thrown m_taped m_tape h
            · refine g_iload (pc := 69) C 4 rfl dX10_feed_69 ?_
              refine g_goto (pc := 71) C (tgt := 76) dX10_feed_71 rfl ?_
              exact j_X10_feed_76 C E ih x6 n4 m_thrown m_taped m_tape h
          · refine g_iload_n (pc := 58) C 3 rfl dX10_feed_58 ?_
            refine g_goto (pc := 59) C (tgt := 76) dX10_feed_59 rfl ?_
            exact j_X10_feed_76 C E ih x6 n3 m_thrown m_taped m_tape h
        · refine g_iload_n (pc := 47) C 2 rfl dX10_feed_47 ?_
          refine g_goto (pc := 48) C (tgt := 76) dX10_feed_48 rfl ?_
          exact j_X10_feed_76 C E ih x6 n2 m_thrown m_taped m_tape h
      · refine g_iload_n (pc := 36) C 1 rfl dX10_feed_36 ?_
        refine g_goto (pc := 37) C (tgt := 76) dX10_feed_37 rfl ?_
        exact j_X10_feed_76 C E ih x6 n1 m_thrown m_taped m_tape h
set_option maxRecDepth 100000 in
set_option maxHeartbeats 4000000 in
theorem t_X10_feed {J : Jt} {a0 : Nat → Nat} {m_thrown : Int32} {m_refused : Nat → Int32} {m_taped : Int32} {m_size : Int32} {m_at : Int32} {m_bad : Int32} {m_badKind : Int32} {m_opens : Int32} {m_faultAt : Int32} {m_tape : Nat → Int32} {m_newBed : Nat → Int32} {m_newLetter : Nat → Int32} {m_newReader : Nat → Int32} {m_bed : Nat → Int32} {m_letter : Nat → Int32} {m_reader : Nat → Int32} {m_newBeds : Int32} {m_newLetters : Int32} {m_newReaders : Int32} {m_beds : Int32} {m_letters : Int32} {m_readers : Int32} {m_newCode : Nat → Int32} {m_newOf : Nat → Int32} {m_code : Nat → Int32} {m_ofCode : Nat → Int32} {m_stack : Nat → Int32} {m_newCodes : Int32} {m_codes : Int32} {m_facts : Nat → Int32} {m_newStep : Nat → Int32} {m_step : Nat → Int32} {m_newSteps : Int32} {m_works : Int32} {m_refusedSteps : Int32} {m_begun : Int32} {m_done : Int32} {m_refusedNow : Int32} {m_now : Nat → Int32} {m_s : Nat → Int32} {m_past : Nat → Int32} {m_newBook : Nat → Int32} {m_book : Nat → Int32} {m_written : Int32} {m_mostBy : Nat → Int32} {m_stuffing : Nat → Int32} {m_stuffedMany : Int32} {m_lastBy : Nat → Int32} {m_leftBy : Nat → Int32} {m_splitBy : Nat → Int64} {m_seedNow : Int32} {m_image : Nat → Int32} {m_images : Int32} {n1 : Int32} {n2 : Int32} {n3 : Int32} {n4 : Int32} {n5 : Int32} {r : Int32} {o_m_thrown : Int32} {o_m_taped : Int32} {o_m_tape : Nat → Int32} (h : f_X10_feed m_thrown m_taped m_tape n1 n2 n3 n4 n5 = some (r, o_m_thrown, o_m_taped, o_m_tape)) : Mt J yX10_feed cX10_feed 8 (some .int) rm_X10_feed [.ref (a0 0), .int n1, .int n2, .int n3, .int n4, .int n5] (cs_X10 J.2.2.1 a0 m_thrown m_refused m_taped m_size m_at m_bad m_badKind m_opens m_faultAt m_tape m_newBed m_newLetter m_newReader m_bed m_letter m_reader m_newBeds m_newLetters m_newReaders m_beds m_letters m_readers m_newCode m_newOf m_code m_ofCode m_stack m_newCodes m_codes m_facts m_newStep m_step m_newSteps m_works m_refusedSteps m_begun m_done m_refusedNow m_now m_s m_past m_newBook m_book m_written m_mostBy m_stuffing m_stuffedMany m_lastBy m_leftBy m_splitBy m_seedNow m_image m_images) (some (.int r)) (cs_X10 J.2.2.1 a0 o_m_thrown m_refused o_m_taped m_size m_at m_bad m_badKind m_opens m_faultAt o_m_tape m_newBed m_newLetter m_newReader m_bed m_letter m_reader m_newBeds m_newLetters m_newReaders m_beds m_letters m_readers m_newCode m_newOf m_code m_ofCode m_stack m_newCodes m_codes m_facts m_newStep m_step m_newSteps m_works m_refusedSteps m_begun m_done m_refusedNow m_now m_s m_past m_newBook m_book m_written m_mostBy m_stuffing m_stuffedMany m_lastBy m_leftBy m_splitBy m_seedNow m_image m_images) := by
  refine Mt_of (own := RX10) (by decide) rfl (Nat.le_of_ble_eq_true rfl) rfl (fun Z C E => ?_)
  unfold f_X10_feed at h
  show G J Z 0 0 (cs_X10 J.2.2.1 a0 m_thrown m_refused m_taped m_size m_at m_bad m_badKind m_opens m_faultAt m_tape m_newBed m_newLetter m_newReader m_bed m_letter m_reader m_newBeds m_newLetters m_newReaders m_beds m_letters m_readers m_newCode m_newOf m_code m_ofCode m_stack m_newCodes m_codes m_facts m_newStep m_step m_newSteps m_works m_refusedSteps m_begun m_done m_refusedNow m_now m_s m_past m_newBook m_book m_written m_mostBy m_stuffing m_stuffedMany m_lastBy m_leftBy m_splitBy m_seedNow m_image m_images) 8 [(0, .ref (a0 0)), (1, .int n1), (2, .int n2), (3, .int n3), (4, .int n4), (5, .int n5)] 0 []
  refine g_aload_n (pc := 0) C 0 rfl dX10_feed_0 ?_
  refine g_iconst (pc := 1) C dX10_feed_1 ci_0 ?_
  refine g_put (pc := 2) C (w' := cs_X10 J.2.2.1 a0 0 m_refused m_taped m_size m_at m_bad m_badKind m_opens m_faultAt m_tape m_newBed m_newLetter m_newReader m_bed m_letter m_reader m_newBeds m_newLetters m_newReaders m_beds m_letters m_readers m_newCode m_newOf m_code m_ofCode m_stack m_newCodes m_codes m_facts m_newStep m_step m_newSteps m_works m_refusedSteps m_begun m_done m_refusedNow m_now m_s m_past m_newBook m_book m_written m_mostBy m_stuffing m_stuffedMany m_lastBy m_leftBy m_splitBy m_seedNow m_image m_images) FOK_X10 0 rfl rfl 0 (by decide) kw_1277 rfl rfl rfl (Nat.le_of_ble_eq_true rfl) dX10_feed_2 rfl ?_
  refine g_aload_n (pc := 5) C 0 rfl dX10_feed_5 ?_
  refine g_get (pc := 6) C FOK_X10 0 rfl rfl 2 (by decide) kw_1279 rfl dX10_feed_6 ?_
  refine g_bipush (pc := 9) C dX10_feed_9 cb_20 ?_
  refine g_iadd (pc := 11) C dX10_feed_11 ?_
  refine g_sipush (pc := 12) C dX10_feed_12 cs_600 ?_
  refine g_icmp_le (pc := 15) C (tgt := 20) dX10_feed_15 rfl h (fun h => ?_) (fun h => ?_)
  · refine g_iconst (pc := 20) C dX10_feed_20 ci_0 ?_
    refine g_istore (pc := 21) C [(6, .int 0), (0, .ref (a0 0)), (1, .int n1), (2, .int n2), (3, .int n3), (4, .int n4), (5, .int n5)] dX10_feed_21 (by decide) rfl ?_
    refine g_lv [1, 2, 3, 4, 5, 6, 0] rfl ?_
    exact j_X10_feed_23 C E  FU 0 0 m_taped m_tape h
  · refine g_iconst (pc := 18) C dX10_feed_18 ci_m1 ?_
    cases h
    exact g_iret C E dX10_feed_19
noncomputable def f_X10_fine (m_bad : Int32) : Option (Int32) := if m_bad = (-1) then some 1 else some 0
def rm_X10_fine : Room := { frames := 0, cells := 0, slots := 0, locals := 0 }
set_option maxRecDepth 100000 in
set_option maxHeartbeats 4000000 in
theorem t_X10_fine {J : Jt} {a0 : Nat → Nat} {m_thrown : Int32} {m_refused : Nat → Int32} {m_taped : Int32} {m_size : Int32} {m_at : Int32} {m_bad : Int32} {m_badKind : Int32} {m_opens : Int32} {m_faultAt : Int32} {m_tape : Nat → Int32} {m_newBed : Nat → Int32} {m_newLetter : Nat → Int32} {m_newReader : Nat → Int32} {m_bed : Nat → Int32} {m_letter : Nat → Int32} {m_reader : Nat → Int32} {m_newBeds : Int32} {m_newLetters : Int32} {m_newReaders : Int32} {m_beds : Int32} {m_letters : Int32} {m_readers : Int32} {m_newCode : Nat → Int32} {m_newOf : Nat → Int32} {m_code : Nat → Int32} {m_ofCode : Nat → Int32} {m_stack : Nat → Int32} {m_newCodes : Int32} {m_codes : Int32} {m_facts : Nat → Int32} {m_newStep : Nat → Int32} {m_step : Nat → Int32} {m_newSteps : Int32} {m_works : Int32} {m_refusedSteps : Int32} {m_begun : Int32} {m_done : Int32} {m_refusedNow : Int32} {m_now : Nat → Int32} {m_s : Nat → Int32} {m_past : Nat → Int32} {m_newBook : Nat → Int32} {m_book : Nat → Int32} {m_written : Int32} {m_mostBy : Nat → Int32} {m_stuffing : Nat → Int32} {m_stuffedMany : Int32} {m_lastBy : Nat → Int32} {m_leftBy : Nat → Int32} {m_splitBy : Nat → Int64} {m_seedNow : Int32} {m_image : Nat → Int32} {m_images : Int32} {r : Int32} (h : f_X10_fine m_bad = some r) : Mt J yX10_fine cX10_fine 1 (some .boolean) rm_X10_fine [.ref (a0 0)] (cs_X10 J.2.2.1 a0 m_thrown m_refused m_taped m_size m_at m_bad m_badKind m_opens m_faultAt m_tape m_newBed m_newLetter m_newReader m_bed m_letter m_reader m_newBeds m_newLetters m_newReaders m_beds m_letters m_readers m_newCode m_newOf m_code m_ofCode m_stack m_newCodes m_codes m_facts m_newStep m_step m_newSteps m_works m_refusedSteps m_begun m_done m_refusedNow m_now m_s m_past m_newBook m_book m_written m_mostBy m_stuffing m_stuffedMany m_lastBy m_leftBy m_splitBy m_seedNow m_image m_images) (some (.int r)) (cs_X10 J.2.2.1 a0 m_thrown m_refused m_taped m_size m_at m_bad m_badKind m_opens m_faultAt m_tape m_newBed m_newLetter m_newReader m_bed m_letter m_reader m_newBeds m_newLetters m_newReaders m_beds m_letters m_readers m_newCode m_newOf m_code m_ofCode m_stack m_newCodes m_codes m_facts m_newStep m_step m_newSteps m_works m_refusedSteps m_begun m_done m_refusedNow m_now m_s m_past m_newBook m_book m_written m_mostBy m_stuffing m_stuffedMany m_lastBy m_leftBy m_splitBy m_seedNow m_image m_images) := by
  refine Mt_of (own := RX10) (by decide) rfl (Nat.le_of_ble_eq_true rfl) rfl (fun Z C E => ?_)
  unfold f_X10_fine at h
  show G J Z 0 0 (cs_X10 J.2.2.1 a0 m_thrown m_refused m_taped m_size m_at m_bad m_badKind m_opens m_faultAt m_tape m_newBed m_newLetter m_newReader m_bed m_letter m_reader m_newBeds m_newLetters m_newReaders m_beds m_letters m_readers m_newCode m_newOf m_code m_ofCode m_stack m_newCodes m_codes m_facts m_newStep m_step m_newSteps m_works m_refusedSteps m_begun m_done m_refusedNow m_now m_s m_past m_newBook m_book m_written m_mostBy m_stuffing m_stuffedMany m_lastBy m_leftBy m_splitBy m_seedNow m_image m_images) 1 [(0, .ref (a0 0))] 0 []
  refine g_aload_n (pc := 0) C 0 rfl dX10_fine_0 ?_
  refine g_get (pc := 1) C FOK_X10 0 rfl rfl 5 (by decide) kw_1282 rfl dX10_fine_1 ?_
  refine g_iconst (pc := 4) C dX10_fine_4 ci_m1 ?_
  refine g_icmp_ne (pc := 5) C (tgt := 12) dX10_fine_5 rfl h (fun h => ?_) (fun h => ?_)
  · refine g_iconst (pc := 12) C dX10_fine_12 ci_0 ?_
    cases h
    exact g_zret C rfl E dX10_fine_13
  · refine g_iconst (pc := 8) C dX10_fine_8 ci_1 ?_
    refine g_goto (pc := 9) C (tgt := 13) dX10_fine_9 rfl ?_
    cases h
    exact g_zret C rfl E dX10_fine_13
noncomputable def f_X10_wrong (m_bad : Int32) (m_badKind : Int32) (n1 : Int32) (n2 : Int32) : Option (Int32 × Int32) := if m_bad = (-1) then some (n2, n1) else some (m_bad, m_badKind)
def rm_X10_wrong : Room := { frames := 0, cells := 0, slots := 0, locals := 0 }
set_option maxRecDepth 100000 in
set_option maxHeartbeats 4000000 in
theorem t_X10_wrong {J : Jt} {a0 : Nat → Nat} {m_thrown : Int32} {m_refused : Nat → Int32} {m_taped : Int32} {m_size : Int32} {m_at : Int32} {m_bad : Int32} {m_badKind : Int32} {m_opens : Int32} {m_faultAt : Int32} {m_tape : Nat → Int32} {m_newBed : Nat → Int32} {m_newLetter : Nat → Int32} {m_newReader : Nat → Int32} {m_bed : Nat → Int32} {m_letter : Nat → Int32} {m_reader : Nat → Int32} {m_newBeds : Int32} {m_newLetters : Int32} {m_newReaders : Int32} {m_beds : Int32} {m_letters : Int32} {m_readers : Int32} {m_newCode : Nat → Int32} {m_newOf : Nat → Int32} {m_code : Nat → Int32} {m_ofCode : Nat → Int32} {m_stack : Nat → Int32} {m_newCodes : Int32} {m_codes : Int32} {m_facts : Nat → Int32} {m_newStep : Nat → Int32} {m_step : Nat → Int32} {m_newSteps : Int32} {m_works : Int32} {m_refusedSteps : Int32} {m_begun : Int32} {m_done : Int32} {m_refusedNow : Int32} {m_now : Nat → Int32} {m_s : Nat → Int32} {m_past : Nat → Int32} {m_newBook : Nat → Int32} {m_book : Nat → Int32} {m_written : Int32} {m_mostBy : Nat → Int32} {m_stuffing : Nat → Int32} {m_stuffedMany : Int32} {m_lastBy : Nat → Int32} {m_leftBy : Nat → Int32} {m_splitBy : Nat → Int64} {m_seedNow : Int32} {m_image : Nat → Int32} {m_images : Int32} {n1 : Int32} {n2 : Int32} {o_m_bad : Int32} {o_m_badKind : Int32} (h : f_X10_wrong m_bad m_badKind n1 n2 = some (o_m_bad, o_m_badKind)) : Mt J yX10_wrong cX10_wrong 3 none rm_X10_wrong [.ref (a0 0), .int n1, .int n2] (cs_X10 J.2.2.1 a0 m_thrown m_refused m_taped m_size m_at m_bad m_badKind m_opens m_faultAt m_tape m_newBed m_newLetter m_newReader m_bed m_letter m_reader m_newBeds m_newLetters m_newReaders m_beds m_letters m_readers m_newCode m_newOf m_code m_ofCode m_stack m_newCodes m_codes m_facts m_newStep m_step m_newSteps m_works m_refusedSteps m_begun m_done m_refusedNow m_now m_s m_past m_newBook m_book m_written m_mostBy m_stuffing m_stuffedMany m_lastBy m_leftBy m_splitBy m_seedNow m_image m_images) none (cs_X10 J.2.2.1 a0 m_thrown m_refused m_taped m_size m_at o_m_bad o_m_badKind m_opens m_faultAt m_tape m_newBed m_newLetter m_newReader m_bed m_letter m_reader m_newBeds m_newLetters m_newReaders m_beds m_letters m_readers m_newCode m_newOf m_code m_ofCode m_stack m_newCodes m_codes m_facts m_newStep m_step m_newSteps m_works m_refusedSteps m_begun m_done m_refusedNow m_now m_s m_past m_newBook m_book m_written m_mostBy m_stuffing m_stuffedMany m_lastBy m_leftBy m_splitBy m_seedNow m_image m_images) := by
  refine Mt_of (own := RX10) (by decide) rfl (Nat.le_of_ble_eq_true rfl) rfl (fun Z C E => ?_)
  unfold f_X10_wrong at h
  show G J Z 0 0 (cs_X10 J.2.2.1 a0 m_thrown m_refused m_taped m_size m_at m_bad m_badKind m_opens m_faultAt m_tape m_newBed m_newLetter m_newReader m_bed m_letter m_reader m_newBeds m_newLetters m_newReaders m_beds m_letters m_readers m_newCode m_newOf m_code m_ofCode m_stack m_newCodes m_codes m_facts m_newStep m_step m_newSteps m_works m_refusedSteps m_begun m_done m_refusedNow m_now m_s m_past m_newBook m_book m_written m_mostBy m_stuffing m_stuffedMany m_lastBy m_leftBy m_splitBy m_seedNow m_image m_images) 3 [(0, .ref (a0 0)), (1, .int n1), (2, .int n2)] 0 []
  refine g_aload_n (pc := 0) C 0 rfl dX10_wrong_0 ?_
  refine g_get (pc := 1) C FOK_X10 0 rfl rfl 5 (by decide) kw_1282 rfl dX10_wrong_1 ?_
  refine g_iconst (pc := 4) C dX10_wrong_4 ci_m1 ?_
  refine g_icmp_eq (pc := 5) C (tgt := 9) dX10_wrong_5 rfl h (fun h => ?_) (fun h => ?_)
  · refine g_aload_n (pc := 9) C 0 rfl dX10_wrong_9 ?_
    refine g_iload_n (pc := 10) C 2 rfl dX10_wrong_10 ?_
    refine g_put (pc := 11) C (w' := cs_X10 J.2.2.1 a0 m_thrown m_refused m_taped m_size m_at n2 m_badKind m_opens m_faultAt m_tape m_newBed m_newLetter m_newReader m_bed m_letter m_reader m_newBeds m_newLetters m_newReaders m_beds m_letters m_readers m_newCode m_newOf m_code m_ofCode m_stack m_newCodes m_codes m_facts m_newStep m_step m_newSteps m_works m_refusedSteps m_begun m_done m_refusedNow m_now m_s m_past m_newBook m_book m_written m_mostBy m_stuffing m_stuffedMany m_lastBy m_leftBy m_splitBy m_seedNow m_image m_images) FOK_X10 0 rfl rfl 5 (by decide) kw_1282 rfl rfl rfl (Nat.le_of_ble_eq_true rfl) dX10_wrong_11 rfl ?_
    refine g_aload_n (pc := 14) C 0 rfl dX10_wrong_14 ?_
    refine g_iload_n (pc := 15) C 1 rfl dX10_wrong_15 ?_
    refine g_put (pc := 16) C (w' := cs_X10 J.2.2.1 a0 m_thrown m_refused m_taped m_size m_at n2 n1 m_opens m_faultAt m_tape m_newBed m_newLetter m_newReader m_bed m_letter m_reader m_newBeds m_newLetters m_newReaders m_beds m_letters m_readers m_newCode m_newOf m_code m_ofCode m_stack m_newCodes m_codes m_facts m_newStep m_step m_newSteps m_works m_refusedSteps m_begun m_done m_refusedNow m_now m_s m_past m_newBook m_book m_written m_mostBy m_stuffing m_stuffedMany m_lastBy m_leftBy m_splitBy m_seedNow m_image m_images) FOK_X10 0 rfl rfl 6 (by decide) kw_1283 rfl rfl rfl (Nat.le_of_ble_eq_true rfl) dX10_wrong_16 rfl ?_
    cases h
    exact g_vret C E dX10_wrong_19
  · cases h
    exact g_vret C E dX10_wrong_8
noncomputable def f_X10_here_38 (m_size : Int32) (m_tape : Nat → Int32) (m_at : Int32) : Option (Int32 × Int32) := if m_size ≤ m_at then some (0, m_at) else if ixb m_at 600 then some (m_tape m_at.toNatClampNeg, m_at) else none
noncomputable def f_X10_here_0 (m_size : Int32) (m_tape : Nat → Int32) : Nat → Int32 → Option (Int32 × Int32)
  | 0, _ => none
  | n + 1, m_at => if m_size ≤ m_at then f_X10_here_38 m_size m_tape m_at else if ixb m_at 600 then if (m_tape m_at.toNatClampNeg) = 32 then f_X10_here_0 m_size m_tape n (m_at + 1) else f_X10_here_38 m_size m_tape m_at else none
noncomputable def f_X10_here (m_size : Int32) (m_at : Int32) (m_tape : Nat → Int32) : Option (Int32 × Int32) := f_X10_here_0 m_size m_tape FU m_at
def rm_X10_here : Room := { frames := 0, cells := 0, slots := 0, locals := 0 }
set_option maxRecDepth 100000 in
set_option maxHeartbeats 4000000 in
theorem j_X10_here_38 {J : Jt} {Z : Zt} {a0 : Nat → Nat} {m_thrown : Int32} {m_refused : Nat → Int32} {m_taped : Int32} {m_size : Int32} {m_bad : Int32} {m_badKind : Int32} {m_opens : Int32} {m_faultAt : Int32} {m_tape : Nat → Int32} {m_newBed : Nat → Int32} {m_newLetter : Nat → Int32} {m_newReader : Nat → Int32} {m_bed : Nat → Int32} {m_letter : Nat → Int32} {m_reader : Nat → Int32} {m_newBeds : Int32} {m_newLetters : Int32} {m_newReaders : Int32} {m_beds : Int32} {m_letters : Int32} {m_readers : Int32} {m_newCode : Nat → Int32} {m_newOf : Nat → Int32} {m_code : Nat → Int32} {m_ofCode : Nat → Int32} {m_stack : Nat → Int32} {m_newCodes : Int32} {m_codes : Int32} {m_facts : Nat → Int32} {m_newStep : Nat → Int32} {m_step : Nat → Int32} {m_newSteps : Int32} {m_works : Int32} {m_refusedSteps : Int32} {m_begun : Int32} {m_done : Int32} {m_refusedNow : Int32} {m_now : Nat → Int32} {m_s : Nat → Int32} {m_past : Nat → Int32} {m_newBook : Nat → Int32} {m_book : Nat → Int32} {m_written : Int32} {m_mostBy : Nat → Int32} {m_stuffing : Nat → Int32} {m_stuffedMany : Int32} {m_lastBy : Nat → Int32} {m_leftBy : Nat → Int32} {m_splitBy : Nat → Int64} {m_seedNow : Int32} {m_image : Nat → Int32} {m_images : Int32} {r : Int32} {o_m_at : Int32} (C : Cx J Z cX10_here 1 RX10 (some .int) rm_X10_here) (E : Ez J Z 0 0 (some (.int r)) (cs_X10 J.2.2.1 a0 m_thrown m_refused m_taped m_size o_m_at m_bad m_badKind m_opens m_faultAt m_tape m_newBed m_newLetter m_newReader m_bed m_letter m_reader m_newBeds m_newLetters m_newReaders m_beds m_letters m_readers m_newCode m_newOf m_code m_ofCode m_stack m_newCodes m_codes m_facts m_newStep m_step m_newSteps m_works m_refusedSteps m_begun m_done m_refusedNow m_now m_s m_past m_newBook m_book m_written m_mostBy m_stuffing m_stuffedMany m_lastBy m_leftBy m_splitBy m_seedNow m_image m_images)) : ∀ (m_at : Int32), f_X10_here_38 m_size m_tape m_at = some (r, o_m_at) → G J Z 0 0 (cs_X10 J.2.2.1 a0 m_thrown m_refused m_taped m_size m_at m_bad m_badKind m_opens m_faultAt m_tape m_newBed m_newLetter m_newReader m_bed m_letter m_reader m_newBeds m_newLetters m_newReaders m_beds m_letters m_readers m_newCode m_newOf m_code m_ofCode m_stack m_newCodes m_codes m_facts m_newStep m_step m_newSteps m_works m_refusedSteps m_begun m_done m_refusedNow m_now m_s m_past m_newBook m_book m_written m_mostBy m_stuffing m_stuffedMany m_lastBy m_leftBy m_splitBy m_seedNow m_image m_images) 1 [(0, .ref (a0 0))] 38 [] := by
  intro m_at h
  unfold f_X10_here_38 at h
  refine g_aload_n (pc := 38) C 0 rfl dX10_here_38 ?_
  refine g_get (pc := 39) C FOK_X10 0 rfl rfl 4 (by decide) kw_1281 rfl dX10_here_39 ?_
  refine g_aload_n (pc := 42) C 0 rfl dX10_here_42 ?_
  refine g_get (pc := 43) C FOK_X10 0 rfl rfl 3 (by decide) kw_1280 rfl dX10_here_43 ?_
  refine g_icmp_ge (pc := 46) C (tgt := 61) dX10_here_46 rfl h (fun h => ?_) (fun h => ?_)
  · refine g_iconst (pc := 61) C dX10_here_61 ci_0 ?_
    cases h
    exact g_iret C E dX10_here_62
  · refine g_aload_n (pc := 49) C 0 rfl dX10_here_49 ?_
    refine g_get (pc := 50) C FOK_X10 0 rfl rfl 9 (by decide) kw_1286 rfl dX10_here_50 ?_
    refine g_aload_n (pc := 53) C 0 rfl dX10_here_53 ?_
    refine g_get (pc := 54) C FOK_X10 0 rfl rfl 4 (by decide) kw_1281 rfl dX10_here_54 ?_
    obtain ⟨hi, h⟩ := ix_of h
    refine g_iald (pc := 57) C 2 rfl hi dX10_here_57 ?_
    refine g_goto (pc := 58) C (tgt := 62) dX10_here_58 rfl ?_
    cases h
    exact g_iret C E dX10_here_62
set_option maxRecDepth 100000 in
set_option maxHeartbeats 4000000 in
theorem j_X10_here_0 {J : Jt} {Z : Zt} {a0 : Nat → Nat} {m_thrown : Int32} {m_refused : Nat → Int32} {m_taped : Int32} {m_size : Int32} {m_bad : Int32} {m_badKind : Int32} {m_opens : Int32} {m_faultAt : Int32} {m_tape : Nat → Int32} {m_newBed : Nat → Int32} {m_newLetter : Nat → Int32} {m_newReader : Nat → Int32} {m_bed : Nat → Int32} {m_letter : Nat → Int32} {m_reader : Nat → Int32} {m_newBeds : Int32} {m_newLetters : Int32} {m_newReaders : Int32} {m_beds : Int32} {m_letters : Int32} {m_readers : Int32} {m_newCode : Nat → Int32} {m_newOf : Nat → Int32} {m_code : Nat → Int32} {m_ofCode : Nat → Int32} {m_stack : Nat → Int32} {m_newCodes : Int32} {m_codes : Int32} {m_facts : Nat → Int32} {m_newStep : Nat → Int32} {m_step : Nat → Int32} {m_newSteps : Int32} {m_works : Int32} {m_refusedSteps : Int32} {m_begun : Int32} {m_done : Int32} {m_refusedNow : Int32} {m_now : Nat → Int32} {m_s : Nat → Int32} {m_past : Nat → Int32} {m_newBook : Nat → Int32} {m_book : Nat → Int32} {m_written : Int32} {m_mostBy : Nat → Int32} {m_stuffing : Nat → Int32} {m_stuffedMany : Int32} {m_lastBy : Nat → Int32} {m_leftBy : Nat → Int32} {m_splitBy : Nat → Int64} {m_seedNow : Int32} {m_image : Nat → Int32} {m_images : Int32} {r : Int32} {o_m_at : Int32} (C : Cx J Z cX10_here 1 RX10 (some .int) rm_X10_here) (E : Ez J Z 0 0 (some (.int r)) (cs_X10 J.2.2.1 a0 m_thrown m_refused m_taped m_size o_m_at m_bad m_badKind m_opens m_faultAt m_tape m_newBed m_newLetter m_newReader m_bed m_letter m_reader m_newBeds m_newLetters m_newReaders m_beds m_letters m_readers m_newCode m_newOf m_code m_ofCode m_stack m_newCodes m_codes m_facts m_newStep m_step m_newSteps m_works m_refusedSteps m_begun m_done m_refusedNow m_now m_s m_past m_newBook m_book m_written m_mostBy m_stuffing m_stuffedMany m_lastBy m_leftBy m_splitBy m_seedNow m_image m_images)) : ∀ (n : Nat) (m_at : Int32), f_X10_here_0 m_size m_tape n m_at = some (r, o_m_at) → G J Z 0 0 (cs_X10 J.2.2.1 a0 m_thrown m_refused m_taped m_size m_at m_bad m_badKind m_opens m_faultAt m_tape m_newBed m_newLetter m_newReader m_bed m_letter m_reader m_newBeds m_newLetters m_newReaders m_beds m_letters m_readers m_newCode m_newOf m_code m_ofCode m_stack m_newCodes m_codes m_facts m_newStep m_step m_newSteps m_works m_refusedSteps m_begun m_done m_refusedNow m_now m_s m_past m_newBook m_book m_written m_mostBy m_stuffing m_stuffedMany m_lastBy m_leftBy m_splitBy m_seedNow m_image m_images) 1 [(0, .ref (a0 0))] 0 [] := by
  intro n
  induction n with
  | zero =>
    intro m_at h
    rw [f_X10_here_0] at h
    cases h
  | succ n ih =>
    intro m_at h
    rw [f_X10_here_0] at h
    refine g_aload_n (pc := 0) C 0 rfl dX10_here_0 ?_
    refine g_get (pc := 1) C FOK_X10 0 rfl rfl 4 (by decide) kw_1281 rfl dX10_here_1 ?_
    refine g_aload_n (pc := 4) C 0 rfl dX10_here_4 ?_
    refine g_get (pc := 5) C FOK_X10 0 rfl rfl 3 (by decide) kw_1280 rfl dX10_here_5 ?_
    refine g_icmp_ge (pc := 8) C (tgt := 38) dX10_here_8 rfl h (fun h => ?_) (fun h => ?_)
    · exact j_X10_here_38 C E  m_at h
    · refine g_aload_n (pc := 11) C 0 rfl dX10_here_11 ?_
      refine g_get (pc := 12) C FOK_X10 0 rfl rfl 9 (by decide) kw_1286 rfl dX10_here_12 ?_
      refine g_aload_n (pc := 15) C 0 rfl dX10_here_15 ?_
      refine g_get (pc := 16) C FOK_X10 0 rfl rfl 4 (by decide) kw_1281 rfl dX10_here_16 ?_
      obtain ⟨hi, h⟩ := ix_of h
      refine g_iald (pc := 19) C 2 rfl hi dX10_here_19 ?_
      refine g_bipush (pc := 20) C dX10_here_20 cb_32 ?_
      refine g_icmp_ne (pc := 22) C (tgt := 38) dX10_here_22 rfl h (fun h => ?_) (fun h => ?_)
      · exact j_X10_here_38 C E  m_at h
      · refine g_aload_n (pc := 25) C 0 rfl dX10_here_25 ?_
        refine g_dup (pc := 26) C dX10_here_26 rfl ?_
        refine g_get (pc := 27) C FOK_X10 0 rfl rfl 4 (by decide) kw_1281 rfl dX10_here_27 ?_
        refine g_iconst (pc := 30) C dX10_here_30 ci_1 ?_
        refine g_iadd (pc := 31) C dX10_here_31 ?_
        refine g_put (pc := 32) C (w' := cs_X10 J.2.2.1 a0 m_thrown m_refused m_taped m_size (m_at + 1) m_bad m_badKind m_opens m_faultAt m_tape m_newBed m_newLetter m_newReader m_bed m_letter m_reader m_newBeds m_newLetters m_newReaders m_beds m_letters m_readers m_newCode m_newOf m_code m_ofCode m_stack m_newCodes m_codes m_facts m_newStep m_step m_newSteps m_works m_refusedSteps m_begun m_done m_refusedNow m_now m_s m_past m_newBook m_book m_written m_mostBy m_stuffing m_stuffedMany m_lastBy m_leftBy m_splitBy m_seedNow m_image m_images) FOK_X10 0 rfl rfl 4 (by decide) kw_1281 rfl rfl rfl (Nat.le_of_ble_eq_true rfl) dX10_here_32 rfl ?_
        refine g_goto (pc := 35) C (tgt := 0) dX10_here_35 rfl ?_
        exact ih (m_at + 1) h
set_option maxRecDepth 100000 in
set_option maxHeartbeats 4000000 in
theorem t_X10_here {J : Jt} {a0 : Nat → Nat} {m_thrown : Int32} {m_refused : Nat → Int32} {m_taped : Int32} {m_size : Int32} {m_at : Int32} {m_bad : Int32} {m_badKind : Int32} {m_opens : Int32} {m_faultAt : Int32} {m_tape : Nat → Int32} {m_newBed : Nat → Int32} {m_newLetter : Nat → Int32} {m_newReader : Nat → Int32} {m_bed : Nat → Int32} {m_letter : Nat → Int32} {m_reader : Nat → Int32} {m_newBeds : Int32} {m_newLetters : Int32} {m_newReaders : Int32} {m_beds : Int32} {m_letters : Int32} {m_readers : Int32} {m_newCode : Nat → Int32} {m_newOf : Nat → Int32} {m_code : Nat → Int32} {m_ofCode : Nat → Int32} {m_stack : Nat → Int32} {m_newCodes : Int32} {m_codes : Int32} {m_facts : Nat → Int32} {m_newStep : Nat → Int32} {m_step : Nat → Int32} {m_newSteps : Int32} {m_works : Int32} {m_refusedSteps : Int32} {m_begun : Int32} {m_done : Int32} {m_refusedNow : Int32} {m_now : Nat → Int32} {m_s : Nat → Int32} {m_past : Nat → Int32} {m_newBook : Nat → Int32} {m_book : Nat → Int32} {m_written : Int32} {m_mostBy : Nat → Int32} {m_stuffing : Nat → Int32} {m_stuffedMany : Int32} {m_lastBy : Nat → Int32} {m_leftBy : Nat → Int32} {m_splitBy : Nat → Int64} {m_seedNow : Int32} {m_image : Nat → Int32} {m_images : Int32} {r : Int32} {o_m_at : Int32} (h : f_X10_here m_size m_at m_tape = some (r, o_m_at)) : Mt J yX10_here cX10_here 1 (some .int) rm_X10_here [.ref (a0 0)] (cs_X10 J.2.2.1 a0 m_thrown m_refused m_taped m_size m_at m_bad m_badKind m_opens m_faultAt m_tape m_newBed m_newLetter m_newReader m_bed m_letter m_reader m_newBeds m_newLetters m_newReaders m_beds m_letters m_readers m_newCode m_newOf m_code m_ofCode m_stack m_newCodes m_codes m_facts m_newStep m_step m_newSteps m_works m_refusedSteps m_begun m_done m_refusedNow m_now m_s m_past m_newBook m_book m_written m_mostBy m_stuffing m_stuffedMany m_lastBy m_leftBy m_splitBy m_seedNow m_image m_images) (some (.int r)) (cs_X10 J.2.2.1 a0 m_thrown m_refused m_taped m_size o_m_at m_bad m_badKind m_opens m_faultAt m_tape m_newBed m_newLetter m_newReader m_bed m_letter m_reader m_newBeds m_newLetters m_newReaders m_beds m_letters m_readers m_newCode m_newOf m_code m_ofCode m_stack m_newCodes m_codes m_facts m_newStep m_step m_newSteps m_works m_refusedSteps m_begun m_done m_refusedNow m_now m_s m_past m_newBook m_book m_written m_mostBy m_stuffing m_stuffedMany m_lastBy m_leftBy m_splitBy m_seedNow m_image m_images) := by
  refine Mt_of (own := RX10) (by decide) rfl (Nat.le_of_ble_eq_true rfl) rfl (fun Z C E => ?_)
  unfold f_X10_here at h
  show G J Z 0 0 (cs_X10 J.2.2.1 a0 m_thrown m_refused m_taped m_size m_at m_bad m_badKind m_opens m_faultAt m_tape m_newBed m_newLetter m_newReader m_bed m_letter m_reader m_newBeds m_newLetters m_newReaders m_beds m_letters m_readers m_newCode m_newOf m_code m_ofCode m_stack m_newCodes m_codes m_facts m_newStep m_step m_newSteps m_works m_refusedSteps m_begun m_done m_refusedNow m_now m_s m_past m_newBook m_book m_written m_mostBy m_stuffing m_stuffedMany m_lastBy m_leftBy m_splitBy m_seedNow m_image m_images) 1 [(0, .ref (a0 0))] 0 []
  exact j_X10_here_0 C E  FU m_at h
noncomputable def f_X10_isSmall  (n1 : Int32) : Option (Int32) := if n1 < 97 then some 0 else if 122 < n1 then some 0 else some 1
def rm_X10_isSmall : Room := { frames := 0, cells := 0, slots := 0, locals := 0 }
set_option maxRecDepth 100000 in
set_option maxHeartbeats 4000000 in
theorem t_X10_isSmall {J : Jt}  {n1 : Int32} {r : Int32} (h : f_X10_isSmall n1 = some r) : Mt J yX10_isSmall cX10_isSmall 1 (some .boolean) rm_X10_isSmall [.int n1] ([]) (some (.int r)) ([]) := by
  refine Mt_of (own := RX10) (by decide) rfl (Nat.le_of_ble_eq_true rfl) rfl (fun Z C E => ?_)
  unfold f_X10_isSmall at h
  show G J Z 0 0 ([]) 1 [(0, .int n1)] 0 []
  refine g_iload_n (pc := 0) C 0 rfl dX10_isSmall_0 ?_
  refine g_bipush (pc := 1) C dX10_isSmall_1 cb_97 ?_
  refine g_icmp_lt (pc := 3) C (tgt := 16) dX10_isSmall_3 rfl h (fun h => ?_) (fun h => ?_)
  · refine g_iconst (pc := 16) C dX10_isSmall_16 ci_0 ?_
    cases h
    exact g_zret C rfl E dX10_isSmall_17
  · refine g_iload_n (pc := 6) C 0 rfl dX10_isSmall_6 ?_
    refine g_bipush (pc := 7) C dX10_isSmall_7 cb_122 ?_
    refine g_icmp_gt (pc := 9) C (tgt := 16) dX10_isSmall_9 rfl h (fun h => ?_) (fun h => ?_)
    · refine g_iconst (pc := 16) C dX10_isSmall_16 ci_0 ?_
      cases h
      exact g_zret C rfl E dX10_isSmall_17
    · refine g_iconst (pc := 12) C dX10_isSmall_12 ci_1 ?_
      refine g_goto (pc := 13) C (tgt := 17) dX10_isSmall_13 rfl ?_
      cases h
      exact g_zret C rfl E dX10_isSmall_17
noncomputable def f_X10_isDigit  (n1 : Int32) : Option (Int32) := if n1 < 48 then some 0 else if 57 < n1 then some 0 else some 1
def rm_X10_isDigit : Room := { frames := 0, cells := 0, slots := 0, locals := 0 }
set_option maxRecDepth 100000 in
set_option maxHeartbeats 4000000 in
theorem t_X10_isDigit {J : Jt}  {n1 : Int32} {r : Int32} (h : f_X10_isDigit n1 = some r) : Mt J yX10_isDigit cX10_isDigit 1 (some .boolean) rm_X10_isDigit [.int n1] ([]) (some (.int r)) ([]) := by
  refine Mt_of (own := RX10) (by decide) rfl (Nat.le_of_ble_eq_true rfl) rfl (fun Z C E => ?_)
  unfold f_X10_isDigit at h
  show G J Z 0 0 ([]) 1 [(0, .int n1)] 0 []
  refine g_iload_n (pc := 0) C 0 rfl dX10_isDigit_0 ?_
  refine g_bipush (pc := 1) C dX10_isDigit_1 cb_48 ?_
  refine g_icmp_lt (pc := 3) C (tgt := 16) dX10_isDigit_3 rfl h (fun h => ?_) (fun h => ?_)
  · refine g_iconst (pc := 16) C dX10_isDigit_16 ci_0 ?_
    cases h
    exact g_zret C rfl E dX10_isDigit_17
  · refine g_iload_n (pc := 6) C 0 rfl dX10_isDigit_6 ?_
    refine g_bipush (pc := 7) C dX10_isDigit_7 cb_57 ?_
    refine g_icmp_gt (pc := 9) C (tgt := 16) dX10_isDigit_9 rfl h (fun h => ?_) (fun h => ?_)
    · refine g_iconst (pc := 16) C dX10_isDigit_16 ci_0 ?_
      cases h
      exact g_zret C rfl E dX10_isDigit_17
    · refine g_iconst (pc := 12) C dX10_isDigit_12 ci_1 ?_
      refine g_goto (pc := 13) C (tgt := 17) dX10_isDigit_13 rfl ?_
      cases h
      exact g_zret C rfl E dX10_isDigit_17
noncomputable def f_X10_wordHere_67 (m_size : Int32) (m_tape : Nat → Int32) (x1 : Int32) (x2 : Int32) (m_at : Int32) : Option (Int32 × Int32) := if x2 ≤ 6 then some (x1, m_at) else some (0, m_at)
noncomputable def f_X10_wordHere_14 (m_size : Int32) (m_tape : Nat → Int32) : Nat → Int32 → Int32 → Int32 → Int32 → Option (Int32 × Int32)
  | 0, _, _, _, _ => none
  | n + 1, x1, x2, x3, m_at => if m_size ≤ x3 then f_X10_wordHere_67 m_size m_tape x1 x2 m_at else if ixb x3 600 then b1 (f_X10_isSmall (m_tape x3.toNatClampNeg)) (fun v1 => if v1 = 0 then f_X10_wordHere_67 m_size m_tape x1 x2 m_at else if 6 ≤ x2 then f_X10_wordHere_14 m_size m_tape n 0 (x2 + 1) (x3 + 1) m_at else if ixb x3 600 then f_X10_wordHere_14 m_size m_tape n ((x1 <<< ((5 : Int32) &&& 31)) ||| ((m_tape x3.toNatClampNeg) - 96)) (x2 + 1) (x3 + 1) m_at else none) else none
noncomputable def f_X10_wordHere (m_size : Int32) (m_at : Int32) (m_tape : Nat → Int32) : Option (Int32 × Int32) := b2 (f_X10_here m_size m_at m_tape) (fun v2 c3 => f_X10_wordHere_14 m_size m_tape FU 0 0 c3 c3)
def rm_X10_wordHere : Room := { frames := 1, cells := 0, slots := 0, locals := 20 }
set_option maxRecDepth 100000 in
set_option maxHeartbeats 4000000 in
theorem j_X10_wordHere_67 {J : Jt} {Z : Zt} {a0 : Nat → Nat} {m_thrown : Int32} {m_refused : Nat → Int32} {m_taped : Int32} {m_size : Int32} {m_bad : Int32} {m_badKind : Int32} {m_opens : Int32} {m_faultAt : Int32} {m_tape : Nat → Int32} {m_newBed : Nat → Int32} {m_newLetter : Nat → Int32} {m_newReader : Nat → Int32} {m_bed : Nat → Int32} {m_letter : Nat → Int32} {m_reader : Nat → Int32} {m_newBeds : Int32} {m_newLetters : Int32} {m_newReaders : Int32} {m_beds : Int32} {m_letters : Int32} {m_readers : Int32} {m_newCode : Nat → Int32} {m_newOf : Nat → Int32} {m_code : Nat → Int32} {m_ofCode : Nat → Int32} {m_stack : Nat → Int32} {m_newCodes : Int32} {m_codes : Int32} {m_facts : Nat → Int32} {m_newStep : Nat → Int32} {m_step : Nat → Int32} {m_newSteps : Int32} {m_works : Int32} {m_refusedSteps : Int32} {m_begun : Int32} {m_done : Int32} {m_refusedNow : Int32} {m_now : Nat → Int32} {m_s : Nat → Int32} {m_past : Nat → Int32} {m_newBook : Nat → Int32} {m_book : Nat → Int32} {m_written : Int32} {m_mostBy : Nat → Int32} {m_stuffing : Nat → Int32} {m_stuffedMany : Int32} {m_lastBy : Nat → Int32} {m_leftBy : Nat → Int32} {m_splitBy : Nat → Int64} {m_seedNow : Int32} {m_image : Nat → Int32} {m_images : Int32} {r : Int32} {o_m_at : Int32} (C : Cx J Z cX10_wordHere 4 RX10 (some .int) rm_X10_wordHere) (E : Ez J Z 0 0 (some (.int r)) (cs_X10 J.2.2.1 a0 m_thrown m_refused m_taped m_size o_m_at m_bad m_badKind m_opens m_faultAt m_tape m_newBed m_newLetter m_newReader m_bed m_letter m_reader m_newBeds m_newLetters m_newReaders m_beds m_letters m_readers m_newCode m_newOf m_code m_ofCode m_stack m_newCodes m_codes m_facts m_newStep m_step m_newSteps m_works m_refusedSteps m_begun m_done m_refusedNow m_now m_s m_past m_newBook m_book m_written m_mostBy m_stuffing m_stuffedMany m_lastBy m_leftBy m_splitBy m_seedNow m_image m_images)) : ∀ (x1 : Int32) (x2 : Int32) (m_at : Int32), f_X10_wordHere_67 m_size m_tape x1 x2 m_at = some (r, o_m_at) → G J Z 0 0 (cs_X10 J.2.2.1 a0 m_thrown m_refused m_taped m_size m_at m_bad m_badKind m_opens m_faultAt m_tape m_newBed m_newLetter m_newReader m_bed m_letter m_reader m_newBeds m_newLetters m_newReaders m_beds m_letters m_readers m_newCode m_newOf m_code m_ofCode m_stack m_newCodes m_codes m_facts m_newStep m_step m_newSteps m_works m_refusedSteps m_begun m_done m_refusedNow m_now m_s m_past m_newBook m_book m_written m_mostBy m_stuffing m_stuffedMany m_lastBy m_leftBy m_splitBy m_seedNow m_image m_images) 4 [(1, .int x1), (2, .int x2)] 67 [] := by
  intro x1 x2 m_at h
  unfold f_X10_wordHere_67 at h
  refine g_iload_n (pc := 67) C 1 rfl dX10_wordHere_67 ?_
  refine g_bipush (pc := 68) C dX10_wordHere_68 cb_6 ?_
  refine g_icmp_le (pc := 70) C (tgt := 77) dX10_wordHere_70 rfl h (fun h => ?_) (fun h => ?_)
  · refine g_iload_n (pc := 77) C 0 rfl dX10_wordHere_77 ?_
    cases h
    exact g_iret C E dX10_wordHere_78
  · refine g_iconst (pc := 73) C dX10_wordHere_73 ci_0 ?_
    refine g_goto (pc := 74) C (tgt := 78) dX10_wordHere_74 rfl ?_
    cases h
    exact g_iret C E dX10_wordHere_78
set_option maxRecDepth 100000 in
set_option maxHeartbeats 4000000 in
theorem j_X10_wordHere_14 {J : Jt} {Z : Zt} {a0 : Nat → Nat} {m_thrown : Int32} {m_refused : Nat → Int32} {m_taped : Int32} {m_size : Int32} {m_bad : Int32} {m_badKind : Int32} {m_opens : Int32} {m_faultAt : Int32} {m_tape : Nat → Int32} {m_newBed : Nat → Int32} {m_newLetter : Nat → Int32} {m_newReader : Nat → Int32} {m_bed : Nat → Int32} {m_letter : Nat → Int32} {m_reader : Nat → Int32} {m_newBeds : Int32} {m_newLetters : Int32} {m_newReaders : Int32} {m_beds : Int32} {m_letters : Int32} {m_readers : Int32} {m_newCode : Nat → Int32} {m_newOf : Nat → Int32} {m_code : Nat → Int32} {m_ofCode : Nat → Int32} {m_stack : Nat → Int32} {m_newCodes : Int32} {m_codes : Int32} {m_facts : Nat → Int32} {m_newStep : Nat → Int32} {m_step : Nat → Int32} {m_newSteps : Int32} {m_works : Int32} {m_refusedSteps : Int32} {m_begun : Int32} {m_done : Int32} {m_refusedNow : Int32} {m_now : Nat → Int32} {m_s : Nat → Int32} {m_past : Nat → Int32} {m_newBook : Nat → Int32} {m_book : Nat → Int32} {m_written : Int32} {m_mostBy : Nat → Int32} {m_stuffing : Nat → Int32} {m_stuffedMany : Int32} {m_lastBy : Nat → Int32} {m_leftBy : Nat → Int32} {m_splitBy : Nat → Int64} {m_seedNow : Int32} {m_image : Nat → Int32} {m_images : Int32} {r : Int32} {o_m_at : Int32} (C : Cx J Z cX10_wordHere 4 RX10 (some .int) rm_X10_wordHere) (E : Ez J Z 0 0 (some (.int r)) (cs_X10 J.2.2.1 a0 m_thrown m_refused m_taped m_size o_m_at m_bad m_badKind m_opens m_faultAt m_tape m_newBed m_newLetter m_newReader m_bed m_letter m_reader m_newBeds m_newLetters m_newReaders m_beds m_letters m_readers m_newCode m_newOf m_code m_ofCode m_stack m_newCodes m_codes m_facts m_newStep m_step m_newSteps m_works m_refusedSteps m_begun m_done m_refusedNow m_now m_s m_past m_newBook m_book m_written m_mostBy m_stuffing m_stuffedMany m_lastBy m_leftBy m_splitBy m_seedNow m_image m_images)) : ∀ (n : Nat) (x1 : Int32) (x2 : Int32) (x3 : Int32) (m_at : Int32), f_X10_wordHere_14 m_size m_tape n x1 x2 x3 m_at = some (r, o_m_at) → G J Z 0 0 (cs_X10 J.2.2.1 a0 m_thrown m_refused m_taped m_size m_at m_bad m_badKind m_opens m_faultAt m_tape m_newBed m_newLetter m_newReader m_bed m_letter m_reader m_newBeds m_newLetters m_newReaders m_beds m_letters m_readers m_newCode m_newOf m_code m_ofCode m_stack m_newCodes m_codes m_facts m_newStep m_step m_newSteps m_works m_refusedSteps m_begun m_done m_refusedNow m_now m_s m_past m_newBook m_book m_written m_mostBy m_stuffing m_stuffedMany m_lastBy m_leftBy m_splitBy m_seedNow m_image m_images) 4 [(0, .ref (a0 0)), (1, .int x1), (2, .int x2), (3, .int x3)] 14 [] := by
  intro n
  induction n with
  | zero =>
    intro x1 x2 x3 m_at h
    rw [f_X10_wordHere_14] at h
    cases h
  | succ n ih =>
    intro x1 x2 x3 m_at h
    rw [f_X10_wordHere_14] at h
    refine g_iload_n (pc := 14) C 3 rfl dX10_wordHere_14 ?_
    refine g_aload_n (pc := 15) C 0 rfl dX10_wordHere_15 ?_
    refine g_get (pc := 16) C FOK_X10 0 rfl rfl 3 (by decide) kw_1280 rfl dX10_wordHere_16 ?_
    refine g_icmp_ge (pc := 19) C (tgt := 67) dX10_wordHere_19 rfl h (fun h => ?_) (fun h => ?_)
    · refine g_lv [1, 2] rfl ?_
      exact j_X10_wordHere_67 C E  x1 x2 m_at h
    · refine g_aload_n (pc := 22) C 0 rfl dX10_wordHere_22 ?_
      refine g_get (pc := 23) C FOK_X10 0 rfl rfl 9 (by decide) kw_1286 rfl dX10_wordHere_23 ?_
      refine g_iload_n (pc := 26) C 3 rfl dX10_wordHere_26 ?_
      obtain ⟨hi, h⟩ := ix_of h
      refine g_iald (pc := 27) C 2 rfl hi dX10_wordHere_27 ?_
      obtain ⟨v1, hc, h⟩ := b1_of h
      refine g_callS (pc := 28) C (w' := cs_X10 J.2.2.1 a0 m_thrown m_refused m_taped m_size m_at m_bad m_badKind m_opens m_faultAt m_tape m_newBed m_newLetter m_newReader m_bed m_letter m_reader m_newBeds m_newLetters m_newReaders m_beds m_letters m_readers m_newCode m_newOf m_code m_ofCode m_stack m_newCodes m_codes m_facts m_newStep m_step m_newSteps m_works m_refusedSteps m_begun m_done m_refusedNow m_now m_s m_past m_newBook m_book m_written m_mostBy m_stuffing m_stuffedMany m_lastBy m_leftBy m_splitBy m_seedNow m_image m_images) (As := [.int (m_tape x3.toNatClampNeg)]) (st := []) (t_X10_isSmall hc) Sub.nil kw_1474 kw_1475 kw_95 hy_X10_isSmall kw_1476 rfl (Nat.le_of_ble_eq_true rfl) (Nat.le_of_ble_eq_true rfl) (Nat.le_of_ble_eq_true rfl) (Nat.le_of_ble_eq_true rfl) (Nat.le_of_ble_eq_true rfl) dX10_wordHere_28 ?_
      refine g_if_eq (pc := 31) C (tgt := 67) dX10_wordHere_31 rfl h (fun h => ?_) (fun h => ?_)
      · refine g_lv [1, 2] rfl ?_
        exact j_X10_wordHere_67 C E  x1 x2 m_at h
      · refine g_iload_n (pc := 34) C 2 rfl dX10_wordHere_34 ?_
        refine g_bipush (pc := 35) C dX10_wordHere_35 cb_6 ?_
        refine g_icmp_ge (pc := 37) C (tgt := 56) dX10_wordHere_37 rfl h (fun h => ?_) (fun h => ?_)
        · refine g_iconst (pc := 56) C dX10_wordHere_56 ci_0 ?_
          refine g_istore_n (pc := 57) C [(1, .int 0), (0, .ref (a0 0)), (2, .int x2), (3, .int x3)] dX10_wordHere_57 rfl (by decide) rfl ?_
          refine g_iinc (pc := 58) C (j := 2) [(2, .int (x2 + 1)), (1, .int 0), (0, .ref (a0 0)), (3, .int x3)] dX10_wordHere_58 rfl (ii_1 _) (by decide) rfl ?_
          refine g_iinc (pc := 61) C (j := 3) [(3, .int (x3 + 1)), (2, .int (x2 + 1)), (1, .int 0), (0, .ref (a0 0))] dX10_wordHere_61 rfl (ii_1 _) (by decide) rfl ?_
          refine g_goto (pc := 64) C (tgt := 14) dX10_wordHere_64 rfl ?_
          refine g_lv [3, 2, 1, 0] rfl ?_
          exact ih 0 (x2 + 1) (x3 + 1) m_at h
        · refine g_iload_n (pc := 40) C 1 rfl dX10_wordHere_40 ?_
          refine g_iconst (pc := 41) C dX10_wordHere_41 ci_5 ?_
          refine g_ishl (pc := 42) C dX10_wordHere_42 ?_
          refine g_aload_n (pc := 43) C 0 rfl dX10_wordHere_43 ?_
          refine g_get (pc := 44) C FOK_X10 0 rfl rfl 9 (by decide) kw_1286 rfl dX10_wordHere_44 ?_
          refine g_iload_n (pc := 47) C 3 rfl dX10_wordHere_47 ?_
          obtain ⟨hi, h⟩ := ix_of h
          refine g_iald (pc := 48) C 2 rfl hi dX10_wordHere_48 ?_
          refine g_bipush (pc := 49) C dX10_wordHere_49 cb_96 ?_
          refine g_isub (pc := 51) C dX10_wordHere_51 ?_
          refine g_ior (pc := 52) C dX10_wordHere_52 ?_
          refine g_goto (pc := 53) C (tgt := 57) dX10_wordHere_53 rfl ?_
          refine g_istore_n (pc := 57) C [(1, .int ((x1 <<< ((5 : Int32) &&& 31)) ||| ((m_tape x3.toNatClampNeg) - 96))), (0, .ref (a0 0)), (2, .int x2), (3, .int x3)] dX10_wordHere_57 rfl (by decide) rfl ?_
          refine g_iinc (pc := 58) C (j := 2) [(2, .int (x2 + 1)), (1, .int ((x1 <<< ((5 : Int32) &&& 31)) ||| ((m_tape x3.toNatClampNeg) - 96))), (0, .ref (a0 0)), (3, .int x3)] dX10_wordHere_58 rfl (ii_1 _) (by decide) rfl ?_
          refine g_iinc (pc := 61) C (j := 3) [(3, .int (x3 + 1)), (2, .int (x2 + 1)), (1, .int ((x1 <<< ((5 : Int32) &&& 31)) ||| ((m_tape x3.toNatClampNeg) - 96))), (0, .ref (a0 0))] dX10_wordHere_61 rfl (ii_1 _) (by decide) rfl ?_
          refine g_goto (pc := 64) C (tgt := 14) dX10_wordHere_64 rfl ?_
          refine g_lv [3, 2, 1, 0] rfl ?_
          exact ih ((x1 <<< ((5 : Int32) &&& 31)) ||| ((m_tape x3.toNatClampNeg) - 96)) (x2 + 1) (x3 + 1) m_at h
set_option maxRecDepth 100000 in
set_option maxHeartbeats 4000000 in
theorem t_X10_wordHere {J : Jt} {a0 : Nat → Nat} {m_thrown : Int32} {m_refused : Nat → Int32} {m_taped : Int32} {m_size : Int32} {m_at : Int32} {m_bad : Int32} {m_badKind : Int32} {m_opens : Int32} {m_faultAt : Int32} {m_tape : Nat → Int32} {m_newBed : Nat → Int32} {m_newLetter : Nat → Int32} {m_newReader : Nat → Int32} {m_bed : Nat → Int32} {m_letter : Nat → Int32} {m_reader : Nat → Int32} {m_newBeds : Int32} {m_newLetters : Int32} {m_newReaders : Int32} {m_beds : Int32} {m_letters : Int32} {m_readers : Int32} {m_newCode : Nat → Int32} {m_newOf : Nat → Int32} {m_code : Nat → Int32} {m_ofCode : Nat → Int32} {m_stack : Nat → Int32} {m_newCodes : Int32} {m_codes : Int32} {m_facts : Nat → Int32} {m_newStep : Nat → Int32} {m_step : Nat → Int32} {m_newSteps : Int32} {m_works : Int32} {m_refusedSteps : Int32} {m_begun : Int32} {m_done : Int32} {m_refusedNow : Int32} {m_now : Nat → Int32} {m_s : Nat → Int32} {m_past : Nat → Int32} {m_newBook : Nat → Int32} {m_book : Nat → Int32} {m_written : Int32} {m_mostBy : Nat → Int32} {m_stuffing : Nat → Int32} {m_stuffedMany : Int32} {m_lastBy : Nat → Int32} {m_leftBy : Nat → Int32} {m_splitBy : Nat → Int64} {m_seedNow : Int32} {m_image : Nat → Int32} {m_images : Int32} {r : Int32} {o_m_at : Int32} (h : f_X10_wordHere m_size m_at m_tape = some (r, o_m_at)) : Mt J yX10_wordHere cX10_wordHere 4 (some .int) rm_X10_wordHere [.ref (a0 0)] (cs_X10 J.2.2.1 a0 m_thrown m_refused m_taped m_size m_at m_bad m_badKind m_opens m_faultAt m_tape m_newBed m_newLetter m_newReader m_bed m_letter m_reader m_newBeds m_newLetters m_newReaders m_beds m_letters m_readers m_newCode m_newOf m_code m_ofCode m_stack m_newCodes m_codes m_facts m_newStep m_step m_newSteps m_works m_refusedSteps m_begun m_done m_refusedNow m_now m_s m_past m_newBook m_book m_written m_mostBy m_stuffing m_stuffedMany m_lastBy m_leftBy m_splitBy m_seedNow m_image m_images) (some (.int r)) (cs_X10 J.2.2.1 a0 m_thrown m_refused m_taped m_size o_m_at m_bad m_badKind m_opens m_faultAt m_tape m_newBed m_newLetter m_newReader m_bed m_letter m_reader m_newBeds m_newLetters m_newReaders m_beds m_letters m_readers m_newCode m_newOf m_code m_ofCode m_stack m_newCodes m_codes m_facts m_newStep m_step m_newSteps m_works m_refusedSteps m_begun m_done m_refusedNow m_now m_s m_past m_newBook m_book m_written m_mostBy m_stuffing m_stuffedMany m_lastBy m_leftBy m_splitBy m_seedNow m_image m_images) := by
  refine Mt_of (own := RX10) (by decide) rfl (Nat.le_of_ble_eq_true rfl) rfl (fun Z C E => ?_)
  unfold f_X10_wordHere at h
  show G J Z 0 0 (cs_X10 J.2.2.1 a0 m_thrown m_refused m_taped m_size m_at m_bad m_badKind m_opens m_faultAt m_tape m_newBed m_newLetter m_newReader m_bed m_letter m_reader m_newBeds m_newLetters m_newReaders m_beds m_letters m_readers m_newCode m_newOf m_code m_ofCode m_stack m_newCodes m_codes m_facts m_newStep m_step m_newSteps m_works m_refusedSteps m_begun m_done m_refusedNow m_now m_s m_past m_newBook m_book m_written m_mostBy m_stuffing m_stuffedMany m_lastBy m_leftBy m_splitBy m_seedNow m_image m_images) 4 [(0, .ref (a0 0))] 0 []
  refine g_aload_n (pc := 0) C 0 rfl dX10_wordHere_0 ?_
  obtain ⟨v2, c3, hc, h⟩ := b2_of h
  refine g_callV (pc := 1) C (w' := cs_X10 J.2.2.1 a0 m_thrown m_refused m_taped m_size c3 m_bad m_badKind m_opens m_faultAt m_tape m_newBed m_newLetter m_newReader m_bed m_letter m_reader m_newBeds m_newLetters m_newReaders m_beds m_letters m_readers m_newCode m_newOf m_code m_ofCode m_stack m_newCodes m_codes m_facts m_newStep m_step m_newSteps m_works m_refusedSteps m_begun m_done m_refusedNow m_now m_s m_past m_newBook m_book m_written m_mostBy m_stuffing m_stuffedMany m_lastBy m_leftBy m_splitBy m_seedNow m_image m_images) (As := []) (st := []) (ci := 10) (q0 := 0) rfl rfl (t_X10_here (a0 := a0) hc) Sub.same kw_1466 kw_1468 kw_24 kw_95 hy_X10_here kw_1469 rfl (Nat.le_of_ble_eq_true rfl) (Nat.le_of_ble_eq_true rfl) (Nat.le_of_ble_eq_true rfl) (Nat.le_of_ble_eq_true rfl) (Nat.le_of_ble_eq_true rfl) dX10_wordHere_1 ?_
  refine g_pop (pc := 4) C dX10_wordHere_4 rfl ?_
  refine g_iconst (pc := 5) C dX10_wordHere_5 ci_0 ?_
  refine g_istore_n (pc := 6) C [(1, .int 0), (0, .ref (a0 0))] dX10_wordHere_6 rfl (by decide) rfl ?_
  refine g_iconst (pc := 7) C dX10_wordHere_7 ci_0 ?_
  refine g_istore_n (pc := 8) C [(2, .int 0), (1, .int 0), (0, .ref (a0 0))] dX10_wordHere_8 rfl (by decide) rfl ?_
  refine g_aload_n (pc := 9) C 2 rfl dX10_wordHere_9 ?_
  refine g_get (pc := 10) C FOK_X10 0 rfl rfl 4 (by decide) kw_1281 rfl dX10_wordHere_10 ?_
  refine g_istore_n (pc := 13) C [(3, .int c3), (2, .int 0), (1, .int 0), (0, .ref (a0 0))] dX10_wordHere_13 rfl (by decide) rfl ?_
  refine g_lv [3, 2, 1, 0] rfl ?_
  exact j_X10_wordHere_14 C E  FU 0 0 c3 c3 h
noncomputable def f_X10_pass_0 (m_size : Int32) (m_tape : Nat → Int32) : Nat → Int32 → Option (Int32)
  | 0, _ => none
  | n + 1, m_at => if m_size ≤ m_at then some m_at else if ixb m_at 600 then b1 (f_X10_isSmall (m_tape m_at.toNatClampNeg)) (fun v1 => if v1 = 0 then some m_at else f_X10_pass_0 m_size m_tape n (m_at + 1)) else none
noncomputable def f_X10_pass (m_size : Int32) (m_at : Int32) (m_tape : Nat → Int32) : Option (Int32) := f_X10_pass_0 m_size m_tape FU m_at
def rm_X10_pass : Room := { frames := 1, cells := 0, slots := 0, locals := 20 }
set_option maxRecDepth 100000 in
set_option maxHeartbeats 4000000 in
theorem j_X10_pass_0 {J : Jt} {Z : Zt} {a0 : Nat → Nat} {m_thrown : Int32} {m_refused : Nat → Int32} {m_taped : Int32} {m_size : Int32} {m_bad : Int32} {m_badKind : Int32} {m_opens : Int32} {m_faultAt : Int32} {m_tape : Nat → Int32} {m_newBed : Nat → Int32} {m_newLetter : Nat → Int32} {m_newReader : Nat → Int32} {m_bed : Nat → Int32} {m_letter : Nat → Int32} {m_reader : Nat → Int32} {m_newBeds : Int32} {m_newLetters : Int32} {m_newReaders : Int32} {m_beds : Int32} {m_letters : Int32} {m_readers : Int32} {m_newCode : Nat → Int32} {m_newOf : Nat → Int32} {m_code : Nat → Int32} {m_ofCode : Nat → Int32} {m_stack : Nat → Int32} {m_newCodes : Int32} {m_codes : Int32} {m_facts : Nat → Int32} {m_newStep : Nat → Int32} {m_step : Nat → Int32} {m_newSteps : Int32} {m_works : Int32} {m_refusedSteps : Int32} {m_begun : Int32} {m_done : Int32} {m_refusedNow : Int32} {m_now : Nat → Int32} {m_s : Nat → Int32} {m_past : Nat → Int32} {m_newBook : Nat → Int32} {m_book : Nat → Int32} {m_written : Int32} {m_mostBy : Nat → Int32} {m_stuffing : Nat → Int32} {m_stuffedMany : Int32} {m_lastBy : Nat → Int32} {m_leftBy : Nat → Int32} {m_splitBy : Nat → Int64} {m_seedNow : Int32} {m_image : Nat → Int32} {m_images : Int32} {o_m_at : Int32} (C : Cx J Z cX10_pass 1 RX10 none rm_X10_pass) (E : Ez J Z 0 0 none (cs_X10 J.2.2.1 a0 m_thrown m_refused m_taped m_size o_m_at m_bad m_badKind m_opens m_faultAt m_tape m_newBed m_newLetter m_newReader m_bed m_letter m_reader m_newBeds m_newLetters m_newReaders m_beds m_letters m_readers m_newCode m_newOf m_code m_ofCode m_stack m_newCodes m_codes m_facts m_newStep m_step m_newSteps m_works m_refusedSteps m_begun m_done m_refusedNow m_now m_s m_past m_newBook m_book m_written m_mostBy m_stuffing m_stuffedMany m_lastBy m_leftBy m_splitBy m_seedNow m_image m_images)) : ∀ (n : Nat) (m_at : Int32), f_X10_pass_0 m_size m_tape n m_at = some o_m_at → G J Z 0 0 (cs_X10 J.2.2.1 a0 m_thrown m_refused m_taped m_size m_at m_bad m_badKind m_opens m_faultAt m_tape m_newBed m_newLetter m_newReader m_bed m_letter m_reader m_newBeds m_newLetters m_newReaders m_beds m_letters m_readers m_newCode m_newOf m_code m_ofCode m_stack m_newCodes m_codes m_facts m_newStep m_step m_newSteps m_works m_refusedSteps m_begun m_done m_refusedNow m_now m_s m_past m_newBook m_book m_written m_mostBy m_stuffing m_stuffedMany m_lastBy m_leftBy m_splitBy m_seedNow m_image m_images) 1 [(0, .ref (a0 0))] 0 [] := by
  intro n
  induction n with
  | zero =>
    intro m_at h
    rw [f_X10_pass_0] at h
    cases h
  | succ n ih =>
    intro m_at h
    rw [f_X10_pass_0] at h
    refine g_aload_n (pc := 0) C 0 rfl dX10_pass_0 ?_
    refine g_get (pc := 1) C FOK_X10 0 rfl rfl 4 (by decide) kw_1281 rfl dX10_pass_1 ?_
    refine g_aload_n (pc := 4) C 0 rfl dX10_pass_4 ?_
    refine g_get (pc := 5) C FOK_X10 0 rfl rfl 3 (by decide) kw_1280 rfl dX10_pass_5 ?_
    refine g_icmp_ge (pc := 8) C (tgt := 39) dX10_pass_8 rfl h (fun h => ?_) (fun h => ?_)
    · cases h
      exact g_vret C E dX10_pass_39
    · refine g_aload_n (pc := 11) C 0 rfl dX10_pass_11 ?_
      refine g_get (pc := 12) C FOK_X10 0 rfl rfl 9 (by decide) kw_1286 rfl dX10_pass_12 ?_
      refine g_aload_n (pc := 15) C 0 rfl dX10_pass_15 ?_
      refine g_get (pc := 16) C FOK_X10 0 rfl rfl 4 (by decide) kw_1281 rfl dX10_pass_16 ?_
      obtain ⟨hi, h⟩ := ix_of h
      refine g_iald (pc := 19) C 2 rfl hi dX10_pass_19 ?_
      obtain ⟨v1, hc, h⟩ := b1_of h
      refine g_callS (pc := 20) C (w' := cs_X10 J.2.2.1 a0 m_thrown m_refused m_taped m_size m_at m_bad m_badKind m_opens m_faultAt m_tape m_newBed m_newLetter m_newReader m_bed m_letter m_reader m_newBeds m_newLetters m_newReaders m_beds m_letters m_readers m_newCode m_newOf m_code m_ofCode m_stack m_newCodes m_codes m_facts m_newStep m_step m_newSteps m_works m_refusedSteps m_begun m_done m_refusedNow m_now m_s m_past m_newBook m_book m_written m_mostBy m_stuffing m_stuffedMany m_lastBy m_leftBy m_splitBy m_seedNow m_image m_images) (As := [.int (m_tape m_at.toNatClampNeg)]) (st := []) (t_X10_isSmall hc) Sub.nil kw_1474 kw_1475 kw_95 hy_X10_isSmall kw_1476 rfl (Nat.le_of_ble_eq_true rfl) (Nat.le_of_ble_eq_true rfl) (Nat.le_of_ble_eq_true rfl) (Nat.le_of_ble_eq_true rfl) (Nat.le_of_ble_eq_true rfl) dX10_pass_20 ?_
      refine g_if_eq (pc := 23) C (tgt := 39) dX10_pass_23 rfl h (fun h => ?_) (fun h => ?_)
      · cases h
        exact g_vret C E dX10_pass_39
      · refine g_aload_n (pc := 26) C 0 rfl dX10_pass_26 ?_
        refine g_dup (pc := 27) C dX10_pass_27 rfl ?_
        refine g_get (pc := 28) C FOK_X10 0 rfl rfl 4 (by decide) kw_1281 rfl dX10_pass_28 ?_
        refine g_iconst (pc := 31) C dX10_pass_31 ci_1 ?_
        refine g_iadd (pc := 32) C dX10_pass_32 ?_
        refine g_put (pc := 33) C (w' := cs_X10 J.2.2.1 a0 m_thrown m_refused m_taped m_size (m_at + 1) m_bad m_badKind m_opens m_faultAt m_tape m_newBed m_newLetter m_newReader m_bed m_letter m_reader m_newBeds m_newLetters m_newReaders m_beds m_letters m_readers m_newCode m_newOf m_code m_ofCode m_stack m_newCodes m_codes m_facts m_newStep m_step m_newSteps m_works m_refusedSteps m_begun m_done m_refusedNow m_now m_s m_past m_newBook m_book m_written m_mostBy m_stuffing m_stuffedMany m_lastBy m_leftBy m_splitBy m_seedNow m_image m_images) FOK_X10 0 rfl rfl 4 (by decide) kw_1281 rfl rfl rfl (Nat.le_of_ble_eq_true rfl) dX10_pass_33 rfl ?_
        refine g_goto (pc := 36) C (tgt := 0) dX10_pass_36 rfl ?_
        exact ih (m_at + 1) h
set_option maxRecDepth 100000 in
set_option maxHeartbeats 4000000 in
theorem t_X10_pass {J : Jt} {a0 : Nat → Nat} {m_thrown : Int32} {m_refused : Nat → Int32} {m_taped : Int32} {m_size : Int32} {m_at : Int32} {m_bad : Int32} {m_badKind : Int32} {m_opens : Int32} {m_faultAt : Int32} {m_tape : Nat → Int32} {m_newBed : Nat → Int32} {m_newLetter : Nat → Int32} {m_newReader : Nat → Int32} {m_bed : Nat → Int32} {m_letter : Nat → Int32} {m_reader : Nat → Int32} {m_newBeds : Int32} {m_newLetters : Int32} {m_newReaders : Int32} {m_beds : Int32} {m_letters : Int32} {m_readers : Int32} {m_newCode : Nat → Int32} {m_newOf : Nat → Int32} {m_code : Nat → Int32} {m_ofCode : Nat → Int32} {m_stack : Nat → Int32} {m_newCodes : Int32} {m_codes : Int32} {m_facts : Nat → Int32} {m_newStep : Nat → Int32} {m_step : Nat → Int32} {m_newSteps : Int32} {m_works : Int32} {m_refusedSteps : Int32} {m_begun : Int32} {m_done : Int32} {m_refusedNow : Int32} {m_now : Nat → Int32} {m_s : Nat → Int32} {m_past : Nat → Int32} {m_newBook : Nat → Int32} {m_book : Nat → Int32} {m_written : Int32} {m_mostBy : Nat → Int32} {m_stuffing : Nat → Int32} {m_stuffedMany : Int32} {m_lastBy : Nat → Int32} {m_leftBy : Nat → Int32} {m_splitBy : Nat → Int64} {m_seedNow : Int32} {m_image : Nat → Int32} {m_images : Int32} {o_m_at : Int32} (h : f_X10_pass m_size m_at m_tape = some o_m_at) : Mt J yX10_pass cX10_pass 1 none rm_X10_pass [.ref (a0 0)] (cs_X10 J.2.2.1 a0 m_thrown m_refused m_taped m_size m_at m_bad m_badKind m_opens m_faultAt m_tape m_newBed m_newLetter m_newReader m_bed m_letter m_reader m_newBeds m_newLetters m_newReaders m_beds m_letters m_readers m_newCode m_newOf m_code m_ofCode m_stack m_newCodes m_codes m_facts m_newStep m_step m_newSteps m_works m_refusedSteps m_begun m_done m_refusedNow m_now m_s m_past m_newBook m_book m_written m_mostBy m_stuffing m_stuffedMany m_lastBy m_leftBy m_splitBy m_seedNow m_image m_images) none (cs_X10 J.2.2.1 a0 m_thrown m_refused m_taped m_size o_m_at m_bad m_badKind m_opens m_faultAt m_tape m_newBed m_newLetter m_newReader m_bed m_letter m_reader m_newBeds m_newLetters m_newReaders m_beds m_letters m_readers m_newCode m_newOf m_code m_ofCode m_stack m_newCodes m_codes m_facts m_newStep m_step m_newSteps m_works m_refusedSteps m_begun m_done m_refusedNow m_now m_s m_past m_newBook m_book m_written m_mostBy m_stuffing m_stuffedMany m_lastBy m_leftBy m_splitBy m_seedNow m_image m_images) := by
  refine Mt_of (own := RX10) (by decide) rfl (Nat.le_of_ble_eq_true rfl) rfl (fun Z C E => ?_)
  unfold f_X10_pass at h
  show G J Z 0 0 (cs_X10 J.2.2.1 a0 m_thrown m_refused m_taped m_size m_at m_bad m_badKind m_opens m_faultAt m_tape m_newBed m_newLetter m_newReader m_bed m_letter m_reader m_newBeds m_newLetters m_newReaders m_beds m_letters m_readers m_newCode m_newOf m_code m_ofCode m_stack m_newCodes m_codes m_facts m_newStep m_step m_newSteps m_works m_refusedSteps m_begun m_done m_refusedNow m_now m_s m_past m_newBook m_book m_written m_mostBy m_stuffing m_stuffedMany m_lastBy m_leftBy m_splitBy m_seedNow m_image m_images) 1 [(0, .ref (a0 0))] 0 []
  exact j_X10_pass_0 C E  FU m_at h
noncomputable def f_X10_readNumber_126 (m_size : Int32) (m_tape : Nat → Int32) (n1 : Int32) (n2 : Int32) (x4 : Int32) (m_at : Int32) (m_bad : Int32) (m_badKind : Int32) : Option (Int32 × Int32 × Int32 × Int32) := b2 (f_X10_wrong m_bad m_badKind 2 x4) (fun c1 c2 => some (0, m_at, c1, c2))
noncomputable def f_X10_readNumber_114 (m_size : Int32) (m_tape : Nat → Int32) (n1 : Int32) (n2 : Int32) (x4 : Int32) (x5 : Int32) (m_at : Int32) (m_bad : Int32) (m_badKind : Int32) : Option (Int32 × Int32 × Int32 × Int32) := if x5 < n1 then f_X10_readNumber_126 m_size m_tape n1 n2 x4 m_at m_bad m_badKind else if x5 ≤ n2 then some (x5, m_at, m_bad, m_badKind) else f_X10_readNumber_126 m_size m_tape n1 n2 x4 m_at m_bad m_badKind
noncomputable def f_X10_readNumber_99 (m_size : Int32) (m_tape : Nat → Int32) (n1 : Int32) (n2 : Int32) (k41 : Int32 → Int32 → Int32 → Int32 → Int32 → Option (Int32 × Int32 × Int32 × Int32)) (x4 : Int32) (y0 : Int32) (m_at : Int32) (m_bad : Int32) (m_badKind : Int32) : Option (Int32 × Int32 × Int32 × Int32) := k41 x4 y0 (m_at + 1) m_bad m_badKind
noncomputable def f_X10_readNumber_41 (m_size : Int32) (m_tape : Nat → Int32) (n1 : Int32) (n2 : Int32) : Nat → Int32 → Int32 → Int32 → Int32 → Int32 → Option (Int32 × Int32 × Int32 × Int32)
  | 0, _, _, _, _, _ => none
  | n + 1, x4, x5, m_at, m_bad, m_badKind => if m_size ≤ m_at then f_X10_readNumber_114 m_size m_tape n1 n2 x4 x5 m_at m_bad m_badKind else if ixb m_at 600 then b1 (f_X10_isDigit (m_tape m_at.toNatClampNeg)) (fun v3 => if v3 = 0 then f_X10_readNumber_114 m_size m_tape n1 n2 x4 x5 m_at m_bad m_badKind else if x5 ≤ 9999 then if ixb m_at 600 then f_X10_readNumber_99 m_size m_tape n1 n2 (f_X10_readNumber_41 m_size m_tape n1 n2 n) x4 (((10 * x5) + (m_tape m_at.toNatClampNeg)) - 48) m_at m_bad m_badKind else none else f_X10_readNumber_99 m_size m_tape n1 n2 (f_X10_readNumber_41 m_size m_tape n1 n2 n) x4 10000 m_at m_bad m_badKind) else none
noncomputable def f_X10_readNumber (m_size : Int32) (m_at : Int32) (m_bad : Int32) (m_badKind : Int32) (m_tape : Nat → Int32) (n1 : Int32) (n2 : Int32) : Option (Int32 × Int32 × Int32 × Int32) := b1 (f_X10_fine m_bad) (fun v4 => if v4 = 0 then some (0, m_at, m_bad, m_badKind) else b2 (f_X10_here m_size m_at m_tape) (fun v5 c6 => b1 (f_X10_isDigit v5) (fun v7 => if v7 = 0 then b2 (f_X10_wrong m_bad m_badKind 1 c6) (fun c8 c9 => some (0, c6, c8, c9)) else f_X10_readNumber_41 m_size m_tape n1 n2 FU c6 0 c6 m_bad m_badKind)))
def rm_X10_readNumber : Room := { frames := 1, cells := 0, slots := 0, locals := 22 }
set_option maxRecDepth 100000 in
set_option maxHeartbeats 4000000 in
theorem j_X10_readNumber_126 {J : Jt} {Z : Zt} {a0 : Nat → Nat} {m_thrown : Int32} {m_refused : Nat → Int32} {m_taped : Int32} {m_size : Int32} {m_opens : Int32} {m_faultAt : Int32} {m_tape : Nat → Int32} {m_newBed : Nat → Int32} {m_newLetter : Nat → Int32} {m_newReader : Nat → Int32} {m_bed : Nat → Int32} {m_letter : Nat → Int32} {m_reader : Nat → Int32} {m_newBeds : Int32} {m_newLetters : Int32} {m_newReaders : Int32} {m_beds : Int32} {m_letters : Int32} {m_readers : Int32} {m_newCode : Nat → Int32} {m_newOf : Nat → Int32} {m_code : Nat → Int32} {m_ofCode : Nat → Int32} {m_stack : Nat → Int32} {m_newCodes : Int32} {m_codes : Int32} {m_facts : Nat → Int32} {m_newStep : Nat → Int32} {m_step : Nat → Int32} {m_newSteps : Int32} {m_works : Int32} {m_refusedSteps : Int32} {m_begun : Int32} {m_done : Int32} {m_refusedNow : Int32} {m_now : Nat → Int32} {m_s : Nat → Int32} {m_past : Nat → Int32} {m_newBook : Nat → Int32} {m_book : Nat → Int32} {m_written : Int32} {m_mostBy : Nat → Int32} {m_stuffing : Nat → Int32} {m_stuffedMany : Int32} {m_lastBy : Nat → Int32} {m_leftBy : Nat → Int32} {m_splitBy : Nat → Int64} {m_seedNow : Int32} {m_image : Nat → Int32} {m_images : Int32} {n1 : Int32} {n2 : Int32} {r : Int32} {o_m_at : Int32} {o_m_bad : Int32} {o_m_badKind : Int32} (C : Cx J Z cX10_readNumber 6 RX10 (some .int) rm_X10_readNumber) (E : Ez J Z 0 0 (some (.int r)) (cs_X10 J.2.2.1 a0 m_thrown m_refused m_taped m_size o_m_at o_m_bad o_m_badKind m_opens m_faultAt m_tape m_newBed m_newLetter m_newReader m_bed m_letter m_reader m_newBeds m_newLetters m_newReaders m_beds m_letters m_readers m_newCode m_newOf m_code m_ofCode m_stack m_newCodes m_codes m_facts m_newStep m_step m_newSteps m_works m_refusedSteps m_begun m_done m_refusedNow m_now m_s m_past m_newBook m_book m_written m_mostBy m_stuffing m_stuffedMany m_lastBy m_leftBy m_splitBy m_seedNow m_image m_images)) : ∀ (x4 : Int32) (m_at : Int32) (m_bad : Int32) (m_badKind : Int32), f_X10_readNumber_126 m_size m_tape n1 n2 x4 m_at m_bad m_badKind = some (r, o_m_at, o_m_bad, o_m_badKind) → G J Z 0 0 (cs_X10 J.2.2.1 a0 m_thrown m_refused m_taped m_size m_at m_bad m_badKind m_opens m_faultAt m_tape m_newBed m_newLetter m_newReader m_bed m_letter m_reader m_newBeds m_newLetters m_newReaders m_beds m_letters m_readers m_newCode m_newOf m_code m_ofCode m_stack m_newCodes m_codes m_facts m_newStep m_step m_newSteps m_works m_refusedSteps m_begun m_done m_refusedNow m_now m_s m_past m_newBook m_book m_written m_mostBy m_stuffing m_stuffedMany m_lastBy m_leftBy m_splitBy m_seedNow m_image m_images) 6 [(0, .ref (a0 0)), (4, .int x4)] 126 [] := by
  intro x4 m_at m_bad m_badKind h
  unfold f_X10_readNumber_126 at h
  refine g_aload_n (pc := 126) C 0 rfl dX10_readNumber_126 ?_
  refine g_iconst (pc := 127) C dX10_readNumber_127 ci_2 ?_
  refine g_iload (pc := 128) C 1 rfl dX10_readNumber_128 ?_
  obtain ⟨c1, c2, hc, h⟩ := b2_of h
  refine g_callV (pc := 130) C (w' := cs_X10 J.2.2.1 a0 m_thrown m_refused m_taped m_size m_at c1 c2 m_opens m_faultAt m_tape m_newBed m_newLetter m_newReader m_bed m_letter m_reader m_newBeds m_newLetters m_newReaders m_beds m_letters m_readers m_newCode m_newOf m_code m_ofCode m_stack m_newCodes m_codes m_facts m_newStep m_step m_newSteps m_works m_refusedSteps m_begun m_done m_refusedNow m_now m_s m_past m_newBook m_book m_written m_mostBy m_stuffing m_stuffedMany m_lastBy m_leftBy m_splitBy m_seedNow m_image m_images) (As := [.int 2, .int x4]) (st := []) (ci := 10) (q0 := 0) rfl rfl (t_X10_wrong (a0 := a0) hc) Sub.same kw_1488 kw_1490 kw_26 kw_95 hy_X10_wrong kw_1491 rfl (Nat.le_of_ble_eq_true rfl) (Nat.le_of_ble_eq_true rfl) (Nat.le_of_ble_eq_true rfl) (Nat.le_of_ble_eq_true rfl) (Nat.le_of_ble_eq_true rfl) dX10_readNumber_130 ?_
  refine g_iconst (pc := 133) C dX10_readNumber_133 ci_0 ?_
  cases h
  exact g_iret C E dX10_readNumber_134
set_option maxRecDepth 100000 in
set_option maxHeartbeats 4000000 in
theorem j_X10_readNumber_114 {J : Jt} {Z : Zt} {a0 : Nat → Nat} {m_thrown : Int32} {m_refused : Nat → Int32} {m_taped : Int32} {m_size : Int32} {m_opens : Int32} {m_faultAt : Int32} {m_tape : Nat → Int32} {m_newBed : Nat → Int32} {m_newLetter : Nat → Int32} {m_newReader : Nat → Int32} {m_bed : Nat → Int32} {m_letter : Nat → Int32} {m_reader : Nat → Int32} {m_newBeds : Int32} {m_newLetters : Int32} {m_newReaders : Int32} {m_beds : Int32} {m_letters : Int32} {m_readers : Int32} {m_newCode : Nat → Int32} {m_newOf : Nat → Int32} {m_code : Nat → Int32} {m_ofCode : Nat → Int32} {m_stack : Nat → Int32} {m_newCodes : Int32} {m_codes : Int32} {m_facts : Nat → Int32} {m_newStep : Nat → Int32} {m_step : Nat → Int32} {m_newSteps : Int32} {m_works : Int32} {m_refusedSteps : Int32} {m_begun : Int32} {m_done : Int32} {m_refusedNow : Int32} {m_now : Nat → Int32} {m_s : Nat → Int32} {m_past : Nat → Int32} {m_newBook : Nat → Int32} {m_book : Nat → Int32} {m_written : Int32} {m_mostBy : Nat → Int32} {m_stuffing : Nat → Int32} {m_stuffedMany : Int32} {m_lastBy : Nat → Int32} {m_leftBy : Nat → Int32} {m_splitBy : Nat → Int64} {m_seedNow : Int32} {m_image : Nat → Int32} {m_images : Int32} {n1 : Int32} {n2 : Int32} {r : Int32} {o_m_at : Int32} {o_m_bad : Int32} {o_m_badKind : Int32} (C : Cx J Z cX10_readNumber 6 RX10 (some .int) rm_X10_readNumber) (E : Ez J Z 0 0 (some (.int r)) (cs_X10 J.2.2.1 a0 m_thrown m_refused m_taped m_size o_m_at o_m_bad o_m_badKind m_opens m_faultAt m_tape m_newBed m_newLetter m_newReader m_bed m_letter m_reader m_newBeds m_newLetters m_newReaders m_beds m_letters m_readers m_newCode m_newOf m_code m_ofCode m_stack m_newCodes m_codes m_facts m_newStep m_step m_newSteps m_works m_refusedSteps m_begun m_done m_refusedNow m_now m_s m_past m_newBook m_book m_written m_mostBy m_stuffing m_stuffedMany m_lastBy m_leftBy m_splitBy m_seedNow m_image m_images)) : ∀ (x4 : Int32) (x5 : Int32) (m_at : Int32) (m_bad : Int32) (m_badKind : Int32), f_X10_readNumber_114 m_size m_tape n1 n2 x4 x5 m_at m_bad m_badKind = some (r, o_m_at, o_m_bad, o_m_badKind) → G J Z 0 0 (cs_X10 J.2.2.1 a0 m_thrown m_refused m_taped m_size m_at m_bad m_badKind m_opens m_faultAt m_tape m_newBed m_newLetter m_newReader m_bed m_letter m_reader m_newBeds m_newLetters m_newReaders m_beds m_letters m_readers m_newCode m_newOf m_code m_ofCode m_stack m_newCodes m_codes m_facts m_newStep m_step m_newSteps m_works m_refusedSteps m_begun m_done m_refusedNow m_now m_s m_past m_newBook m_book m_written m_mostBy m_stuffing m_stuffedMany m_lastBy m_leftBy m_splitBy m_seedNow m_image m_images) 6 [(0, .ref (a0 0)), (1, .int n1), (2, .int n2), (4, .int x4), (5, .int x5)] 114 [] := by
  intro x4 x5 m_at m_bad m_badKind h
  unfold f_X10_readNumber_114 at h
  refine g_iload (pc := 114) C 4 rfl dX10_readNumber_114 ?_
  refine g_iload_n (pc := 116) C 1 rfl dX10_readNumber_116 ?_
  refine g_icmp_lt (pc := 117) C (tgt := 126) dX10_readNumber_117 rfl h (fun h => ?_) (fun h => ?_)
  · refine g_lv [0, 3] rfl ?_
    exact j_X10_readNumber_126 C E  x4 m_at m_bad m_badKind h
  · refine g_iload (pc := 120) C 4 rfl dX10_readNumber_120 ?_
    refine g_iload_n (pc := 122) C 2 rfl dX10_readNumber_122 ?_
    refine g_icmp_le (pc := 123) C (tgt := 135) dX10_readNumber_123 rfl h (fun h => ?_) (fun h => ?_)
    · refine g_iload (pc := 135) C 4 rfl dX10_readNumber_135 ?_
      cases h
      exact g_iret C E dX10_readNumber_137
    · refine g_lv [0, 3] rfl ?_
      exact j_X10_readNumber_126 C E  x4 m_at m_bad m_badKind h
set_option maxRecDepth 100000 in
set_option maxHeartbeats 4000000 in
theorem j_X10_readNumber_99 {J : Jt} {Z : Zt} {a0 : Nat → Nat} {m_thrown : Int32} {m_refused : Nat → Int32} {m_taped : Int32} {m_size : Int32} {m_opens : Int32} {m_faultAt : Int32} {m_tape : Nat → Int32} {m_newBed : Nat → Int32} {m_newLetter : Nat → Int32} {m_newReader : Nat → Int32} {m_bed : Nat → Int32} {m_letter : Nat → Int32} {m_reader : Nat → Int32} {m_newBeds : Int32} {m_newLetters : Int32} {m_newReaders : Int32} {m_beds : Int32} {m_letters : Int32} {m_readers : Int32} {m_newCode : Nat → Int32} {m_newOf : Nat → Int32} {m_code : Nat → Int32} {m_ofCode : Nat → Int32} {m_stack : Nat → Int32} {m_newCodes : Int32} {m_codes : Int32} {m_facts : Nat → Int32} {m_newStep : Nat → Int32} {m_step : Nat → Int32} {m_newSteps : Int32} {m_works : Int32} {m_refusedSteps : Int32} {m_begun : Int32} {m_done : Int32} {m_refusedNow : Int32} {m_now : Nat → Int32} {m_s : Nat → Int32} {m_past : Nat → Int32} {m_newBook : Nat → Int32} {m_book : Nat → Int32} {m_written : Int32} {m_mostBy : Nat → Int32} {m_stuffing : Nat → Int32} {m_stuffedMany : Int32} {m_lastBy : Nat → Int32} {m_leftBy : Nat → Int32} {m_splitBy : Nat → Int64} {m_seedNow : Int32} {m_image : Nat → Int32} {m_images : Int32} {n1 : Int32} {n2 : Int32} {r : Int32} {o_m_at : Int32} {o_m_bad : Int32} {o_m_badKind : Int32} {k41 : Int32 → Int32 → Int32 → Int32 → Int32 → Option (Int32 × Int32 × Int32 × Int32)} (C : Cx J Z cX10_readNumber 6 RX10 (some .int) rm_X10_readNumber) (E : Ez J Z 0 0 (some (.int r)) (cs_X10 J.2.2.1 a0 m_thrown m_refused m_taped m_size o_m_at o_m_bad o_m_badKind m_opens m_faultAt m_tape m_newBed m_newLetter m_newReader m_bed m_letter m_reader m_newBeds m_newLetters m_newReaders m_beds m_letters m_readers m_newCode m_newOf m_code m_ofCode m_stack m_newCodes m_codes m_facts m_newStep m_step m_newSteps m_works m_refusedSteps m_begun m_done m_refusedNow m_now m_s m_past m_newBook m_book m_written m_mostBy m_stuffing m_stuffedMany m_lastBy m_leftBy m_splitBy m_seedNow m_image m_images)) (hk41 : ∀ (x4 : Int32) (x5 : Int32) (m_at : Int32) (m_bad : Int32) (m_badKind : Int32), k41 x4 x5 m_at m_bad m_badKind = some (r, o_m_at, o_m_bad, o_m_badKind) → G J Z 0 0 (cs_X10 J.2.2.1 a0 m_thrown m_refused m_taped m_size m_at m_bad m_badKind m_opens m_faultAt m_tape m_newBed m_newLetter m_newReader m_bed m_letter m_reader m_newBeds m_newLetters m_newReaders m_beds m_letters m_readers m_newCode m_newOf m_code m_ofCode m_stack m_newCodes m_codes m_facts m_newStep m_step m_newSteps m_works m_refusedSteps m_begun m_done m_refusedNow m_now m_s m_past m_newBook m_book m_written m_mostBy m_stuffing m_stuffedMany m_lastBy m_leftBy m_splitBy m_seedNow m_image m_images) 6 [(0, .ref (a0 0)), (1, .int n1), (2, .int n2), (4, .int x4), (5, .int x5)] 41 []) : ∀ (x4 : Int32) (y0 : Int32) (m_at : Int32) (m_bad : Int32) (m_badKind : Int32), f_X10_readNumber_99 m_size m_tape n1 n2 k41 x4 y0 m_at m_bad m_badKind = some (r, o_m_at, o_m_bad, o_m_badKind) → G J Z 0 0 (cs_X10 J.2.2.1 a0 m_thrown m_refused m_taped m_size m_at m_bad m_badKind m_opens m_faultAt m_tape m_newBed m_newLetter m_newReader m_bed m_letter m_reader m_newBeds m_newLetters m_newReaders m_beds m_letters m_readers m_newCode m_newOf m_code m_ofCode m_stack m_newCodes m_codes m_facts m_newStep m_step m_newSteps m_works m_refusedSteps m_begun m_done m_refusedNow m_now m_s m_past m_newBook m_book m_written m_mostBy m_stuffing m_stuffedMany m_lastBy m_leftBy m_splitBy m_seedNow m_image m_images) 6 [(0, .ref (a0 0)), (1, .int n1), (2, .int n2), (4, .int x4)] 99 [.int y0] := by
  intro x4 y0 m_at m_bad m_badKind h
  unfold f_X10_readNumber_99 at h
  refine g_istore (pc := 99) C [(5, .int y0), (0, .ref (a0 0)), (1, .int n1), (2, .int n2), (4, .int x4)] dX10_readNumber_99 (by decide) rfl ?_
  refine g_aload_n (pc := 101) C 1 rfl dX10_readNumber_101 ?_
  refine g_dup (pc := 102) C dX10_readNumber_102 rfl ?_
  refine g_get (pc := 103) C FOK_X10 0 rfl rfl 4 (by decide) kw_1281 rfl dX10_readNumber_103 ?_
  refine g_iconst (pc := 106) C dX10_readNumber_106 ci_1 ?_
  refine g_iadd (pc := 107) C dX10_readNumber_107 ?_
  refine g_put (pc := 108) C (w' := cs_X10 J.2.2.1 a0 m_thrown m_refused m_taped m_size (m_at + 1) m_bad m_badKind m_opens m_faultAt m_tape m_newBed m_newLetter m_newReader m_bed m_letter m_reader m_newBeds m_newLetters m_newReaders m_beds m_letters m_readers m_newCode m_newOf m_code m_ofCode m_stack m_newCodes m_codes m_facts m_newStep m_step m_newSteps m_works m_refusedSteps m_begun m_done m_refusedNow m_now m_s m_past m_newBook m_book m_written m_mostBy m_stuffing m_stuffedMany m_lastBy m_leftBy m_splitBy m_seedNow m_image m_images) FOK_X10 0 rfl rfl 4 (by decide) kw_1281 rfl rfl rfl (Nat.le_of_ble_eq_true rfl) dX10_readNumber_108 rfl ?_
  refine g_goto (pc := 111) C (tgt := 41) dX10_readNumber_111 rfl ?_
  refine g_lv [1, 2, 3, 4, 0] rfl ?_
  exact hk41 x4 y0 (m_at + 1) m_bad m_badKind h
set_option maxRecDepth 100000 in
set_option maxHeartbeats 4000000 in
theorem j_X10_readNumber_41 {J : Jt} {Z : Zt} {a0 : Nat → Nat} {m_thrown : Int32} {m_refused : Nat → Int32} {m_taped : Int32} {m_size : Int32} {m_opens : Int32} {m_faultAt : Int32} {m_tape : Nat → Int32} {m_newBed : Nat → Int32} {m_newLetter : Nat → Int32} {m_newReader : Nat → Int32} {m_bed : Nat → Int32} {m_letter : Nat → Int32} {m_reader : Nat → Int32} {m_newBeds : Int32} {m_newLetters : Int32} {m_newReaders : Int32} {m_beds : Int32} {m_letters : Int32} {m_readers : Int32} {m_newCode : Nat → Int32} {m_newOf : Nat → Int32} {m_code : Nat → Int32} {m_ofCode : Nat → Int32} {m_stack : Nat → Int32} {m_newCodes : Int32} {m_codes : Int32} {m_facts : Nat → Int32} {m_newStep : Nat → Int32} {m_step : Nat → Int32} {m_newSteps : Int32} {m_works : Int32} {m_refusedSteps : Int32} {m_begun : Int32} {m_done : Int32} {m_refusedNow : Int32} {m_now : Nat → Int32} {m_s : Nat → Int32} {m_past : Nat → Int32} {m_newBook : Nat → Int32} {m_book : Nat → Int32} {m_written : Int32} {m_mostBy : Nat → Int32} {m_stuffing : Nat → Int32} {m_stuffedMany : Int32} {m_lastBy : Nat → Int32} {m_leftBy : Nat → Int32} {m_splitBy : Nat → Int64} {m_seedNow : Int32} {m_image : Nat → Int32} {m_images : Int32} {n1 : Int32} {n2 : Int32} {r : Int32} {o_m_at : Int32} {o_m_bad : Int32} {o_m_badKind : Int32} (C : Cx J Z cX10_readNumber 6 RX10 (some .int) rm_X10_readNumber) (E : Ez J Z 0 0 (some (.int r)) (cs_X10 J.2.2.1 a0 m_thrown m_refused m_taped m_size o_m_at o_m_bad o_m_badKind m_opens m_faultAt m_tape m_newBed m_newLetter m_newReader m_bed m_letter m_reader m_newBeds m_newLetters m_newReaders m_beds m_letters m_readers m_newCode m_newOf m_code m_ofCode m_stack m_newCodes m_codes m_facts m_newStep m_step m_newSteps m_works m_refusedSteps m_begun m_done m_refusedNow m_now m_s m_past m_newBook m_book m_written m_mostBy m_stuffing m_stuffedMany m_lastBy m_leftBy m_splitBy m_seedNow m_image m_images)) : ∀ (n : Nat) (x4 : Int32) (x5 : Int32) (m_at : Int32) (m_bad : Int32) (m_badKind : Int32), f_X10_readNumber_41 m_size m_tape n1 n2 n x4 x5 m_at m_bad m_badKind = some (r, o_m_at, o_m_bad, o_m_badKind) → G J Z 0 0 (cs_X10 J.2.2.1 a0 m_thrown m_refused m_taped m_size m_at m_bad m_badKind m_opens m_faultAt m_tape m_newBed m_newLetter m_newReader m_bed m_letter m_reader m_newBeds m_newLetters m_newReaders m_beds m_letters m_readers m_newCode m_newOf m_code m_ofCode m_stack m_newCodes m_codes m_facts m_newStep m_step m_newSteps m_works m_refusedSteps m_begun m_done m_refusedNow m_now m_s m_past m_newBook m_book m_written m_mostBy m_stuffing m_stuffedMany m_lastBy m_leftBy m_splitBy m_seedNow m_image m_images) 6 [(0, .ref (a0 0)), (1, .int n1), (2, .int n2), (4, .int x4), (5, .int x5)] 41 [] := by
  intro n
  induction n with
  | zero =>
    intro x4 x5 m_at m_bad m_badKind h
    rw [f_X10_readNumber_41] at h
    cases h
  | succ n ih =>
    intro x4 x5 m_at m_bad m_badKind h
    rw [f_X10_readNumber_41] at h
    refine g_aload_n (pc := 41) C 0 rfl dX10_readNumber_41 ?_
    refine g_get (pc := 42) C FOK_X10 0 rfl rfl 4 (by decide) kw_1281 rfl dX10_readNumber_42 ?_
    refine g_aload_n (pc := 45) C 0 rfl dX10_readNumber_45 ?_
    refine g_get (pc := 46) C FOK_X10 0 rfl rfl 3 (by decide) kw_1280 rfl dX10_readNumber_46 ?_
    refine g_icmp_ge (pc := 49) C (tgt := 114) dX10_readNumber_49 rfl h (fun h => ?_) (fun h => ?_)
    · exact j_X10_readNumber_114 C E  x4 x5 m_at m_bad m_badKind h
    · refine g_aload_n (pc := 52) C 0 rfl dX10_readNumber_52 ?_
      refine g_get (pc := 53) C FOK_X10 0 rfl rfl 9 (by decide) kw_1286 rfl dX10_readNumber_53 ?_
      refine g_aload_n (pc := 56) C 0 rfl dX10_readNumber_56 ?_
      refine g_get (pc := 57) C FOK_X10 0 rfl rfl 4 (by decide) kw_1281 rfl dX10_readNumber_57 ?_
      obtain ⟨hi, h⟩ := ix_of h
      refine g_iald (pc := 60) C 2 rfl hi dX10_readNumber_60 ?_
      obtain ⟨v3, hc, h⟩ := b1_of h
      refine g_callS (pc := 61) C (w' := cs_X10 J.2.2.1 a0 m_thrown m_refused m_taped m_size m_at m_bad m_badKind m_opens m_faultAt m_tape m_newBed m_newLetter m_newReader m_bed m_letter m_reader m_newBeds m_newLetters m_newReaders m_beds m_letters m_readers m_newCode m_newOf m_code m_ofCode m_stack m_newCodes m_codes m_facts m_newStep m_step m_newSteps m_works m_refusedSteps m_begun m_done m_refusedNow m_now m_s m_past m_newBook m_book m_written m_mostBy m_stuffing m_stuffedMany m_lastBy m_leftBy m_splitBy m_seedNow m_image m_images) (As := [.int (m_tape m_at.toNatClampNeg)]) (st := []) (t_X10_isDigit hc) Sub.nil kw_1508 kw_1509 kw_95 hy_X10_isDigit kw_1510 rfl (Nat.le_of_ble_eq_true rfl) (Nat.le_of_ble_eq_true rfl) (Nat.le_of_ble_eq_true rfl) (Nat.le_of_ble_eq_true rfl) (Nat.le_of_ble_eq_true rfl) dX10_readNumber_61 ?_
      refine g_if_eq (pc := 64) C (tgt := 114) dX10_readNumber_64 rfl h (fun h => ?_) (fun h => ?_)
      · exact j_X10_readNumber_114 C E  x4 x5 m_at m_bad m_badKind h
      · refine g_iload (pc := 67) C 4 rfl dX10_readNumber_67 ?_
        refine g_sipush (pc := 69) C dX10_readNumber_69 cs_9999 ?_
        refine g_icmp_le (pc := 72) C (tgt := 81) dX10_readNumber_72 rfl h (fun h => ?_) (fun h => ?_)
        · refine g_bipush (pc := 81) C dX10_readNumber_81 cb_10 ?_
          refine g_iload (pc := 83) C 4 rfl dX10_readNumber_83 ?_
          refine g_imul (pc := 85) C dX10_readNumber_85 ?_
          refine g_aload_n (pc := 86) C 0 rfl dX10_readNumber_86 ?_
          refine g_get (pc := 87) C FOK_X10 0 rfl rfl 9 (by decide) kw_1286 rfl dX10_readNumber_87 ?_
          refine g_aload_n (pc := 90) C 0 rfl dX10_readNumber_90 ?_
          refine g_get (pc := 91) C FOK_X10 0 rfl rfl 4 (by decide) kw_1281 rfl dX10_readNumber_91 ?_
          obtain ⟨hi, h⟩ := ix_of h
          refine g_iald (pc := 94) C 2 rfl hi dX10_readNumber_94 ?_
          refine g_iadd (pc := 95) C dX10_readNumber_95 ?_
          refine g_bipush (pc := 96) C dX10_readNumber_96 cb_48 ?_
          refine g_isub (pc := 98) C dX10_readNumber_98 ?_
          refine g_lv [0, 1, 2, 3] rfl ?_
          exact j_X10_readNumber_99 C E ih x4 (((10 * x5) + (m_tape m_at.toNatClampNeg)) - 48) m_at m_bad m_badKind h
        · refine g_sipush (pc := 75) C dX10_readNumber_75 cs_10000 ?_
          refine g_goto (pc := 78) C (tgt := 99) dX10_readNumber_78 rfl ?_
          refine g_lv [0, 1, 2, 3] rfl ?_
          exact j_X10_readNumber_99 C E ih x4 10000 m_at m_bad m_badKind h
set_option maxRecDepth 100000 in
set_option maxHeartbeats 4000000 in
theorem t_X10_readNumber {J : Jt} {a0 : Nat → Nat} {m_thrown : Int32} {m_refused : Nat → Int32} {m_taped : Int32} {m_size : Int32} {m_at : Int32} {m_bad : Int32} {m_badKind : Int32} {m_opens : Int32} {m_faultAt : Int32} {m_tape : Nat → Int32} {m_newBed : Nat → Int32} {m_newLetter : Nat → Int32} {m_newReader : Nat → Int32} {m_bed : Nat → Int32} {m_letter : Nat → Int32} {m_reader : Nat → Int32} {m_newBeds : Int32} {m_newLetters : Int32} {m_newReaders : Int32} {m_beds : Int32} {m_letters : Int32} {m_readers : Int32} {m_newCode : Nat → Int32} {m_newOf : Nat → Int32} {m_code : Nat → Int32} {m_ofCode : Nat → Int32} {m_stack : Nat → Int32} {m_newCodes : Int32} {m_codes : Int32} {m_facts : Nat → Int32} {m_newStep : Nat → Int32} {m_step : Nat → Int32} {m_newSteps : Int32} {m_works : Int32} {m_refusedSteps : Int32} {m_begun : Int32} {m_done : Int32} {m_refusedNow : Int32} {m_now : Nat → Int32} {m_s : Nat → Int32} {m_past : Nat → Int32} {m_newBook : Nat → Int32} {m_book : Nat → Int32} {m_written : Int32} {m_mostBy : Nat → Int32} {m_stuffing : Nat → Int32} {m_stuffedMany : Int32} {m_lastBy : Nat → Int32} {m_leftBy : Nat → Int32} {m_splitBy : Nat → Int64} {m_seedNow : Int32} {m_image : Nat → Int32} {m_images : Int32} {n1 : Int32} {n2 : Int32} {r : Int32} {o_m_at : Int32} {o_m_bad : Int32} {o_m_badKind : Int32} (h : f_X10_readNumber m_size m_at m_bad m_badKind m_tape n1 n2 = some (r, o_m_at, o_m_bad, o_m_badKind)) : Mt J yX10_readNumber cX10_readNumber 6 (some .int) rm_X10_readNumber [.ref (a0 0), .int n1, .int n2] (cs_X10 J.2.2.1 a0 m_thrown m_refused m_taped m_size m_at m_bad m_badKind m_opens m_faultAt m_tape m_newBed m_newLetter m_newReader m_bed m_letter m_reader m_newBeds m_newLetters m_newReaders m_beds m_letters m_readers m_newCode m_newOf m_code m_ofCode m_stack m_newCodes m_codes m_facts m_newStep m_step m_newSteps m_works m_refusedSteps m_begun m_done m_refusedNow m_now m_s m_past m_newBook m_book m_written m_mostBy m_stuffing m_stuffedMany m_lastBy m_leftBy m_splitBy m_seedNow m_image m_images) (some (.int r)) (cs_X10 J.2.2.1 a0 m_thrown m_refused m_taped m_size o_m_at o_m_bad o_m_badKind m_opens m_faultAt m_tape m_newBed m_newLetter m_newReader m_bed m_letter m_reader m_newBeds m_newLetters m_newReaders m_beds m_letters m_readers m_newCode m_newOf m_code m_ofCode m_stack m_newCodes m_codes m_facts m_newStep m_step m_newSteps m_works m_refusedSteps m_begun m_done m_refusedNow m_now m_s m_past m_newBook m_book m_written m_mostBy m_stuffing m_stuffedMany m_lastBy m_leftBy m_splitBy m_seedNow m_image m_images) := by
  refine Mt_of (own := RX10) (by decide) rfl (Nat.le_of_ble_eq_true rfl) rfl (fun Z C E => ?_)
  unfold f_X10_readNumber at h
  show G J Z 0 0 (cs_X10 J.2.2.1 a0 m_thrown m_refused m_taped m_size m_at m_bad m_badKind m_opens m_faultAt m_tape m_newBed m_newLetter m_newReader m_bed m_letter m_reader m_newBeds m_newLetters m_newReaders m_beds m_letters m_readers m_newCode m_newOf m_code m_ofCode m_stack m_newCodes m_codes m_facts m_newStep m_step m_newSteps m_works m_refusedSteps m_begun m_done m_refusedNow m_now m_s m_past m_newBook m_book m_written m_mostBy m_stuffing m_stuffedMany m_lastBy m_leftBy m_splitBy m_seedNow m_image m_images) 6 [(0, .ref (a0 0)), (1, .int n1), (2, .int n2)] 0 []
  refine g_aload_n (pc := 0) C 0 rfl dX10_readNumber_0 ?_
  obtain ⟨v4, hc, h⟩ := b1_of h
  refine g_callV (pc := 1) C (w' := cs_X10 J.2.2.1 a0 m_thrown m_refused m_taped m_size m_at m_bad m_badKind m_opens m_faultAt m_tape m_newBed m_newLetter m_newReader m_bed m_letter m_reader m_newBeds m_newLetters m_newReaders m_beds m_letters m_readers m_newCode m_newOf m_code m_ofCode m_stack m_newCodes m_codes m_facts m_newStep m_step m_newSteps m_works m_refusedSteps m_begun m_done m_refusedNow m_now m_s m_past m_newBook m_book m_written m_mostBy m_stuffing m_stuffedMany m_lastBy m_leftBy m_splitBy m_seedNow m_image m_images) (As := []) (st := []) (ci := 10) (q0 := 0) rfl rfl (t_X10_fine (a0 := a0) hc) Sub.same kw_1458 kw_1460 kw_22 kw_95 hy_X10_fine kw_1461 rfl (Nat.le_of_ble_eq_true rfl) (Nat.le_of_ble_eq_true rfl) (Nat.le_of_ble_eq_true rfl) (Nat.le_of_ble_eq_true rfl) (Nat.le_of_ble_eq_true rfl) dX10_readNumber_1 ?_
  refine g_if_ne (pc := 4) C (tgt := 9) dX10_readNumber_4 rfl h (fun h => ?_) (fun h => ?_)
  · refine g_aload_n (pc := 9) C 0 rfl dX10_readNumber_9 ?_
    obtain ⟨v5, c6, hc, h⟩ := b2_of h
    refine g_callV (pc := 10) C (w' := cs_X10 J.2.2.1 a0 m_thrown m_refused m_taped m_size c6 m_bad m_badKind m_opens m_faultAt m_tape m_newBed m_newLetter m_newReader m_bed m_letter m_reader m_newBeds m_newLetters m_newReaders m_beds m_letters m_readers m_newCode m_newOf m_code m_ofCode m_stack m_newCodes m_codes m_facts m_newStep m_step m_newSteps m_works m_refusedSteps m_begun m_done m_refusedNow m_now m_s m_past m_newBook m_book m_written m_mostBy m_stuffing m_stuffedMany m_lastBy m_leftBy m_splitBy m_seedNow m_image m_images) (As := []) (st := []) (ci := 10) (q0 := 0) rfl rfl (t_X10_here (a0 := a0) hc) Sub.same kw_1466 kw_1468 kw_24 kw_95 hy_X10_here kw_1469 rfl (Nat.le_of_ble_eq_true rfl) (Nat.le_of_ble_eq_true rfl) (Nat.le_of_ble_eq_true rfl) (Nat.le_of_ble_eq_true rfl) (Nat.le_of_ble_eq_true rfl) dX10_readNumber_10 ?_
    refine g_istore_n (pc := 13) C [(3, .int v5), (0, .ref (a0 0)), (1, .int n1), (2, .int n2)] dX10_readNumber_13 rfl (by decide) rfl ?_
    refine g_aload_n (pc := 14) C 1 rfl dX10_readNumber_14 ?_
    refine g_get (pc := 15) C FOK_X10 0 rfl rfl 4 (by decide) kw_1281 rfl dX10_readNumber_15 ?_
    refine g_istore (pc := 18) C [(4, .int c6), (3, .int v5), (0, .ref (a0 0)), (1, .int n1), (2, .int n2)] dX10_readNumber_18 (by decide) rfl ?_
    refine g_iconst (pc := 20) C dX10_readNumber_20 ci_0 ?_
    refine g_istore (pc := 21) C [(5, .int 0), (4, .int c6), (3, .int v5), (0, .ref (a0 0)), (1, .int n1), (2, .int n2)] dX10_readNumber_21 (by decide) rfl ?_
    refine g_iload_n (pc := 23) C 2 rfl dX10_readNumber_23 ?_
    obtain ⟨v7, hc, h⟩ := b1_of h
    refine g_callS (pc := 24) C (w' := cs_X10 J.2.2.1 a0 m_thrown m_refused m_taped m_size c6 m_bad m_badKind m_opens m_faultAt m_tape m_newBed m_newLetter m_newReader m_bed m_letter m_reader m_newBeds m_newLetters m_newReaders m_beds m_letters m_readers m_newCode m_newOf m_code m_ofCode m_stack m_newCodes m_codes m_facts m_newStep m_step m_newSteps m_works m_refusedSteps m_begun m_done m_refusedNow m_now m_s m_past m_newBook m_book m_written m_mostBy m_stuffing m_stuffedMany m_lastBy m_leftBy m_splitBy m_seedNow m_image m_images) (As := [.int v5]) (st := []) (t_X10_isDigit hc) Sub.nil kw_1508 kw_1509 kw_95 hy_X10_isDigit kw_1510 rfl (Nat.le_of_ble_eq_true rfl) (Nat.le_of_ble_eq_true rfl) (Nat.le_of_ble_eq_true rfl) (Nat.le_of_ble_eq_true rfl) (Nat.le_of_ble_eq_true rfl) dX10_readNumber_24 ?_
    refine g_if_ne (pc := 27) C (tgt := 41) dX10_readNumber_27 rfl h (fun h => ?_) (fun h => ?_)
    · refine g_lv [3, 4, 5, 1, 0] rfl ?_
      exact j_X10_readNumber_41 C E  FU c6 0 c6 m_bad m_badKind h
    · refine g_aload_n (pc := 30) C 3 rfl dX10_readNumber_30 ?_
      refine g_iconst (pc := 31) C dX10_readNumber_31 ci_1 ?_
      refine g_aload_n (pc := 32) C 3 rfl dX10_readNumber_32 ?_
      refine g_get (pc := 33) C FOK_X10 0 rfl rfl 4 (by decide) kw_1281 rfl dX10_readNumber_33 ?_
      obtain ⟨c8, c9, hc, h⟩ := b2_of h
      refine g_callV (pc := 36) C (w' := cs_X10 J.2.2.1 a0 m_thrown m_refused m_taped m_size c6 c8 c9 m_opens m_faultAt m_tape m_newBed m_newLetter m_newReader m_bed m_letter m_reader m_newBeds m_newLetters m_newReaders m_beds m_letters m_readers m_newCode m_newOf m_code m_ofCode m_stack m_newCodes m_codes m_facts m_newStep m_step m_newSteps m_works m_refusedSteps m_begun m_done m_refusedNow m_now m_s m_past m_newBook m_book m_written m_mostBy m_stuffing m_stuffedMany m_lastBy m_leftBy m_splitBy m_seedNow m_image m_images) (As := [.int 1, .int c6]) (st := []) (ci := 10) (q0 := 0) rfl rfl (t_X10_wrong (a0 := a0) hc) Sub.same kw_1488 kw_1490 kw_26 kw_95 hy_X10_wrong kw_1491 rfl (Nat.le_of_ble_eq_true rfl) (Nat.le_of_ble_eq_true rfl) (Nat.le_of_ble_eq_true rfl) (Nat.le_of_ble_eq_true rfl) (Nat.le_of_ble_eq_true rfl) dX10_readNumber_36 ?_
      refine g_iconst (pc := 39) C dX10_readNumber_39 ci_0 ?_
      cases h
      exact g_iret C E dX10_readNumber_40
  · refine g_iconst (pc := 7) C dX10_readNumber_7 ci_0 ?_
    cases h
    exact g_iret C E dX10_readNumber_8
noncomputable def f_X10_sign_24 (m_size : Int32) (m_tape : Nat → Int32) (n1 : Int32) (m_at : Int32) (m_bad : Int32) (m_badKind : Int32) : Option (Int32 × Int32 × Int32) := b1 (f_X10_fine m_bad) (fun v1 => if v1 = 0 then some (m_at, m_bad, m_badKind) else some (m_at + 1, m_bad, m_badKind))
noncomputable def f_X10_sign (m_size : Int32) (m_at : Int32) (m_bad : Int32) (m_badKind : Int32) (m_tape : Nat → Int32) (n1 : Int32) : Option (Int32 × Int32 × Int32) := b1 (f_X10_fine m_bad) (fun v2 => if v2 = 0 then f_X10_sign_24 m_size m_tape n1 m_at m_bad m_badKind else b2 (f_X10_here m_size m_at m_tape) (fun v3 c4 => if v3 = n1 then f_X10_sign_24 m_size m_tape n1 c4 m_bad m_badKind else b2 (f_X10_wrong m_bad m_badKind 1 c4) (fun c5 c6 => f_X10_sign_24 m_size m_tape n1 c4 c5 c6)))
def rm_X10_sign : Room := { frames := 1, cells := 0, slots := 0, locals := 22 }
set_option maxRecDepth 100000 in
set_option maxHeartbeats 4000000 in
theorem j_X10_sign_24 {J : Jt} {Z : Zt} {a0 : Nat → Nat} {m_thrown : Int32} {m_refused : Nat → Int32} {m_taped : Int32} {m_size : Int32} {m_opens : Int32} {m_faultAt : Int32} {m_tape : Nat → Int32} {m_newBed : Nat → Int32} {m_newLetter : Nat → Int32} {m_newReader : Nat → Int32} {m_bed : Nat → Int32} {m_letter : Nat → Int32} {m_reader : Nat → Int32} {m_newBeds : Int32} {m_newLetters : Int32} {m_newReaders : Int32} {m_beds : Int32} {m_letters : Int32} {m_readers : Int32} {m_newCode : Nat → Int32} {m_newOf : Nat → Int32} {m_code : Nat → Int32} {m_ofCode : Nat → Int32} {m_stack : Nat → Int32} {m_newCodes : Int32} {m_codes : Int32} {m_facts : Nat → Int32} {m_newStep : Nat → Int32} {m_step : Nat → Int32} {m_newSteps : Int32} {m_works : Int32} {m_refusedSteps : Int32} {m_begun : Int32} {m_done : Int32} {m_refusedNow : Int32} {m_now : Nat → Int32} {m_s : Nat → Int32} {m_past : Nat → Int32} {m_newBook : Nat → Int32} {m_book : Nat → Int32} {m_written : Int32} {m_mostBy : Nat → Int32} {m_stuffing : Nat → Int32} {m_stuffedMany : Int32} {m_lastBy : Nat → Int32} {m_leftBy : Nat → Int32} {m_splitBy : Nat → Int64} {m_seedNow : Int32} {m_image : Nat → Int32} {m_images : Int32} {n1 : Int32} {o_m_at : Int32} {o_m_bad : Int32} {o_m_badKind : Int32} (C : Cx J Z cX10_sign 2 RX10 none rm_X10_sign) (E : Ez J Z 0 0 none (cs_X10 J.2.2.1 a0 m_thrown m_refused m_taped m_size o_m_at o_m_bad o_m_badKind m_opens m_faultAt m_tape m_newBed m_newLetter m_newReader m_bed m_letter m_reader m_newBeds m_newLetters m_newReaders m_beds m_letters m_readers m_newCode m_newOf m_code m_ofCode m_stack m_newCodes m_codes m_facts m_newStep m_step m_newSteps m_works m_refusedSteps m_begun m_done m_refusedNow m_now m_s m_past m_newBook m_book m_written m_mostBy m_stuffing m_stuffedMany m_lastBy m_leftBy m_splitBy m_seedNow m_image m_images)) : ∀ (m_at : Int32) (m_bad : Int32) (m_badKind : Int32), f_X10_sign_24 m_size m_tape n1 m_at m_bad m_badKind = some (o_m_at, o_m_bad, o_m_badKind) → G J Z 0 0 (cs_X10 J.2.2.1 a0 m_thrown m_refused m_taped m_size m_at m_bad m_badKind m_opens m_faultAt m_tape m_newBed m_newLetter m_newReader m_bed m_letter m_reader m_newBeds m_newLetters m_newReaders m_beds m_letters m_readers m_newCode m_newOf m_code m_ofCode m_stack m_newCodes m_codes m_facts m_newStep m_step m_newSteps m_works m_refusedSteps m_begun m_done m_refusedNow m_now m_s m_past m_newBook m_book m_written m_mostBy m_stuffing m_stuffedMany m_lastBy m_leftBy m_splitBy m_seedNow m_image m_images) 2 [(0, .ref (a0 0))] 24 [] := by
  intro m_at m_bad m_badKind h
  unfold f_X10_sign_24 at h
  refine g_aload_n (pc := 24) C 0 rfl dX10_sign_24 ?_
  obtain ⟨v1, hc, h⟩ := b1_of h
  refine g_callV (pc := 25) C (w' := cs_X10 J.2.2.1 a0 m_thrown m_refused m_taped m_size m_at m_bad m_badKind m_opens m_faultAt m_tape m_newBed m_newLetter m_newReader m_bed m_letter m_reader m_newBeds m_newLetters m_newReaders m_beds m_letters m_readers m_newCode m_newOf m_code m_ofCode m_stack m_newCodes m_codes m_facts m_newStep m_step m_newSteps m_works m_refusedSteps m_begun m_done m_refusedNow m_now m_s m_past m_newBook m_book m_written m_mostBy m_stuffing m_stuffedMany m_lastBy m_leftBy m_splitBy m_seedNow m_image m_images) (As := []) (st := []) (ci := 10) (q0 := 0) rfl rfl (t_X10_fine (a0 := a0) hc) Sub.same kw_1458 kw_1460 kw_22 kw_95 hy_X10_fine kw_1461 rfl (Nat.le_of_ble_eq_true rfl) (Nat.le_of_ble_eq_true rfl) (Nat.le_of_ble_eq_true rfl) (Nat.le_of_ble_eq_true rfl) (Nat.le_of_ble_eq_true rfl) dX10_sign_25 ?_
  refine g_if_eq (pc := 28) C (tgt := 41) dX10_sign_28 rfl h (fun h => ?_) (fun h => ?_)
  · cases h
    exact g_vret C E dX10_sign_41
  · refine g_aload_n (pc := 31) C 0 rfl dX10_sign_31 ?_
    refine g_dup (pc := 32) C dX10_sign_32 rfl ?_
    refine g_get (pc := 33) C FOK_X10 0 rfl rfl 4 (by decide) kw_1281 rfl dX10_sign_33 ?_
    refine g_iconst (pc := 36) C dX10_sign_36 ci_1 ?_
    refine g_iadd (pc := 37) C dX10_sign_37 ?_
    refine g_put (pc := 38) C (w' := cs_X10 J.2.2.1 a0 m_thrown m_refused m_taped m_size (m_at + 1) m_bad m_badKind m_opens m_faultAt m_tape m_newBed m_newLetter m_newReader m_bed m_letter m_reader m_newBeds m_newLetters m_newReaders m_beds m_letters m_readers m_newCode m_newOf m_code m_ofCode m_stack m_newCodes m_codes m_facts m_newStep m_step m_newSteps m_works m_refusedSteps m_begun m_done m_refusedNow m_now m_s m_past m_newBook m_book m_written m_mostBy m_stuffing m_stuffedMany m_lastBy m_leftBy m_splitBy m_seedNow m_image m_images) FOK_X10 0 rfl rfl 4 (by decide) kw_1281 rfl rfl rfl (Nat.le_of_ble_eq_true rfl) dX10_sign_38 rfl ?_
    cases h
    exact g_vret C E dX10_sign_41
set_option maxRecDepth 100000 in
set_option maxHeartbeats 4000000 in
theorem t_X10_sign {J : Jt} {a0 : Nat → Nat} {m_thrown : Int32} {m_refused : Nat → Int32} {m_taped : Int32} {m_size : Int32} {m_at : Int32} {m_bad : Int32} {m_badKind : Int32} {m_opens : Int32} {m_faultAt : Int32} {m_tape : Nat → Int32} {m_newBed : Nat → Int32} {m_newLetter : Nat → Int32} {m_newReader : Nat → Int32} {m_bed : Nat → Int32} {m_letter : Nat → Int32} {m_reader : Nat → Int32} {m_newBeds : Int32} {m_newLetters : Int32} {m_newReaders : Int32} {m_beds : Int32} {m_letters : Int32} {m_readers : Int32} {m_newCode : Nat → Int32} {m_newOf : Nat → Int32} {m_code : Nat → Int32} {m_ofCode : Nat → Int32} {m_stack : Nat → Int32} {m_newCodes : Int32} {m_codes : Int32} {m_facts : Nat → Int32} {m_newStep : Nat → Int32} {m_step : Nat → Int32} {m_newSteps : Int32} {m_works : Int32} {m_refusedSteps : Int32} {m_begun : Int32} {m_done : Int32} {m_refusedNow : Int32} {m_now : Nat → Int32} {m_s : Nat → Int32} {m_past : Nat → Int32} {m_newBook : Nat → Int32} {m_book : Nat → Int32} {m_written : Int32} {m_mostBy : Nat → Int32} {m_stuffing : Nat → Int32} {m_stuffedMany : Int32} {m_lastBy : Nat → Int32} {m_leftBy : Nat → Int32} {m_splitBy : Nat → Int64} {m_seedNow : Int32} {m_image : Nat → Int32} {m_images : Int32} {n1 : Int32} {o_m_at : Int32} {o_m_bad : Int32} {o_m_badKind : Int32} (h : f_X10_sign m_size m_at m_bad m_badKind m_tape n1 = some (o_m_at, o_m_bad, o_m_badKind)) : Mt J yX10_sign cX10_sign 2 none rm_X10_sign [.ref (a0 0), .int n1] (cs_X10 J.2.2.1 a0 m_thrown m_refused m_taped m_size m_at m_bad m_badKind m_opens m_faultAt m_tape m_newBed m_newLetter m_newReader m_bed m_letter m_reader m_newBeds m_newLetters m_newReaders m_beds m_letters m_readers m_newCode m_newOf m_code m_ofCode m_stack m_newCodes m_codes m_facts m_newStep m_step m_newSteps m_works m_refusedSteps m_begun m_done m_refusedNow m_now m_s m_past m_newBook m_book m_written m_mostBy m_stuffing m_stuffedMany m_lastBy m_leftBy m_splitBy m_seedNow m_image m_images) none (cs_X10 J.2.2.1 a0 m_thrown m_refused m_taped m_size o_m_at o_m_bad o_m_badKind m_opens m_faultAt m_tape m_newBed m_newLetter m_newReader m_bed m_letter m_reader m_newBeds m_newLetters m_newReaders m_beds m_letters m_readers m_newCode m_newOf m_code m_ofCode m_stack m_newCodes m_codes m_facts m_newStep m_step m_newSteps m_works m_refusedSteps m_begun m_done m_refusedNow m_now m_s m_past m_newBook m_book m_written m_mostBy m_stuffing m_stuffedMany m_lastBy m_leftBy m_splitBy m_seedNow m_image m_images) := by
  refine Mt_of (own := RX10) (by decide) rfl (Nat.le_of_ble_eq_true rfl) rfl (fun Z C E => ?_)
  unfold f_X10_sign at h
  show G J Z 0 0 (cs_X10 J.2.2.1 a0 m_thrown m_refused m_taped m_size m_at m_bad m_badKind m_opens m_faultAt m_tape m_newBed m_newLetter m_newReader m_bed m_letter m_reader m_newBeds m_newLetters m_newReaders m_beds m_letters m_readers m_newCode m_newOf m_code m_ofCode m_stack m_newCodes m_codes m_facts m_newStep m_step m_newSteps m_works m_refusedSteps m_begun m_done m_refusedNow m_now m_s m_past m_newBook m_book m_written m_mostBy m_stuffing m_stuffedMany m_lastBy m_leftBy m_splitBy m_seedNow m_image m_images) 2 [(0, .ref (a0 0)), (1, .int n1)] 0 []
  refine g_aload_n (pc := 0) C 0 rfl dX10_sign_0 ?_
  obtain ⟨v2, hc, h⟩ := b1_of h
  refine g_callV (pc := 1) C (w' := cs_X10 J.2.2.1 a0 m_thrown m_refused m_taped m_size m_at m_bad m_badKind m_opens m_faultAt m_tape m_newBed m_newLetter m_newReader m_bed m_letter m_reader m_newBeds m_newLetters m_newReaders m_beds m_letters m_readers m_newCode m_newOf m_code m_ofCode m_stack m_newCodes m_codes m_facts m_newStep m_step m_newSteps m_works m_refusedSteps m_begun m_done m_refusedNow m_now m_s m_past m_newBook m_book m_written m_mostBy m_stuffing m_stuffedMany m_lastBy m_leftBy m_splitBy m_seedNow m_image m_images) (As := []) (st := []) (ci := 10) (q0 := 0) rfl rfl (t_X10_fine (a0 := a0) hc) Sub.same kw_1458 kw_1460 kw_22 kw_95 hy_X10_fine kw_1461 rfl (Nat.le_of_ble_eq_true rfl) (Nat.le_of_ble_eq_true rfl) (Nat.le_of_ble_eq_true rfl) (Nat.le_of_ble_eq_true rfl) (Nat.le_of_ble_eq_true rfl) dX10_sign_1 ?_
  refine g_if_eq (pc := 4) C (tgt := 24) dX10_sign_4 rfl h (fun h => ?_) (fun h => ?_)
  · refine g_lv [0] rfl ?_
    exact j_X10_sign_24 C E  m_at m_bad m_badKind h
  · refine g_aload_n (pc := 7) C 0 rfl dX10_sign_7 ?_
    obtain ⟨v3, c4, hc, h⟩ := b2_of h
    refine g_callV (pc := 8) C (w' := cs_X10 J.2.2.1 a0 m_thrown m_refused m_taped m_size c4 m_bad m_badKind m_opens m_faultAt m_tape m_newBed m_newLetter m_newReader m_bed m_letter m_reader m_newBeds m_newLetters m_newReaders m_beds m_letters m_readers m_newCode m_newOf m_code m_ofCode m_stack m_newCodes m_codes m_facts m_newStep m_step m_newSteps m_works m_refusedSteps m_begun m_done m_refusedNow m_now m_s m_past m_newBook m_book m_written m_mostBy m_stuffing m_stuffedMany m_lastBy m_leftBy m_splitBy m_seedNow m_image m_images) (As := []) (st := []) (ci := 10) (q0 := 0) rfl rfl (t_X10_here (a0 := a0) hc) Sub.same kw_1466 kw_1468 kw_24 kw_95 hy_X10_here kw_1469 rfl (Nat.le_of_ble_eq_true rfl) (Nat.le_of_ble_eq_true rfl) (Nat.le_of_ble_eq_true rfl) (Nat.le_of_ble_eq_true rfl) (Nat.le_of_ble_eq_true rfl) dX10_sign_8 ?_
    refine g_iload_n (pc := 11) C 1 rfl dX10_sign_11 ?_
    refine g_icmp_eq (pc := 12) C (tgt := 24) dX10_sign_12 rfl h (fun h => ?_) (fun h => ?_)
    · refine g_lv [0] rfl ?_
      exact j_X10_sign_24 C E  c4 m_bad m_badKind h
    · refine g_aload_n (pc := 15) C 0 rfl dX10_sign_15 ?_
      refine g_iconst (pc := 16) C dX10_sign_16 ci_1 ?_
      refine g_aload_n (pc := 17) C 0 rfl dX10_sign_17 ?_
      refine g_get (pc := 18) C FOK_X10 0 rfl rfl 4 (by decide) kw_1281 rfl dX10_sign_18 ?_
      obtain ⟨c5, c6, hc, h⟩ := b2_of h
      refine g_callV (pc := 21) C (w' := cs_X10 J.2.2.1 a0 m_thrown m_refused m_taped m_size c4 c5 c6 m_opens m_faultAt m_tape m_newBed m_newLetter m_newReader m_bed m_letter m_reader m_newBeds m_newLetters m_newReaders m_beds m_letters m_readers m_newCode m_newOf m_code m_ofCode m_stack m_newCodes m_codes m_facts m_newStep m_step m_newSteps m_works m_refusedSteps m_begun m_done m_refusedNow m_now m_s m_past m_newBook m_book m_written m_mostBy m_stuffing m_stuffedMany m_lastBy m_leftBy m_splitBy m_seedNow m_image m_images) (As := [.int 1, .int c4]) (st := []) (ci := 10) (q0 := 0) rfl rfl (t_X10_wrong (a0 := a0) hc) Sub.same kw_1488 kw_1490 kw_26 kw_95 hy_X10_wrong kw_1491 rfl (Nat.le_of_ble_eq_true rfl) (Nat.le_of_ble_eq_true rfl) (Nat.le_of_ble_eq_true rfl) (Nat.le_of_ble_eq_true rfl) (Nat.le_of_ble_eq_true rfl) dX10_sign_21 ?_
      refine g_lv [0] rfl ?_
      exact j_X10_sign_24 C E  c4 c5 c6 h
noncomputable def f_X10_isMore (m_size : Int32) (m_at : Int32) (m_tape : Nat → Int32) : Option (Int32 × Int32) := b2 (f_X10_here m_size m_at m_tape) (fun v1 c2 => if m_size ≤ c2 then some (0, c2) else some (1, c2))
def rm_X10_isMore : Room := { frames := 1, cells := 0, slots := 0, locals := 20 }
set_option maxRecDepth 100000 in
set_option maxHeartbeats 4000000 in
theorem t_X10_isMore {J : Jt} {a0 : Nat → Nat} {m_thrown : Int32} {m_refused : Nat → Int32} {m_taped : Int32} {m_size : Int32} {m_at : Int32} {m_bad : Int32} {m_badKind : Int32} {m_opens : Int32} {m_faultAt : Int32} {m_tape : Nat → Int32} {m_newBed : Nat → Int32} {m_newLetter : Nat → Int32} {m_newReader : Nat → Int32} {m_bed : Nat → Int32} {m_letter : Nat → Int32} {m_reader : Nat → Int32} {m_newBeds : Int32} {m_newLetters : Int32} {m_newReaders : Int32} {m_beds : Int32} {m_letters : Int32} {m_readers : Int32} {m_newCode : Nat → Int32} {m_newOf : Nat → Int32} {m_code : Nat → Int32} {m_ofCode : Nat → Int32} {m_stack : Nat → Int32} {m_newCodes : Int32} {m_codes : Int32} {m_facts : Nat → Int32} {m_newStep : Nat → Int32} {m_step : Nat → Int32} {m_newSteps : Int32} {m_works : Int32} {m_refusedSteps : Int32} {m_begun : Int32} {m_done : Int32} {m_refusedNow : Int32} {m_now : Nat → Int32} {m_s : Nat → Int32} {m_past : Nat → Int32} {m_newBook : Nat → Int32} {m_book : Nat → Int32} {m_written : Int32} {m_mostBy : Nat → Int32} {m_stuffing : Nat → Int32} {m_stuffedMany : Int32} {m_lastBy : Nat → Int32} {m_leftBy : Nat → Int32} {m_splitBy : Nat → Int64} {m_seedNow : Int32} {m_image : Nat → Int32} {m_images : Int32} {r : Int32} {o_m_at : Int32} (h : f_X10_isMore m_size m_at m_tape = some (r, o_m_at)) : Mt J yX10_isMore cX10_isMore 1 (some .boolean) rm_X10_isMore [.ref (a0 0)] (cs_X10 J.2.2.1 a0 m_thrown m_refused m_taped m_size m_at m_bad m_badKind m_opens m_faultAt m_tape m_newBed m_newLetter m_newReader m_bed m_letter m_reader m_newBeds m_newLetters m_newReaders m_beds m_letters m_readers m_newCode m_newOf m_code m_ofCode m_stack m_newCodes m_codes m_facts m_newStep m_step m_newSteps m_works m_refusedSteps m_begun m_done m_refusedNow m_now m_s m_past m_newBook m_book m_written m_mostBy m_stuffing m_stuffedMany m_lastBy m_leftBy m_splitBy m_seedNow m_image m_images) (some (.int r)) (cs_X10 J.2.2.1 a0 m_thrown m_refused m_taped m_size o_m_at m_bad m_badKind m_opens m_faultAt m_tape m_newBed m_newLetter m_newReader m_bed m_letter m_reader m_newBeds m_newLetters m_newReaders m_beds m_letters m_readers m_newCode m_newOf m_code m_ofCode m_stack m_newCodes m_codes m_facts m_newStep m_step m_newSteps m_works m_refusedSteps m_begun m_done m_refusedNow m_now m_s m_past m_newBook m_book m_written m_mostBy m_stuffing m_stuffedMany m_lastBy m_leftBy m_splitBy m_seedNow m_image m_images) := by
  refine Mt_of (own := RX10) (by decide) rfl (Nat.le_of_ble_eq_true rfl) rfl (fun Z C E => ?_)
  unfold f_X10_isMore at h
  show G J Z 0 0 (cs_X10 J.2.2.1 a0 m_thrown m_refused m_taped m_size m_at m_bad m_badKind m_opens m_faultAt m_tape m_newBed m_newLetter m_newReader m_bed m_letter m_reader m_newBeds m_newLetters m_newReaders m_beds m_letters m_readers m_newCode m_newOf m_code m_ofCode m_stack m_newCodes m_codes m_facts m_newStep m_step m_newSteps m_works m_refusedSteps m_begun m_done m_refusedNow m_now m_s m_past m_newBook m_book m_written m_mostBy m_stuffing m_stuffedMany m_lastBy m_leftBy m_splitBy m_seedNow m_image m_images) 1 [(0, .ref (a0 0))] 0 []
  refine g_aload_n (pc := 0) C 0 rfl dX10_isMore_0 ?_
  obtain ⟨v1, c2, hc, h⟩ := b2_of h
  refine g_callV (pc := 1) C (w' := cs_X10 J.2.2.1 a0 m_thrown m_refused m_taped m_size c2 m_bad m_badKind m_opens m_faultAt m_tape m_newBed m_newLetter m_newReader m_bed m_letter m_reader m_newBeds m_newLetters m_newReaders m_beds m_letters m_readers m_newCode m_newOf m_code m_ofCode m_stack m_newCodes m_codes m_facts m_newStep m_step m_newSteps m_works m_refusedSteps m_begun m_done m_refusedNow m_now m_s m_past m_newBook m_book m_written m_mostBy m_stuffing m_stuffedMany m_lastBy m_leftBy m_splitBy m_seedNow m_image m_images) (As := []) (st := []) (ci := 10) (q0 := 0) rfl rfl (t_X10_here (a0 := a0) hc) Sub.same kw_1466 kw_1468 kw_24 kw_95 hy_X10_here kw_1469 rfl (Nat.le_of_ble_eq_true rfl) (Nat.le_of_ble_eq_true rfl) (Nat.le_of_ble_eq_true rfl) (Nat.le_of_ble_eq_true rfl) (Nat.le_of_ble_eq_true rfl) dX10_isMore_1 ?_
  refine g_pop (pc := 4) C dX10_isMore_4 rfl ?_
  refine g_aload_n (pc := 5) C 0 rfl dX10_isMore_5 ?_
  refine g_get (pc := 6) C FOK_X10 0 rfl rfl 4 (by decide) kw_1281 rfl dX10_isMore_6 ?_
  refine g_aload_n (pc := 9) C 0 rfl dX10_isMore_9 ?_
  refine g_get (pc := 10) C FOK_X10 0 rfl rfl 3 (by decide) kw_1280 rfl dX10_isMore_10 ?_
  refine g_icmp_ge (pc := 13) C (tgt := 20) dX10_isMore_13 rfl h (fun h => ?_) (fun h => ?_)
  · refine g_iconst (pc := 20) C dX10_isMore_20 ci_0 ?_
    cases h
    exact g_zret C rfl E dX10_isMore_21
  · refine g_iconst (pc := 16) C dX10_isMore_16 ci_1 ?_
    refine g_goto (pc := 17) C (tgt := 21) dX10_isMore_17 rfl ?_
    cases h
    exact g_zret C rfl E dX10_isMore_21
noncomputable def f_X10_begins (m_taped : Int32) (m_size : Int32) (m_at : Int32) (m_bad : Int32) (m_opens : Int32) (m_faultAt : Int32) (n1 : Int32) : Option (Int32 × Int32 × Int32 × Int32 × Int32 × Int32) := some (0, n1, 0, (-1), 0, (-1))
def rm_X10_begins : Room := { frames := 0, cells := 0, slots := 0, locals := 0 }
set_option maxRecDepth 100000 in
set_option maxHeartbeats 4000000 in
theorem t_X10_begins {J : Jt} {a0 : Nat → Nat} {m_thrown : Int32} {m_refused : Nat → Int32} {m_taped : Int32} {m_size : Int32} {m_at : Int32} {m_bad : Int32} {m_badKind : Int32} {m_opens : Int32} {m_faultAt : Int32} {m_tape : Nat → Int32} {m_newBed : Nat → Int32} {m_newLetter : Nat → Int32} {m_newReader : Nat → Int32} {m_bed : Nat → Int32} {m_letter : Nat → Int32} {m_reader : Nat → Int32} {m_newBeds : Int32} {m_newLetters : Int32} {m_newReaders : Int32} {m_beds : Int32} {m_letters : Int32} {m_readers : Int32} {m_newCode : Nat → Int32} {m_newOf : Nat → Int32} {m_code : Nat → Int32} {m_ofCode : Nat → Int32} {m_stack : Nat → Int32} {m_newCodes : Int32} {m_codes : Int32} {m_facts : Nat → Int32} {m_newStep : Nat → Int32} {m_step : Nat → Int32} {m_newSteps : Int32} {m_works : Int32} {m_refusedSteps : Int32} {m_begun : Int32} {m_done : Int32} {m_refusedNow : Int32} {m_now : Nat → Int32} {m_s : Nat → Int32} {m_past : Nat → Int32} {m_newBook : Nat → Int32} {m_book : Nat → Int32} {m_written : Int32} {m_mostBy : Nat → Int32} {m_stuffing : Nat → Int32} {m_stuffedMany : Int32} {m_lastBy : Nat → Int32} {m_leftBy : Nat → Int32} {m_splitBy : Nat → Int64} {m_seedNow : Int32} {m_image : Nat → Int32} {m_images : Int32} {n1 : Int32} {o_m_taped : Int32} {o_m_size : Int32} {o_m_at : Int32} {o_m_bad : Int32} {o_m_opens : Int32} {o_m_faultAt : Int32} (h : f_X10_begins m_taped m_size m_at m_bad m_opens m_faultAt n1 = some (o_m_taped, o_m_size, o_m_at, o_m_bad, o_m_opens, o_m_faultAt)) : Mt J yX10_begins cX10_begins 2 none rm_X10_begins [.ref (a0 0), .int n1] (cs_X10 J.2.2.1 a0 m_thrown m_refused m_taped m_size m_at m_bad m_badKind m_opens m_faultAt m_tape m_newBed m_newLetter m_newReader m_bed m_letter m_reader m_newBeds m_newLetters m_newReaders m_beds m_letters m_readers m_newCode m_newOf m_code m_ofCode m_stack m_newCodes m_codes m_facts m_newStep m_step m_newSteps m_works m_refusedSteps m_begun m_done m_refusedNow m_now m_s m_past m_newBook m_book m_written m_mostBy m_stuffing m_stuffedMany m_lastBy m_leftBy m_splitBy m_seedNow m_image m_images) none (cs_X10 J.2.2.1 a0 m_thrown m_refused o_m_taped o_m_size o_m_at o_m_bad m_badKind o_m_opens o_m_faultAt m_tape m_newBed m_newLetter m_newReader m_bed m_letter m_reader m_newBeds m_newLetters m_newReaders m_beds m_letters m_readers m_newCode m_newOf m_code m_ofCode m_stack m_newCodes m_codes m_facts m_newStep m_step m_newSteps m_works m_refusedSteps m_begun m_done m_refusedNow m_now m_s m_past m_newBook m_book m_written m_mostBy m_stuffing m_stuffedMany m_lastBy m_leftBy m_splitBy m_seedNow m_image m_images) := by
  refine Mt_of (own := RX10) (by decide) rfl (Nat.le_of_ble_eq_true rfl) rfl (fun Z C E => ?_)
  unfold f_X10_begins at h
  show G J Z 0 0 (cs_X10 J.2.2.1 a0 m_thrown m_refused m_taped m_size m_at m_bad m_badKind m_opens m_faultAt m_tape m_newBed m_newLetter m_newReader m_bed m_letter m_reader m_newBeds m_newLetters m_newReaders m_beds m_letters m_readers m_newCode m_newOf m_code m_ofCode m_stack m_newCodes m_codes m_facts m_newStep m_step m_newSteps m_works m_refusedSteps m_begun m_done m_refusedNow m_now m_s m_past m_newBook m_book m_written m_mostBy m_stuffing m_stuffedMany m_lastBy m_leftBy m_splitBy m_seedNow m_image m_images) 2 [(0, .ref (a0 0)), (1, .int n1)] 0 []
  refine g_aload_n (pc := 0) C 0 rfl dX10_begins_0 ?_
  refine g_iconst (pc := 1) C dX10_begins_1 ci_0 ?_
  refine g_put (pc := 2) C (w' := cs_X10 J.2.2.1 a0 m_thrown m_refused 0 m_size m_at m_bad m_badKind m_opens m_faultAt m_tape m_newBed m_newLetter m_newReader m_bed m_letter m_reader m_newBeds m_newLetters m_newReaders m_beds m_letters m_readers m_newCode m_newOf m_code m_ofCode m_stack m_newCodes m_codes m_facts m_newStep m_step m_newSteps m_works m_refusedSteps m_begun m_done m_refusedNow m_now m_s m_past m_newBook m_book m_written m_mostBy m_stuffing m_stuffedMany m_lastBy m_leftBy m_splitBy m_seedNow m_image m_images) FOK_X10 0 rfl rfl 2 (by decide) kw_1279 rfl rfl rfl (Nat.le_of_ble_eq_true rfl) dX10_begins_2 rfl ?_
  refine g_aload_n (pc := 5) C 0 rfl dX10_begins_5 ?_
  refine g_iconst (pc := 6) C dX10_begins_6 ci_m1 ?_
  refine g_put (pc := 7) C (w' := cs_X10 J.2.2.1 a0 m_thrown m_refused 0 m_size m_at m_bad m_badKind m_opens (-1) m_tape m_newBed m_newLetter m_newReader m_bed m_letter m_reader m_newBeds m_newLetters m_newReaders m_beds m_letters m_readers m_newCode m_newOf m_code m_ofCode m_stack m_newCodes m_codes m_facts m_newStep m_step m_newSteps m_works m_refusedSteps m_begun m_done m_refusedNow m_now m_s m_past m_newBook m_book m_written m_mostBy m_stuffing m_stuffedMany m_lastBy m_leftBy m_splitBy m_seedNow m_image m_images) FOK_X10 0 rfl rfl 8 (by decide) kw_1285 rfl rfl rfl (Nat.le_of_ble_eq_true rfl) dX10_begins_7 rfl ?_
  refine g_aload_n (pc := 10) C 0 rfl dX10_begins_10 ?_
  refine g_iload_n (pc := 11) C 1 rfl dX10_begins_11 ?_
  refine g_put (pc := 12) C (w' := cs_X10 J.2.2.1 a0 m_thrown m_refused 0 n1 m_at m_bad m_badKind m_opens (-1) m_tape m_newBed m_newLetter m_newReader m_bed m_letter m_reader m_newBeds m_newLetters m_newReaders m_beds m_letters m_readers m_newCode m_newOf m_code m_ofCode m_stack m_newCodes m_codes m_facts m_newStep m_step m_newSteps m_works m_refusedSteps m_begun m_done m_refusedNow m_now m_s m_past m_newBook m_book m_written m_mostBy m_stuffing m_stuffedMany m_lastBy m_leftBy m_splitBy m_seedNow m_image m_images) FOK_X10 0 rfl rfl 3 (by decide) kw_1280 rfl rfl rfl (Nat.le_of_ble_eq_true rfl) dX10_begins_12 rfl ?_
  refine g_aload_n (pc := 15) C 0 rfl dX10_begins_15 ?_
  refine g_iconst (pc := 16) C dX10_begins_16 ci_0 ?_
  refine g_put (pc := 17) C (w' := cs_X10 J.2.2.1 a0 m_thrown m_refused 0 n1 0 m_bad m_badKind m_opens (-1) m_tape m_newBed m_newLetter m_newReader m_bed m_letter m_reader m_newBeds m_newLetters m_newReaders m_beds m_letters m_readers m_newCode m_newOf m_code m_ofCode m_stack m_newCodes m_codes m_facts m_newStep m_step m_newSteps m_works m_refusedSteps m_begun m_done m_refusedNow m_now m_s m_past m_newBook m_book m_written m_mostBy m_stuffing m_stuffedMany m_lastBy m_leftBy m_splitBy m_seedNow m_image m_images) FOK_X10 0 rfl rfl 4 (by decide) kw_1281 rfl rfl rfl (Nat.le_of_ble_eq_true rfl) dX10_begins_17 rfl ?_
  refine g_aload_n (pc := 20) C 0 rfl dX10_begins_20 ?_
  refine g_iconst (pc := 21) C dX10_begins_21 ci_m1 ?_
  refine g_put (pc := 22) C (w' := cs_X10 J.2.2.1 a0 m_thrown m_refused 0 n1 0 (-1) m_badKind m_opens (-1) m_tape m_newBed m_newLetter m_newReader m_bed m_letter m_reader m_newBeds m_newLetters m_newReaders m_beds m_letters m_readers m_newCode m_newOf m_code m_ofCode m_stack m_newCodes m_codes m_facts m_newStep m_step m_newSteps m_works m_refusedSteps m_begun m_done m_refusedNow m_now m_s m_past m_newBook m_book m_written m_mostBy m_stuffing m_stuffedMany m_lastBy m_leftBy m_splitBy m_seedNow m_image m_images) FOK_X10 0 rfl rfl 5 (by decide) kw_1282 rfl rfl rfl (Nat.le_of_ble_eq_true rfl) dX10_begins_22 rfl ?_
  refine g_aload_n (pc := 25) C 0 rfl dX10_begins_25 ?_
  refine g_iconst (pc := 26) C dX10_begins_26 ci_0 ?_
  refine g_put (pc := 27) C (w' := cs_X10 J.2.2.1 a0 m_thrown m_refused 0 n1 0 (-1) m_badKind 0 (-1) m_tape m_newBed m_newLetter m_newReader m_bed m_letter m_reader m_newBeds m_newLetters m_newReaders m_beds m_letters m_readers m_newCode m_newOf m_code m_ofCode m_stack m_newCodes m_codes m_facts m_newStep m_step m_newSteps m_works m_refusedSteps m_begun m_done m_refusedNow m_now m_s m_past m_newBook m_book m_written m_mostBy m_stuffing m_stuffedMany m_lastBy m_leftBy m_splitBy m_seedNow m_image m_images) FOK_X10 0 rfl rfl 7 (by decide) kw_1284 rfl rfl rfl (Nat.le_of_ble_eq_true rfl) dX10_begins_27 rfl ?_
  cases h
  exact g_vret C E dX10_begins_30
noncomputable def f_X10_result (m_bad : Int32) (m_badKind : Int32) (m_faultAt : Int32) (n1 : Int32) : Option (Int32 × Int32) := b1 (f_X10_fine m_bad) (fun v1 => if v1 = 0 then some (m_badKind - 10, m_bad) else some (n1, m_bad))
def rm_X10_result : Room := { frames := 1, cells := 0, slots := 0, locals := 20 }
set_option maxRecDepth 100000 in
set_option maxHeartbeats 4000000 in
theorem t_X10_result {J : Jt} {a0 : Nat → Nat} {m_thrown : Int32} {m_refused : Nat → Int32} {m_taped : Int32} {m_size : Int32} {m_at : Int32} {m_bad : Int32} {m_badKind : Int32} {m_opens : Int32} {m_faultAt : Int32} {m_tape : Nat → Int32} {m_newBed : Nat → Int32} {m_newLetter : Nat → Int32} {m_newReader : Nat → Int32} {m_bed : Nat → Int32} {m_letter : Nat → Int32} {m_reader : Nat → Int32} {m_newBeds : Int32} {m_newLetters : Int32} {m_newReaders : Int32} {m_beds : Int32} {m_letters : Int32} {m_readers : Int32} {m_newCode : Nat → Int32} {m_newOf : Nat → Int32} {m_code : Nat → Int32} {m_ofCode : Nat → Int32} {m_stack : Nat → Int32} {m_newCodes : Int32} {m_codes : Int32} {m_facts : Nat → Int32} {m_newStep : Nat → Int32} {m_step : Nat → Int32} {m_newSteps : Int32} {m_works : Int32} {m_refusedSteps : Int32} {m_begun : Int32} {m_done : Int32} {m_refusedNow : Int32} {m_now : Nat → Int32} {m_s : Nat → Int32} {m_past : Nat → Int32} {m_newBook : Nat → Int32} {m_book : Nat → Int32} {m_written : Int32} {m_mostBy : Nat → Int32} {m_stuffing : Nat → Int32} {m_stuffedMany : Int32} {m_lastBy : Nat → Int32} {m_leftBy : Nat → Int32} {m_splitBy : Nat → Int64} {m_seedNow : Int32} {m_image : Nat → Int32} {m_images : Int32} {n1 : Int32} {r : Int32} {o_m_faultAt : Int32} (h : f_X10_result m_bad m_badKind m_faultAt n1 = some (r, o_m_faultAt)) : Mt J yX10_result cX10_result 2 (some .int) rm_X10_result [.ref (a0 0), .int n1] (cs_X10 J.2.2.1 a0 m_thrown m_refused m_taped m_size m_at m_bad m_badKind m_opens m_faultAt m_tape m_newBed m_newLetter m_newReader m_bed m_letter m_reader m_newBeds m_newLetters m_newReaders m_beds m_letters m_readers m_newCode m_newOf m_code m_ofCode m_stack m_newCodes m_codes m_facts m_newStep m_step m_newSteps m_works m_refusedSteps m_begun m_done m_refusedNow m_now m_s m_past m_newBook m_book m_written m_mostBy m_stuffing m_stuffedMany m_lastBy m_leftBy m_splitBy m_seedNow m_image m_images) (some (.int r)) (cs_X10 J.2.2.1 a0 m_thrown m_refused m_taped m_size m_at m_bad m_badKind m_opens o_m_faultAt m_tape m_newBed m_newLetter m_newReader m_bed m_letter m_reader m_newBeds m_newLetters m_newReaders m_beds m_letters m_readers m_newCode m_newOf m_code m_ofCode m_stack m_newCodes m_codes m_facts m_newStep m_step m_newSteps m_works m_refusedSteps m_begun m_done m_refusedNow m_now m_s m_past m_newBook m_book m_written m_mostBy m_stuffing m_stuffedMany m_lastBy m_leftBy m_splitBy m_seedNow m_image m_images) := by
  refine Mt_of (own := RX10) (by decide) rfl (Nat.le_of_ble_eq_true rfl) rfl (fun Z C E => ?_)
  unfold f_X10_result at h
  show G J Z 0 0 (cs_X10 J.2.2.1 a0 m_thrown m_refused m_taped m_size m_at m_bad m_badKind m_opens m_faultAt m_tape m_newBed m_newLetter m_newReader m_bed m_letter m_reader m_newBeds m_newLetters m_newReaders m_beds m_letters m_readers m_newCode m_newOf m_code m_ofCode m_stack m_newCodes m_codes m_facts m_newStep m_step m_newSteps m_works m_refusedSteps m_begun m_done m_refusedNow m_now m_s m_past m_newBook m_book m_written m_mostBy m_stuffing m_stuffedMany m_lastBy m_leftBy m_splitBy m_seedNow m_image m_images) 2 [(0, .ref (a0 0)), (1, .int n1)] 0 []
  refine g_aload_n (pc := 0) C 0 rfl dX10_result_0 ?_
  refine g_aload_n (pc := 1) C 0 rfl dX10_result_1 ?_
  refine g_get (pc := 2) C FOK_X10 0 rfl rfl 5 (by decide) kw_1282 rfl dX10_result_2 ?_
  refine g_put (pc := 5) C (w' := cs_X10 J.2.2.1 a0 m_thrown m_refused m_taped m_size m_at m_bad m_badKind m_opens m_bad m_tape m_newBed m_newLetter m_newReader m_bed m_letter m_reader m_newBeds m_newLetters m_newReaders m_beds m_letters m_readers m_newCode m_newOf m_code m_ofCode m_stack m_newCodes m_codes m_facts m_newStep m_step m_newSteps m_works m_refusedSteps m_begun m_done m_refusedNow m_now m_s m_past m_newBook m_book m_written m_mostBy m_stuffing m_stuffedMany m_lastBy m_leftBy m_splitBy m_seedNow m_image m_images) FOK_X10 0 rfl rfl 8 (by decide) kw_1285 rfl rfl rfl (Nat.le_of_ble_eq_true rfl) dX10_result_5 rfl ?_
  refine g_aload_n (pc := 8) C 0 rfl dX10_result_8 ?_
  obtain ⟨v1, hc, h⟩ := b1_of h
  refine g_callV (pc := 9) C (w' := cs_X10 J.2.2.1 a0 m_thrown m_refused m_taped m_size m_at m_bad m_badKind m_opens m_bad m_tape m_newBed m_newLetter m_newReader m_bed m_letter m_reader m_newBeds m_newLetters m_newReaders m_beds m_letters m_readers m_newCode m_newOf m_code m_ofCode m_stack m_newCodes m_codes m_facts m_newStep m_step m_newSteps m_works m_refusedSteps m_begun m_done m_refusedNow m_now m_s m_past m_newBook m_book m_written m_mostBy m_stuffing m_stuffedMany m_lastBy m_leftBy m_splitBy m_seedNow m_image m_images) (As := []) (st := []) (ci := 10) (q0 := 0) rfl rfl (t_X10_fine (a0 := a0) hc) Sub.same kw_1458 kw_1460 kw_22 kw_95 hy_X10_fine kw_1461 rfl (Nat.le_of_ble_eq_true rfl) (Nat.le_of_ble_eq_true rfl) (Nat.le_of_ble_eq_true rfl) (Nat.le_of_ble_eq_true rfl) (Nat.le_of_ble_eq_true rfl) dX10_result_9 ?_
  refine g_if_eq (pc := 12) C (tgt := 19) dX10_result_12 rfl h (fun h => ?_) (fun h => ?_)
  · refine g_aload_n (pc := 19) C 0 rfl dX10_result_19 ?_
    refine g_get (pc := 20) C FOK_X10 0 rfl rfl 6 (by decide) kw_1283 rfl dX10_result_20 ?_
    refine g_bipush (pc := 23) C dX10_result_23 cb_10 ?_
    refine g_isub (pc := 25) C dX10_result_25 ?_
    cases h
    exact g_iret C E dX10_result_26
  · refine g_iload_n (pc := 15) C 1 rfl dX10_result_15 ?_
    refine g_goto (pc := 16) C (tgt := 26) dX10_result_16 rfl ?_
    cases h
    exact g_iret C E dX10_result_26
noncomputable def f_X10_fault (m_thrown : Int32) (m_faultAt : Int32) : Option (Int32 × Int32) := some (m_faultAt, 0)
def rm_X10_fault : Room := { frames := 0, cells := 0, slots := 0, locals := 0 }
set_option maxRecDepth 100000 in
set_option maxHeartbeats 4000000 in
theorem t_X10_fault {J : Jt} {a0 : Nat → Nat} {m_thrown : Int32} {m_refused : Nat → Int32} {m_taped : Int32} {m_size : Int32} {m_at : Int32} {m_bad : Int32} {m_badKind : Int32} {m_opens : Int32} {m_faultAt : Int32} {m_tape : Nat → Int32} {m_newBed : Nat → Int32} {m_newLetter : Nat → Int32} {m_newReader : Nat → Int32} {m_bed : Nat → Int32} {m_letter : Nat → Int32} {m_reader : Nat → Int32} {m_newBeds : Int32} {m_newLetters : Int32} {m_newReaders : Int32} {m_beds : Int32} {m_letters : Int32} {m_readers : Int32} {m_newCode : Nat → Int32} {m_newOf : Nat → Int32} {m_code : Nat → Int32} {m_ofCode : Nat → Int32} {m_stack : Nat → Int32} {m_newCodes : Int32} {m_codes : Int32} {m_facts : Nat → Int32} {m_newStep : Nat → Int32} {m_step : Nat → Int32} {m_newSteps : Int32} {m_works : Int32} {m_refusedSteps : Int32} {m_begun : Int32} {m_done : Int32} {m_refusedNow : Int32} {m_now : Nat → Int32} {m_s : Nat → Int32} {m_past : Nat → Int32} {m_newBook : Nat → Int32} {m_book : Nat → Int32} {m_written : Int32} {m_mostBy : Nat → Int32} {m_stuffing : Nat → Int32} {m_stuffedMany : Int32} {m_lastBy : Nat → Int32} {m_leftBy : Nat → Int32} {m_splitBy : Nat → Int64} {m_seedNow : Int32} {m_image : Nat → Int32} {m_images : Int32} {r : Int32} {o_m_thrown : Int32} (h : f_X10_fault m_thrown m_faultAt = some (r, o_m_thrown)) : Mt J yX10_fault cX10_fault 1 (some .int) rm_X10_fault [.ref (a0 0)] (cs_X10 J.2.2.1 a0 m_thrown m_refused m_taped m_size m_at m_bad m_badKind m_opens m_faultAt m_tape m_newBed m_newLetter m_newReader m_bed m_letter m_reader m_newBeds m_newLetters m_newReaders m_beds m_letters m_readers m_newCode m_newOf m_code m_ofCode m_stack m_newCodes m_codes m_facts m_newStep m_step m_newSteps m_works m_refusedSteps m_begun m_done m_refusedNow m_now m_s m_past m_newBook m_book m_written m_mostBy m_stuffing m_stuffedMany m_lastBy m_leftBy m_splitBy m_seedNow m_image m_images) (some (.int r)) (cs_X10 J.2.2.1 a0 o_m_thrown m_refused m_taped m_size m_at m_bad m_badKind m_opens m_faultAt m_tape m_newBed m_newLetter m_newReader m_bed m_letter m_reader m_newBeds m_newLetters m_newReaders m_beds m_letters m_readers m_newCode m_newOf m_code m_ofCode m_stack m_newCodes m_codes m_facts m_newStep m_step m_newSteps m_works m_refusedSteps m_begun m_done m_refusedNow m_now m_s m_past m_newBook m_book m_written m_mostBy m_stuffing m_stuffedMany m_lastBy m_leftBy m_splitBy m_seedNow m_image m_images) := by
  refine Mt_of (own := RX10) (by decide) rfl (Nat.le_of_ble_eq_true rfl) rfl (fun Z C E => ?_)
  unfold f_X10_fault at h
  show G J Z 0 0 (cs_X10 J.2.2.1 a0 m_thrown m_refused m_taped m_size m_at m_bad m_badKind m_opens m_faultAt m_tape m_newBed m_newLetter m_newReader m_bed m_letter m_reader m_newBeds m_newLetters m_newReaders m_beds m_letters m_readers m_newCode m_newOf m_code m_ofCode m_stack m_newCodes m_codes m_facts m_newStep m_step m_newSteps m_works m_refusedSteps m_begun m_done m_refusedNow m_now m_s m_past m_newBook m_book m_written m_mostBy m_stuffing m_stuffedMany m_lastBy m_leftBy m_splitBy m_seedNow m_image m_images) 1 [(0, .ref (a0 0))] 0 []
  refine g_aload_n (pc := 0) C 0 rfl dX10_fault_0 ?_
  refine g_iconst (pc := 1) C dX10_fault_1 ci_0 ?_
  refine g_put (pc := 2) C (w' := cs_X10 J.2.2.1 a0 0 m_refused m_taped m_size m_at m_bad m_badKind m_opens m_faultAt m_tape m_newBed m_newLetter m_newReader m_bed m_letter m_reader m_newBeds m_newLetters m_newReaders m_beds m_letters m_readers m_newCode m_newOf m_code m_ofCode m_stack m_newCodes m_codes m_facts m_newStep m_step m_newSteps m_works m_refusedSteps m_begun m_done m_refusedNow m_now m_s m_past m_newBook m_book m_written m_mostBy m_stuffing m_stuffedMany m_lastBy m_leftBy m_splitBy m_seedNow m_image m_images) FOK_X10 0 rfl rfl 0 (by decide) kw_1277 rfl rfl rfl (Nat.le_of_ble_eq_true rfl) dX10_fault_2 rfl ?_
  refine g_aload_n (pc := 5) C 0 rfl dX10_fault_5 ?_
  refine g_get (pc := 6) C FOK_X10 0 rfl rfl 8 (by decide) kw_1285 rfl dX10_fault_6 ?_
  cases h
  exact g_iret C E dX10_fault_9
noncomputable def f_X10_copies_3 (r_n : Nat) (r_v : Nat → Int32) (r2_n : Nat) (n1 : Int32) : Nat → Int32 → (Nat → Int32) → Option ((Nat → Int32))
  | 0, _, _ => none
  | n + 1, x4, r2_v => if n1 ≤ x4 then some r2_v else if ixb x4 r_n then if ixb x4 r2_n then f_X10_copies_3 r_n r_v r2_n n1 n (x4 + 1) (upd r2_v x4.toNatClampNeg (r_v x4.toNatClampNeg)) else none else none
noncomputable def f_X10_copies (r_n : Nat) (r_v : Nat → Int32) (r2_n : Nat) (r2_v : Nat → Int32) (n1 : Int32) : Option ((Nat → Int32)) := f_X10_copies_3 r_n r_v r2_n n1 FU 0 r2_v
def rm_X10_copies : Room := { frames := 0, cells := 0, slots := 0, locals := 0 }
set_option maxRecDepth 100000 in
set_option maxHeartbeats 4000000 in
theorem j_X10_copies_3 {J : Jt} {Z : Zt} {a0 : Nat → Nat} {a1 : Nat → Nat} {r_n : Nat} {r_v : Nat → Int32} {r2_n : Nat} {n1 : Int32} {rv : Nat} {o_r2_v : Nat → Int32} (C : Cx J Z cX10_copies 5 RX10 none rm_X10_copies) (E : Ez J Z 0 0 none (cs_A J.2.2.1 a0 r_n r_v ++ cs_A J.2.2.1 a1 r2_n o_r2_v)) : ∀ (n : Nat) (x4 : Int32) (r2_v : Nat → Int32), f_X10_copies_3 r_n r_v r2_n n1 n x4 r2_v = some o_r2_v → G J Z 0 0 (cs_A J.2.2.1 a0 r_n r_v ++ cs_A J.2.2.1 a1 r2_n r2_v) 5 [(1, .ref (a0 0)), (2, .ref (a1 0)), (3, .int n1), (4, .int x4)] 3 [] := by
  intro n
  induction n with
  | zero =>
    intro x4 r2_v h
    rw [f_X10_copies_3] at h
    cases h
  | succ n ih =>
    intro x4 r2_v h
    rw [f_X10_copies_3] at h
    refine g_iload (pc := 3) C 3 rfl dX10_copies_3 ?_
    refine g_iload_n (pc := 5) C 2 rfl dX10_copies_5 ?_
    refine g_icmp_ge (pc := 6) C (tgt := 23) dX10_copies_6 rfl h (fun h => ?_) (fun h => ?_)
    · cases h
      exact g_vret C E dX10_copies_23
    · refine g_aload_n (pc := 9) C 1 rfl dX10_copies_9 ?_
      refine g_iload (pc := 10) C 3 rfl dX10_copies_10 ?_
      refine g_aload_n (pc := 12) C 0 rfl dX10_copies_12 ?_
      refine g_iload (pc := 13) C 3 rfl dX10_copies_13 ?_
      obtain ⟨hi, h⟩ := ix_of h
      refine g_iald (pc := 15) C 0 rfl hi dX10_copies_15 ?_
      obtain ⟨hi, h⟩ := ix_of h
      refine g_iast (pc := 16) C (w' := cs_A J.2.2.1 a0 r_n r_v ++ cs_A J.2.2.1 a1 r2_n (upd r2_v x4.toNatClampNeg (r_v x4.toNatClampNeg))) 1 rfl hi dX10_copies_16 rfl ?_
      refine g_iinc (pc := 17) C (j := 3) [(4, .int (x4 + 1)), (1, .ref (a0 0)), (2, .ref (a1 0)), (3, .int n1)] dX10_copies_17 rfl (ii_1 _) (by decide) rfl ?_
      refine g_goto (pc := 20) C (tgt := 3) dX10_copies_20 rfl ?_
      refine g_lv [1, 2, 3, 0] rfl ?_
      exact ih (x4 + 1) (upd r2_v x4.toNatClampNeg (r_v x4.toNatClampNeg)) h
set_option maxRecDepth 100000 in
set_option maxHeartbeats 4000000 in
theorem t_X10_copies {J : Jt} {a0 : Nat → Nat} {a1 : Nat → Nat} {r_n : Nat} {r_v : Nat → Int32} {r2_n : Nat} {r2_v : Nat → Int32} {n1 : Int32} {rv : Nat} {o_r2_v : Nat → Int32} (h : f_X10_copies r_n r_v r2_n r2_v n1 = some o_r2_v) : Mt J yX10_copies cX10_copies 5 none rm_X10_copies [.ref rv, .ref (a0 0), .ref (a1 0), .int n1] (cs_A J.2.2.1 a0 r_n r_v ++ cs_A J.2.2.1 a1 r2_n r2_v) none (cs_A J.2.2.1 a0 r_n r_v ++ cs_A J.2.2.1 a1 r2_n o_r2_v) := by
  refine Mt_of (own := RX10) (by decide) rfl (Nat.le_of_ble_eq_true rfl) rfl (fun Z C E => ?_)
  unfold f_X10_copies at h
  show G J Z 0 0 (cs_A J.2.2.1 a0 r_n r_v ++ cs_A J.2.2.1 a1 r2_n r2_v) 5 [(0, .ref rv), (1, .ref (a0 0)), (2, .ref (a1 0)), (3, .int n1)] 0 []
  refine g_iconst (pc := 0) C dX10_copies_0 ci_0 ?_
  refine g_istore (pc := 1) C [(4, .int 0), (0, .ref rv), (1, .ref (a0 0)), (2, .ref (a1 0)), (3, .int n1)] dX10_copies_1 (by decide) rfl ?_
  refine g_lv [2, 3, 4, 0] rfl ?_
  exact j_X10_copies_3 (rv := rv) C E  FU 0 r2_v h
noncomputable def f_X10_clears (m_newBeds : Int32) (m_newLetters : Int32) (m_newReaders : Int32) : Option (Int32 × Int32 × Int32) := some (0, 0, 0)
def rm_X10_clears : Room := { frames := 0, cells := 0, slots := 0, locals := 0 }
set_option maxRecDepth 100000 in
set_option maxHeartbeats 4000000 in
theorem t_X10_clears {J : Jt} {a0 : Nat → Nat} {m_thrown : Int32} {m_refused : Nat → Int32} {m_taped : Int32} {m_size : Int32} {m_at : Int32} {m_bad : Int32} {m_badKind : Int32} {m_opens : Int32} {m_faultAt : Int32} {m_tape : Nat → Int32} {m_newBed : Nat → Int32} {m_newLetter : Nat → Int32} {m_newReader : Nat → Int32} {m_bed : Nat → Int32} {m_letter : Nat → Int32} {m_reader : Nat → Int32} {m_newBeds : Int32} {m_newLetters : Int32} {m_newReaders : Int32} {m_beds : Int32} {m_letters : Int32} {m_readers : Int32} {m_newCode : Nat → Int32} {m_newOf : Nat → Int32} {m_code : Nat → Int32} {m_ofCode : Nat → Int32} {m_stack : Nat → Int32} {m_newCodes : Int32} {m_codes : Int32} {m_facts : Nat → Int32} {m_newStep : Nat → Int32} {m_step : Nat → Int32} {m_newSteps : Int32} {m_works : Int32} {m_refusedSteps : Int32} {m_begun : Int32} {m_done : Int32} {m_refusedNow : Int32} {m_now : Nat → Int32} {m_s : Nat → Int32} {m_past : Nat → Int32} {m_newBook : Nat → Int32} {m_book : Nat → Int32} {m_written : Int32} {m_mostBy : Nat → Int32} {m_stuffing : Nat → Int32} {m_stuffedMany : Int32} {m_lastBy : Nat → Int32} {m_leftBy : Nat → Int32} {m_splitBy : Nat → Int64} {m_seedNow : Int32} {m_image : Nat → Int32} {m_images : Int32} {o_m_newBeds : Int32} {o_m_newLetters : Int32} {o_m_newReaders : Int32} (h : f_X10_clears m_newBeds m_newLetters m_newReaders = some (o_m_newBeds, o_m_newLetters, o_m_newReaders)) : Mt J yX10_clears cX10_clears 1 none rm_X10_clears [.ref (a0 0)] (cs_X10 J.2.2.1 a0 m_thrown m_refused m_taped m_size m_at m_bad m_badKind m_opens m_faultAt m_tape m_newBed m_newLetter m_newReader m_bed m_letter m_reader m_newBeds m_newLetters m_newReaders m_beds m_letters m_readers m_newCode m_newOf m_code m_ofCode m_stack m_newCodes m_codes m_facts m_newStep m_step m_newSteps m_works m_refusedSteps m_begun m_done m_refusedNow m_now m_s m_past m_newBook m_book m_written m_mostBy m_stuffing m_stuffedMany m_lastBy m_leftBy m_splitBy m_seedNow m_image m_images) none (cs_X10 J.2.2.1 a0 m_thrown m_refused m_taped m_size m_at m_bad m_badKind m_opens m_faultAt m_tape m_newBed m_newLetter m_newReader m_bed m_letter m_reader o_m_newBeds o_m_newLetters o_m_newReaders m_beds m_letters m_readers m_newCode m_newOf m_code m_ofCode m_stack m_newCodes m_codes m_facts m_newStep m_step m_newSteps m_works m_refusedSteps m_begun m_done m_refusedNow m_now m_s m_past m_newBook m_book m_written m_mostBy m_stuffing m_stuffedMany m_lastBy m_leftBy m_splitBy m_seedNow m_image m_images) := by
  refine Mt_of (own := RX10) (by decide) rfl (Nat.le_of_ble_eq_true rfl) rfl (fun Z C E => ?_)
  unfold f_X10_clears at h
  show G J Z 0 0 (cs_X10 J.2.2.1 a0 m_thrown m_refused m_taped m_size m_at m_bad m_badKind m_opens m_faultAt m_tape m_newBed m_newLetter m_newReader m_bed m_letter m_reader m_newBeds m_newLetters m_newReaders m_beds m_letters m_readers m_newCode m_newOf m_code m_ofCode m_stack m_newCodes m_codes m_facts m_newStep m_step m_newSteps m_works m_refusedSteps m_begun m_done m_refusedNow m_now m_s m_past m_newBook m_book m_written m_mostBy m_stuffing m_stuffedMany m_lastBy m_leftBy m_splitBy m_seedNow m_image m_images) 1 [(0, .ref (a0 0))] 0 []
  refine g_aload_n (pc := 0) C 0 rfl dX10_clears_0 ?_
  refine g_iconst (pc := 1) C dX10_clears_1 ci_0 ?_
  refine g_put (pc := 2) C (w' := cs_X10 J.2.2.1 a0 m_thrown m_refused m_taped m_size m_at m_bad m_badKind m_opens m_faultAt m_tape m_newBed m_newLetter m_newReader m_bed m_letter m_reader 0 m_newLetters m_newReaders m_beds m_letters m_readers m_newCode m_newOf m_code m_ofCode m_stack m_newCodes m_codes m_facts m_newStep m_step m_newSteps m_works m_refusedSteps m_begun m_done m_refusedNow m_now m_s m_past m_newBook m_book m_written m_mostBy m_stuffing m_stuffedMany m_lastBy m_leftBy m_splitBy m_seedNow m_image m_images) FOK_X10 0 rfl rfl 16 (by decide) kw_1293 rfl rfl rfl (Nat.le_of_ble_eq_true rfl) dX10_clears_2 rfl ?_
  refine g_aload_n (pc := 5) C 0 rfl dX10_clears_5 ?_
  refine g_iconst (pc := 6) C dX10_clears_6 ci_0 ?_
  refine g_put (pc := 7) C (w' := cs_X10 J.2.2.1 a0 m_thrown m_refused m_taped m_size m_at m_bad m_badKind m_opens m_faultAt m_tape m_newBed m_newLetter m_newReader m_bed m_letter m_reader 0 0 m_newReaders m_beds m_letters m_readers m_newCode m_newOf m_code m_ofCode m_stack m_newCodes m_codes m_facts m_newStep m_step m_newSteps m_works m_refusedSteps m_begun m_done m_refusedNow m_now m_s m_past m_newBook m_book m_written m_mostBy m_stuffing m_stuffedMany m_lastBy m_leftBy m_splitBy m_seedNow m_image m_images) FOK_X10 0 rfl rfl 17 (by decide) kw_1294 rfl rfl rfl (Nat.le_of_ble_eq_true rfl) dX10_clears_7 rfl ?_
  refine g_aload_n (pc := 10) C 0 rfl dX10_clears_10 ?_
  refine g_iconst (pc := 11) C dX10_clears_11 ci_0 ?_
  refine g_put (pc := 12) C (w' := cs_X10 J.2.2.1 a0 m_thrown m_refused m_taped m_size m_at m_bad m_badKind m_opens m_faultAt m_tape m_newBed m_newLetter m_newReader m_bed m_letter m_reader 0 0 0 m_beds m_letters m_readers m_newCode m_newOf m_code m_ofCode m_stack m_newCodes m_codes m_facts m_newStep m_step m_newSteps m_works m_refusedSteps m_begun m_done m_refusedNow m_now m_s m_past m_newBook m_book m_written m_mostBy m_stuffing m_stuffedMany m_lastBy m_leftBy m_splitBy m_seedNow m_image m_images) FOK_X10 0 rfl rfl 18 (by decide) kw_1295 rfl rfl rfl (Nat.le_of_ble_eq_true rfl) dX10_clears_12 rfl ?_
  cases h
  exact g_vret C E dX10_clears_15
noncomputable def f_X10_sets_135 (m_newBed : Nat → Int32) (m_newLetter : Nat → Int32) (m_newReader : Nat → Int32) (m_newBeds : Int32) (m_newLetters : Int32) (m_newReaders : Int32) : Nat → Int32 → (Nat → Int32) → (Nat → Int32) → (Nat → Int32) → Int32 → Int32 → Int32 → Int32 → Int32 → Int32 → (Nat → Int32) → (Nat → Int32) → Int32 → Int32 → Option ((Nat → Int32) × (Nat → Int32) × (Nat → Int32) × Int32 × Int32 × Int32 × Int32 × Int32 × Int32 × (Nat → Int32) × (Nat → Int32) × Int32 × Int32)
  | 0, _, _, _, _, _, _, _, _, _, _, _, _, _, _ => none
  | n + 1, x1, m_bed, m_letter, m_reader, m_beds, m_letters, m_readers, m_codes, m_works, m_refusedSteps, m_now, m_book, m_written, m_images => if m_readers ≤ x1 then some (m_bed, m_letter, m_reader, m_beds, m_letters, m_readers, m_codes, m_works, m_refusedSteps, m_now, m_book, m_written, m_images) else if ixb x1 5 then if ixb (90 + x1) 165 then f_X10_sets_135 m_newBed m_newLetter m_newReader m_newBeds m_newLetters m_newReaders n (x1 + 1) m_bed m_letter m_reader m_beds m_letters m_readers m_codes m_works m_refusedSteps (upd m_now (90 + x1).toNatClampNeg (m_reader x1.toNatClampNeg)) m_book m_written m_images else none else none
noncomputable def f_X10_sets_113 (m_newBed : Nat → Int32) (m_newLetter : Nat → Int32) (m_newReader : Nat → Int32) (m_newBeds : Int32) (m_newLetters : Int32) (m_newReaders : Int32) : Nat → Int32 → (Nat → Int32) → (Nat → Int32) → (Nat → Int32) → Int32 → Int32 → Int32 → Int32 → Int32 → Int32 → (Nat → Int32) → (Nat → Int32) → Int32 → Int32 → Option ((Nat → Int32) × (Nat → Int32) × (Nat → Int32) × Int32 × Int32 × Int32 × Int32 × Int32 × Int32 × (Nat → Int32) × (Nat → Int32) × Int32 × Int32)
  | 0, _, _, _, _, _, _, _, _, _, _, _, _, _, _ => none
  | n + 1, x1, m_bed, m_letter, m_reader, m_beds, m_letters, m_readers, m_codes, m_works, m_refusedSteps, m_now, m_book, m_written, m_images => if 165 ≤ x1 then f_X10_sets_135 m_newBed m_newLetter m_newReader m_newBeds m_newLetters m_newReaders FU 0 m_bed m_letter m_reader m_beds m_letters m_readers m_codes m_works m_refusedSteps m_now m_book m_written m_images else if ixb x1 165 then f_X10_sets_113 m_newBed m_newLetter m_newReader m_newBeds m_newLetters m_newReaders n (x1 + 1) m_bed m_letter m_reader m_beds m_letters m_readers m_codes m_works m_refusedSteps (upd m_now x1.toNatClampNeg 0) m_book m_written m_images else none
noncomputable def f_X10_sets_92 (m_newBed : Nat → Int32) (m_newLetter : Nat → Int32) (m_newReader : Nat → Int32) (m_newBeds : Int32) (m_newLetters : Int32) (m_newReaders : Int32) : Nat → Int32 → (Nat → Int32) → (Nat → Int32) → (Nat → Int32) → Int32 → Int32 → Int32 → Int32 → Int32 → Int32 → (Nat → Int32) → (Nat → Int32) → Int32 → Int32 → Option ((Nat → Int32) × (Nat → Int32) × (Nat → Int32) × Int32 × Int32 × Int32 × Int32 × Int32 × Int32 × (Nat → Int32) × (Nat → Int32) × Int32 × Int32)
  | 0, _, _, _, _, _, _, _, _, _, _, _, _, _, _ => none
  | n + 1, x1, m_bed, m_letter, m_reader, m_beds, m_letters, m_readers, m_codes, m_works, m_refusedSteps, m_now, m_book, m_written, m_images => if 6 ≤ x1 then f_X10_sets_113 m_newBed m_newLetter m_newReader m_newBeds m_newLetters m_newReaders FU 0 m_bed m_letter m_reader m_beds m_letters m_readers m_codes m_works m_refusedSteps m_now m_book m_written m_images else if ixb x1 6 then f_X10_sets_92 m_newBed m_newLetter m_newReader m_newBeds m_newLetters m_newReaders n (x1 + 1) m_bed m_letter m_reader m_beds m_letters m_readers m_codes m_works m_refusedSteps m_now (upd m_book x1.toNatClampNeg (-1)) m_written m_images else none
noncomputable def f_X10_sets (m_newBed : Nat → Int32) (m_newLetter : Nat → Int32) (m_newReader : Nat → Int32) (m_bed : Nat → Int32) (m_letter : Nat → Int32) (m_reader : Nat → Int32) (m_newBeds : Int32) (m_newLetters : Int32) (m_newReaders : Int32) (m_beds : Int32) (m_letters : Int32) (m_readers : Int32) (m_codes : Int32) (m_works : Int32) (m_refusedSteps : Int32) (m_now : Nat → Int32) (m_book : Nat → Int32) (m_written : Int32) (m_images : Int32) : Option ((Nat → Int32) × (Nat → Int32) × (Nat → Int32) × Int32 × Int32 × Int32 × Int32 × Int32 × Int32 × (Nat → Int32) × (Nat → Int32) × Int32 × Int32) := b1 (f_X10_copies 6 m_newBed 6 m_bed 6) (fun c1 => b1 (f_X10_copies 60 m_newLetter 60 m_letter 60) (fun c2 => b1 (f_X10_copies 5 m_newReader 5 m_reader 5) (fun c3 => f_X10_sets_92 m_newBed m_newLetter m_newReader m_newBeds m_newLetters m_newReaders FU 0 c1 c2 c3 m_newBeds m_newLetters m_newReaders 0 0 0 m_now m_book 0 0)))
def rm_X10_sets : Room := { frames := 1, cells := 0, slots := 0, locals := 24 }
set_option maxRecDepth 100000 in
set_option maxHeartbeats 4000000 in
theorem j_X10_sets_135 {J : Jt} {Z : Zt} {a0 : Nat → Nat} {m_thrown : Int32} {m_refused : Nat → Int32} {m_taped : Int32} {m_size : Int32} {m_at : Int32} {m_bad : Int32} {m_badKind : Int32} {m_opens : Int32} {m_faultAt : Int32} {m_tape : Nat → Int32} {m_newBed : Nat → Int32} {m_newLetter : Nat → Int32} {m_newReader : Nat → Int32} {m_newBeds : Int32} {m_newLetters : Int32} {m_newReaders : Int32} {m_newCode : Nat → Int32} {m_newOf : Nat → Int32} {m_code : Nat → Int32} {m_ofCode : Nat → Int32} {m_stack : Nat → Int32} {m_newCodes : Int32} {m_facts : Nat → Int32} {m_newStep : Nat → Int32} {m_step : Nat → Int32} {m_newSteps : Int32} {m_begun : Int32} {m_done : Int32} {m_refusedNow : Int32} {m_s : Nat → Int32} {m_past : Nat → Int32} {m_newBook : Nat → Int32} {m_mostBy : Nat → Int32} {m_stuffing : Nat → Int32} {m_stuffedMany : Int32} {m_lastBy : Nat → Int32} {m_leftBy : Nat → Int32} {m_splitBy : Nat → Int64} {m_seedNow : Int32} {m_image : Nat → Int32} {o_m_bed : Nat → Int32} {o_m_letter : Nat → Int32} {o_m_reader : Nat → Int32} {o_m_beds : Int32} {o_m_letters : Int32} {o_m_readers : Int32} {o_m_codes : Int32} {o_m_works : Int32} {o_m_refusedSteps : Int32} {o_m_now : Nat → Int32} {o_m_book : Nat → Int32} {o_m_written : Int32} {o_m_images : Int32} (C : Cx J Z cX10_sets 2 RX10 none rm_X10_sets) (E : Ez J Z 0 0 none (cs_X10 J.2.2.1 a0 m_thrown m_refused m_taped m_size m_at m_bad m_badKind m_opens m_faultAt m_tape m_newBed m_newLetter m_newReader o_m_bed o_m_letter o_m_reader m_newBeds m_newLetters m_newReaders o_m_beds o_m_letters o_m_readers m_newCode m_newOf m_code m_ofCode m_stack m_newCodes o_m_codes m_facts m_newStep m_step m_newSteps o_m_works o_m_refusedSteps m_begun m_done m_refusedNow o_m_now m_s m_past m_newBook o_m_book o_m_written m_mostBy m_stuffing m_stuffedMany m_lastBy m_leftBy m_splitBy m_seedNow m_image o_m_images)) : ∀ (n : Nat) (x1 : Int32) (m_bed : Nat → Int32) (m_letter : Nat → Int32) (m_reader : Nat → Int32) (m_beds : Int32) (m_letters : Int32) (m_readers : Int32) (m_codes : Int32) (m_works : Int32) (m_refusedSteps : Int32) (m_now : Nat → Int32) (m_book : Nat → Int32) (m_written : Int32) (m_images : Int32), f_X10_sets_135 m_newBed m_newLetter m_newReader m_newBeds m_newLetters m_newReaders n x1 m_bed m_letter m_reader m_beds m_letters m_readers m_codes m_works m_refusedSteps m_now m_book m_written m_images = some (o_m_bed, o_m_letter, o_m_reader, o_m_beds, o_m_letters, o_m_readers, o_m_codes, o_m_works, o_m_refusedSteps, o_m_now, o_m_book, o_m_written, o_m_images) → G J Z 0 0 (cs_X10 J.2.2.1 a0 m_thrown m_refused m_taped m_size m_at m_bad m_badKind m_opens m_faultAt m_tape m_newBed m_newLetter m_newReader m_bed m_letter m_reader m_newBeds m_newLetters m_newReaders m_beds m_letters m_readers m_newCode m_newOf m_code m_ofCode m_stack m_newCodes m_codes m_facts m_newStep m_step m_newSteps m_works m_refusedSteps m_begun m_done m_refusedNow m_now m_s m_past m_newBook m_book m_written m_mostBy m_stuffing m_stuffedMany m_lastBy m_leftBy m_splitBy m_seedNow m_image m_images) 2 [(0, .ref (a0 0)), (1, .int x1)] 135 [] := by
  intro n
  induction n with
  | zero =>
    intro x1 m_bed m_letter m_reader m_beds m_letters m_readers m_codes m_works m_refusedSteps m_now m_book m_written m_images h
    rw [f_X10_sets_135] at h
    cases h
  | succ n ih =>
    intro x1 m_bed m_letter m_reader m_beds m_letters m_readers m_codes m_works m_refusedSteps m_now m_book m_written m_images h
    rw [f_X10_sets_135] at h
    refine g_iload_n (pc := 135) C 1 rfl dX10_sets_135 ?_
    refine g_aload_n (pc := 136) C 0 rfl dX10_sets_136 ?_
    refine g_get (pc := 137) C FOK_X10 0 rfl rfl 21 (by decide) kw_1298 rfl dX10_sets_137 ?_
    refine g_icmp_ge (pc := 140) C (tgt := 164) dX10_sets_140 rfl h (fun h => ?_) (fun h => ?_)
    · cases h
      exact g_vret C E dX10_sets_164
    · refine g_aload_n (pc := 143) C 0 rfl dX10_sets_143 ?_
      refine g_get (pc := 144) C FOK_X10 0 rfl rfl 38 (by decide) kw_1315 rfl dX10_sets_144 ?_
      refine g_bipush (pc := 147) C dX10_sets_147 cb_90 ?_
      refine g_iload_n (pc := 149) C 1 rfl dX10_sets_149 ?_
      refine g_iadd (pc := 150) C dX10_sets_150 ?_
      refine g_aload_n (pc := 151) C 0 rfl dX10_sets_151 ?_
      refine g_get (pc := 152) C FOK_X10 0 rfl rfl 15 (by decide) kw_1292 rfl dX10_sets_152 ?_
      refine g_iload_n (pc := 155) C 1 rfl dX10_sets_155 ?_
      obtain ⟨hi, h⟩ := ix_of h
      refine g_iald (pc := 156) C 8 rfl hi dX10_sets_156 ?_
      obtain ⟨hi, h⟩ := ix_of h
      refine g_iast (pc := 157) C (w' := cs_X10 J.2.2.1 a0 m_thrown m_refused m_taped m_size m_at m_bad m_badKind m_opens m_faultAt m_tape m_newBed m_newLetter m_newReader m_bed m_letter m_reader m_newBeds m_newLetters m_newReaders m_beds m_letters m_readers m_newCode m_newOf m_code m_ofCode m_stack m_newCodes m_codes m_facts m_newStep m_step m_newSteps m_works m_refusedSteps m_begun m_done m_refusedNow (upd m_now (90 + x1).toNatClampNeg (m_reader x1.toNatClampNeg)) m_s m_past m_newBook m_book m_written m_mostBy m_stuffing m_stuffedMany m_lastBy m_leftBy m_splitBy m_seedNow m_image m_images) 17 rfl hi dX10_sets_157 rfl ?_
      refine g_iinc (pc := 158) C (j := 1) [(1, .int (x1 + 1)), (0, .ref (a0 0))] dX10_sets_158 rfl (ii_1 _) (by decide) rfl ?_
      refine g_goto (pc := 161) C (tgt := 135) dX10_sets_161 rfl ?_
      refine g_lv [1, 0] rfl ?_
      exact ih (x1 + 1) m_bed m_letter m_reader m_beds m_letters m_readers m_codes m_works m_refusedSteps (upd m_now (90 + x1).toNatClampNeg (m_reader x1.toNatClampNeg)) m_book m_written m_images h
set_option maxRecDepth 100000 in
set_option maxHeartbeats 4000000 in
theorem j_X10_sets_113 {J : Jt} {Z : Zt} {a0 : Nat → Nat} {m_thrown : Int32} {m_refused : Nat → Int32} {m_taped : Int32} {m_size : Int32} {m_at : Int32} {m_bad : Int32} {m_badKind : Int32} {m_opens : Int32} {m_faultAt : Int32} {m_tape : Nat → Int32} {m_newBed : Nat → Int32} {m_newLetter : Nat → Int32} {m_newReader : Nat → Int32} {m_newBeds : Int32} {m_newLetters : Int32} {m_newReaders : Int32} {m_newCode : Nat → Int32} {m_newOf : Nat → Int32} {m_code : Nat → Int32} {m_ofCode : Nat → Int32} {m_stack : Nat → Int32} {m_newCodes : Int32} {m_facts : Nat → Int32} {m_newStep : Nat → Int32} {m_step : Nat → Int32} {m_newSteps : Int32} {m_begun : Int32} {m_done : Int32} {m_refusedNow : Int32} {m_s : Nat → Int32} {m_past : Nat → Int32} {m_newBook : Nat → Int32} {m_mostBy : Nat → Int32} {m_stuffing : Nat → Int32} {m_stuffedMany : Int32} {m_lastBy : Nat → Int32} {m_leftBy : Nat → Int32} {m_splitBy : Nat → Int64} {m_seedNow : Int32} {m_image : Nat → Int32} {o_m_bed : Nat → Int32} {o_m_letter : Nat → Int32} {o_m_reader : Nat → Int32} {o_m_beds : Int32} {o_m_letters : Int32} {o_m_readers : Int32} {o_m_codes : Int32} {o_m_works : Int32} {o_m_refusedSteps : Int32} {o_m_now : Nat → Int32} {o_m_book : Nat → Int32} {o_m_written : Int32} {o_m_images : Int32} (C : Cx J Z cX10_sets 2 RX10 none rm_X10_sets) (E : Ez J Z 0 0 none (cs_X10 J.2.2.1 a0 m_thrown m_refused m_taped m_size m_at m_bad m_badKind m_opens m_faultAt m_tape m_newBed m_newLetter m_newReader o_m_bed o_m_letter o_m_reader m_newBeds m_newLetters m_newReaders o_m_beds o_m_letters o_m_readers m_newCode m_newOf m_code m_ofCode m_stack m_newCodes o_m_codes m_facts m_newStep m_step m_newSteps o_m_works o_m_refusedSteps m_begun m_done m_refusedNow o_m_now m_s m_past m_newBook o_m_book o_m_written m_mostBy m_stuffing m_stuffedMany m_lastBy m_leftBy m_splitBy m_seedNow m_image o_m_images)) : ∀ (n : Nat) (x1 : Int32) (m_bed : Nat → Int32) (m_letter : Nat → Int32) (m_reader : Nat → Int32) (m_beds : Int32) (m_letters : Int32) (m_readers : Int32) (m_codes : Int32) (m_works : Int32) (m_refusedSteps : Int32) (m_now : Nat → Int32) (m_book : Nat → Int32) (m_written : Int32) (m_images : Int32), f_X10_sets_113 m_newBed m_newLetter m_newReader m_newBeds m_newLetters m_newReaders n x1 m_bed m_letter m_reader m_beds m_letters m_readers m_codes m_works m_refusedSteps m_now m_book m_written m_images = some (o_m_bed, o_m_letter, o_m_reader, o_m_beds, o_m_letters, o_m_readers, o_m_codes, o_m_works, o_m_refusedSteps, o_m_now, o_m_book, o_m_written, o_m_images) → G J Z 0 0 (cs_X10 J.2.2.1 a0 m_thrown m_refused m_taped m_size m_at m_bad m_badKind m_opens m_faultAt m_tape m_newBed m_newLetter m_newReader m_bed m_letter m_reader m_newBeds m_newLetters m_newReaders m_beds m_letters m_readers m_newCode m_newOf m_code m_ofCode m_stack m_newCodes m_codes m_facts m_newStep m_step m_newSteps m_works m_refusedSteps m_begun m_done m_refusedNow m_now m_s m_past m_newBook m_book m_written m_mostBy m_stuffing m_stuffedMany m_lastBy m_leftBy m_splitBy m_seedNow m_image m_images) 2 [(0, .ref (a0 0)), (1, .int x1)] 113 [] := by
  intro n
  induction n with
  | zero =>
    intro x1 m_bed m_letter m_reader m_beds m_letters m_readers m_codes m_works m_refusedSteps m_now m_book m_written m_images h
    rw [f_X10_sets_113] at h
    cases h
  | succ n ih =>
    intro x1 m_bed m_letter m_reader m_beds m_letters m_readers m_codes m_works m_refusedSteps m_now m_book m_written m_images h
    rw [f_X10_sets_113] at h
    refine g_iload_n (pc := 113) C 1 rfl dX10_sets_113 ?_
    refine g_sipush (pc := 114) C dX10_sets_114 cs_165 ?_
    refine g_icmp_ge (pc := 117) C (tgt := 133) dX10_sets_117 rfl h (fun h => ?_) (fun h => ?_)
    · refine g_iconst (pc := 133) C dX10_sets_133 ci_0 ?_
      refine g_istore_n (pc := 134) C [(1, .int 0), (0, .ref (a0 0))] dX10_sets_134 rfl (by decide) rfl ?_
      refine g_lv [1, 0] rfl ?_
      exact j_X10_sets_135 C E  FU 0 m_bed m_letter m_reader m_beds m_letters m_readers m_codes m_works m_refusedSteps m_now m_book m_written m_images h
    · refine g_aload_n (pc := 120) C 0 rfl dX10_sets_120 ?_
      refine g_get (pc := 121) C FOK_X10 0 rfl rfl 38 (by decide) kw_1315 rfl dX10_sets_121 ?_
      refine g_iload_n (pc := 124) C 1 rfl dX10_sets_124 ?_
      refine g_iconst (pc := 125) C dX10_sets_125 ci_0 ?_
      obtain ⟨hi, h⟩ := ix_of h
      refine g_iast (pc := 126) C (w' := cs_X10 J.2.2.1 a0 m_thrown m_refused m_taped m_size m_at m_bad m_badKind m_opens m_faultAt m_tape m_newBed m_newLetter m_newReader m_bed m_letter m_reader m_newBeds m_newLetters m_newReaders m_beds m_letters m_readers m_newCode m_newOf m_code m_ofCode m_stack m_newCodes m_codes m_facts m_newStep m_step m_newSteps m_works m_refusedSteps m_begun m_done m_refusedNow (upd m_now x1.toNatClampNeg 0) m_s m_past m_newBook m_book m_written m_mostBy m_stuffing m_stuffedMany m_lastBy m_leftBy m_splitBy m_seedNow m_image m_images) 17 rfl hi dX10_sets_126 rfl ?_
      refine g_iinc (pc := 127) C (j := 1) [(1, .int (x1 + 1)), (0, .ref (a0 0))] dX10_sets_127 rfl (ii_1 _) (by decide) rfl ?_
      refine g_goto (pc := 130) C (tgt := 113) dX10_sets_130 rfl ?_
      refine g_lv [1, 0] rfl ?_
      exact ih (x1 + 1) m_bed m_letter m_reader m_beds m_letters m_readers m_codes m_works m_refusedSteps (upd m_now x1.toNatClampNeg 0) m_book m_written m_images h
set_option maxRecDepth 100000 in
set_option maxHeartbeats 4000000 in
theorem j_X10_sets_92 {J : Jt} {Z : Zt} {a0 : Nat → Nat} {m_thrown : Int32} {m_refused : Nat → Int32} {m_taped : Int32} {m_size : Int32} {m_at : Int32} {m_bad : Int32} {m_badKind : Int32} {m_opens : Int32} {m_faultAt : Int32} {m_tape : Nat → Int32} {m_newBed : Nat → Int32} {m_newLetter : Nat → Int32} {m_newReader : Nat → Int32} {m_newBeds : Int32} {m_newLetters : Int32} {m_newReaders : Int32} {m_newCode : Nat → Int32} {m_newOf : Nat → Int32} {m_code : Nat → Int32} {m_ofCode : Nat → Int32} {m_stack : Nat → Int32} {m_newCodes : Int32} {m_facts : Nat → Int32} {m_newStep : Nat → Int32} {m_step : Nat → Int32} {m_newSteps : Int32} {m_begun : Int32} {m_done : Int32} {m_refusedNow : Int32} {m_s : Nat → Int32} {m_past : Nat → Int32} {m_newBook : Nat → Int32} {m_mostBy : Nat → Int32} {m_stuffing : Nat → Int32} {m_stuffedMany : Int32} {m_lastBy : Nat → Int32} {m_leftBy : Nat → Int32} {m_splitBy : Nat → Int64} {m_seedNow : Int32} {m_image : Nat → Int32} {o_m_bed : Nat → Int32} {o_m_letter : Nat → Int32} {o_m_reader : Nat → Int32} {o_m_beds : Int32} {o_m_letters : Int32} {o_m_readers : Int32} {o_m_codes : Int32} {o_m_works : Int32} {o_m_refusedSteps : Int32} {o_m_now : Nat → Int32} {o_m_book : Nat → Int32} {o_m_written : Int32} {o_m_images : Int32} (C : Cx J Z cX10_sets 2 RX10 none rm_X10_sets) (E : Ez J Z 0 0 none (cs_X10 J.2.2.1 a0 m_thrown m_refused m_taped m_size m_at m_bad m_badKind m_opens m_faultAt m_tape m_newBed m_newLetter m_newReader o_m_bed o_m_letter o_m_reader m_newBeds m_newLetters m_newReaders o_m_beds o_m_letters o_m_readers m_newCode m_newOf m_code m_ofCode m_stack m_newCodes o_m_codes m_facts m_newStep m_step m_newSteps o_m_works o_m_refusedSteps m_begun m_done m_refusedNow o_m_now m_s m_past m_newBook o_m_book o_m_written m_mostBy m_stuffing m_stuffedMany m_lastBy m_leftBy m_splitBy m_seedNow m_image o_m_images)) : ∀ (n : Nat) (x1 : Int32) (m_bed : Nat → Int32) (m_letter : Nat → Int32) (m_reader : Nat → Int32) (m_beds : Int32) (m_letters : Int32) (m_readers : Int32) (m_codes : Int32) (m_works : Int32) (m_refusedSteps : Int32) (m_now : Nat → Int32) (m_book : Nat → Int32) (m_written : Int32) (m_images : Int32), f_X10_sets_92 m_newBed m_newLetter m_newReader m_newBeds m_newLetters m_newReaders n x1 m_bed m_letter m_reader m_beds m_letters m_readers m_codes m_works m_refusedSteps m_now m_book m_written m_images = some (o_m_bed, o_m_letter, o_m_reader, o_m_beds, o_m_letters, o_m_readers, o_m_codes, o_m_works, o_m_refusedSteps, o_m_now, o_m_book, o_m_written, o_m_images) → G J Z 0 0 (cs_X10 J.2.2.1 a0 m_thrown m_refused m_taped m_size m_at m_bad m_badKind m_opens m_faultAt m_tape m_newBed m_newLetter m_newReader m_bed m_letter m_reader m_newBeds m_newLetters m_newReaders m_beds m_letters m_readers m_newCode m_newOf m_code m_ofCode m_stack m_newCodes m_codes m_facts m_newStep m_step m_newSteps m_works m_refusedSteps m_begun m_done m_refusedNow m_now m_s m_past m_newBook m_book m_written m_mostBy m_stuffing m_stuffedMany m_lastBy m_leftBy m_splitBy m_seedNow m_image m_images) 2 [(0, .ref (a0 0)), (1, .int x1)] 92 [] := by
  intro n
  induction n with
  | zero =>
    intro x1 m_bed m_letter m_reader m_beds m_letters m_readers m_codes m_works m_refusedSteps m_now m_book m_written m_images h
    rw [f_X10_sets_92] at h
    cases h
  | succ n ih =>
    intro x1 m_bed m_letter m_reader m_beds m_letters m_readers m_codes m_works m_refusedSteps m_now m_book m_written m_images h
    rw [f_X10_sets_92] at h
    refine g_iload_n (pc := 92) C 1 rfl dX10_sets_92 ?_
    refine g_bipush (pc := 93) C dX10_sets_93 cb_6 ?_
    refine g_icmp_ge (pc := 95) C (tgt := 111) dX10_sets_95 rfl h (fun h => ?_) (fun h => ?_)
    · refine g_iconst (pc := 111) C dX10_sets_111 ci_0 ?_
      refine g_istore_n (pc := 112) C [(1, .int 0), (0, .ref (a0 0))] dX10_sets_112 rfl (by decide) rfl ?_
      refine g_lv [1, 0] rfl ?_
      exact j_X10_sets_113 C E  FU 0 m_bed m_letter m_reader m_beds m_letters m_readers m_codes m_works m_refusedSteps m_now m_book m_written m_images h
    · refine g_aload_n (pc := 98) C 0 rfl dX10_sets_98 ?_
      refine g_get (pc := 99) C FOK_X10 0 rfl rfl 42 (by decide) kw_1319 rfl dX10_sets_99 ?_
      refine g_iload_n (pc := 102) C 1 rfl dX10_sets_102 ?_
      refine g_iconst (pc := 103) C dX10_sets_103 ci_m1 ?_
      obtain ⟨hi, h⟩ := ix_of h
      refine g_iast (pc := 104) C (w' := cs_X10 J.2.2.1 a0 m_thrown m_refused m_taped m_size m_at m_bad m_badKind m_opens m_faultAt m_tape m_newBed m_newLetter m_newReader m_bed m_letter m_reader m_newBeds m_newLetters m_newReaders m_beds m_letters m_readers m_newCode m_newOf m_code m_ofCode m_stack m_newCodes m_codes m_facts m_newStep m_step m_newSteps m_works m_refusedSteps m_begun m_done m_refusedNow m_now m_s m_past m_newBook (upd m_book x1.toNatClampNeg (-1)) m_written m_mostBy m_stuffing m_stuffedMany m_lastBy m_leftBy m_splitBy m_seedNow m_image m_images) 21 rfl hi dX10_sets_104 rfl ?_
      refine g_iinc (pc := 105) C (j := 1) [(1, .int (x1 + 1)), (0, .ref (a0 0))] dX10_sets_105 rfl (ii_1 _) (by decide) rfl ?_
      refine g_goto (pc := 108) C (tgt := 92) dX10_sets_108 rfl ?_
      refine g_lv [1, 0] rfl ?_
      exact ih (x1 + 1) m_bed m_letter m_reader m_beds m_letters m_readers m_codes m_works m_refusedSteps m_now (upd m_book x1.toNatClampNeg (-1)) m_written m_images h
set_option maxRecDepth 100000 in
set_option maxHeartbeats 4000000 in
theorem t_X10_sets {J : Jt} {a0 : Nat → Nat} {m_thrown : Int32} {m_refused : Nat → Int32} {m_taped : Int32} {m_size : Int32} {m_at : Int32} {m_bad : Int32} {m_badKind : Int32} {m_opens : Int32} {m_faultAt : Int32} {m_tape : Nat → Int32} {m_newBed : Nat → Int32} {m_newLetter : Nat → Int32} {m_newReader : Nat → Int32} {m_bed : Nat → Int32} {m_letter : Nat → Int32} {m_reader : Nat → Int32} {m_newBeds : Int32} {m_newLetters : Int32} {m_newReaders : Int32} {m_beds : Int32} {m_letters : Int32} {m_readers : Int32} {m_newCode : Nat → Int32} {m_newOf : Nat → Int32} {m_code : Nat → Int32} {m_ofCode : Nat → Int32} {m_stack : Nat → Int32} {m_newCodes : Int32} {m_codes : Int32} {m_facts : Nat → Int32} {m_newStep : Nat → Int32} {m_step : Nat → Int32} {m_newSteps : Int32} {m_works : Int32} {m_refusedSteps : Int32} {m_begun : Int32} {m_done : Int32} {m_refusedNow : Int32} {m_now : Nat → Int32} {m_s : Nat → Int32} {m_past : Nat → Int32} {m_newBook : Nat → Int32} {m_book : Nat → Int32} {m_written : Int32} {m_mostBy : Nat → Int32} {m_stuffing : Nat → Int32} {m_stuffedMany : Int32} {m_lastBy : Nat → Int32} {m_leftBy : Nat → Int32} {m_splitBy : Nat → Int64} {m_seedNow : Int32} {m_image : Nat → Int32} {m_images : Int32} {o_m_bed : Nat → Int32} {o_m_letter : Nat → Int32} {o_m_reader : Nat → Int32} {o_m_beds : Int32} {o_m_letters : Int32} {o_m_readers : Int32} {o_m_codes : Int32} {o_m_works : Int32} {o_m_refusedSteps : Int32} {o_m_now : Nat → Int32} {o_m_book : Nat → Int32} {o_m_written : Int32} {o_m_images : Int32} (h : f_X10_sets m_newBed m_newLetter m_newReader m_bed m_letter m_reader m_newBeds m_newLetters m_newReaders m_beds m_letters m_readers m_codes m_works m_refusedSteps m_now m_book m_written m_images = some (o_m_bed, o_m_letter, o_m_reader, o_m_beds, o_m_letters, o_m_readers, o_m_codes, o_m_works, o_m_refusedSteps, o_m_now, o_m_book, o_m_written, o_m_images)) : Mt J yX10_sets cX10_sets 2 none rm_X10_sets [.ref (a0 0)] (cs_X10 J.2.2.1 a0 m_thrown m_refused m_taped m_size m_at m_bad m_badKind m_opens m_faultAt m_tape m_newBed m_newLetter m_newReader m_bed m_letter m_reader m_newBeds m_newLetters m_newReaders m_beds m_letters m_readers m_newCode m_newOf m_code m_ofCode m_stack m_newCodes m_codes m_facts m_newStep m_step m_newSteps m_works m_refusedSteps m_begun m_done m_refusedNow m_now m_s m_past m_newBook m_book m_written m_mostBy m_stuffing m_stuffedMany m_lastBy m_leftBy m_splitBy m_seedNow m_image m_images) none (cs_X10 J.2.2.1 a0 m_thrown m_refused m_taped m_size m_at m_bad m_badKind m_opens m_faultAt m_tape m_newBed m_newLetter m_newReader o_m_bed o_m_letter o_m_reader m_newBeds m_newLetters m_newReaders o_m_beds o_m_letters o_m_readers m_newCode m_newOf m_code m_ofCode m_stack m_newCodes o_m_codes m_facts m_newStep m_step m_newSteps o_m_works o_m_refusedSteps m_begun m_done m_refusedNow o_m_now m_s m_past m_newBook o_m_book o_m_written m_mostBy m_stuffing m_stuffedMany m_lastBy m_leftBy m_splitBy m_seedNow m_image o_m_images) := by
  refine Mt_of (own := RX10) (by decide) rfl (Nat.le_of_ble_eq_true rfl) rfl (fun Z C E => ?_)
  unfold f_X10_sets at h
  show G J Z 0 0 (cs_X10 J.2.2.1 a0 m_thrown m_refused m_taped m_size m_at m_bad m_badKind m_opens m_faultAt m_tape m_newBed m_newLetter m_newReader m_bed m_letter m_reader m_newBeds m_newLetters m_newReaders m_beds m_letters m_readers m_newCode m_newOf m_code m_ofCode m_stack m_newCodes m_codes m_facts m_newStep m_step m_newSteps m_works m_refusedSteps m_begun m_done m_refusedNow m_now m_s m_past m_newBook m_book m_written m_mostBy m_stuffing m_stuffedMany m_lastBy m_leftBy m_splitBy m_seedNow m_image m_images) 2 [(0, .ref (a0 0))] 0 []
  refine g_aload_n (pc := 0) C 0 rfl dX10_sets_0 ?_
  refine g_aload_n (pc := 1) C 0 rfl dX10_sets_1 ?_
  refine g_get (pc := 2) C FOK_X10 0 rfl rfl 16 (by decide) kw_1293 rfl dX10_sets_2 ?_
  refine g_put (pc := 5) C (w' := cs_X10 J.2.2.1 a0 m_thrown m_refused m_taped m_size m_at m_bad m_badKind m_opens m_faultAt m_tape m_newBed m_newLetter m_newReader m_bed m_letter m_reader m_newBeds m_newLetters m_newReaders m_newBeds m_letters m_readers m_newCode m_newOf m_code m_ofCode m_stack m_newCodes m_codes m_facts m_newStep m_step m_newSteps m_works m_refusedSteps m_begun m_done m_refusedNow m_now m_s m_past m_newBook m_book m_written m_mostBy m_stuffing m_stuffedMany m_lastBy m_leftBy m_splitBy m_seedNow m_image m_images) FOK_X10 0 rfl rfl 19 (by decide) kw_1296 rfl rfl rfl (Nat.le_of_ble_eq_true rfl) dX10_sets_5 rfl ?_
  refine g_aload_n (pc := 8) C 0 rfl dX10_sets_8 ?_
  refine g_aload_n (pc := 9) C 0 rfl dX10_sets_9 ?_
  refine g_get (pc := 10) C FOK_X10 0 rfl rfl 17 (by decide) kw_1294 rfl dX10_sets_10 ?_
  refine g_put (pc := 13) C (w' := cs_X10 J.2.2.1 a0 m_thrown m_refused m_taped m_size m_at m_bad m_badKind m_opens m_faultAt m_tape m_newBed m_newLetter m_newReader m_bed m_letter m_reader m_newBeds m_newLetters m_newReaders m_newBeds m_newLetters m_readers m_newCode m_newOf m_code m_ofCode m_stack m_newCodes m_codes m_facts m_newStep m_step m_newSteps m_works m_refusedSteps m_begun m_done m_refusedNow m_now m_s m_past m_newBook m_book m_written m_mostBy m_stuffing m_stuffedMany m_lastBy m_leftBy m_splitBy m_seedNow m_image m_images) FOK_X10 0 rfl rfl 20 (by decide) kw_1297 rfl rfl rfl (Nat.le_of_ble_eq_true rfl) dX10_sets_13 rfl ?_
  refine g_aload_n (pc := 16) C 0 rfl dX10_sets_16 ?_
  refine g_aload_n (pc := 17) C 0 rfl dX10_sets_17 ?_
  refine g_get (pc := 18) C FOK_X10 0 rfl rfl 18 (by decide) kw_1295 rfl dX10_sets_18 ?_
  refine g_put (pc := 21) C (w' := cs_X10 J.2.2.1 a0 m_thrown m_refused m_taped m_size m_at m_bad m_badKind m_opens m_faultAt m_tape m_newBed m_newLetter m_newReader m_bed m_letter m_reader m_newBeds m_newLetters m_newReaders m_newBeds m_newLetters m_newReaders m_newCode m_newOf m_code m_ofCode m_stack m_newCodes m_codes m_facts m_newStep m_step m_newSteps m_works m_refusedSteps m_begun m_done m_refusedNow m_now m_s m_past m_newBook m_book m_written m_mostBy m_stuffing m_stuffedMany m_lastBy m_leftBy m_splitBy m_seedNow m_image m_images) FOK_X10 0 rfl rfl 21 (by decide) kw_1298 rfl rfl rfl (Nat.le_of_ble_eq_true rfl) dX10_sets_21 rfl ?_
  refine g_aload_n (pc := 24) C 0 rfl dX10_sets_24 ?_
  refine g_aload_n (pc := 25) C 0 rfl dX10_sets_25 ?_
  refine g_get (pc := 26) C FOK_X10 0 rfl rfl 10 (by decide) kw_1287 rfl dX10_sets_26 ?_
  refine g_aload_n (pc := 29) C 0 rfl dX10_sets_29 ?_
  refine g_get (pc := 30) C FOK_X10 0 rfl rfl 13 (by decide) kw_1290 rfl dX10_sets_30 ?_
  refine g_bipush (pc := 33) C dX10_sets_33 cb_6 ?_
  obtain ⟨c1, hc, h⟩ := b1_of h
  refine g_callV (pc := 35) C (w' := cs_X10 J.2.2.1 a0 m_thrown m_refused m_taped m_size m_at m_bad m_badKind m_opens m_faultAt m_tape m_newBed m_newLetter m_newReader c1 m_letter m_reader m_newBeds m_newLetters m_newReaders m_newBeds m_newLetters m_newReaders m_newCode m_newOf m_code m_ofCode m_stack m_newCodes m_codes m_facts m_newStep m_step m_newSteps m_works m_refusedSteps m_begun m_done m_refusedNow m_now m_s m_past m_newBook m_book m_written m_mostBy m_stuffing m_stuffedMany m_lastBy m_leftBy m_splitBy m_seedNow m_image m_images) (As := [.ref (a0 3), .ref (a0 6), .int 6]) (st := []) (ci := 10) (q0 := 0) rfl rfl (t_X10_copies (rv := a0 0) (a0 := (fun _ => a0 3)) (a1 := (fun _ => a0 6)) hc) (Sub.gen [3, 6] [0, 1, 2, 4, 5, 7, 8, 9, 10, 11, 12, 13, 14, 15, 16, 17, 18, 19, 20, 21, 22, 23, 24, 25, 26, 27] [0, 1, 2, 26, 3, 4, 27, 5, 6, 7, 8, 9, 10, 11, 12, 13, 14, 15, 16, 17, 18, 19, 20, 21, 22, 23, 24, 25] rfl (by decide) rfl (by decide) (by decide) rfl (by decide)) kw_1273 kw_1275 kw_19 kw_95 hy_X10_copies kw_1276 rfl (Nat.le_of_ble_eq_true rfl) (Nat.le_of_ble_eq_true rfl) (Nat.le_of_ble_eq_true rfl) (Nat.le_of_ble_eq_true rfl) (Nat.le_of_ble_eq_true rfl) dX10_sets_35 ?_
  refine g_aload_n (pc := 38) C 0 rfl dX10_sets_38 ?_
  refine g_aload_n (pc := 39) C 0 rfl dX10_sets_39 ?_
  refine g_get (pc := 40) C FOK_X10 0 rfl rfl 11 (by decide) kw_1288 rfl dX10_sets_40 ?_
  refine g_aload_n (pc := 43) C 0 rfl dX10_sets_43 ?_
  refine g_get (pc := 44) C FOK_X10 0 rfl rfl 14 (by decide) kw_1291 rfl dX10_sets_44 ?_
  refine g_bipush (pc := 47) C dX10_sets_47 cb_60 ?_
  obtain ⟨c2, hc, h⟩ := b1_of h
  refine g_callV (pc := 49) C (w' := cs_X10 J.2.2.1 a0 m_thrown m_refused m_taped m_size m_at m_bad m_badKind m_opens m_faultAt m_tape m_newBed m_newLetter m_newReader c1 c2 m_reader m_newBeds m_newLetters m_newReaders m_newBeds m_newLetters m_newReaders m_newCode m_newOf m_code m_ofCode m_stack m_newCodes m_codes m_facts m_newStep m_step m_newSteps m_works m_refusedSteps m_begun m_done m_refusedNow m_now m_s m_past m_newBook m_book m_written m_mostBy m_stuffing m_stuffedMany m_lastBy m_leftBy m_splitBy m_seedNow m_image m_images) (As := [.ref (a0 4), .ref (a0 7), .int 60]) (st := []) (ci := 10) (q0 := 0) rfl rfl (t_X10_copies (rv := a0 0) (a0 := (fun _ => a0 4)) (a1 := (fun _ => a0 7)) hc) (Sub.gen [4, 7] [0, 1, 2, 3, 5, 6, 8, 9, 10, 11, 12, 13, 14, 15, 16, 17, 18, 19, 20, 21, 22, 23, 24, 25, 26, 27] [0, 1, 2, 3, 26, 4, 5, 27, 6, 7, 8, 9, 10, 11, 12, 13, 14, 15, 16, 17, 18, 19, 20, 21, 22, 23, 24, 25] rfl (by decide) rfl (by decide) (by decide) rfl (by decide)) kw_1273 kw_1275 kw_19 kw_95 hy_X10_copies kw_1276 rfl (Nat.le_of_ble_eq_true rfl) (Nat.le_of_ble_eq_true rfl) (Nat.le_of_ble_eq_true rfl) (Nat.le_of_ble_eq_true rfl) (Nat.le_of_ble_eq_true rfl) dX10_sets_49 ?_
  refine g_aload_n (pc := 52) C 0 rfl dX10_sets_52 ?_
  refine g_aload_n (pc := 53) C 0 rfl dX10_sets_53 ?_
  refine g_get (pc := 54) C FOK_X10 0 rfl rfl 12 (by decide) kw_1289 rfl dX10_sets_54 ?_
  refine g_aload_n (pc := 57) C 0 rfl dX10_sets_57 ?_
  refine g_get (pc := 58) C FOK_X10 0 rfl rfl 15 (by decide) kw_1292 rfl dX10_sets_58 ?_
  refine g_iconst (pc := 61) C dX10_sets_61 ci_5 ?_
  obtain ⟨c3, hc, h⟩ := b1_of h
  refine g_callV (pc := 62) C (w' := cs_X10 J.2.2.1 a0 m_thrown m_refused m_taped m_size m_at m_bad m_badKind m_opens m_faultAt m_tape m_newBed m_newLetter m_newReader c1 c2 c3 m_newBeds m_newLetters m_newReaders m_newBeds m_newLetters m_newReaders m_newCode m_newOf m_code m_ofCode m_stack m_newCodes m_codes m_facts m_newStep m_step m_newSteps m_works m_refusedSteps m_begun m_done m_refusedNow m_now m_s m_past m_newBook m_book m_written m_mostBy m_stuffing m_stuffedMany m_lastBy m_leftBy m_splitBy m_seedNow m_image m_images) (As := [.ref (a0 5), .ref (a0 8), .int 5]) (st := []) (ci := 10) (q0 := 0) rfl rfl (t_X10_copies (rv := a0 0) (a0 := (fun _ => a0 5)) (a1 := (fun _ => a0 8)) hc) (Sub.gen [5, 8] [0, 1, 2, 3, 4, 6, 7, 9, 10, 11, 12, 13, 14, 15, 16, 17, 18, 19, 20, 21, 22, 23, 24, 25, 26, 27] [0, 1, 2, 3, 4, 26, 5, 6, 27, 7, 8, 9, 10, 11, 12, 13, 14, 15, 16, 17, 18, 19, 20, 21, 22, 23, 24, 25] rfl (by decide) rfl (by decide) (by decide) rfl (by decide)) kw_1273 kw_1275 kw_19 kw_95 hy_X10_copies kw_1276 rfl (Nat.le_of_ble_eq_true rfl) (Nat.le_of_ble_eq_true rfl) (Nat.le_of_ble_eq_true rfl) (Nat.le_of_ble_eq_true rfl) (Nat.le_of_ble_eq_true rfl) dX10_sets_62 ?_
  refine g_aload_n (pc := 65) C 0 rfl dX10_sets_65 ?_
  refine g_iconst (pc := 66) C dX10_sets_66 ci_0 ?_
  refine g_put (pc := 67) C (w' := cs_X10 J.2.2.1 a0 m_thrown m_refused m_taped m_size m_at m_bad m_badKind m_opens m_faultAt m_tape m_newBed m_newLetter m_newReader c1 c2 c3 m_newBeds m_newLetters m_newReaders m_newBeds m_newLetters m_newReaders m_newCode m_newOf m_code m_ofCode m_stack m_newCodes 0 m_facts m_newStep m_step m_newSteps m_works m_refusedSteps m_begun m_done m_refusedNow m_now m_s m_past m_newBook m_book m_written m_mostBy m_stuffing m_stuffedMany m_lastBy m_leftBy m_splitBy m_seedNow m_image m_images) FOK_X10 0 rfl rfl 28 (by decide) kw_1305 rfl rfl rfl (Nat.le_of_ble_eq_true rfl) dX10_sets_67 rfl ?_
  refine g_aload_n (pc := 70) C 0 rfl dX10_sets_70 ?_
  refine g_iconst (pc := 71) C dX10_sets_71 ci_0 ?_
  refine g_put (pc := 72) C (w' := cs_X10 J.2.2.1 a0 m_thrown m_refused m_taped m_size m_at m_bad m_badKind m_opens m_faultAt m_tape m_newBed m_newLetter m_newReader c1 c2 c3 m_newBeds m_newLetters m_newReaders m_newBeds m_newLetters m_newReaders m_newCode m_newOf m_code m_ofCode m_stack m_newCodes 0 m_facts m_newStep m_step m_newSteps m_works m_refusedSteps m_begun m_done m_refusedNow m_now m_s m_past m_newBook m_book 0 m_mostBy m_stuffing m_stuffedMany m_lastBy m_leftBy m_splitBy m_seedNow m_image m_images) FOK_X10 0 rfl rfl 43 (by decide) kw_1320 rfl rfl rfl (Nat.le_of_ble_eq_true rfl) dX10_sets_72 rfl ?_
  refine g_aload_n (pc := 75) C 0 rfl dX10_sets_75 ?_
  refine g_iconst (pc := 76) C dX10_sets_76 ci_0 ?_
  refine g_put (pc := 77) C (w' := cs_X10 J.2.2.1 a0 m_thrown m_refused m_taped m_size m_at m_bad m_badKind m_opens m_faultAt m_tape m_newBed m_newLetter m_newReader c1 c2 c3 m_newBeds m_newLetters m_newReaders m_newBeds m_newLetters m_newReaders m_newCode m_newOf m_code m_ofCode m_stack m_newCodes 0 m_facts m_newStep m_step m_newSteps 0 m_refusedSteps m_begun m_done m_refusedNow m_now m_s m_past m_newBook m_book 0 m_mostBy m_stuffing m_stuffedMany m_lastBy m_leftBy m_splitBy m_seedNow m_image m_images) FOK_X10 0 rfl rfl 33 (by decide) kw_1310 rfl rfl rfl (Nat.le_of_ble_eq_true rfl) dX10_sets_77 rfl ?_
  refine g_aload_n (pc := 80) C 0 rfl dX10_sets_80 ?_
  refine g_iconst (pc := 81) C dX10_sets_81 ci_0 ?_
  refine g_put (pc := 82) C (w' := cs_X10 J.2.2.1 a0 m_thrown m_refused m_taped m_size m_at m_bad m_badKind m_opens m_faultAt m_tape m_newBed m_newLetter m_newReader c1 c2 c3 m_newBeds m_newLetters m_newReaders m_newBeds m_newLetters m_newReaders m_newCode m_newOf m_code m_ofCode m_stack m_newCodes 0 m_facts m_newStep m_step m_newSteps 0 m_refusedSteps m_begun m_done m_refusedNow m_now m_s m_past m_newBook m_book 0 m_mostBy m_stuffing m_stuffedMany m_lastBy m_leftBy m_splitBy m_seedNow m_image 0) FOK_X10 0 rfl rfl 52 (by decide) kw_1329 rfl rfl rfl (Nat.le_of_ble_eq_true rfl) dX10_sets_82 rfl ?_
  refine g_aload_n (pc := 85) C 0 rfl dX10_sets_85 ?_
  refine g_iconst (pc := 86) C dX10_sets_86 ci_0 ?_
  refine g_put (pc := 87) C (w' := cs_X10 J.2.2.1 a0 m_thrown m_refused m_taped m_size m_at m_bad m_badKind m_opens m_faultAt m_tape m_newBed m_newLetter m_newReader c1 c2 c3 m_newBeds m_newLetters m_newReaders m_newBeds m_newLetters m_newReaders m_newCode m_newOf m_code m_ofCode m_stack m_newCodes 0 m_facts m_newStep m_step m_newSteps 0 0 m_begun m_done m_refusedNow m_now m_s m_past m_newBook m_book 0 m_mostBy m_stuffing m_stuffedMany m_lastBy m_leftBy m_splitBy m_seedNow m_image 0) FOK_X10 0 rfl rfl 34 (by decide) kw_1311 rfl rfl rfl (Nat.le_of_ble_eq_true rfl) dX10_sets_87 rfl ?_
  refine g_iconst (pc := 90) C dX10_sets_90 ci_0 ?_
  refine g_istore_n (pc := 91) C [(1, .int 0), (0, .ref (a0 0))] dX10_sets_91 rfl (by decide) rfl ?_
  refine g_lv [1, 0] rfl ?_
  exact j_X10_sets_92 C E  FU 0 c1 c2 c3 m_newBeds m_newLetters m_newReaders 0 0 0 m_now m_book 0 0 h
noncomputable def f_X10_readBedTold (m_size : Int32) (m_at : Int32) (m_bad : Int32) (m_badKind : Int32) (m_tape : Nat → Int32) (m_newBeds : Int32) : Option (Int32 × Int32 × Int32 × Int32) := b4 (f_X10_readNumber m_size m_at m_bad m_badKind m_tape 0 (m_newBeds - 1)) (fun v1 c2 c3 c4 => some (v1, c2, c3, c4))
def rm_X10_readBedTold : Room := { frames := 2, cells := 0, slots := 0, locals := 47 }
set_option maxRecDepth 100000 in
set_option maxHeartbeats 4000000 in
theorem t_X10_readBedTold {J : Jt} {a0 : Nat → Nat} {m_thrown : Int32} {m_refused : Nat → Int32} {m_taped : Int32} {m_size : Int32} {m_at : Int32} {m_bad : Int32} {m_badKind : Int32} {m_opens : Int32} {m_faultAt : Int32} {m_tape : Nat → Int32} {m_newBed : Nat → Int32} {m_newLetter : Nat → Int32} {m_newReader : Nat → Int32} {m_bed : Nat → Int32} {m_letter : Nat → Int32} {m_reader : Nat → Int32} {m_newBeds : Int32} {m_newLetters : Int32} {m_newReaders : Int32} {m_beds : Int32} {m_letters : Int32} {m_readers : Int32} {m_newCode : Nat → Int32} {m_newOf : Nat → Int32} {m_code : Nat → Int32} {m_ofCode : Nat → Int32} {m_stack : Nat → Int32} {m_newCodes : Int32} {m_codes : Int32} {m_facts : Nat → Int32} {m_newStep : Nat → Int32} {m_step : Nat → Int32} {m_newSteps : Int32} {m_works : Int32} {m_refusedSteps : Int32} {m_begun : Int32} {m_done : Int32} {m_refusedNow : Int32} {m_now : Nat → Int32} {m_s : Nat → Int32} {m_past : Nat → Int32} {m_newBook : Nat → Int32} {m_book : Nat → Int32} {m_written : Int32} {m_mostBy : Nat → Int32} {m_stuffing : Nat → Int32} {m_stuffedMany : Int32} {m_lastBy : Nat → Int32} {m_leftBy : Nat → Int32} {m_splitBy : Nat → Int64} {m_seedNow : Int32} {m_image : Nat → Int32} {m_images : Int32} {r : Int32} {o_m_at : Int32} {o_m_bad : Int32} {o_m_badKind : Int32} (h : f_X10_readBedTold m_size m_at m_bad m_badKind m_tape m_newBeds = some (r, o_m_at, o_m_bad, o_m_badKind)) : Mt J yX10_readBedTold cX10_readBedTold 1 (some .int) rm_X10_readBedTold [.ref (a0 0)] (cs_X10 J.2.2.1 a0 m_thrown m_refused m_taped m_size m_at m_bad m_badKind m_opens m_faultAt m_tape m_newBed m_newLetter m_newReader m_bed m_letter m_reader m_newBeds m_newLetters m_newReaders m_beds m_letters m_readers m_newCode m_newOf m_code m_ofCode m_stack m_newCodes m_codes m_facts m_newStep m_step m_newSteps m_works m_refusedSteps m_begun m_done m_refusedNow m_now m_s m_past m_newBook m_book m_written m_mostBy m_stuffing m_stuffedMany m_lastBy m_leftBy m_splitBy m_seedNow m_image m_images) (some (.int r)) (cs_X10 J.2.2.1 a0 m_thrown m_refused m_taped m_size o_m_at o_m_bad o_m_badKind m_opens m_faultAt m_tape m_newBed m_newLetter m_newReader m_bed m_letter m_reader m_newBeds m_newLetters m_newReaders m_beds m_letters m_readers m_newCode m_newOf m_code m_ofCode m_stack m_newCodes m_codes m_facts m_newStep m_step m_newSteps m_works m_refusedSteps m_begun m_done m_refusedNow m_now m_s m_past m_newBook m_book m_written m_mostBy m_stuffing m_stuffedMany m_lastBy m_leftBy m_splitBy m_seedNow m_image m_images) := by
  refine Mt_of (own := RX10) (by decide) rfl (Nat.le_of_ble_eq_true rfl) rfl (fun Z C E => ?_)
  unfold f_X10_readBedTold at h
  show G J Z 0 0 (cs_X10 J.2.2.1 a0 m_thrown m_refused m_taped m_size m_at m_bad m_badKind m_opens m_faultAt m_tape m_newBed m_newLetter m_newReader m_bed m_letter m_reader m_newBeds m_newLetters m_newReaders m_beds m_letters m_readers m_newCode m_newOf m_code m_ofCode m_stack m_newCodes m_codes m_facts m_newStep m_step m_newSteps m_works m_refusedSteps m_begun m_done m_refusedNow m_now m_s m_past m_newBook m_book m_written m_mostBy m_stuffing m_stuffedMany m_lastBy m_leftBy m_splitBy m_seedNow m_image m_images) 1 [(0, .ref (a0 0))] 0 []
  refine g_aload_n (pc := 0) C 0 rfl dX10_readBedTold_0 ?_
  refine g_iconst (pc := 1) C dX10_readBedTold_1 ci_0 ?_
  refine g_aload_n (pc := 2) C 0 rfl dX10_readBedTold_2 ?_
  refine g_get (pc := 3) C FOK_X10 0 rfl rfl 16 (by decide) kw_1293 rfl dX10_readBedTold_3 ?_
  refine g_iconst (pc := 6) C dX10_readBedTold_6 ci_1 ?_
  refine g_isub (pc := 7) C dX10_readBedTold_7 ?_
  obtain ⟨v1, c2, c3, c4, hc, h⟩ := b4_of h
  refine g_callV (pc := 8) C (w' := cs_X10 J.2.2.1 a0 m_thrown m_refused m_taped m_size c2 c3 c4 m_opens m_faultAt m_tape m_newBed m_newLetter m_newReader m_bed m_letter m_reader m_newBeds m_newLetters m_newReaders m_beds m_letters m_readers m_newCode m_newOf m_code m_ofCode m_stack m_newCodes m_codes m_facts m_newStep m_step m_newSteps m_works m_refusedSteps m_begun m_done m_refusedNow m_now m_s m_past m_newBook m_book m_written m_mostBy m_stuffing m_stuffedMany m_lastBy m_leftBy m_splitBy m_seedNow m_image m_images) (As := [.int 0, .int (m_newBeds - 1)]) (st := []) (ci := 10) (q0 := 0) rfl rfl (t_X10_readNumber (a0 := a0) hc) Sub.same kw_1504 kw_1506 kw_30 kw_95 hy_X10_readNumber kw_1507 rfl (Nat.le_of_ble_eq_true rfl) (Nat.le_of_ble_eq_true rfl) (Nat.le_of_ble_eq_true rfl) (Nat.le_of_ble_eq_true rfl) (Nat.le_of_ble_eq_true rfl) dX10_readBedTold_8 ?_
  cases h
  exact g_iret C E dX10_readBedTold_11
noncomputable def f_X10_readLetter_58 (m_size : Int32) (m_tape : Nat → Int32) (m_newBeds : Int32) (k20 : Int32 → Int32 → Int32 → Int32 → Int32 → (Nat → Int32) → Int32 → Option (Int32 × Int32 × Int32 × (Nat → Int32) × Int32)) (x1 : Int32) (x2 : Int32) (x4 : Int32) (m_at : Int32) (m_bad : Int32) (m_badKind : Int32) (m_newLetter : Nat → Int32) (m_newLetters : Int32) : Option (Int32 × Int32 × Int32 × (Nat → Int32) × Int32) := b1 (f_X10_fine m_bad) (fun v1 => if v1 = 0 then some (m_at, m_bad, m_badKind, m_newLetter, m_newLetters) else if ixb ((x1 + 2) + x2) 60 then b2 (f_X10_here m_size m_at m_tape) (fun v2 c3 => if v2 = 59 then if ixb (x1 + 1) 60 then some (c3, m_bad, m_badKind, upd (upd m_newLetter ((x1 + 2) + x2).toNatClampNeg x4) (x1 + 1).toNatClampNeg (x2 + 1), m_newLetters + 1) else none else k20 x1 (x2 + 1) c3 m_bad m_badKind (upd m_newLetter ((x1 + 2) + x2).toNatClampNeg x4) m_newLetters) else none)
noncomputable def f_X10_readLetter_20 (m_size : Int32) (m_tape : Nat → Int32) (m_newBeds : Int32) : Nat → Int32 → Int32 → Int32 → Int32 → Int32 → (Nat → Int32) → Int32 → Option (Int32 × Int32 × Int32 × (Nat → Int32) × Int32)
  | 0, _, _, _, _, _, _, _ => none
  | n + 1, x1, x2, m_at, m_bad, m_badKind, m_newLetter, m_newLetters => b2 (f_X10_here m_size m_at m_tape) (fun v4 c5 => b4 (f_X10_readNumber m_size c5 m_bad m_badKind m_tape 0 15) (fun v6 c7 c8 c9 => b1 (f_X10_fine c8) (fun v10 => if v10 = 0 then f_X10_readLetter_58 m_size m_tape m_newBeds (f_X10_readLetter_20 m_size m_tape m_newBeds n) x1 x2 v6 c7 c8 c9 m_newLetter m_newLetters else if x2 = 8 then b2 (f_X10_wrong c8 c9 3 c5) (fun c11 c12 => f_X10_readLetter_58 m_size m_tape m_newBeds (f_X10_readLetter_20 m_size m_tape m_newBeds n) x1 x2 v6 c7 c11 c12 m_newLetter m_newLetters) else f_X10_readLetter_58 m_size m_tape m_newBeds (f_X10_readLetter_20 m_size m_tape m_newBeds n) x1 x2 v6 c7 c8 c9 m_newLetter m_newLetters)))
noncomputable def f_X10_readLetter (m_size : Int32) (m_at : Int32) (m_bad : Int32) (m_badKind : Int32) (m_tape : Nat → Int32) (m_newLetter : Nat → Int32) (m_newBeds : Int32) (m_newLetters : Int32) : Option (Int32 × Int32 × Int32 × (Nat → Int32) × Int32) := b4 (f_X10_readBedTold m_size m_at m_bad m_badKind m_tape m_newBeds) (fun v13 c14 c15 c16 => if ixb (10 * m_newLetters) 60 then f_X10_readLetter_20 m_size m_tape m_newBeds FU (10 * m_newLetters) 0 c14 c15 c16 (upd m_newLetter (10 * m_newLetters).toNatClampNeg v13) m_newLetters else none)
def rm_X10_readLetter : Room := { frames := 3, cells := 0, slots := 0, locals := 67 }
set_option maxRecDepth 100000 in
set_option maxHeartbeats 4000000 in
theorem j_X10_readLetter_58 {J : Jt} {Z : Zt} {a0 : Nat → Nat} {m_thrown : Int32} {m_refused : Nat → Int32} {m_taped : Int32} {m_size : Int32} {m_opens : Int32} {m_faultAt : Int32} {m_tape : Nat → Int32} {m_newBed : Nat → Int32} {m_newReader : Nat → Int32} {m_bed : Nat → Int32} {m_letter : Nat → Int32} {m_reader : Nat → Int32} {m_newBeds : Int32} {m_newReaders : Int32} {m_beds : Int32} {m_letters : Int32} {m_readers : Int32} {m_newCode : Nat → Int32} {m_newOf : Nat → Int32} {m_code : Nat → Int32} {m_ofCode : Nat → Int32} {m_stack : Nat → Int32} {m_newCodes : Int32} {m_codes : Int32} {m_facts : Nat → Int32} {m_newStep : Nat → Int32} {m_step : Nat → Int32} {m_newSteps : Int32} {m_works : Int32} {m_refusedSteps : Int32} {m_begun : Int32} {m_done : Int32} {m_refusedNow : Int32} {m_now : Nat → Int32} {m_s : Nat → Int32} {m_past : Nat → Int32} {m_newBook : Nat → Int32} {m_book : Nat → Int32} {m_written : Int32} {m_mostBy : Nat → Int32} {m_stuffing : Nat → Int32} {m_stuffedMany : Int32} {m_lastBy : Nat → Int32} {m_leftBy : Nat → Int32} {m_splitBy : Nat → Int64} {m_seedNow : Int32} {m_image : Nat → Int32} {m_images : Int32} {o_m_at : Int32} {o_m_bad : Int32} {o_m_badKind : Int32} {o_m_newLetter : Nat → Int32} {o_m_newLetters : Int32} {k20 : Int32 → Int32 → Int32 → Int32 → Int32 → (Nat → Int32) → Int32 → Option (Int32 × Int32 × Int32 × (Nat → Int32) × Int32)} (C : Cx J Z cX10_readLetter 5 RX10 none rm_X10_readLetter) (E : Ez J Z 0 0 none (cs_X10 J.2.2.1 a0 m_thrown m_refused m_taped m_size o_m_at o_m_bad o_m_badKind m_opens m_faultAt m_tape m_newBed o_m_newLetter m_newReader m_bed m_letter m_reader m_newBeds o_m_newLetters m_newReaders m_beds m_letters m_readers m_newCode m_newOf m_code m_ofCode m_stack m_newCodes m_codes m_facts m_newStep m_step m_newSteps m_works m_refusedSteps m_begun m_done m_refusedNow m_now m_s m_past m_newBook m_book m_written m_mostBy m_stuffing m_stuffedMany m_lastBy m_leftBy m_splitBy m_seedNow m_image m_images)) (hk20 : ∀ (x1 : Int32) (x2 : Int32) (m_at : Int32) (m_bad : Int32) (m_badKind : Int32) (m_newLetter : Nat → Int32) (m_newLetters : Int32), k20 x1 x2 m_at m_bad m_badKind m_newLetter m_newLetters = some (o_m_at, o_m_bad, o_m_badKind, o_m_newLetter, o_m_newLetters) → G J Z 0 0 (cs_X10 J.2.2.1 a0 m_thrown m_refused m_taped m_size m_at m_bad m_badKind m_opens m_faultAt m_tape m_newBed m_newLetter m_newReader m_bed m_letter m_reader m_newBeds m_newLetters m_newReaders m_beds m_letters m_readers m_newCode m_newOf m_code m_ofCode m_stack m_newCodes m_codes m_facts m_newStep m_step m_newSteps m_works m_refusedSteps m_begun m_done m_refusedNow m_now m_s m_past m_newBook m_book m_written m_mostBy m_stuffing m_stuffedMany m_lastBy m_leftBy m_splitBy m_seedNow m_image m_images) 5 [(0, .ref (a0 0)), (1, .int x1), (2, .int x2)] 20 []) : ∀ (x1 : Int32) (x2 : Int32) (x4 : Int32) (m_at : Int32) (m_bad : Int32) (m_badKind : Int32) (m_newLetter : Nat → Int32) (m_newLetters : Int32), f_X10_readLetter_58 m_size m_tape m_newBeds k20 x1 x2 x4 m_at m_bad m_badKind m_newLetter m_newLetters = some (o_m_at, o_m_bad, o_m_badKind, o_m_newLetter, o_m_newLetters) → G J Z 0 0 (cs_X10 J.2.2.1 a0 m_thrown m_refused m_taped m_size m_at m_bad m_badKind m_opens m_faultAt m_tape m_newBed m_newLetter m_newReader m_bed m_letter m_reader m_newBeds m_newLetters m_newReaders m_beds m_letters m_readers m_newCode m_newOf m_code m_ofCode m_stack m_newCodes m_codes m_facts m_newStep m_step m_newSteps m_works m_refusedSteps m_begun m_done m_refusedNow m_now m_s m_past m_newBook m_book m_written m_mostBy m_stuffing m_stuffedMany m_lastBy m_leftBy m_splitBy m_seedNow m_image m_images) 5 [(0, .ref (a0 0)), (1, .int x1), (2, .int x2), (4, .int x4)] 58 [] := by
  intro x1 x2 x4 m_at m_bad m_badKind m_newLetter m_newLetters h
  unfold f_X10_readLetter_58 at h
  refine g_aload_n (pc := 58) C 0 rfl dX10_readLetter_58 ?_
  obtain ⟨v1, hc, h⟩ := b1_of h
  refine g_callV (pc := 59) C (w' := cs_X10 J.2.2.1 a0 m_thrown m_refused m_taped m_size m_at m_bad m_badKind m_opens m_faultAt m_tape m_newBed m_newLetter m_newReader m_bed m_letter m_reader m_newBeds m_newLetters m_newReaders m_beds m_letters m_readers m_newCode m_newOf m_code m_ofCode m_stack m_newCodes m_codes m_facts m_newStep m_step m_newSteps m_works m_refusedSteps m_begun m_done m_refusedNow m_now m_s m_past m_newBook m_book m_written m_mostBy m_stuffing m_stuffedMany m_lastBy m_leftBy m_splitBy m_seedNow m_image m_images) (As := []) (st := []) (ci := 10) (q0 := 0) rfl rfl (t_X10_fine (a0 := a0) hc) Sub.same kw_1458 kw_1460 kw_22 kw_95 hy_X10_fine kw_1461 rfl (Nat.le_of_ble_eq_true rfl) (Nat.le_of_ble_eq_true rfl) (Nat.le_of_ble_eq_true rfl) (Nat.le_of_ble_eq_true rfl) (Nat.le_of_ble_eq_true rfl) dX10_readLetter_59 ?_
  refine g_if_ne (pc := 62) C (tgt := 66) dX10_readLetter_62 rfl h (fun h => ?_) (fun h => ?_)
  · refine g_aload_n (pc := 66) C 0 rfl dX10_readLetter_66 ?_
    refine g_get (pc := 67) C FOK_X10 0 rfl rfl 11 (by decide) kw_1288 rfl dX10_readLetter_67 ?_
    refine g_iload_n (pc := 70) C 1 rfl dX10_readLetter_70 ?_
    refine g_iconst (pc := 71) C dX10_readLetter_71 ci_2 ?_
    refine g_iadd (pc := 72) C dX10_readLetter_72 ?_
    refine g_iload_n (pc := 73) C 2 rfl dX10_readLetter_73 ?_
    refine g_iadd (pc := 74) C dX10_readLetter_74 ?_
    refine g_iload (pc := 75) C 3 rfl dX10_readLetter_75 ?_
    obtain ⟨hi, h⟩ := ix_of h
    refine g_iast (pc := 77) C (w' := cs_X10 J.2.2.1 a0 m_thrown m_refused m_taped m_size m_at m_bad m_badKind m_opens m_faultAt m_tape m_newBed (upd m_newLetter ((x1 + 2) + x2).toNatClampNeg x4) m_newReader m_bed m_letter m_reader m_newBeds m_newLetters m_newReaders m_beds m_letters m_readers m_newCode m_newOf m_code m_ofCode m_stack m_newCodes m_codes m_facts m_newStep m_step m_newSteps m_works m_refusedSteps m_begun m_done m_refusedNow m_now m_s m_past m_newBook m_book m_written m_mostBy m_stuffing m_stuffedMany m_lastBy m_leftBy m_splitBy m_seedNow m_image m_images) 4 rfl hi dX10_readLetter_77 rfl ?_
    refine g_iinc (pc := 78) C (j := 2) [(2, .int (x2 + 1)), (0, .ref (a0 0)), (1, .int x1), (4, .int x4)] dX10_readLetter_78 rfl (ii_1 _) (by decide) rfl ?_
    refine g_aload_n (pc := 81) C 1 rfl dX10_readLetter_81 ?_
    obtain ⟨v2, c3, hc, h⟩ := b2_of h
    refine g_callV (pc := 82) C (w' := cs_X10 J.2.2.1 a0 m_thrown m_refused m_taped m_size c3 m_bad m_badKind m_opens m_faultAt m_tape m_newBed (upd m_newLetter ((x1 + 2) + x2).toNatClampNeg x4) m_newReader m_bed m_letter m_reader m_newBeds m_newLetters m_newReaders m_beds m_letters m_readers m_newCode m_newOf m_code m_ofCode m_stack m_newCodes m_codes m_facts m_newStep m_step m_newSteps m_works m_refusedSteps m_begun m_done m_refusedNow m_now m_s m_past m_newBook m_book m_written m_mostBy m_stuffing m_stuffedMany m_lastBy m_leftBy m_splitBy m_seedNow m_image m_images) (As := []) (st := []) (ci := 10) (q0 := 0) rfl rfl (t_X10_here (a0 := a0) hc) Sub.same kw_1466 kw_1468 kw_24 kw_95 hy_X10_here kw_1469 rfl (Nat.le_of_ble_eq_true rfl) (Nat.le_of_ble_eq_true rfl) (Nat.le_of_ble_eq_true rfl) (Nat.le_of_ble_eq_true rfl) (Nat.le_of_ble_eq_true rfl) dX10_readLetter_82 ?_
    refine g_bipush (pc := 85) C dX10_readLetter_85 cb_59 ?_
    refine g_icmp_ne (pc := 87) C (tgt := 20) dX10_readLetter_87 rfl h (fun h => ?_) (fun h => ?_)
    · refine g_lv [1, 2, 0] rfl ?_
      exact hk20 x1 (x2 + 1) c3 m_bad m_badKind (upd m_newLetter ((x1 + 2) + x2).toNatClampNeg x4) m_newLetters h
    · refine g_aload_n (pc := 90) C 1 rfl dX10_readLetter_90 ?_
      refine g_get (pc := 91) C FOK_X10 0 rfl rfl 11 (by decide) kw_1288 rfl dX10_readLetter_91 ?_
      refine g_iload_n (pc := 94) C 2 rfl dX10_readLetter_94 ?_
      refine g_iconst (pc := 95) C dX10_readLetter_95 ci_1 ?_
      refine g_iadd (pc := 96) C dX10_readLetter_96 ?_
      refine g_iload_n (pc := 97) C 0 rfl dX10_readLetter_97 ?_
      obtain ⟨hi, h⟩ := ix_of h
      refine g_iast (pc := 98) C (w' := cs_X10 J.2.2.1 a0 m_thrown m_refused m_taped m_size c3 m_bad m_badKind m_opens m_faultAt m_tape m_newBed (upd (upd m_newLetter ((x1 + 2) + x2).toNatClampNeg x4) (x1 + 1).toNatClampNeg (x2 + 1)) m_newReader m_bed m_letter m_reader m_newBeds m_newLetters m_newReaders m_beds m_letters m_readers m_newCode m_newOf m_code m_ofCode m_stack m_newCodes m_codes m_facts m_newStep m_step m_newSteps m_works m_refusedSteps m_begun m_done m_refusedNow m_now m_s m_past m_newBook m_book m_written m_mostBy m_stuffing m_stuffedMany m_lastBy m_leftBy m_splitBy m_seedNow m_image m_images) 4 rfl hi dX10_readLetter_98 rfl ?_
      refine g_aload_n (pc := 99) C 1 rfl dX10_readLetter_99 ?_
      refine g_dup (pc := 100) C dX10_readLetter_100 rfl ?_
      refine g_get (pc := 101) C FOK_X10 0 rfl rfl 17 (by decide) kw_1294 rfl dX10_readLetter_101 ?_
      refine g_iconst (pc := 104) C dX10_readLetter_104 ci_1 ?_
      refine g_iadd (pc := 105) C dX10_readLetter_105 ?_
      refine g_put (pc := 106) C (w' := cs_X10 J.2.2.1 a0 m_thrown m_refused m_taped m_size c3 m_bad m_badKind m_opens m_faultAt m_tape m_newBed (upd (upd m_newLetter ((x1 + 2) + x2).toNatClampNeg x4) (x1 + 1).toNatClampNeg (x2 + 1)) m_newReader m_bed m_letter m_reader m_newBeds (m_newLetters + 1) m_newReaders m_beds m_letters m_readers m_newCode m_newOf m_code m_ofCode m_stack m_newCodes m_codes m_facts m_newStep m_step m_newSteps m_works m_refusedSteps m_begun m_done m_refusedNow m_now m_s m_past m_newBook m_book m_written m_mostBy m_stuffing m_stuffedMany m_lastBy m_leftBy m_splitBy m_seedNow m_image m_images) FOK_X10 0 rfl rfl 17 (by decide) kw_1294 rfl rfl rfl (Nat.le_of_ble_eq_true rfl) dX10_readLetter_106 rfl ?_
      cases h
      exact g_vret C E dX10_readLetter_109
  · cases h
    exact g_vret C E dX10_readLetter_65
set_option maxRecDepth 100000 in
set_option maxHeartbeats 4000000 in
theorem j_X10_readLetter_20 {J : Jt} {Z : Zt} {a0 : Nat → Nat} {m_thrown : Int32} {m_refused : Nat → Int32} {m_taped : Int32} {m_size : Int32} {m_opens : Int32} {m_faultAt : Int32} {m_tape : Nat → Int32} {m_newBed : Nat → Int32} {m_newReader : Nat → Int32} {m_bed : Nat → Int32} {m_letter : Nat → Int32} {m_reader : Nat → Int32} {m_newBeds : Int32} {m_newReaders : Int32} {m_beds : Int32} {m_letters : Int32} {m_readers : Int32} {m_newCode : Nat → Int32} {m_newOf : Nat → Int32} {m_code : Nat → Int32} {m_ofCode : Nat → Int32} {m_stack : Nat → Int32} {m_newCodes : Int32} {m_codes : Int32} {m_facts : Nat → Int32} {m_newStep : Nat → Int32} {m_step : Nat → Int32} {m_newSteps : Int32} {m_works : Int32} {m_refusedSteps : Int32} {m_begun : Int32} {m_done : Int32} {m_refusedNow : Int32} {m_now : Nat → Int32} {m_s : Nat → Int32} {m_past : Nat → Int32} {m_newBook : Nat → Int32} {m_book : Nat → Int32} {m_written : Int32} {m_mostBy : Nat → Int32} {m_stuffing : Nat → Int32} {m_stuffedMany : Int32} {m_lastBy : Nat → Int32} {m_leftBy : Nat → Int32} {m_splitBy : Nat → Int64} {m_seedNow : Int32} {m_image : Nat → Int32} {m_images : Int32} {o_m_at : Int32} {o_m_bad : Int32} {o_m_badKind : Int32} {o_m_newLetter : Nat → Int32} {o_m_newLetters : Int32} (C : Cx J Z cX10_readLetter 5 RX10 none rm_X10_readLetter) (E : Ez J Z 0 0 none (cs_X10 J.2.2.1 a0 m_thrown m_refused m_taped m_size o_m_at o_m_bad o_m_badKind m_opens m_faultAt m_tape m_newBed o_m_newLetter m_newReader m_bed m_letter m_reader m_newBeds o_m_newLetters m_newReaders m_beds m_letters m_readers m_newCode m_newOf m_code m_ofCode m_stack m_newCodes m_codes m_facts m_newStep m_step m_newSteps m_works m_refusedSteps m_begun m_done m_refusedNow m_now m_s m_past m_newBook m_book m_written m_mostBy m_stuffing m_stuffedMany m_lastBy m_leftBy m_splitBy m_seedNow m_image m_images)) : ∀ (n : Nat) (x1 : Int32) (x2 : Int32) (m_at : Int32) (m_bad : Int32) (m_badKind : Int32) (m_newLetter : Nat → Int32) (m_newLetters : Int32), f_X10_readLetter_20 m_size m_tape m_newBeds n x1 x2 m_at m_bad m_badKind m_newLetter m_newLetters = some (o_m_at, o_m_bad, o_m_badKind, o_m_newLetter, o_m_newLetters) → G J Z 0 0 (cs_X10 J.2.2.1 a0 m_thrown m_refused m_taped m_size m_at m_bad m_badKind m_opens m_faultAt m_tape m_newBed m_newLetter m_newReader m_bed m_letter m_reader m_newBeds m_newLetters m_newReaders m_beds m_letters m_readers m_newCode m_newOf m_code m_ofCode m_stack m_newCodes m_codes m_facts m_newStep m_step m_newSteps m_works m_refusedSteps m_begun m_done m_refusedNow m_now m_s m_past m_newBook m_book m_written m_mostBy m_stuffing m_stuffedMany m_lastBy m_leftBy m_splitBy m_seedNow m_image m_images) 5 [(0, .ref (a0 0)), (1, .int x1), (2, .int x2)] 20 [] := by
  intro n
  induction n with
  | zero =>
    intro x1 x2 m_at m_bad m_badKind m_newLetter m_newLetters h
    rw [f_X10_readLetter_20] at h
    cases h
  | succ n ih =>
    intro x1 x2 m_at m_bad m_badKind m_newLetter m_newLetters h
    rw [f_X10_readLetter_20] at h
    refine g_aload_n (pc := 20) C 0 rfl dX10_readLetter_20 ?_
    obtain ⟨v4, c5, hc, h⟩ := b2_of h
    refine g_callV (pc := 21) C (w' := cs_X10 J.2.2.1 a0 m_thrown m_refused m_taped m_size c5 m_bad m_badKind m_opens m_faultAt m_tape m_newBed m_newLetter m_newReader m_bed m_letter m_reader m_newBeds m_newLetters m_newReaders m_beds m_letters m_readers m_newCode m_newOf m_code m_ofCode m_stack m_newCodes m_codes m_facts m_newStep m_step m_newSteps m_works m_refusedSteps m_begun m_done m_refusedNow m_now m_s m_past m_newBook m_book m_written m_mostBy m_stuffing m_stuffedMany m_lastBy m_leftBy m_splitBy m_seedNow m_image m_images) (As := []) (st := []) (ci := 10) (q0 := 0) rfl rfl (t_X10_here (a0 := a0) hc) Sub.same kw_1466 kw_1468 kw_24 kw_95 hy_X10_here kw_1469 rfl (Nat.le_of_ble_eq_true rfl) (Nat.le_of_ble_eq_true rfl) (Nat.le_of_ble_eq_true rfl) (Nat.le_of_ble_eq_true rfl) (Nat.le_of_ble_eq_true rfl) dX10_readLetter_21 ?_
    refine g_pop (pc := 24) C dX10_readLetter_24 rfl ?_
    refine g_aload_n (pc := 25) C 0 rfl dX10_readLetter_25 ?_
    refine g_get (pc := 26) C FOK_X10 0 rfl rfl 4 (by decide) kw_1281 rfl dX10_readLetter_26 ?_
    refine g_istore_n (pc := 29) C [(3, .int c5), (0, .ref (a0 0)), (1, .int x1), (2, .int x2)] dX10_readLetter_29 rfl (by decide) rfl ?_
    refine g_aload_n (pc := 30) C 1 rfl dX10_readLetter_30 ?_
    refine g_iconst (pc := 31) C dX10_readLetter_31 ci_0 ?_
    refine g_bipush (pc := 32) C dX10_readLetter_32 cb_15 ?_
    obtain ⟨v6, c7, c8, c9, hc, h⟩ := b4_of h
    refine g_callV (pc := 34) C (w' := cs_X10 J.2.2.1 a0 m_thrown m_refused m_taped m_size c7 c8 c9 m_opens m_faultAt m_tape m_newBed m_newLetter m_newReader m_bed m_letter m_reader m_newBeds m_newLetters m_newReaders m_beds m_letters m_readers m_newCode m_newOf m_code m_ofCode m_stack m_newCodes m_codes m_facts m_newStep m_step m_newSteps m_works m_refusedSteps m_begun m_done m_refusedNow m_now m_s m_past m_newBook m_book m_written m_mostBy m_stuffing m_stuffedMany m_lastBy m_leftBy m_splitBy m_seedNow m_image m_images) (As := [.int 0, .int 15]) (st := []) (ci := 10) (q0 := 0) rfl rfl (t_X10_readNumber (a0 := a0) hc) Sub.same kw_1504 kw_1506 kw_30 kw_95 hy_X10_readNumber kw_1507 rfl (Nat.le_of_ble_eq_true rfl) (Nat.le_of_ble_eq_true rfl) (Nat.le_of_ble_eq_true rfl) (Nat.le_of_ble_eq_true rfl) (Nat.le_of_ble_eq_true rfl) dX10_readLetter_34 ?_
    refine g_istore (pc := 37) C [(4, .int v6), (3, .int c5), (0, .ref (a0 0)), (1, .int x1), (2, .int x2)] dX10_readLetter_37 (by decide) rfl ?_
    refine g_aload_n (pc := 39) C 2 rfl dX10_readLetter_39 ?_
    obtain ⟨v10, hc, h⟩ := b1_of h
    refine g_callV (pc := 40) C (w' := cs_X10 J.2.2.1 a0 m_thrown m_refused m_taped m_size c7 c8 c9 m_opens m_faultAt m_tape m_newBed m_newLetter m_newReader m_bed m_letter m_reader m_newBeds m_newLetters m_newReaders m_beds m_letters m_readers m_newCode m_newOf m_code m_ofCode m_stack m_newCodes m_codes m_facts m_newStep m_step m_newSteps m_works m_refusedSteps m_begun m_done m_refusedNow m_now m_s m_past m_newBook m_book m_written m_mostBy m_stuffing m_stuffedMany m_lastBy m_leftBy m_splitBy m_seedNow m_image m_images) (As := []) (st := []) (ci := 10) (q0 := 0) rfl rfl (t_X10_fine (a0 := a0) hc) Sub.same kw_1458 kw_1460 kw_22 kw_95 hy_X10_fine kw_1461 rfl (Nat.le_of_ble_eq_true rfl) (Nat.le_of_ble_eq_true rfl) (Nat.le_of_ble_eq_true rfl) (Nat.le_of_ble_eq_true rfl) (Nat.le_of_ble_eq_true rfl) dX10_readLetter_40 ?_
    refine g_if_eq (pc := 43) C (tgt := 58) dX10_readLetter_43 rfl h (fun h => ?_) (fun h => ?_)
    · refine g_lv [2, 3, 4, 0] rfl ?_
      exact j_X10_readLetter_58 C E ih x1 x2 v6 c7 c8 c9 m_newLetter m_newLetters h
    · refine g_iload_n (pc := 46) C 4 rfl dX10_readLetter_46 ?_
      refine g_bipush (pc := 47) C dX10_readLetter_47 cb_8 ?_
      refine g_icmp_ne (pc := 49) C (tgt := 58) dX10_readLetter_49 rfl h (fun h => ?_) (fun h => ?_)
      · refine g_lv [2, 3, 4, 0] rfl ?_
        exact j_X10_readLetter_58 C E ih x1 x2 v6 c7 c8 c9 m_newLetter m_newLetters h
      · refine g_aload_n (pc := 52) C 2 rfl dX10_readLetter_52 ?_
        refine g_iconst (pc := 53) C dX10_readLetter_53 ci_3 ?_
        refine g_iload_n (pc := 54) C 1 rfl dX10_readLetter_54 ?_
        obtain ⟨c11, c12, hc, h⟩ := b2_of h
        refine g_callV (pc := 55) C (w' := cs_X10 J.2.2.1 a0 m_thrown m_refused m_taped m_size c7 c11 c12 m_opens m_faultAt m_tape m_newBed m_newLetter m_newReader m_bed m_letter m_reader m_newBeds m_newLetters m_newReaders m_beds m_letters m_readers m_newCode m_newOf m_code m_ofCode m_stack m_newCodes m_codes m_facts m_newStep m_step m_newSteps m_works m_refusedSteps m_begun m_done m_refusedNow m_now m_s m_past m_newBook m_book m_written m_mostBy m_stuffing m_stuffedMany m_lastBy m_leftBy m_splitBy m_seedNow m_image m_images) (As := [.int 3, .int c5]) (st := []) (ci := 10) (q0 := 0) rfl rfl (t_X10_wrong (a0 := a0) hc) Sub.same kw_1488 kw_1490 kw_26 kw_95 hy_X10_wrong kw_1491 rfl (Nat.le_of_ble_eq_true rfl) (Nat.le_of_ble_eq_true rfl) (Nat.le_of_ble_eq_true rfl) (Nat.le_of_ble_eq_true rfl) (Nat.le_of_ble_eq_true rfl) dX10_readLetter_55 ?_
        refine g_lv [2, 3, 4, 0] rfl ?_
        exact j_X10_readLetter_58 C E ih x1 x2 v6 c7 c11 c12 m_newLetter m_newLetters h
set_option maxRecDepth 100000 in
set_option maxHeartbeats 4000000 in
theorem t_X10_readLetter {J : Jt} {a0 : Nat → Nat} {m_thrown : Int32} {m_refused : Nat → Int32} {m_taped : Int32} {m_size : Int32} {m_at : Int32} {m_bad : Int32} {m_badKind : Int32} {m_opens : Int32} {m_faultAt : Int32} {m_tape : Nat → Int32} {m_newBed : Nat → Int32} {m_newLetter : Nat → Int32} {m_newReader : Nat → Int32} {m_bed : Nat → Int32} {m_letter : Nat → Int32} {m_reader : Nat → Int32} {m_newBeds : Int32} {m_newLetters : Int32} {m_newReaders : Int32} {m_beds : Int32} {m_letters : Int32} {m_readers : Int32} {m_newCode : Nat → Int32} {m_newOf : Nat → Int32} {m_code : Nat → Int32} {m_ofCode : Nat → Int32} {m_stack : Nat → Int32} {m_newCodes : Int32} {m_codes : Int32} {m_facts : Nat → Int32} {m_newStep : Nat → Int32} {m_step : Nat → Int32} {m_newSteps : Int32} {m_works : Int32} {m_refusedSteps : Int32} {m_begun : Int32} {m_done : Int32} {m_refusedNow : Int32} {m_now : Nat → Int32} {m_s : Nat → Int32} {m_past : Nat → Int32} {m_newBook : Nat → Int32} {m_book : Nat → Int32} {m_written : Int32} {m_mostBy : Nat → Int32} {m_stuffing : Nat → Int32} {m_stuffedMany : Int32} {m_lastBy : Nat → Int32} {m_leftBy : Nat → Int32} {m_splitBy : Nat → Int64} {m_seedNow : Int32} {m_image : Nat → Int32} {m_images : Int32} {o_m_at : Int32} {o_m_bad : Int32} {o_m_badKind : Int32} {o_m_newLetter : Nat → Int32} {o_m_newLetters : Int32} (h : f_X10_readLetter m_size m_at m_bad m_badKind m_tape m_newLetter m_newBeds m_newLetters = some (o_m_at, o_m_bad, o_m_badKind, o_m_newLetter, o_m_newLetters)) : Mt J yX10_readLetter cX10_readLetter 5 none rm_X10_readLetter [.ref (a0 0)] (cs_X10 J.2.2.1 a0 m_thrown m_refused m_taped m_size m_at m_bad m_badKind m_opens m_faultAt m_tape m_newBed m_newLetter m_newReader m_bed m_letter m_reader m_newBeds m_newLetters m_newReaders m_beds m_letters m_readers m_newCode m_newOf m_code m_ofCode m_stack m_newCodes m_codes m_facts m_newStep m_step m_newSteps m_works m_refusedSteps m_begun m_done m_refusedNow m_now m_s m_past m_newBook m_book m_written m_mostBy m_stuffing m_stuffedMany m_lastBy m_leftBy m_splitBy m_seedNow m_image m_images) none (cs_X10 J.2.2.1 a0 m_thrown m_refused m_taped m_size o_m_at o_m_bad o_m_badKind m_opens m_faultAt m_tape m_newBed o_m_newLetter m_newReader m_bed m_letter m_reader m_newBeds o_m_newLetters m_newReaders m_beds m_letters m_readers m_newCode m_newOf m_code m_ofCode m_stack m_newCodes m_codes m_facts m_newStep m_step m_newSteps m_works m_refusedSteps m_begun m_done m_refusedNow m_now m_s m_past m_newBook m_book m_written m_mostBy m_stuffing m_stuffedMany m_lastBy m_leftBy m_splitBy m_seedNow m_image m_images) := by
  refine Mt_of (own := RX10) (by decide) rfl (Nat.le_of_ble_eq_true rfl) rfl (fun Z C E => ?_)
  unfold f_X10_readLetter at h
  show G J Z 0 0 (cs_X10 J.2.2.1 a0 m_thrown m_refused m_taped m_size m_at m_bad m_badKind m_opens m_faultAt m_tape m_newBed m_newLetter m_newReader m_bed m_letter m_reader m_newBeds m_newLetters m_newReaders m_beds m_letters m_readers m_newCode m_newOf m_code m_ofCode m_stack m_newCodes m_codes m_facts m_newStep m_step m_newSteps m_works m_refusedSteps m_begun m_done m_refusedNow m_now m_s m_past m_newBook m_book m_written m_mostBy m_stuffing m_stuffedMany m_lastBy m_leftBy m_splitBy m_seedNow m_image m_images) 5 [(0, .ref (a0 0))] 0 []
  refine g_bipush (pc := 0) C dX10_readLetter_0 cb_10 ?_
  refine g_aload_n (pc := 2) C 0 rfl dX10_readLetter_2 ?_
  refine g_get (pc := 3) C FOK_X10 0 rfl rfl 17 (by decide) kw_1294 rfl dX10_readLetter_3 ?_
  refine g_imul (pc := 6) C dX10_readLetter_6 ?_
  refine g_istore_n (pc := 7) C [(1, .int (10 * m_newLetters)), (0, .ref (a0 0))] dX10_readLetter_7 rfl (by decide) rfl ?_
  refine g_aload_n (pc := 8) C 1 rfl dX10_readLetter_8 ?_
  refine g_get (pc := 9) C FOK_X10 0 rfl rfl 11 (by decide) kw_1288 rfl dX10_readLetter_9 ?_
  refine g_iload_n (pc := 12) C 0 rfl dX10_readLetter_12 ?_
  refine g_aload_n (pc := 13) C 1 rfl dX10_readLetter_13 ?_
  obtain ⟨v13, c14, c15, c16, hc, h⟩ := b4_of h
  refine g_callV (pc := 14) C (w' := cs_X10 J.2.2.1 a0 m_thrown m_refused m_taped m_size c14 c15 c16 m_opens m_faultAt m_tape m_newBed m_newLetter m_newReader m_bed m_letter m_reader m_newBeds m_newLetters m_newReaders m_beds m_letters m_readers m_newCode m_newOf m_code m_ofCode m_stack m_newCodes m_codes m_facts m_newStep m_step m_newSteps m_works m_refusedSteps m_begun m_done m_refusedNow m_now m_s m_past m_newBook m_book m_written m_mostBy m_stuffing m_stuffedMany m_lastBy m_leftBy m_splitBy m_seedNow m_image m_images) (As := []) (st := [.int (10 * m_newLetters), .ref (a0 4)]) (ci := 10) (q0 := 0) rfl rfl (t_X10_readBedTold (a0 := a0) hc) Sub.same kw_1515 kw_1517 kw_32 kw_95 hy_X10_readBedTold kw_1518 rfl (Nat.le_of_ble_eq_true rfl) (Nat.le_of_ble_eq_true rfl) (Nat.le_of_ble_eq_true rfl) (Nat.le_of_ble_eq_true rfl) (Nat.le_of_ble_eq_true rfl) dX10_readLetter_14 ?_
  obtain ⟨hi, h⟩ := ix_of h
  refine g_iast (pc := 17) C (w' := cs_X10 J.2.2.1 a0 m_thrown m_refused m_taped m_size c14 c15 c16 m_opens m_faultAt m_tape m_newBed (upd m_newLetter (10 * m_newLetters).toNatClampNeg v13) m_newReader m_bed m_letter m_reader m_newBeds m_newLetters m_newReaders m_beds m_letters m_readers m_newCode m_newOf m_code m_ofCode m_stack m_newCodes m_codes m_facts m_newStep m_step m_newSteps m_works m_refusedSteps m_begun m_done m_refusedNow m_now m_s m_past m_newBook m_book m_written m_mostBy m_stuffing m_stuffedMany m_lastBy m_leftBy m_splitBy m_seedNow m_image m_images) 4 rfl hi dX10_readLetter_17 rfl ?_
  refine g_iconst (pc := 18) C dX10_readLetter_18 ci_0 ?_
  refine g_istore_n (pc := 19) C [(2, .int 0), (1, .int (10 * m_newLetters)), (0, .ref (a0 0))] dX10_readLetter_19 rfl (by decide) rfl ?_
  refine g_lv [2, 1, 0] rfl ?_
  exact j_X10_readLetter_20 C E  FU (10 * m_newLetters) 0 c14 c15 c16 (upd m_newLetter (10 * m_newLetters).toNatClampNeg v13) m_newLetters h
noncomputable def f_X10_emit (m_bad : Int32) (m_newCode : Nat → Int32) (m_newOf : Nat → Int32) (m_newCodes : Int32) (n1 : Int32) (n2 : Int32) : Option ((Nat → Int32) × (Nat → Int32) × Int32) := b1 (f_X10_fine m_bad) (fun v1 => if v1 = 0 then some (m_newCode, m_newOf, m_newCodes) else if ixb m_newCodes 150 then if ixb m_newCodes 150 then some (upd m_newCode m_newCodes.toNatClampNeg n1, upd m_newOf m_newCodes.toNatClampNeg n2, m_newCodes + 1) else none else none)
def rm_X10_emit : Room := { frames := 1, cells := 0, slots := 0, locals := 20 }
set_option maxRecDepth 100000 in
set_option maxHeartbeats 4000000 in
theorem t_X10_emit {J : Jt} {a0 : Nat → Nat} {m_thrown : Int32} {m_refused : Nat → Int32} {m_taped : Int32} {m_size : Int32} {m_at : Int32} {m_bad : Int32} {m_badKind : Int32} {m_opens : Int32} {m_faultAt : Int32} {m_tape : Nat → Int32} {m_newBed : Nat → Int32} {m_newLetter : Nat → Int32} {m_newReader : Nat → Int32} {m_bed : Nat → Int32} {m_letter : Nat → Int32} {m_reader : Nat → Int32} {m_newBeds : Int32} {m_newLetters : Int32} {m_newReaders : Int32} {m_beds : Int32} {m_letters : Int32} {m_readers : Int32} {m_newCode : Nat → Int32} {m_newOf : Nat → Int32} {m_code : Nat → Int32} {m_ofCode : Nat → Int32} {m_stack : Nat → Int32} {m_newCodes : Int32} {m_codes : Int32} {m_facts : Nat → Int32} {m_newStep : Nat → Int32} {m_step : Nat → Int32} {m_newSteps : Int32} {m_works : Int32} {m_refusedSteps : Int32} {m_begun : Int32} {m_done : Int32} {m_refusedNow : Int32} {m_now : Nat → Int32} {m_s : Nat → Int32} {m_past : Nat → Int32} {m_newBook : Nat → Int32} {m_book : Nat → Int32} {m_written : Int32} {m_mostBy : Nat → Int32} {m_stuffing : Nat → Int32} {m_stuffedMany : Int32} {m_lastBy : Nat → Int32} {m_leftBy : Nat → Int32} {m_splitBy : Nat → Int64} {m_seedNow : Int32} {m_image : Nat → Int32} {m_images : Int32} {n1 : Int32} {n2 : Int32} {o_m_newCode : Nat → Int32} {o_m_newOf : Nat → Int32} {o_m_newCodes : Int32} (h : f_X10_emit m_bad m_newCode m_newOf m_newCodes n1 n2 = some (o_m_newCode, o_m_newOf, o_m_newCodes)) : Mt J yX10_emit cX10_emit 3 none rm_X10_emit [.ref (a0 0), .int n1, .int n2] (cs_X10 J.2.2.1 a0 m_thrown m_refused m_taped m_size m_at m_bad m_badKind m_opens m_faultAt m_tape m_newBed m_newLetter m_newReader m_bed m_letter m_reader m_newBeds m_newLetters m_newReaders m_beds m_letters m_readers m_newCode m_newOf m_code m_ofCode m_stack m_newCodes m_codes m_facts m_newStep m_step m_newSteps m_works m_refusedSteps m_begun m_done m_refusedNow m_now m_s m_past m_newBook m_book m_written m_mostBy m_stuffing m_stuffedMany m_lastBy m_leftBy m_splitBy m_seedNow m_image m_images) none (cs_X10 J.2.2.1 a0 m_thrown m_refused m_taped m_size m_at m_bad m_badKind m_opens m_faultAt m_tape m_newBed m_newLetter m_newReader m_bed m_letter m_reader m_newBeds m_newLetters m_newReaders m_beds m_letters m_readers o_m_newCode o_m_newOf m_code m_ofCode m_stack o_m_newCodes m_codes m_facts m_newStep m_step m_newSteps m_works m_refusedSteps m_begun m_done m_refusedNow m_now m_s m_past m_newBook m_book m_written m_mostBy m_stuffing m_stuffedMany m_lastBy m_leftBy m_splitBy m_seedNow m_image m_images) := by
  refine Mt_of (own := RX10) (by decide) rfl (Nat.le_of_ble_eq_true rfl) rfl (fun Z C E => ?_)
  unfold f_X10_emit at h
  show G J Z 0 0 (cs_X10 J.2.2.1 a0 m_thrown m_refused m_taped m_size m_at m_bad m_badKind m_opens m_faultAt m_tape m_newBed m_newLetter m_newReader m_bed m_letter m_reader m_newBeds m_newLetters m_newReaders m_beds m_letters m_readers m_newCode m_newOf m_code m_ofCode m_stack m_newCodes m_codes m_facts m_newStep m_step m_newSteps m_works m_refusedSteps m_begun m_done m_refusedNow m_now m_s m_past m_newBook m_book m_written m_mostBy m_stuffing m_stuffedMany m_lastBy m_leftBy m_splitBy m_seedNow m_image m_images) 3 [(0, .ref (a0 0)), (1, .int n1), (2, .int n2)] 0 []
  refine g_aload_n (pc := 0) C 0 rfl dX10_emit_0 ?_
  obtain ⟨v1, hc, h⟩ := b1_of h
  refine g_callV (pc := 1) C (w' := cs_X10 J.2.2.1 a0 m_thrown m_refused m_taped m_size m_at m_bad m_badKind m_opens m_faultAt m_tape m_newBed m_newLetter m_newReader m_bed m_letter m_reader m_newBeds m_newLetters m_newReaders m_beds m_letters m_readers m_newCode m_newOf m_code m_ofCode m_stack m_newCodes m_codes m_facts m_newStep m_step m_newSteps m_works m_refusedSteps m_begun m_done m_refusedNow m_now m_s m_past m_newBook m_book m_written m_mostBy m_stuffing m_stuffedMany m_lastBy m_leftBy m_splitBy m_seedNow m_image m_images) (As := []) (st := []) (ci := 10) (q0 := 0) rfl rfl (t_X10_fine (a0 := a0) hc) Sub.same kw_1458 kw_1460 kw_22 kw_95 hy_X10_fine kw_1461 rfl (Nat.le_of_ble_eq_true rfl) (Nat.le_of_ble_eq_true rfl) (Nat.le_of_ble_eq_true rfl) (Nat.le_of_ble_eq_true rfl) (Nat.le_of_ble_eq_true rfl) dX10_emit_1 ?_
  refine g_if_ne (pc := 4) C (tgt := 8) dX10_emit_4 rfl h (fun h => ?_) (fun h => ?_)
  · refine g_aload_n (pc := 8) C 0 rfl dX10_emit_8 ?_
    refine g_get (pc := 9) C FOK_X10 0 rfl rfl 22 (by decide) kw_1299 rfl dX10_emit_9 ?_
    refine g_aload_n (pc := 12) C 0 rfl dX10_emit_12 ?_
    refine g_get (pc := 13) C FOK_X10 0 rfl rfl 27 (by decide) kw_1304 rfl dX10_emit_13 ?_
    refine g_iload_n (pc := 16) C 1 rfl dX10_emit_16 ?_
    obtain ⟨hi, h⟩ := ix_of h
    refine g_iast (pc := 17) C (w' := cs_X10 J.2.2.1 a0 m_thrown m_refused m_taped m_size m_at m_bad m_badKind m_opens m_faultAt m_tape m_newBed m_newLetter m_newReader m_bed m_letter m_reader m_newBeds m_newLetters m_newReaders m_beds m_letters m_readers (upd m_newCode m_newCodes.toNatClampNeg n1) m_newOf m_code m_ofCode m_stack m_newCodes m_codes m_facts m_newStep m_step m_newSteps m_works m_refusedSteps m_begun m_done m_refusedNow m_now m_s m_past m_newBook m_book m_written m_mostBy m_stuffing m_stuffedMany m_lastBy m_leftBy m_splitBy m_seedNow m_image m_images) 9 rfl hi dX10_emit_17 rfl ?_
    refine g_aload_n (pc := 18) C 0 rfl dX10_emit_18 ?_
    refine g_get (pc := 19) C FOK_X10 0 rfl rfl 23 (by decide) kw_1300 rfl dX10_emit_19 ?_
    refine g_aload_n (pc := 22) C 0 rfl dX10_emit_22 ?_
    refine g_get (pc := 23) C FOK_X10 0 rfl rfl 27 (by decide) kw_1304 rfl dX10_emit_23 ?_
    refine g_iload_n (pc := 26) C 2 rfl dX10_emit_26 ?_
    obtain ⟨hi, h⟩ := ix_of h
    refine g_iast (pc := 27) C (w' := cs_X10 J.2.2.1 a0 m_thrown m_refused m_taped m_size m_at m_bad m_badKind m_opens m_faultAt m_tape m_newBed m_newLetter m_newReader m_bed m_letter m_reader m_newBeds m_newLetters m_newReaders m_beds m_letters m_readers (upd m_newCode m_newCodes.toNatClampNeg n1) (upd m_newOf m_newCodes.toNatClampNeg n2) m_code m_ofCode m_stack m_newCodes m_codes m_facts m_newStep m_step m_newSteps m_works m_refusedSteps m_begun m_done m_refusedNow m_now m_s m_past m_newBook m_book m_written m_mostBy m_stuffing m_stuffedMany m_lastBy m_leftBy m_splitBy m_seedNow m_image m_images) 10 rfl hi dX10_emit_27 rfl ?_
    refine g_aload_n (pc := 28) C 0 rfl dX10_emit_28 ?_
    refine g_dup (pc := 29) C dX10_emit_29 rfl ?_
    refine g_get (pc := 30) C FOK_X10 0 rfl rfl 27 (by decide) kw_1304 rfl dX10_emit_30 ?_
    refine g_iconst (pc := 33) C dX10_emit_33 ci_1 ?_
    refine g_iadd (pc := 34) C dX10_emit_34 ?_
    refine g_put (pc := 35) C (w' := cs_X10 J.2.2.1 a0 m_thrown m_refused m_taped m_size m_at m_bad m_badKind m_opens m_faultAt m_tape m_newBed m_newLetter m_newReader m_bed m_letter m_reader m_newBeds m_newLetters m_newReaders m_beds m_letters m_readers (upd m_newCode m_newCodes.toNatClampNeg n1) (upd m_newOf m_newCodes.toNatClampNeg n2) m_code m_ofCode m_stack (m_newCodes + 1) m_codes m_facts m_newStep m_step m_newSteps m_works m_refusedSteps m_begun m_done m_refusedNow m_now m_s m_past m_newBook m_book m_written m_mostBy m_stuffing m_stuffedMany m_lastBy m_leftBy m_splitBy m_seedNow m_image m_images) FOK_X10 0 rfl rfl 27 (by decide) kw_1304 rfl rfl rfl (Nat.le_of_ble_eq_true rfl) dX10_emit_35 rfl ?_
    cases h
    exact g_vret C E dX10_emit_38
  · cases h
    exact g_vret C E dX10_emit_7
noncomputable def f_X10_opensOne_42  (n1 : Int32) (m_at : Int32) (m_bad : Int32) (m_badKind : Int32) (m_opens : Int32) : Option (Int32 × Int32 × Int32 × Int32) := some (m_at, m_bad, m_badKind, m_opens + 1)
noncomputable def f_X10_opensOne_25  (n1 : Int32) (m_at : Int32) (m_bad : Int32) (m_badKind : Int32) (m_opens : Int32) : Option (Int32 × Int32 × Int32 × Int32) := b1 (f_X10_fine m_bad) (fun v1 => if v1 = 0 then f_X10_opensOne_42 n1 m_at m_bad m_badKind m_opens else f_X10_opensOne_42 n1 (m_at + n1) m_bad m_badKind m_opens)
noncomputable def f_X10_opensOne (m_at : Int32) (m_bad : Int32) (m_badKind : Int32) (m_opens : Int32) (n1 : Int32) : Option (Int32 × Int32 × Int32 × Int32) := b1 (f_X10_fine m_bad) (fun v2 => if v2 = 0 then f_X10_opensOne_25 n1 m_at m_bad m_badKind m_opens else if m_opens = 6 then b2 (f_X10_wrong m_bad m_badKind 3 m_at) (fun c3 c4 => f_X10_opensOne_25 n1 m_at c3 c4 m_opens) else f_X10_opensOne_25 n1 m_at m_bad m_badKind m_opens)
def rm_X10_opensOne : Room := { frames := 1, cells := 0, slots := 0, locals := 22 }
set_option maxRecDepth 100000 in
set_option maxHeartbeats 4000000 in
theorem j_X10_opensOne_42 {J : Jt} {Z : Zt} {a0 : Nat → Nat} {m_thrown : Int32} {m_refused : Nat → Int32} {m_taped : Int32} {m_size : Int32} {m_faultAt : Int32} {m_tape : Nat → Int32} {m_newBed : Nat → Int32} {m_newLetter : Nat → Int32} {m_newReader : Nat → Int32} {m_bed : Nat → Int32} {m_letter : Nat → Int32} {m_reader : Nat → Int32} {m_newBeds : Int32} {m_newLetters : Int32} {m_newReaders : Int32} {m_beds : Int32} {m_letters : Int32} {m_readers : Int32} {m_newCode : Nat → Int32} {m_newOf : Nat → Int32} {m_code : Nat → Int32} {m_ofCode : Nat → Int32} {m_stack : Nat → Int32} {m_newCodes : Int32} {m_codes : Int32} {m_facts : Nat → Int32} {m_newStep : Nat → Int32} {m_step : Nat → Int32} {m_newSteps : Int32} {m_works : Int32} {m_refusedSteps : Int32} {m_begun : Int32} {m_done : Int32} {m_refusedNow : Int32} {m_now : Nat → Int32} {m_s : Nat → Int32} {m_past : Nat → Int32} {m_newBook : Nat → Int32} {m_book : Nat → Int32} {m_written : Int32} {m_mostBy : Nat → Int32} {m_stuffing : Nat → Int32} {m_stuffedMany : Int32} {m_lastBy : Nat → Int32} {m_leftBy : Nat → Int32} {m_splitBy : Nat → Int64} {m_seedNow : Int32} {m_image : Nat → Int32} {m_images : Int32} {n1 : Int32} {o_m_at : Int32} {o_m_bad : Int32} {o_m_badKind : Int32} {o_m_opens : Int32} (C : Cx J Z cX10_opensOne 2 RX10 none rm_X10_opensOne) (E : Ez J Z 0 0 none (cs_X10 J.2.2.1 a0 m_thrown m_refused m_taped m_size o_m_at o_m_bad o_m_badKind o_m_opens m_faultAt m_tape m_newBed m_newLetter m_newReader m_bed m_letter m_reader m_newBeds m_newLetters m_newReaders m_beds m_letters m_readers m_newCode m_newOf m_code m_ofCode m_stack m_newCodes m_codes m_facts m_newStep m_step m_newSteps m_works m_refusedSteps m_begun m_done m_refusedNow m_now m_s m_past m_newBook m_book m_written m_mostBy m_stuffing m_stuffedMany m_lastBy m_leftBy m_splitBy m_seedNow m_image m_images)) : ∀ (m_at : Int32) (m_bad : Int32) (m_badKind : Int32) (m_opens : Int32), f_X10_opensOne_42 n1 m_at m_bad m_badKind m_opens = some (o_m_at, o_m_bad, o_m_badKind, o_m_opens) → G J Z 0 0 (cs_X10 J.2.2.1 a0 m_thrown m_refused m_taped m_size m_at m_bad m_badKind m_opens m_faultAt m_tape m_newBed m_newLetter m_newReader m_bed m_letter m_reader m_newBeds m_newLetters m_newReaders m_beds m_letters m_readers m_newCode m_newOf m_code m_ofCode m_stack m_newCodes m_codes m_facts m_newStep m_step m_newSteps m_works m_refusedSteps m_begun m_done m_refusedNow m_now m_s m_past m_newBook m_book m_written m_mostBy m_stuffing m_stuffedMany m_lastBy m_leftBy m_splitBy m_seedNow m_image m_images) 2 [(0, .ref (a0 0))] 42 [] := by
  intro m_at m_bad m_badKind m_opens h
  unfold f_X10_opensOne_42 at h
  refine g_aload_n (pc := 42) C 0 rfl dX10_opensOne_42 ?_
  refine g_dup (pc := 43) C dX10_opensOne_43 rfl ?_
  refine g_get (pc := 44) C FOK_X10 0 rfl rfl 7 (by decide) kw_1284 rfl dX10_opensOne_44 ?_
  refine g_iconst (pc := 47) C dX10_opensOne_47 ci_1 ?_
  refine g_iadd (pc := 48) C dX10_opensOne_48 ?_
  refine g_put (pc := 49) C (w' := cs_X10 J.2.2.1 a0 m_thrown m_refused m_taped m_size m_at m_bad m_badKind (m_opens + 1) m_faultAt m_tape m_newBed m_newLetter m_newReader m_bed m_letter m_reader m_newBeds m_newLetters m_newReaders m_beds m_letters m_readers m_newCode m_newOf m_code m_ofCode m_stack m_newCodes m_codes m_facts m_newStep m_step m_newSteps m_works m_refusedSteps m_begun m_done m_refusedNow m_now m_s m_past m_newBook m_book m_written m_mostBy m_stuffing m_stuffedMany m_lastBy m_leftBy m_splitBy m_seedNow m_image m_images) FOK_X10 0 rfl rfl 7 (by decide) kw_1284 rfl rfl rfl (Nat.le_of_ble_eq_true rfl) dX10_opensOne_49 rfl ?_
  cases h
  exact g_vret C E dX10_opensOne_52
set_option maxRecDepth 100000 in
set_option maxHeartbeats 4000000 in
theorem j_X10_opensOne_25 {J : Jt} {Z : Zt} {a0 : Nat → Nat} {m_thrown : Int32} {m_refused : Nat → Int32} {m_taped : Int32} {m_size : Int32} {m_faultAt : Int32} {m_tape : Nat → Int32} {m_newBed : Nat → Int32} {m_newLetter : Nat → Int32} {m_newReader : Nat → Int32} {m_bed : Nat → Int32} {m_letter : Nat → Int32} {m_reader : Nat → Int32} {m_newBeds : Int32} {m_newLetters : Int32} {m_newReaders : Int32} {m_beds : Int32} {m_letters : Int32} {m_readers : Int32} {m_newCode : Nat → Int32} {m_newOf : Nat → Int32} {m_code : Nat → Int32} {m_ofCode : Nat → Int32} {m_stack : Nat → Int32} {m_newCodes : Int32} {m_codes : Int32} {m_facts : Nat → Int32} {m_newStep : Nat → Int32} {m_step : Nat → Int32} {m_newSteps : Int32} {m_works : Int32} {m_refusedSteps : Int32} {m_begun : Int32} {m_done : Int32} {m_refusedNow : Int32} {m_now : Nat → Int32} {m_s : Nat → Int32} {m_past : Nat → Int32} {m_newBook : Nat → Int32} {m_book : Nat → Int32} {m_written : Int32} {m_mostBy : Nat → Int32} {m_stuffing : Nat → Int32} {m_stuffedMany : Int32} {m_lastBy : Nat → Int32} {m_leftBy : Nat → Int32} {m_splitBy : Nat → Int64} {m_seedNow : Int32} {m_image : Nat → Int32} {m_images : Int32} {n1 : Int32} {o_m_at : Int32} {o_m_bad : Int32} {o_m_badKind : Int32} {o_m_opens : Int32} (C : Cx J Z cX10_opensOne 2 RX10 none rm_X10_opensOne) (E : Ez J Z 0 0 none (cs_X10 J.2.2.1 a0 m_thrown m_refused m_taped m_size o_m_at o_m_bad o_m_badKind o_m_opens m_faultAt m_tape m_newBed m_newLetter m_newReader m_bed m_letter m_reader m_newBeds m_newLetters m_newReaders m_beds m_letters m_readers m_newCode m_newOf m_code m_ofCode m_stack m_newCodes m_codes m_facts m_newStep m_step m_newSteps m_works m_refusedSteps m_begun m_done m_refusedNow m_now m_s m_past m_newBook m_book m_written m_mostBy m_stuffing m_stuffedMany m_lastBy m_leftBy m_splitBy m_seedNow m_image m_images)) : ∀ (m_at : Int32) (m_bad : Int32) (m_badKind : Int32) (m_opens : Int32), f_X10_opensOne_25 n1 m_at m_bad m_badKind m_opens = some (o_m_at, o_m_bad, o_m_badKind, o_m_opens) → G J Z 0 0 (cs_X10 J.2.2.1 a0 m_thrown m_refused m_taped m_size m_at m_bad m_badKind m_opens m_faultAt m_tape m_newBed m_newLetter m_newReader m_bed m_letter m_reader m_newBeds m_newLetters m_newReaders m_beds m_letters m_readers m_newCode m_newOf m_code m_ofCode m_stack m_newCodes m_codes m_facts m_newStep m_step m_newSteps m_works m_refusedSteps m_begun m_done m_refusedNow m_now m_s m_past m_newBook m_book m_written m_mostBy m_stuffing m_stuffedMany m_lastBy m_leftBy m_splitBy m_seedNow m_image m_images) 2 [(0, .ref (a0 0)), (1, .int n1)] 25 [] := by
  intro m_at m_bad m_badKind m_opens h
  unfold f_X10_opensOne_25 at h
  refine g_aload_n (pc := 25) C 0 rfl dX10_opensOne_25 ?_
  obtain ⟨v1, hc, h⟩ := b1_of h
  refine g_callV (pc := 26) C (w' := cs_X10 J.2.2.1 a0 m_thrown m_refused m_taped m_size m_at m_bad m_badKind m_opens m_faultAt m_tape m_newBed m_newLetter m_newReader m_bed m_letter m_reader m_newBeds m_newLetters m_newReaders m_beds m_letters m_readers m_newCode m_newOf m_code m_ofCode m_stack m_newCodes m_codes m_facts m_newStep m_step m_newSteps m_works m_refusedSteps m_begun m_done m_refusedNow m_now m_s m_past m_newBook m_book m_written m_mostBy m_stuffing m_stuffedMany m_lastBy m_leftBy m_splitBy m_seedNow m_image m_images) (As := []) (st := []) (ci := 10) (q0 := 0) rfl rfl (t_X10_fine (a0 := a0) hc) Sub.same kw_1458 kw_1460 kw_22 kw_95 hy_X10_fine kw_1461 rfl (Nat.le_of_ble_eq_true rfl) (Nat.le_of_ble_eq_true rfl) (Nat.le_of_ble_eq_true rfl) (Nat.le_of_ble_eq_true rfl) (Nat.le_of_ble_eq_true rfl) dX10_opensOne_26 ?_
  refine g_if_eq (pc := 29) C (tgt := 42) dX10_opensOne_29 rfl h (fun h => ?_) (fun h => ?_)
  · refine g_lv [0] rfl ?_
    exact j_X10_opensOne_42 C E  m_at m_bad m_badKind m_opens h
  · refine g_aload_n (pc := 32) C 0 rfl dX10_opensOne_32 ?_
    refine g_dup (pc := 33) C dX10_opensOne_33 rfl ?_
    refine g_get (pc := 34) C FOK_X10 0 rfl rfl 4 (by decide) kw_1281 rfl dX10_opensOne_34 ?_
    refine g_iload_n (pc := 37) C 1 rfl dX10_opensOne_37 ?_
    refine g_iadd (pc := 38) C dX10_opensOne_38 ?_
    refine g_put (pc := 39) C (w' := cs_X10 J.2.2.1 a0 m_thrown m_refused m_taped m_size (m_at + n1) m_bad m_badKind m_opens m_faultAt m_tape m_newBed m_newLetter m_newReader m_bed m_letter m_reader m_newBeds m_newLetters m_newReaders m_beds m_letters m_readers m_newCode m_newOf m_code m_ofCode m_stack m_newCodes m_codes m_facts m_newStep m_step m_newSteps m_works m_refusedSteps m_begun m_done m_refusedNow m_now m_s m_past m_newBook m_book m_written m_mostBy m_stuffing m_stuffedMany m_lastBy m_leftBy m_splitBy m_seedNow m_image m_images) FOK_X10 0 rfl rfl 4 (by decide) kw_1281 rfl rfl rfl (Nat.le_of_ble_eq_true rfl) dX10_opensOne_39 rfl ?_
    refine g_lv [0] rfl ?_
    exact j_X10_opensOne_42 C E  (m_at + n1) m_bad m_badKind m_opens h
set_option maxRecDepth 100000 in
set_option maxHeartbeats 4000000 in
theorem t_X10_opensOne {J : Jt} {a0 : Nat → Nat} {m_thrown : Int32} {m_refused : Nat → Int32} {m_taped : Int32} {m_size : Int32} {m_at : Int32} {m_bad : Int32} {m_badKind : Int32} {m_opens : Int32} {m_faultAt : Int32} {m_tape : Nat → Int32} {m_newBed : Nat → Int32} {m_newLetter : Nat → Int32} {m_newReader : Nat → Int32} {m_bed : Nat → Int32} {m_letter : Nat → Int32} {m_reader : Nat → Int32} {m_newBeds : Int32} {m_newLetters : Int32} {m_newReaders : Int32} {m_beds : Int32} {m_letters : Int32} {m_readers : Int32} {m_newCode : Nat → Int32} {m_newOf : Nat → Int32} {m_code : Nat → Int32} {m_ofCode : Nat → Int32} {m_stack : Nat → Int32} {m_newCodes : Int32} {m_codes : Int32} {m_facts : Nat → Int32} {m_newStep : Nat → Int32} {m_step : Nat → Int32} {m_newSteps : Int32} {m_works : Int32} {m_refusedSteps : Int32} {m_begun : Int32} {m_done : Int32} {m_refusedNow : Int32} {m_now : Nat → Int32} {m_s : Nat → Int32} {m_past : Nat → Int32} {m_newBook : Nat → Int32} {m_book : Nat → Int32} {m_written : Int32} {m_mostBy : Nat → Int32} {m_stuffing : Nat → Int32} {m_stuffedMany : Int32} {m_lastBy : Nat → Int32} {m_leftBy : Nat → Int32} {m_splitBy : Nat → Int64} {m_seedNow : Int32} {m_image : Nat → Int32} {m_images : Int32} {n1 : Int32} {o_m_at : Int32} {o_m_bad : Int32} {o_m_badKind : Int32} {o_m_opens : Int32} (h : f_X10_opensOne m_at m_bad m_badKind m_opens n1 = some (o_m_at, o_m_bad, o_m_badKind, o_m_opens)) : Mt J yX10_opensOne cX10_opensOne 2 none rm_X10_opensOne [.ref (a0 0), .int n1] (cs_X10 J.2.2.1 a0 m_thrown m_refused m_taped m_size m_at m_bad m_badKind m_opens m_faultAt m_tape m_newBed m_newLetter m_newReader m_bed m_letter m_reader m_newBeds m_newLetters m_newReaders m_beds m_letters m_readers m_newCode m_newOf m_code m_ofCode m_stack m_newCodes m_codes m_facts m_newStep m_step m_newSteps m_works m_refusedSteps m_begun m_done m_refusedNow m_now m_s m_past m_newBook m_book m_written m_mostBy m_stuffing m_stuffedMany m_lastBy m_leftBy m_splitBy m_seedNow m_image m_images) none (cs_X10 J.2.2.1 a0 m_thrown m_refused m_taped m_size o_m_at o_m_bad o_m_badKind o_m_opens m_faultAt m_tape m_newBed m_newLetter m_newReader m_bed m_letter m_reader m_newBeds m_newLetters m_newReaders m_beds m_letters m_readers m_newCode m_newOf m_code m_ofCode m_stack m_newCodes m_codes m_facts m_newStep m_step m_newSteps m_works m_refusedSteps m_begun m_done m_refusedNow m_now m_s m_past m_newBook m_book m_written m_mostBy m_stuffing m_stuffedMany m_lastBy m_leftBy m_splitBy m_seedNow m_image m_images) := by
  refine Mt_of (own := RX10) (by decide) rfl (Nat.le_of_ble_eq_true rfl) rfl (fun Z C E => ?_)
  unfold f_X10_opensOne at h
  show G J Z 0 0 (cs_X10 J.2.2.1 a0 m_thrown m_refused m_taped m_size m_at m_bad m_badKind m_opens m_faultAt m_tape m_newBed m_newLetter m_newReader m_bed m_letter m_reader m_newBeds m_newLetters m_newReaders m_beds m_letters m_readers m_newCode m_newOf m_code m_ofCode m_stack m_newCodes m_codes m_facts m_newStep m_step m_newSteps m_works m_refusedSteps m_begun m_done m_refusedNow m_now m_s m_past m_newBook m_book m_written m_mostBy m_stuffing m_stuffedMany m_lastBy m_leftBy m_splitBy m_seedNow m_image m_images) 2 [(0, .ref (a0 0)), (1, .int n1)] 0 []
  refine g_aload_n (pc := 0) C 0 rfl dX10_opensOne_0 ?_
  obtain ⟨v2, hc, h⟩ := b1_of h
  refine g_callV (pc := 1) C (w' := cs_X10 J.2.2.1 a0 m_thrown m_refused m_taped m_size m_at m_bad m_badKind m_opens m_faultAt m_tape m_newBed m_newLetter m_newReader m_bed m_letter m_reader m_newBeds m_newLetters m_newReaders m_beds m_letters m_readers m_newCode m_newOf m_code m_ofCode m_stack m_newCodes m_codes m_facts m_newStep m_step m_newSteps m_works m_refusedSteps m_begun m_done m_refusedNow m_now m_s m_past m_newBook m_book m_written m_mostBy m_stuffing m_stuffedMany m_lastBy m_leftBy m_splitBy m_seedNow m_image m_images) (As := []) (st := []) (ci := 10) (q0 := 0) rfl rfl (t_X10_fine (a0 := a0) hc) Sub.same kw_1458 kw_1460 kw_22 kw_95 hy_X10_fine kw_1461 rfl (Nat.le_of_ble_eq_true rfl) (Nat.le_of_ble_eq_true rfl) (Nat.le_of_ble_eq_true rfl) (Nat.le_of_ble_eq_true rfl) (Nat.le_of_ble_eq_true rfl) dX10_opensOne_1 ?_
  refine g_if_eq (pc := 4) C (tgt := 25) dX10_opensOne_4 rfl h (fun h => ?_) (fun h => ?_)
  · exact j_X10_opensOne_25 C E  m_at m_bad m_badKind m_opens h
  · refine g_aload_n (pc := 7) C 0 rfl dX10_opensOne_7 ?_
    refine g_get (pc := 8) C FOK_X10 0 rfl rfl 7 (by decide) kw_1284 rfl dX10_opensOne_8 ?_
    refine g_bipush (pc := 11) C dX10_opensOne_11 cb_6 ?_
    refine g_icmp_ne (pc := 13) C (tgt := 25) dX10_opensOne_13 rfl h (fun h => ?_) (fun h => ?_)
    · exact j_X10_opensOne_25 C E  m_at m_bad m_badKind m_opens h
    · refine g_aload_n (pc := 16) C 0 rfl dX10_opensOne_16 ?_
      refine g_iconst (pc := 17) C dX10_opensOne_17 ci_3 ?_
      refine g_aload_n (pc := 18) C 0 rfl dX10_opensOne_18 ?_
      refine g_get (pc := 19) C FOK_X10 0 rfl rfl 4 (by decide) kw_1281 rfl dX10_opensOne_19 ?_
      obtain ⟨c3, c4, hc, h⟩ := b2_of h
      refine g_callV (pc := 22) C (w' := cs_X10 J.2.2.1 a0 m_thrown m_refused m_taped m_size m_at c3 c4 m_opens m_faultAt m_tape m_newBed m_newLetter m_newReader m_bed m_letter m_reader m_newBeds m_newLetters m_newReaders m_beds m_letters m_readers m_newCode m_newOf m_code m_ofCode m_stack m_newCodes m_codes m_facts m_newStep m_step m_newSteps m_works m_refusedSteps m_begun m_done m_refusedNow m_now m_s m_past m_newBook m_book m_written m_mostBy m_stuffing m_stuffedMany m_lastBy m_leftBy m_splitBy m_seedNow m_image m_images) (As := [.int 3, .int m_at]) (st := []) (ci := 10) (q0 := 0) rfl rfl (t_X10_wrong (a0 := a0) hc) Sub.same kw_1488 kw_1490 kw_26 kw_95 hy_X10_wrong kw_1491 rfl (Nat.le_of_ble_eq_true rfl) (Nat.le_of_ble_eq_true rfl) (Nat.le_of_ble_eq_true rfl) (Nat.le_of_ble_eq_true rfl) (Nat.le_of_ble_eq_true rfl) dX10_opensOne_22 ?_
      exact j_X10_opensOne_25 C E  m_at c3 c4 m_opens h
noncomputable def f_X10_both_38  (n1 : Int32) (n2 : Int32) (n3 : Int32)  : Option (Int32) := if n3 = 0 then some 0 else if n1 = 5 then if n3 = 0 then none else some (n2 / n3) else if n3 = 0 then none else some (n2 - n2 / n3 * n3)
noncomputable def f_X10_both_82  (n1 : Int32) (n2 : Int32) (n3 : Int32) (y0 : Int32) (y1 : Int32) : Option (Int32) := if y0 = y1 then some n2 else some n3
noncomputable def f_X10_both_71  (n1 : Int32) (n2 : Int32) (n3 : Int32) (y0 : Int32) : Option (Int32) := if n1 = 6 then f_X10_both_82 n1 n2 n3 y0 1 else f_X10_both_82 n1 n2 n3 y0 0
noncomputable def f_X10_both  (n1 : Int32) (n2 : Int32) (n3 : Int32) : Option (Int32) := if n1 = 2 then some (n2 + n3) else if n1 = 3 then some (n2 - n3) else if n1 = 4 then some (n2 * n3) else if n1 = 5 then f_X10_both_38 n1 n2 n3 else if n1 = 8 then f_X10_both_38 n1 n2 n3 else if n3 ≤ n2 then f_X10_both_71 n1 n2 n3 0 else f_X10_both_71 n1 n2 n3 1
def rm_X10_both : Room := { frames := 0, cells := 0, slots := 0, locals := 0 }
set_option maxRecDepth 100000 in
set_option maxHeartbeats 4000000 in
theorem j_X10_both_38 {J : Jt} {Z : Zt}  {n1 : Int32} {n2 : Int32} {n3 : Int32} {r : Int32} (C : Cx J Z cX10_both 3 RX10 (some .int) rm_X10_both) (E : Ez J Z 0 0 (some (.int r)) ([])) : f_X10_both_38 n1 n2 n3 = some r → G J Z 0 0 ([]) 3 [(0, .int n1), (1, .int n2), (2, .int n3)] 38 [] := by
  intro  h
  unfold f_X10_both_38 at h
  refine g_iload_n (pc := 38) C 2 rfl dX10_both_38 ?_
  refine g_if_ne (pc := 39) C (tgt := 46) dX10_both_39 rfl h (fun h => ?_) (fun h => ?_)
  · refine g_iload_n (pc := 46) C 0 rfl dX10_both_46 ?_
    refine g_iconst (pc := 47) C dX10_both_47 ci_5 ?_
    refine g_icmp_ne (pc := 48) C (tgt := 57) dX10_both_48 rfl h (fun h => ?_) (fun h => ?_)
    · refine g_iload_n (pc := 57) C 1 rfl dX10_both_57 ?_
      refine g_iload_n (pc := 58) C 2 rfl dX10_both_58 ?_
      obtain ⟨hz, h⟩ := nz_of h
      refine g_irem (pc := 59) C dX10_both_59 hz ?_
      cases h
      exact g_iret C E dX10_both_60
    · refine g_iload_n (pc := 51) C 1 rfl dX10_both_51 ?_
      refine g_iload_n (pc := 52) C 2 rfl dX10_both_52 ?_
      obtain ⟨hz, h⟩ := nz_of h
      refine g_idiv (pc := 53) C dX10_both_53 hz ?_
      refine g_goto (pc := 54) C (tgt := 60) dX10_both_54 rfl ?_
      cases h
      exact g_iret C E dX10_both_60
  · refine g_iconst (pc := 42) C dX10_both_42 ci_0 ?_
    refine g_goto (pc := 43) C (tgt := 60) dX10_both_43 rfl ?_
    cases h
    exact g_iret C E dX10_both_60
set_option maxRecDepth 100000 in
set_option maxHeartbeats 4000000 in
theorem j_X10_both_82 {J : Jt} {Z : Zt}  {n1 : Int32} {n2 : Int32} {n3 : Int32} {r : Int32} (C : Cx J Z cX10_both 3 RX10 (some .int) rm_X10_both) (E : Ez J Z 0 0 (some (.int r)) ([])) : ∀ (y0 : Int32) (y1 : Int32), f_X10_both_82 n1 n2 n3 y0 y1 = some r → G J Z 0 0 ([]) 3 [(1, .int n2), (2, .int n3)] 82 [.int y1, .int y0] := by
  intro y0 y1 h
  unfold f_X10_both_82 at h
  refine g_icmp_ne (pc := 82) C (tgt := 89) dX10_both_82 rfl h (fun h => ?_) (fun h => ?_)
  · refine g_iload_n (pc := 89) C 1 rfl dX10_both_89 ?_
    cases h
    exact g_iret C E dX10_both_90
  · refine g_iload_n (pc := 85) C 0 rfl dX10_both_85 ?_
    refine g_goto (pc := 86) C (tgt := 90) dX10_both_86 rfl ?_
    cases h
    exact g_iret C E dX10_both_90
set_option maxRecDepth 100000 in
set_option maxHeartbeats 4000000 in
theorem j_X10_both_71 {J : Jt} {Z : Zt}  {n1 : Int32} {n2 : Int32} {n3 : Int32} {r : Int32} (C : Cx J Z cX10_both 3 RX10 (some .int) rm_X10_both) (E : Ez J Z 0 0 (some (.int r)) ([])) : ∀ (y0 : Int32), f_X10_both_71 n1 n2 n3 y0 = some r → G J Z 0 0 ([]) 3 [(0, .int n1), (1, .int n2), (2, .int n3)] 71 [.int y0] := by
  intro y0 h
  unfold f_X10_both_71 at h
  refine g_iload_n (pc := 71) C 0 rfl dX10_both_71 ?_
  refine g_bipush (pc := 72) C dX10_both_72 cb_6 ?_
  refine g_icmp_ne (pc := 74) C (tgt := 81) dX10_both_74 rfl h (fun h => ?_) (fun h => ?_)
  · refine g_iconst (pc := 81) C dX10_both_81 ci_0 ?_
    refine g_lv [1, 2] rfl ?_
    exact j_X10_both_82 C E  y0 0 h
  · refine g_iconst (pc := 77) C dX10_both_77 ci_1 ?_
    refine g_goto (pc := 78) C (tgt := 82) dX10_both_78 rfl ?_
    refine g_lv [1, 2] rfl ?_
    exact j_X10_both_82 C E  y0 1 h
set_option maxRecDepth 100000 in
set_option maxHeartbeats 4000000 in
theorem t_X10_both {J : Jt}  {n1 : Int32} {n2 : Int32} {n3 : Int32} {r : Int32} (h : f_X10_both n1 n2 n3 = some r) : Mt J yX10_both cX10_both 3 (some .int) rm_X10_both [.int n1, .int n2, .int n3] ([]) (some (.int r)) ([]) := by
  refine Mt_of (own := RX10) (by decide) rfl (Nat.le_of_ble_eq_true rfl) rfl (fun Z C E => ?_)
  unfold f_X10_both at h
  show G J Z 0 0 ([]) 3 [(0, .int n1), (1, .int n2), (2, .int n3)] 0 []
  refine g_iload_n (pc := 0) C 0 rfl dX10_both_0 ?_
  refine g_iconst (pc := 1) C dX10_both_1 ci_2 ?_
  refine g_icmp_ne (pc := 2) C (tgt := 9) dX10_both_2 rfl h (fun h => ?_) (fun h => ?_)
  · refine g_iload_n (pc := 9) C 0 rfl dX10_both_9 ?_
    refine g_iconst (pc := 10) C dX10_both_10 ci_3 ?_
    refine g_icmp_ne (pc := 11) C (tgt := 18) dX10_both_11 rfl h (fun h => ?_) (fun h => ?_)
    · refine g_iload_n (pc := 18) C 0 rfl dX10_both_18 ?_
      refine g_iconst (pc := 19) C dX10_both_19 ci_4 ?_
      refine g_icmp_ne (pc := 20) C (tgt := 27) dX10_both_20 rfl h (fun h => ?_) (fun h => ?_)
      · refine g_iload_n (pc := 27) C 0 rfl dX10_both_27 ?_
        refine g_iconst (pc := 28) C dX10_both_28 ci_5 ?_
        refine g_icmp_eq (pc := 29) C (tgt := 38) dX10_both_29 rfl h (fun h => ?_) (fun h => ?_)
        · exact j_X10_both_38 C E   h
        · refine g_iload_n (pc := 32) C 0 rfl dX10_both_32 ?_
          refine g_bipush (pc := 33) C dX10_both_33 cb_8 ?_
          refine g_icmp_ne (pc := 35) C (tgt := 61) dX10_both_35 rfl h (fun h => ?_) (fun h => ?_)
          · refine g_iload_n (pc := 61) C 1 rfl dX10_both_61 ?_
            refine g_iload_n (pc := 62) C 2 rfl dX10_both_62 ?_
            refine g_icmp_ge (pc := 63) C (tgt := 70) dX10_both_63 rfl h (fun h => ?_) (fun h => ?_)
            · refine g_iconst (pc := 70) C dX10_both_70 ci_0 ?_
              exact j_X10_both_71 C E  0 h
            · refine g_iconst (pc := 66) C dX10_both_66 ci_1 ?_
              refine g_goto (pc := 67) C (tgt := 71) dX10_both_67 rfl ?_
              exact j_X10_both_71 C E  1 h
          · exact j_X10_both_38 C E   h
      · refine g_iload_n (pc := 23) C 1 rfl dX10_both_23 ?_
        refine g_iload_n (pc := 24) C 2 rfl dX10_both_24 ?_
        refine g_imul (pc := 25) C dX10_both_25 ?_
        cases h
        exact g_iret C E dX10_both_26
    · refine g_iload_n (pc := 14) C 1 rfl dX10_both_14 ?_
      refine g_iload_n (pc := 15) C 2 rfl dX10_both_15 ?_
      refine g_isub (pc := 16) C dX10_both_16 ?_
      cases h
      exact g_iret C E dX10_both_17
  · refine g_iload_n (pc := 5) C 1 rfl dX10_both_5 ?_
    refine g_iload_n (pc := 6) C 2 rfl dX10_both_6 ?_
    refine g_iadd (pc := 7) C dX10_both_7 ?_
    cases h
    exact g_iret C E dX10_both_8
noncomputable def f_X10_valueNow_4 (m_code : Nat → Int32) (m_ofCode : Nat → Int32) (m_codes : Int32) (m_facts : Nat → Int32) : Nat → Int32 → Int32 → (Nat → Int32) → Option (Int32 × (Nat → Int32))
  | 0, _, _, _ => none
  | n + 1, x1, x2, m_stack => if m_codes ≤ x2 then if ixb 0 150 then some (m_stack (0 : Int32).toNatClampNeg, m_stack) else none else if ixb x2 150 then if 1 < (m_code x2.toNatClampNeg) then if ixb ((x1 + (-1)) - 1) 150 then if ixb (x1 + (-1)) 150 then b1 (f_X10_both (m_code x2.toNatClampNeg) (m_stack ((x1 + (-1)) - 1).toNatClampNeg) (m_stack (x1 + (-1)).toNatClampNeg)) (fun v1 => if ixb ((x1 + (-1)) - 1) 150 then f_X10_valueNow_4 m_code m_ofCode m_codes m_facts n (x1 + (-1)) (x2 + 1) (upd m_stack ((x1 + (-1)) - 1).toNatClampNeg v1) else none) else none else none else if (m_code x2.toNatClampNeg) = 0 then if ixb x2 150 then if ixb x1 150 then f_X10_valueNow_4 m_code m_ofCode m_codes m_facts n (x1 + 1) (x2 + 1) (upd m_stack x1.toNatClampNeg (m_ofCode x2.toNatClampNeg)) else none else none else if ixb x2 150 then if ixb (m_ofCode x2.toNatClampNeg) 7 then if ixb x1 150 then f_X10_valueNow_4 m_code m_ofCode m_codes m_facts n (x1 + 1) (x2 + 1) (upd m_stack x1.toNatClampNeg (m_facts (m_ofCode x2.toNatClampNeg).toNatClampNeg)) else none else none else none else none
noncomputable def f_X10_valueNow (m_code : Nat → Int32) (m_ofCode : Nat → Int32) (m_stack : Nat → Int32) (m_codes : Int32) (m_facts : Nat → Int32) : Option (Int32 × (Nat → Int32)) := f_X10_valueNow_4 m_code m_ofCode m_codes m_facts FU 0 0 m_stack
def rm_X10_valueNow : Room := { frames := 1, cells := 0, slots := 0, locals := 22 }
set_option maxRecDepth 100000 in
set_option maxHeartbeats 4000000 in
theorem j_X10_valueNow_4 {J : Jt} {Z : Zt} {a0 : Nat → Nat} {m_thrown : Int32} {m_refused : Nat → Int32} {m_taped : Int32} {m_size : Int32} {m_at : Int32} {m_bad : Int32} {m_badKind : Int32} {m_opens : Int32} {m_faultAt : Int32} {m_tape : Nat → Int32} {m_newBed : Nat → Int32} {m_newLetter : Nat → Int32} {m_newReader : Nat → Int32} {m_bed : Nat → Int32} {m_letter : Nat → Int32} {m_reader : Nat → Int32} {m_newBeds : Int32} {m_newLetters : Int32} {m_newReaders : Int32} {m_beds : Int32} {m_letters : Int32} {m_readers : Int32} {m_newCode : Nat → Int32} {m_newOf : Nat → Int32} {m_code : Nat → Int32} {m_ofCode : Nat → Int32} {m_newCodes : Int32} {m_codes : Int32} {m_facts : Nat → Int32} {m_newStep : Nat → Int32} {m_step : Nat → Int32} {m_newSteps : Int32} {m_works : Int32} {m_refusedSteps : Int32} {m_begun : Int32} {m_done : Int32} {m_refusedNow : Int32} {m_now : Nat → Int32} {m_s : Nat → Int32} {m_past : Nat → Int32} {m_newBook : Nat → Int32} {m_book : Nat → Int32} {m_written : Int32} {m_mostBy : Nat → Int32} {m_stuffing : Nat → Int32} {m_stuffedMany : Int32} {m_lastBy : Nat → Int32} {m_leftBy : Nat → Int32} {m_splitBy : Nat → Int64} {m_seedNow : Int32} {m_image : Nat → Int32} {m_images : Int32} {r : Int32} {o_m_stack : Nat → Int32} (C : Cx J Z cX10_valueNow 4 RX10 (some .int) rm_X10_valueNow) (E : Ez J Z 0 0 (some (.int r)) (cs_X10 J.2.2.1 a0 m_thrown m_refused m_taped m_size m_at m_bad m_badKind m_opens m_faultAt m_tape m_newBed m_newLetter m_newReader m_bed m_letter m_reader m_newBeds m_newLetters m_newReaders m_beds m_letters m_readers m_newCode m_newOf m_code m_ofCode o_m_stack m_newCodes m_codes m_facts m_newStep m_step m_newSteps m_works m_refusedSteps m_begun m_done m_refusedNow m_now m_s m_past m_newBook m_book m_written m_mostBy m_stuffing m_stuffedMany m_lastBy m_leftBy m_splitBy m_seedNow m_image m_images)) : ∀ (n : Nat) (x1 : Int32) (x2 : Int32) (m_stack : Nat → Int32), f_X10_valueNow_4 m_code m_ofCode m_codes m_facts n x1 x2 m_stack = some (r, o_m_stack) → G J Z 0 0 (cs_X10 J.2.2.1 a0 m_thrown m_refused m_taped m_size m_at m_bad m_badKind m_opens m_faultAt m_tape m_newBed m_newLetter m_newReader m_bed m_letter m_reader m_newBeds m_newLetters m_newReaders m_beds m_letters m_readers m_newCode m_newOf m_code m_ofCode m_stack m_newCodes m_codes m_facts m_newStep m_step m_newSteps m_works m_refusedSteps m_begun m_done m_refusedNow m_now m_s m_past m_newBook m_book m_written m_mostBy m_stuffing m_stuffedMany m_lastBy m_leftBy m_splitBy m_seedNow m_image m_images) 4 [(0, .ref (a0 0)), (1, .int x1), (2, .int x2)] 4 [] := by
  intro n
  induction n with
  | zero =>
    intro x1 x2 m_stack h
    rw [f_X10_valueNow_4] at h
    cases h
  | succ n ih =>
    intro x1 x2 m_stack h
    rw [f_X10_valueNow_4] at h
    refine g_iload_n (pc := 4) C 2 rfl dX10_valueNow_4 ?_
    refine g_aload_n (pc := 5) C 0 rfl dX10_valueNow_5 ?_
    refine g_get (pc := 6) C FOK_X10 0 rfl rfl 28 (by decide) kw_1305 rfl dX10_valueNow_6 ?_
    refine g_icmp_ge (pc := 9) C (tgt := 95) dX10_valueNow_9 rfl h (fun h => ?_) (fun h => ?_)
    · refine g_aload_n (pc := 95) C 0 rfl dX10_valueNow_95 ?_
      refine g_get (pc := 96) C FOK_X10 0 rfl rfl 26 (by decide) kw_1303 rfl dX10_valueNow_96 ?_
      refine g_iconst (pc := 99) C dX10_valueNow_99 ci_0 ?_
      obtain ⟨hi, h⟩ := ix_of h
      refine g_iald (pc := 100) C 13 rfl hi dX10_valueNow_100 ?_
      cases h
      exact g_iret C E dX10_valueNow_101
    · refine g_aload_n (pc := 12) C 0 rfl dX10_valueNow_12 ?_
      refine g_get (pc := 13) C FOK_X10 0 rfl rfl 24 (by decide) kw_1301 rfl dX10_valueNow_13 ?_
      refine g_iload_n (pc := 16) C 2 rfl dX10_valueNow_16 ?_
      obtain ⟨hi, h⟩ := ix_of h
      refine g_iald (pc := 17) C 11 rfl hi dX10_valueNow_17 ?_
      refine g_istore_n (pc := 18) C [(3, .int (m_code x2.toNatClampNeg)), (0, .ref (a0 0)), (1, .int x1), (2, .int x2)] dX10_valueNow_18 rfl (by decide) rfl ?_
      refine g_iload_n (pc := 19) C 0 rfl dX10_valueNow_19 ?_
      refine g_iconst (pc := 20) C dX10_valueNow_20 ci_1 ?_
      refine g_icmp_gt (pc := 21) C (tgt := 60) dX10_valueNow_21 rfl h (fun h => ?_) (fun h => ?_)
      · refine g_iinc (pc := 60) C (j := 2) [(1, .int (x1 + (-1))), (3, .int (m_code x2.toNatClampNeg)), (0, .ref (a0 0)), (2, .int x2)] dX10_valueNow_60 rfl (ii_m1 _) (by decide) rfl ?_
        refine g_aload_n (pc := 63) C 2 rfl dX10_valueNow_63 ?_
        refine g_get (pc := 64) C FOK_X10 0 rfl rfl 26 (by decide) kw_1303 rfl dX10_valueNow_64 ?_
        refine g_iload_n (pc := 67) C 0 rfl dX10_valueNow_67 ?_
        refine g_iconst (pc := 68) C dX10_valueNow_68 ci_1 ?_
        refine g_isub (pc := 69) C dX10_valueNow_69 ?_
        refine g_iload_n (pc := 70) C 1 rfl dX10_valueNow_70 ?_
        refine g_aload_n (pc := 71) C 2 rfl dX10_valueNow_71 ?_
        refine g_get (pc := 72) C FOK_X10 0 rfl rfl 26 (by decide) kw_1303 rfl dX10_valueNow_72 ?_
        refine g_iload_n (pc := 75) C 0 rfl dX10_valueNow_75 ?_
        refine g_iconst (pc := 76) C dX10_valueNow_76 ci_1 ?_
        refine g_isub (pc := 77) C dX10_valueNow_77 ?_
        obtain ⟨hi, h⟩ := ix_of h
        refine g_iald (pc := 78) C 13 rfl hi dX10_valueNow_78 ?_
        refine g_aload_n (pc := 79) C 2 rfl dX10_valueNow_79 ?_
        refine g_get (pc := 80) C FOK_X10 0 rfl rfl 26 (by decide) kw_1303 rfl dX10_valueNow_80 ?_
        refine g_iload_n (pc := 83) C 0 rfl dX10_valueNow_83 ?_
        obtain ⟨hi, h⟩ := ix_of h
        refine g_iald (pc := 84) C 13 rfl hi dX10_valueNow_84 ?_
        obtain ⟨v1, hc, h⟩ := b1_of h
        refine g_callS (pc := 85) C (w' := cs_X10 J.2.2.1 a0 m_thrown m_refused m_taped m_size m_at m_bad m_badKind m_opens m_faultAt m_tape m_newBed m_newLetter m_newReader m_bed m_letter m_reader m_newBeds m_newLetters m_newReaders m_beds m_letters m_readers m_newCode m_newOf m_code m_ofCode m_stack m_newCodes m_codes m_facts m_newStep m_step m_newSteps m_works m_refusedSteps m_begun m_done m_refusedNow m_now m_s m_past m_newBook m_book m_written m_mostBy m_stuffing m_stuffedMany m_lastBy m_leftBy m_splitBy m_seedNow m_image m_images) (As := [.int (m_code x2.toNatClampNeg), .int (m_stack ((x1 + (-1)) - 1).toNatClampNeg), .int (m_stack (x1 + (-1)).toNatClampNeg)]) (st := [.int ((x1 + (-1)) - 1), .ref (a0 13)]) (t_X10_both hc) Sub.nil kw_1662 kw_1663 kw_95 hy_X10_both kw_1664 rfl (Nat.le_of_ble_eq_true rfl) (Nat.le_of_ble_eq_true rfl) (Nat.le_of_ble_eq_true rfl) (Nat.le_of_ble_eq_true rfl) (Nat.le_of_ble_eq_true rfl) dX10_valueNow_85 ?_
        obtain ⟨hi, h⟩ := ix_of h
        refine g_iast (pc := 88) C (w' := cs_X10 J.2.2.1 a0 m_thrown m_refused m_taped m_size m_at m_bad m_badKind m_opens m_faultAt m_tape m_newBed m_newLetter m_newReader m_bed m_letter m_reader m_newBeds m_newLetters m_newReaders m_beds m_letters m_readers m_newCode m_newOf m_code m_ofCode (upd m_stack ((x1 + (-1)) - 1).toNatClampNeg v1) m_newCodes m_codes m_facts m_newStep m_step m_newSteps m_works m_refusedSteps m_begun m_done m_refusedNow m_now m_s m_past m_newBook m_book m_written m_mostBy m_stuffing m_stuffedMany m_lastBy m_leftBy m_splitBy m_seedNow m_image m_images) 13 rfl hi dX10_valueNow_88 rfl ?_
        refine g_iinc (pc := 89) C (j := 3) [(2, .int (x2 + 1)), (1, .int (x1 + (-1))), (3, .int (m_code x2.toNatClampNeg)), (0, .ref (a0 0))] dX10_valueNow_89 rfl (ii_1 _) (by decide) rfl ?_
        refine g_goto (pc := 92) C (tgt := 4) dX10_valueNow_92 rfl ?_
        refine g_lv [3, 1, 0] rfl ?_
        exact ih (x1 + (-1)) (x2 + 1) (upd m_stack ((x1 + (-1)) - 1).toNatClampNeg v1) h
      · refine g_aload_n (pc := 24) C 1 rfl dX10_valueNow_24 ?_
        refine g_get (pc := 25) C FOK_X10 0 rfl rfl 26 (by decide) kw_1303 rfl dX10_valueNow_25 ?_
        refine g_iload_n (pc := 28) C 2 rfl dX10_valueNow_28 ?_
        refine g_iload_n (pc := 29) C 0 rfl dX10_valueNow_29 ?_
        refine g_if_ne (pc := 30) C (tgt := 42) dX10_valueNow_30 rfl h (fun h => ?_) (fun h => ?_)
        · refine g_aload_n (pc := 42) C 1 rfl dX10_valueNow_42 ?_
          refine g_get (pc := 43) C FOK_X10 0 rfl rfl 29 (by decide) kw_1306 rfl dX10_valueNow_43 ?_
          refine g_aload_n (pc := 46) C 1 rfl dX10_valueNow_46 ?_
          refine g_get (pc := 47) C FOK_X10 0 rfl rfl 25 (by decide) kw_1302 rfl dX10_valueNow_47 ?_
          refine g_iload_n (pc := 50) C 3 rfl dX10_valueNow_50 ?_
          obtain ⟨hi, h⟩ := ix_of h
          refine g_iald (pc := 51) C 12 rfl hi dX10_valueNow_51 ?_
          obtain ⟨hi, h⟩ := ix_of h
          refine g_iald (pc := 52) C 14 rfl hi dX10_valueNow_52 ?_
          obtain ⟨hi, h⟩ := ix_of h
          refine g_iast (pc := 53) C (w' := cs_X10 J.2.2.1 a0 m_thrown m_refused m_taped m_size m_at m_bad m_badKind m_opens m_faultAt m_tape m_newBed m_newLetter m_newReader m_bed m_letter m_reader m_newBeds m_newLetters m_newReaders m_beds m_letters m_readers m_newCode m_newOf m_code m_ofCode (upd m_stack x1.toNatClampNeg (m_facts (m_ofCode x2.toNatClampNeg).toNatClampNeg)) m_newCodes m_codes m_facts m_newStep m_step m_newSteps m_works m_refusedSteps m_begun m_done m_refusedNow m_now m_s m_past m_newBook m_book m_written m_mostBy m_stuffing m_stuffedMany m_lastBy m_leftBy m_splitBy m_seedNow m_image m_images) 13 rfl hi dX10_valueNow_53 rfl ?_
          refine g_iinc (pc := 54) C (j := 2) [(1, .int (x1 + 1)), (3, .int (m_code x2.toNatClampNeg)), (0, .ref (a0 0)), (2, .int x2)] dX10_valueNow_54 rfl (ii_1 _) (by decide) rfl ?_
          refine g_goto (pc := 57) C (tgt := 89) dX10_valueNow_57 rfl ?_
          refine g_iinc (pc := 89) C (j := 3) [(2, .int (x2 + 1)), (1, .int (x1 + 1)), (3, .int (m_code x2.toNatClampNeg)), (0, .ref (a0 0))] dX10_valueNow_89 rfl (ii_1 _) (by decide) rfl ?_
          refine g_goto (pc := 92) C (tgt := 4) dX10_valueNow_92 rfl ?_
          refine g_lv [3, 1, 0] rfl ?_
          exact ih (x1 + 1) (x2 + 1) (upd m_stack x1.toNatClampNeg (m_facts (m_ofCode x2.toNatClampNeg).toNatClampNeg)) h
        · refine g_aload_n (pc := 33) C 1 rfl dX10_valueNow_33 ?_
          refine g_get (pc := 34) C FOK_X10 0 rfl rfl 25 (by decide) kw_1302 rfl dX10_valueNow_34 ?_
          refine g_iload_n (pc := 37) C 3 rfl dX10_valueNow_37 ?_
          obtain ⟨hi, h⟩ := ix_of h
          refine g_iald (pc := 38) C 12 rfl hi dX10_valueNow_38 ?_
          refine g_goto (pc := 39) C (tgt := 53) dX10_valueNow_39 rfl ?_
          obtain ⟨hi, h⟩ := ix_of h
          refine g_iast (pc := 53) C (w' := cs_X10 J.2.2.1 a0 m_thrown m_refused m_taped m_size m_at m_bad m_badKind m_opens m_faultAt m_tape m_newBed m_newLetter m_newReader m_bed m_letter m_reader m_newBeds m_newLetters m_newReaders m_beds m_letters m_readers m_newCode m_newOf m_code m_ofCode (upd m_stack x1.toNatClampNeg (m_ofCode x2.toNatClampNeg)) m_newCodes m_codes m_facts m_newStep m_step m_newSteps m_works m_refusedSteps m_begun m_done m_refusedNow m_now m_s m_past m_newBook m_book m_written m_mostBy m_stuffing m_stuffedMany m_lastBy m_leftBy m_splitBy m_seedNow m_image m_images) 13 rfl hi dX10_valueNow_53 rfl ?_
          refine g_iinc (pc := 54) C (j := 2) [(1, .int (x1 + 1)), (3, .int (m_code x2.toNatClampNeg)), (0, .ref (a0 0)), (2, .int x2)] dX10_valueNow_54 rfl (ii_1 _) (by decide) rfl ?_
          refine g_goto (pc := 57) C (tgt := 89) dX10_valueNow_57 rfl ?_
          refine g_iinc (pc := 89) C (j := 3) [(2, .int (x2 + 1)), (1, .int (x1 + 1)), (3, .int (m_code x2.toNatClampNeg)), (0, .ref (a0 0))] dX10_valueNow_89 rfl (ii_1 _) (by decide) rfl ?_
          refine g_goto (pc := 92) C (tgt := 4) dX10_valueNow_92 rfl ?_
          refine g_lv [3, 1, 0] rfl ?_
          exact ih (x1 + 1) (x2 + 1) (upd m_stack x1.toNatClampNeg (m_ofCode x2.toNatClampNeg)) h
set_option maxRecDepth 100000 in
set_option maxHeartbeats 4000000 in
theorem t_X10_valueNow {J : Jt} {a0 : Nat → Nat} {m_thrown : Int32} {m_refused : Nat → Int32} {m_taped : Int32} {m_size : Int32} {m_at : Int32} {m_bad : Int32} {m_badKind : Int32} {m_opens : Int32} {m_faultAt : Int32} {m_tape : Nat → Int32} {m_newBed : Nat → Int32} {m_newLetter : Nat → Int32} {m_newReader : Nat → Int32} {m_bed : Nat → Int32} {m_letter : Nat → Int32} {m_reader : Nat → Int32} {m_newBeds : Int32} {m_newLetters : Int32} {m_newReaders : Int32} {m_beds : Int32} {m_letters : Int32} {m_readers : Int32} {m_newCode : Nat → Int32} {m_newOf : Nat → Int32} {m_code : Nat → Int32} {m_ofCode : Nat → Int32} {m_stack : Nat → Int32} {m_newCodes : Int32} {m_codes : Int32} {m_facts : Nat → Int32} {m_newStep : Nat → Int32} {m_step : Nat → Int32} {m_newSteps : Int32} {m_works : Int32} {m_refusedSteps : Int32} {m_begun : Int32} {m_done : Int32} {m_refusedNow : Int32} {m_now : Nat → Int32} {m_s : Nat → Int32} {m_past : Nat → Int32} {m_newBook : Nat → Int32} {m_book : Nat → Int32} {m_written : Int32} {m_mostBy : Nat → Int32} {m_stuffing : Nat → Int32} {m_stuffedMany : Int32} {m_lastBy : Nat → Int32} {m_leftBy : Nat → Int32} {m_splitBy : Nat → Int64} {m_seedNow : Int32} {m_image : Nat → Int32} {m_images : Int32} {r : Int32} {o_m_stack : Nat → Int32} (h : f_X10_valueNow m_code m_ofCode m_stack m_codes m_facts = some (r, o_m_stack)) : Mt J yX10_valueNow cX10_valueNow 4 (some .int) rm_X10_valueNow [.ref (a0 0)] (cs_X10 J.2.2.1 a0 m_thrown m_refused m_taped m_size m_at m_bad m_badKind m_opens m_faultAt m_tape m_newBed m_newLetter m_newReader m_bed m_letter m_reader m_newBeds m_newLetters m_newReaders m_beds m_letters m_readers m_newCode m_newOf m_code m_ofCode m_stack m_newCodes m_codes m_facts m_newStep m_step m_newSteps m_works m_refusedSteps m_begun m_done m_refusedNow m_now m_s m_past m_newBook m_book m_written m_mostBy m_stuffing m_stuffedMany m_lastBy m_leftBy m_splitBy m_seedNow m_image m_images) (some (.int r)) (cs_X10 J.2.2.1 a0 m_thrown m_refused m_taped m_size m_at m_bad m_badKind m_opens m_faultAt m_tape m_newBed m_newLetter m_newReader m_bed m_letter m_reader m_newBeds m_newLetters m_newReaders m_beds m_letters m_readers m_newCode m_newOf m_code m_ofCode o_m_stack m_newCodes m_codes m_facts m_newStep m_step m_newSteps m_works m_refusedSteps m_begun m_done m_refusedNow m_now m_s m_past m_newBook m_book m_written m_mostBy m_stuffing m_stuffedMany m_lastBy m_leftBy m_splitBy m_seedNow m_image m_images) := by
  refine Mt_of (own := RX10) (by decide) rfl (Nat.le_of_ble_eq_true rfl) rfl (fun Z C E => ?_)
  unfold f_X10_valueNow at h
  show G J Z 0 0 (cs_X10 J.2.2.1 a0 m_thrown m_refused m_taped m_size m_at m_bad m_badKind m_opens m_faultAt m_tape m_newBed m_newLetter m_newReader m_bed m_letter m_reader m_newBeds m_newLetters m_newReaders m_beds m_letters m_readers m_newCode m_newOf m_code m_ofCode m_stack m_newCodes m_codes m_facts m_newStep m_step m_newSteps m_works m_refusedSteps m_begun m_done m_refusedNow m_now m_s m_past m_newBook m_book m_written m_mostBy m_stuffing m_stuffedMany m_lastBy m_leftBy m_splitBy m_seedNow m_image m_images) 4 [(0, .ref (a0 0))] 0 []
  refine g_iconst (pc := 0) C dX10_valueNow_0 ci_0 ?_
  refine g_istore_n (pc := 1) C [(1, .int 0), (0, .ref (a0 0))] dX10_valueNow_1 rfl (by decide) rfl ?_
  refine g_iconst (pc := 2) C dX10_valueNow_2 ci_0 ?_
  refine g_istore_n (pc := 3) C [(2, .int 0), (1, .int 0), (0, .ref (a0 0))] dX10_valueNow_3 rfl (by decide) rfl ?_
  refine g_lv [2, 1, 0] rfl ?_
  exact j_X10_valueNow_4 C E  FU 0 0 m_stack h
noncomputable def f_X10_runNow_24 (m_code : Nat → Int32) (m_ofCode : Nat → Int32) (m_codes : Int32) (m_facts : Nat → Int32) (y0 : Int32) (m_stack : Nat → Int32) : Option (Int32 × (Nat → Int32)) := if 0 ≤ y0 then if y0 ≤ 8 then some (y0, m_stack) else some (8, m_stack) else some (0, m_stack)
noncomputable def f_X10_runNow (m_code : Nat → Int32) (m_ofCode : Nat → Int32) (m_stack : Nat → Int32) (m_codes : Int32) (m_facts : Nat → Int32) : Option (Int32 × (Nat → Int32)) := if m_codes = 0 then if ixb 0 7 then f_X10_runNow_24 m_code m_ofCode m_codes m_facts (((m_facts (0 : Int32).toNatClampNeg) / 4) + 1) m_stack else none else b2 (f_X10_valueNow m_code m_ofCode m_stack m_codes m_facts) (fun v1 c2 => f_X10_runNow_24 m_code m_ofCode m_codes m_facts v1 c2)
def rm_X10_runNow : Room := { frames := 2, cells := 0, slots := 0, locals := 45 }
set_option maxRecDepth 100000 in
set_option maxHeartbeats 4000000 in
theorem j_X10_runNow_24 {J : Jt} {Z : Zt} {a0 : Nat → Nat} {m_thrown : Int32} {m_refused : Nat → Int32} {m_taped : Int32} {m_size : Int32} {m_at : Int32} {m_bad : Int32} {m_badKind : Int32} {m_opens : Int32} {m_faultAt : Int32} {m_tape : Nat → Int32} {m_newBed : Nat → Int32} {m_newLetter : Nat → Int32} {m_newReader : Nat → Int32} {m_bed : Nat → Int32} {m_letter : Nat → Int32} {m_reader : Nat → Int32} {m_newBeds : Int32} {m_newLetters : Int32} {m_newReaders : Int32} {m_beds : Int32} {m_letters : Int32} {m_readers : Int32} {m_newCode : Nat → Int32} {m_newOf : Nat → Int32} {m_code : Nat → Int32} {m_ofCode : Nat → Int32} {m_newCodes : Int32} {m_codes : Int32} {m_facts : Nat → Int32} {m_newStep : Nat → Int32} {m_step : Nat → Int32} {m_newSteps : Int32} {m_works : Int32} {m_refusedSteps : Int32} {m_begun : Int32} {m_done : Int32} {m_refusedNow : Int32} {m_now : Nat → Int32} {m_s : Nat → Int32} {m_past : Nat → Int32} {m_newBook : Nat → Int32} {m_book : Nat → Int32} {m_written : Int32} {m_mostBy : Nat → Int32} {m_stuffing : Nat → Int32} {m_stuffedMany : Int32} {m_lastBy : Nat → Int32} {m_leftBy : Nat → Int32} {m_splitBy : Nat → Int64} {m_seedNow : Int32} {m_image : Nat → Int32} {m_images : Int32} {r : Int32} {o_m_stack : Nat → Int32} (C : Cx J Z cX10_runNow 2 RX10 (some .int) rm_X10_runNow) (E : Ez J Z 0 0 (some (.int r)) (cs_X10 J.2.2.1 a0 m_thrown m_refused m_taped m_size m_at m_bad m_badKind m_opens m_faultAt m_tape m_newBed m_newLetter m_newReader m_bed m_letter m_reader m_newBeds m_newLetters m_newReaders m_beds m_letters m_readers m_newCode m_newOf m_code m_ofCode o_m_stack m_newCodes m_codes m_facts m_newStep m_step m_newSteps m_works m_refusedSteps m_begun m_done m_refusedNow m_now m_s m_past m_newBook m_book m_written m_mostBy m_stuffing m_stuffedMany m_lastBy m_leftBy m_splitBy m_seedNow m_image m_images)) : ∀ (y0 : Int32) (m_stack : Nat → Int32), f_X10_runNow_24 m_code m_ofCode m_codes m_facts y0 m_stack = some (r, o_m_stack) → G J Z 0 0 (cs_X10 J.2.2.1 a0 m_thrown m_refused m_taped m_size m_at m_bad m_badKind m_opens m_faultAt m_tape m_newBed m_newLetter m_newReader m_bed m_letter m_reader m_newBeds m_newLetters m_newReaders m_beds m_letters m_readers m_newCode m_newOf m_code m_ofCode m_stack m_newCodes m_codes m_facts m_newStep m_step m_newSteps m_works m_refusedSteps m_begun m_done m_refusedNow m_now m_s m_past m_newBook m_book m_written m_mostBy m_stuffing m_stuffedMany m_lastBy m_leftBy m_splitBy m_seedNow m_image m_images) 2 [] 24 [.int y0] := by
  intro y0 m_stack h
  unfold f_X10_runNow_24 at h
  refine g_istore_n (pc := 24) C [(1, .int y0)] dX10_runNow_24 rfl (by decide) rfl ?_
  refine g_iload_n (pc := 25) C 0 rfl dX10_runNow_25 ?_
  refine g_if_ge (pc := 26) C (tgt := 33) dX10_runNow_26 rfl h (fun h => ?_) (fun h => ?_)
  · refine g_iload_n (pc := 33) C 0 rfl dX10_runNow_33 ?_
    refine g_bipush (pc := 34) C dX10_runNow_34 cb_8 ?_
    refine g_icmp_le (pc := 36) C (tgt := 44) dX10_runNow_36 rfl h (fun h => ?_) (fun h => ?_)
    · refine g_iload_n (pc := 44) C 0 rfl dX10_runNow_44 ?_
      cases h
      exact g_iret C E dX10_runNow_45
    · refine g_bipush (pc := 39) C dX10_runNow_39 cb_8 ?_
      refine g_goto (pc := 41) C (tgt := 45) dX10_runNow_41 rfl ?_
      cases h
      exact g_iret C E dX10_runNow_45
  · refine g_iconst (pc := 29) C dX10_runNow_29 ci_0 ?_
    refine g_goto (pc := 30) C (tgt := 45) dX10_runNow_30 rfl ?_
    cases h
    exact g_iret C E dX10_runNow_45
set_option maxRecDepth 100000 in
set_option maxHeartbeats 4000000 in
theorem t_X10_runNow {J : Jt} {a0 : Nat → Nat} {m_thrown : Int32} {m_refused : Nat → Int32} {m_taped : Int32} {m_size : Int32} {m_at : Int32} {m_bad : Int32} {m_badKind : Int32} {m_opens : Int32} {m_faultAt : Int32} {m_tape : Nat → Int32} {m_newBed : Nat → Int32} {m_newLetter : Nat → Int32} {m_newReader : Nat → Int32} {m_bed : Nat → Int32} {m_letter : Nat → Int32} {m_reader : Nat → Int32} {m_newBeds : Int32} {m_newLetters : Int32} {m_newReaders : Int32} {m_beds : Int32} {m_letters : Int32} {m_readers : Int32} {m_newCode : Nat → Int32} {m_newOf : Nat → Int32} {m_code : Nat → Int32} {m_ofCode : Nat → Int32} {m_stack : Nat → Int32} {m_newCodes : Int32} {m_codes : Int32} {m_facts : Nat → Int32} {m_newStep : Nat → Int32} {m_step : Nat → Int32} {m_newSteps : Int32} {m_works : Int32} {m_refusedSteps : Int32} {m_begun : Int32} {m_done : Int32} {m_refusedNow : Int32} {m_now : Nat → Int32} {m_s : Nat → Int32} {m_past : Nat → Int32} {m_newBook : Nat → Int32} {m_book : Nat → Int32} {m_written : Int32} {m_mostBy : Nat → Int32} {m_stuffing : Nat → Int32} {m_stuffedMany : Int32} {m_lastBy : Nat → Int32} {m_leftBy : Nat → Int32} {m_splitBy : Nat → Int64} {m_seedNow : Int32} {m_image : Nat → Int32} {m_images : Int32} {r : Int32} {o_m_stack : Nat → Int32} (h : f_X10_runNow m_code m_ofCode m_stack m_codes m_facts = some (r, o_m_stack)) : Mt J yX10_runNow cX10_runNow 2 (some .int) rm_X10_runNow [.ref (a0 0)] (cs_X10 J.2.2.1 a0 m_thrown m_refused m_taped m_size m_at m_bad m_badKind m_opens m_faultAt m_tape m_newBed m_newLetter m_newReader m_bed m_letter m_reader m_newBeds m_newLetters m_newReaders m_beds m_letters m_readers m_newCode m_newOf m_code m_ofCode m_stack m_newCodes m_codes m_facts m_newStep m_step m_newSteps m_works m_refusedSteps m_begun m_done m_refusedNow m_now m_s m_past m_newBook m_book m_written m_mostBy m_stuffing m_stuffedMany m_lastBy m_leftBy m_splitBy m_seedNow m_image m_images) (some (.int r)) (cs_X10 J.2.2.1 a0 m_thrown m_refused m_taped m_size m_at m_bad m_badKind m_opens m_faultAt m_tape m_newBed m_newLetter m_newReader m_bed m_letter m_reader m_newBeds m_newLetters m_newReaders m_beds m_letters m_readers m_newCode m_newOf m_code m_ofCode o_m_stack m_newCodes m_codes m_facts m_newStep m_step m_newSteps m_works m_refusedSteps m_begun m_done m_refusedNow m_now m_s m_past m_newBook m_book m_written m_mostBy m_stuffing m_stuffedMany m_lastBy m_leftBy m_splitBy m_seedNow m_image m_images) := by
  refine Mt_of (own := RX10) (by decide) rfl (Nat.le_of_ble_eq_true rfl) rfl (fun Z C E => ?_)
  unfold f_X10_runNow at h
  show G J Z 0 0 (cs_X10 J.2.2.1 a0 m_thrown m_refused m_taped m_size m_at m_bad m_badKind m_opens m_faultAt m_tape m_newBed m_newLetter m_newReader m_bed m_letter m_reader m_newBeds m_newLetters m_newReaders m_beds m_letters m_readers m_newCode m_newOf m_code m_ofCode m_stack m_newCodes m_codes m_facts m_newStep m_step m_newSteps m_works m_refusedSteps m_begun m_done m_refusedNow m_now m_s m_past m_newBook m_book m_written m_mostBy m_stuffing m_stuffedMany m_lastBy m_leftBy m_splitBy m_seedNow m_image m_images) 2 [(0, .ref (a0 0))] 0 []
  refine g_aload_n (pc := 0) C 0 rfl dX10_runNow_0 ?_
  refine g_get (pc := 1) C FOK_X10 0 rfl rfl 28 (by decide) kw_1305 rfl dX10_runNow_1 ?_
  refine g_if_ne (pc := 4) C (tgt := 20) dX10_runNow_4 rfl h (fun h => ?_) (fun h => ?_)
  · refine g_aload_n (pc := 20) C 0 rfl dX10_runNow_20 ?_
    obtain ⟨v1, c2, hc, h⟩ := b2_of h
    refine g_callV (pc := 21) C (w' := cs_X10 J.2.2.1 a0 m_thrown m_refused m_taped m_size m_at m_bad m_badKind m_opens m_faultAt m_tape m_newBed m_newLetter m_newReader m_bed m_letter m_reader m_newBeds m_newLetters m_newReaders m_beds m_letters m_readers m_newCode m_newOf m_code m_ofCode c2 m_newCodes m_codes m_facts m_newStep m_step m_newSteps m_works m_refusedSteps m_begun m_done m_refusedNow m_now m_s m_past m_newBook m_book m_written m_mostBy m_stuffing m_stuffedMany m_lastBy m_leftBy m_splitBy m_seedNow m_image m_images) (As := []) (st := []) (ci := 10) (q0 := 0) rfl rfl (t_X10_valueNow (a0 := a0) hc) Sub.same kw_1658 kw_1660 kw_61 kw_95 hy_X10_valueNow kw_1661 rfl (Nat.le_of_ble_eq_true rfl) (Nat.le_of_ble_eq_true rfl) (Nat.le_of_ble_eq_true rfl) (Nat.le_of_ble_eq_true rfl) (Nat.le_of_ble_eq_true rfl) dX10_runNow_21 ?_
    refine g_lv [] rfl ?_
    exact j_X10_runNow_24 C E  v1 c2 h
  · refine g_aload_n (pc := 7) C 0 rfl dX10_runNow_7 ?_
    refine g_get (pc := 8) C FOK_X10 0 rfl rfl 29 (by decide) kw_1306 rfl dX10_runNow_8 ?_
    refine g_iconst (pc := 11) C dX10_runNow_11 ci_0 ?_
    obtain ⟨hi, h⟩ := ix_of h
    refine g_iald (pc := 12) C 14 rfl hi dX10_runNow_12 ?_
    refine g_iconst (pc := 13) C dX10_runNow_13 ci_4 ?_
    refine g_idiv (pc := 14) C dX10_runNow_14 (by decide) ?_
    refine g_iconst (pc := 15) C dX10_runNow_15 ci_1 ?_
    refine g_iadd (pc := 16) C dX10_runNow_16 ?_
    refine g_goto (pc := 17) C (tgt := 24) dX10_runNow_17 rfl ?_
    refine g_lv [] rfl ?_
    exact j_X10_runNow_24 C E  (((m_facts (0 : Int32).toNatClampNeg) / 4) + 1) m_stack h
noncomputable def f_X10_tellsStep (m_bad : Int32) (m_newStep : Nat → Int32) (m_newSteps : Int32) (n1 : Int32) (n2 : Int32) (n3 : Int32) : Option ((Nat → Int32) × Int32) := b1 (f_X10_fine m_bad) (fun v1 => if v1 = 0 then some (m_newStep, m_newSteps) else if ixb m_newSteps 150 then if ixb (m_newSteps + 1) 150 then if ixb (m_newSteps + 2) 150 then some (upd (upd (upd m_newStep m_newSteps.toNatClampNeg n1) (m_newSteps + 1).toNatClampNeg n2) (m_newSteps + 2).toNatClampNeg n3, m_newSteps + 3) else none else none else none)
def rm_X10_tellsStep : Room := { frames := 1, cells := 0, slots := 0, locals := 20 }
set_option maxRecDepth 100000 in
set_option maxHeartbeats 4000000 in
theorem t_X10_tellsStep {J : Jt} {a0 : Nat → Nat} {m_thrown : Int32} {m_refused : Nat → Int32} {m_taped : Int32} {m_size : Int32} {m_at : Int32} {m_bad : Int32} {m_badKind : Int32} {m_opens : Int32} {m_faultAt : Int32} {m_tape : Nat → Int32} {m_newBed : Nat → Int32} {m_newLetter : Nat → Int32} {m_newReader : Nat → Int32} {m_bed : Nat → Int32} {m_letter : Nat → Int32} {m_reader : Nat → Int32} {m_newBeds : Int32} {m_newLetters : Int32} {m_newReaders : Int32} {m_beds : Int32} {m_letters : Int32} {m_readers : Int32} {m_newCode : Nat → Int32} {m_newOf : Nat → Int32} {m_code : Nat → Int32} {m_ofCode : Nat → Int32} {m_stack : Nat → Int32} {m_newCodes : Int32} {m_codes : Int32} {m_facts : Nat → Int32} {m_newStep : Nat → Int32} {m_step : Nat → Int32} {m_newSteps : Int32} {m_works : Int32} {m_refusedSteps : Int32} {m_begun : Int32} {m_done : Int32} {m_refusedNow : Int32} {m_now : Nat → Int32} {m_s : Nat → Int32} {m_past : Nat → Int32} {m_newBook : Nat → Int32} {m_book : Nat → Int32} {m_written : Int32} {m_mostBy : Nat → Int32} {m_stuffing : Nat → Int32} {m_stuffedMany : Int32} {m_lastBy : Nat → Int32} {m_leftBy : Nat → Int32} {m_splitBy : Nat → Int64} {m_seedNow : Int32} {m_image : Nat → Int32} {m_images : Int32} {n1 : Int32} {n2 : Int32} {n3 : Int32} {o_m_newStep : Nat → Int32} {o_m_newSteps : Int32} (h : f_X10_tellsStep m_bad m_newStep m_newSteps n1 n2 n3 = some (o_m_newStep, o_m_newSteps)) : Mt J yX10_tellsStep cX10_tellsStep 4 none rm_X10_tellsStep [.ref (a0 0), .int n1, .int n2, .int n3] (cs_X10 J.2.2.1 a0 m_thrown m_refused m_taped m_size m_at m_bad m_badKind m_opens m_faultAt m_tape m_newBed m_newLetter m_newReader m_bed m_letter m_reader m_newBeds m_newLetters m_newReaders m_beds m_letters m_readers m_newCode m_newOf m_code m_ofCode m_stack m_newCodes m_codes m_facts m_newStep m_step m_newSteps m_works m_refusedSteps m_begun m_done m_refusedNow m_now m_s m_past m_newBook m_book m_written m_mostBy m_stuffing m_stuffedMany m_lastBy m_leftBy m_splitBy m_seedNow m_image m_images) none (cs_X10 J.2.2.1 a0 m_thrown m_refused m_taped m_size m_at m_bad m_badKind m_opens m_faultAt m_tape m_newBed m_newLetter m_newReader m_bed m_letter m_reader m_newBeds m_newLetters m_newReaders m_beds m_letters m_readers m_newCode m_newOf m_code m_ofCode m_stack m_newCodes m_codes m_facts o_m_newStep m_step o_m_newSteps m_works m_refusedSteps m_begun m_done m_refusedNow m_now m_s m_past m_newBook m_book m_written m_mostBy m_stuffing m_stuffedMany m_lastBy m_leftBy m_splitBy m_seedNow m_image m_images) := by
  refine Mt_of (own := RX10) (by decide) rfl (Nat.le_of_ble_eq_true rfl) rfl (fun Z C E => ?_)
  unfold f_X10_tellsStep at h
  show G J Z 0 0 (cs_X10 J.2.2.1 a0 m_thrown m_refused m_taped m_size m_at m_bad m_badKind m_opens m_faultAt m_tape m_newBed m_newLetter m_newReader m_bed m_letter m_reader m_newBeds m_newLetters m_newReaders m_beds m_letters m_readers m_newCode m_newOf m_code m_ofCode m_stack m_newCodes m_codes m_facts m_newStep m_step m_newSteps m_works m_refusedSteps m_begun m_done m_refusedNow m_now m_s m_past m_newBook m_book m_written m_mostBy m_stuffing m_stuffedMany m_lastBy m_leftBy m_splitBy m_seedNow m_image m_images) 4 [(0, .ref (a0 0)), (1, .int n1), (2, .int n2), (3, .int n3)] 0 []
  refine g_aload_n (pc := 0) C 0 rfl dX10_tellsStep_0 ?_
  obtain ⟨v1, hc, h⟩ := b1_of h
  refine g_callV (pc := 1) C (w' := cs_X10 J.2.2.1 a0 m_thrown m_refused m_taped m_size m_at m_bad m_badKind m_opens m_faultAt m_tape m_newBed m_newLetter m_newReader m_bed m_letter m_reader m_newBeds m_newLetters m_newReaders m_beds m_letters m_readers m_newCode m_newOf m_code m_ofCode m_stack m_newCodes m_codes m_facts m_newStep m_step m_newSteps m_works m_refusedSteps m_begun m_done m_refusedNow m_now m_s m_past m_newBook m_book m_written m_mostBy m_stuffing m_stuffedMany m_lastBy m_leftBy m_splitBy m_seedNow m_image m_images) (As := []) (st := []) (ci := 10) (q0 := 0) rfl rfl (t_X10_fine (a0 := a0) hc) Sub.same kw_1458 kw_1460 kw_22 kw_95 hy_X10_fine kw_1461 rfl (Nat.le_of_ble_eq_true rfl) (Nat.le_of_ble_eq_true rfl) (Nat.le_of_ble_eq_true rfl) (Nat.le_of_ble_eq_true rfl) (Nat.le_of_ble_eq_true rfl) dX10_tellsStep_1 ?_
  refine g_if_ne (pc := 4) C (tgt := 8) dX10_tellsStep_4 rfl h (fun h => ?_) (fun h => ?_)
  · refine g_aload_n (pc := 8) C 0 rfl dX10_tellsStep_8 ?_
    refine g_get (pc := 9) C FOK_X10 0 rfl rfl 30 (by decide) kw_1307 rfl dX10_tellsStep_9 ?_
    refine g_aload_n (pc := 12) C 0 rfl dX10_tellsStep_12 ?_
    refine g_get (pc := 13) C FOK_X10 0 rfl rfl 32 (by decide) kw_1309 rfl dX10_tellsStep_13 ?_
    refine g_iload_n (pc := 16) C 1 rfl dX10_tellsStep_16 ?_
    obtain ⟨hi, h⟩ := ix_of h
    refine g_iast (pc := 17) C (w' := cs_X10 J.2.2.1 a0 m_thrown m_refused m_taped m_size m_at m_bad m_badKind m_opens m_faultAt m_tape m_newBed m_newLetter m_newReader m_bed m_letter m_reader m_newBeds m_newLetters m_newReaders m_beds m_letters m_readers m_newCode m_newOf m_code m_ofCode m_stack m_newCodes m_codes m_facts (upd m_newStep m_newSteps.toNatClampNeg n1) m_step m_newSteps m_works m_refusedSteps m_begun m_done m_refusedNow m_now m_s m_past m_newBook m_book m_written m_mostBy m_stuffing m_stuffedMany m_lastBy m_leftBy m_splitBy m_seedNow m_image m_images) 15 rfl hi dX10_tellsStep_17 rfl ?_
    refine g_aload_n (pc := 18) C 0 rfl dX10_tellsStep_18 ?_
    refine g_get (pc := 19) C FOK_X10 0 rfl rfl 30 (by decide) kw_1307 rfl dX10_tellsStep_19 ?_
    refine g_aload_n (pc := 22) C 0 rfl dX10_tellsStep_22 ?_
    refine g_get (pc := 23) C FOK_X10 0 rfl rfl 32 (by decide) kw_1309 rfl dX10_tellsStep_23 ?_
    refine g_iconst (pc := 26) C dX10_tellsStep_26 ci_1 ?_
    refine g_iadd (pc := 27) C dX10_tellsStep_27 ?_
    refine g_iload_n (pc := 28) C 2 rfl dX10_tellsStep_28 ?_
    obtain ⟨hi, h⟩ := ix_of h
    refine g_iast (pc := 29) C (w' := cs_X10 J.2.2.1 a0 m_thrown m_refused m_taped m_size m_at m_bad m_badKind m_opens m_faultAt m_tape m_newBed m_newLetter m_newReader m_bed m_letter m_reader m_newBeds m_newLetters m_newReaders m_beds m_letters m_readers m_newCode m_newOf m_code m_ofCode m_stack m_newCodes m_codes m_facts (upd (upd m_newStep m_newSteps.toNatClampNeg n1) (m_newSteps + 1).toNatClampNeg n2) m_step m_newSteps m_works m_refusedSteps m_begun m_done m_refusedNow m_now m_s m_past m_newBook m_book m_written m_mostBy m_stuffing m_stuffedMany m_lastBy m_leftBy m_splitBy m_seedNow m_image m_images) 15 rfl hi dX10_tellsStep_29 rfl ?_
    refine g_aload_n (pc := 30) C 0 rfl dX10_tellsStep_30 ?_
    refine g_get (pc := 31) C FOK_X10 0 rfl rfl 30 (by decide) kw_1307 rfl dX10_tellsStep_31 ?_
    refine g_aload_n (pc := 34) C 0 rfl dX10_tellsStep_34 ?_
    refine g_get (pc := 35) C FOK_X10 0 rfl rfl 32 (by decide) kw_1309 rfl dX10_tellsStep_35 ?_
    refine g_iconst (pc := 38) C dX10_tellsStep_38 ci_2 ?_
    refine g_iadd (pc := 39) C dX10_tellsStep_39 ?_
    refine g_iload_n (pc := 40) C 3 rfl dX10_tellsStep_40 ?_
    obtain ⟨hi, h⟩ := ix_of h
    refine g_iast (pc := 41) C (w' := cs_X10 J.2.2.1 a0 m_thrown m_refused m_taped m_size m_at m_bad m_badKind m_opens m_faultAt m_tape m_newBed m_newLetter m_newReader m_bed m_letter m_reader m_newBeds m_newLetters m_newReaders m_beds m_letters m_readers m_newCode m_newOf m_code m_ofCode m_stack m_newCodes m_codes m_facts (upd (upd (upd m_newStep m_newSteps.toNatClampNeg n1) (m_newSteps + 1).toNatClampNeg n2) (m_newSteps + 2).toNatClampNeg n3) m_step m_newSteps m_works m_refusedSteps m_begun m_done m_refusedNow m_now m_s m_past m_newBook m_book m_written m_mostBy m_stuffing m_stuffedMany m_lastBy m_leftBy m_splitBy m_seedNow m_image m_images) 15 rfl hi dX10_tellsStep_41 rfl ?_
    refine g_aload_n (pc := 42) C 0 rfl dX10_tellsStep_42 ?_
    refine g_dup (pc := 43) C dX10_tellsStep_43 rfl ?_
    refine g_get (pc := 44) C FOK_X10 0 rfl rfl 32 (by decide) kw_1309 rfl dX10_tellsStep_44 ?_
    refine g_iconst (pc := 47) C dX10_tellsStep_47 ci_3 ?_
    refine g_iadd (pc := 48) C dX10_tellsStep_48 ?_
    refine g_put (pc := 49) C (w' := cs_X10 J.2.2.1 a0 m_thrown m_refused m_taped m_size m_at m_bad m_badKind m_opens m_faultAt m_tape m_newBed m_newLetter m_newReader m_bed m_letter m_reader m_newBeds m_newLetters m_newReaders m_beds m_letters m_readers m_newCode m_newOf m_code m_ofCode m_stack m_newCodes m_codes m_facts (upd (upd (upd m_newStep m_newSteps.toNatClampNeg n1) (m_newSteps + 1).toNatClampNeg n2) (m_newSteps + 2).toNatClampNeg n3) m_step (m_newSteps + 3) m_works m_refusedSteps m_begun m_done m_refusedNow m_now m_s m_past m_newBook m_book m_written m_mostBy m_stuffing m_stuffedMany m_lastBy m_leftBy m_splitBy m_seedNow m_image m_images) FOK_X10 0 rfl rfl 32 (by decide) kw_1309 rfl rfl rfl (Nat.le_of_ble_eq_true rfl) dX10_tellsStep_49 rfl ?_
    cases h
    exact g_vret C E dX10_tellsStep_52
  · cases h
    exact g_vret C E dX10_tellsStep_7
noncomputable def f_X10_readFirst_68 (m_size : Int32) (m_tape : Nat → Int32) (m_beds : Int32) (m_letters : Int32) (m_readers : Int32) (n1 : Int32) (y1 : Int32) (y2 : Int32) (m_at : Int32) (m_bad : Int32) (m_badKind : Int32) : Option (Int32 × Int32 × Int32 × Int32) := b4 (f_X10_readNumber m_size m_at m_bad m_badKind m_tape y1 (y2 - 1)) (fun v1 c2 c3 c4 => some (v1, c2, c3, c4))
noncomputable def f_X10_readFirst (m_size : Int32) (m_at : Int32) (m_bad : Int32) (m_badKind : Int32) (m_tape : Nat → Int32) (m_beds : Int32) (m_letters : Int32) (m_readers : Int32) (n1 : Int32) : Option (Int32 × Int32 × Int32 × Int32) := if n1 = 5 then some (0, m_at, m_bad, m_badKind) else if n1 = 0 then b4 (f_X10_readNumber m_size m_at m_bad m_badKind m_tape 1 30) (fun v9 c10 c11 c12 => some (v9, c10, c11, c12)) else if n1 = 1 then b4 (f_X10_readNumber m_size m_at m_bad m_badKind m_tape 1 20) (fun v5 c6 c7 c8 => some (v5, c6, c7, c8)) else if n1 = 2 then f_X10_readFirst_68 m_size m_tape m_beds m_letters m_readers n1 0 m_letters m_at m_bad m_badKind else if n1 = 3 then f_X10_readFirst_68 m_size m_tape m_beds m_letters m_readers n1 0 m_readers m_at m_bad m_badKind else f_X10_readFirst_68 m_size m_tape m_beds m_letters m_readers n1 0 m_beds m_at m_bad m_badKind
def rm_X10_readFirst : Room := { frames := 2, cells := 0, slots := 0, locals := 47 }
set_option maxRecDepth 100000 in
set_option maxHeartbeats 4000000 in
theorem j_X10_readFirst_68 {J : Jt} {Z : Zt} {a0 : Nat → Nat} {m_thrown : Int32} {m_refused : Nat → Int32} {m_taped : Int32} {m_size : Int32} {m_opens : Int32} {m_faultAt : Int32} {m_tape : Nat → Int32} {m_newBed : Nat → Int32} {m_newLetter : Nat → Int32} {m_newReader : Nat → Int32} {m_bed : Nat → Int32} {m_letter : Nat → Int32} {m_reader : Nat → Int32} {m_newBeds : Int32} {m_newLetters : Int32} {m_newReaders : Int32} {m_beds : Int32} {m_letters : Int32} {m_readers : Int32} {m_newCode : Nat → Int32} {m_newOf : Nat → Int32} {m_code : Nat → Int32} {m_ofCode : Nat → Int32} {m_stack : Nat → Int32} {m_newCodes : Int32} {m_codes : Int32} {m_facts : Nat → Int32} {m_newStep : Nat → Int32} {m_step : Nat → Int32} {m_newSteps : Int32} {m_works : Int32} {m_refusedSteps : Int32} {m_begun : Int32} {m_done : Int32} {m_refusedNow : Int32} {m_now : Nat → Int32} {m_s : Nat → Int32} {m_past : Nat → Int32} {m_newBook : Nat → Int32} {m_book : Nat → Int32} {m_written : Int32} {m_mostBy : Nat → Int32} {m_stuffing : Nat → Int32} {m_stuffedMany : Int32} {m_lastBy : Nat → Int32} {m_leftBy : Nat → Int32} {m_splitBy : Nat → Int64} {m_seedNow : Int32} {m_image : Nat → Int32} {m_images : Int32} {n1 : Int32} {r : Int32} {o_m_at : Int32} {o_m_bad : Int32} {o_m_badKind : Int32} (C : Cx J Z cX10_readFirst 2 RX10 (some .int) rm_X10_readFirst) (E : Ez J Z 0 0 (some (.int r)) (cs_X10 J.2.2.1 a0 m_thrown m_refused m_taped m_size o_m_at o_m_bad o_m_badKind m_opens m_faultAt m_tape m_newBed m_newLetter m_newReader m_bed m_letter m_reader m_newBeds m_newLetters m_newReaders m_beds m_letters m_readers m_newCode m_newOf m_code m_ofCode m_stack m_newCodes m_codes m_facts m_newStep m_step m_newSteps m_works m_refusedSteps m_begun m_done m_refusedNow m_now m_s m_past m_newBook m_book m_written m_mostBy m_stuffing m_stuffedMany m_lastBy m_leftBy m_splitBy m_seedNow m_image m_images)) : ∀ (y1 : Int32) (y2 : Int32) (m_at : Int32) (m_bad : Int32) (m_badKind : Int32), f_X10_readFirst_68 m_size m_tape m_beds m_letters m_readers n1 y1 y2 m_at m_bad m_badKind = some (r, o_m_at, o_m_bad, o_m_badKind) → G J Z 0 0 (cs_X10 J.2.2.1 a0 m_thrown m_refused m_taped m_size m_at m_bad m_badKind m_opens m_faultAt m_tape m_newBed m_newLetter m_newReader m_bed m_letter m_reader m_newBeds m_newLetters m_newReaders m_beds m_letters m_readers m_newCode m_newOf m_code m_ofCode m_stack m_newCodes m_codes m_facts m_newStep m_step m_newSteps m_works m_refusedSteps m_begun m_done m_refusedNow m_now m_s m_past m_newBook m_book m_written m_mostBy m_stuffing m_stuffedMany m_lastBy m_leftBy m_splitBy m_seedNow m_image m_images) 2 [] 68 [.int y2, .int y1, .ref (a0 0)] := by
  intro y1 y2 m_at m_bad m_badKind h
  unfold f_X10_readFirst_68 at h
  refine g_iconst (pc := 68) C dX10_readFirst_68 ci_1 ?_
  refine g_isub (pc := 69) C dX10_readFirst_69 ?_
  obtain ⟨v1, c2, c3, c4, hc, h⟩ := b4_of h
  refine g_callV (pc := 70) C (w' := cs_X10 J.2.2.1 a0 m_thrown m_refused m_taped m_size c2 c3 c4 m_opens m_faultAt m_tape m_newBed m_newLetter m_newReader m_bed m_letter m_reader m_newBeds m_newLetters m_newReaders m_beds m_letters m_readers m_newCode m_newOf m_code m_ofCode m_stack m_newCodes m_codes m_facts m_newStep m_step m_newSteps m_works m_refusedSteps m_begun m_done m_refusedNow m_now m_s m_past m_newBook m_book m_written m_mostBy m_stuffing m_stuffedMany m_lastBy m_leftBy m_splitBy m_seedNow m_image m_images) (As := [.int y1, .int (y2 - 1)]) (st := []) (ci := 10) (q0 := 0) rfl rfl (t_X10_readNumber (a0 := a0) hc) Sub.same kw_1504 kw_1506 kw_30 kw_95 hy_X10_readNumber kw_1507 rfl (Nat.le_of_ble_eq_true rfl) (Nat.le_of_ble_eq_true rfl) (Nat.le_of_ble_eq_true rfl) (Nat.le_of_ble_eq_true rfl) (Nat.le_of_ble_eq_true rfl) dX10_readFirst_70 ?_
  cases h
  exact g_iret C E dX10_readFirst_73
set_option maxRecDepth 100000 in
set_option maxHeartbeats 4000000 in
theorem t_X10_readFirst {J : Jt} {a0 : Nat → Nat} {m_thrown : Int32} {m_refused : Nat → Int32} {m_taped : Int32} {m_size : Int32} {m_at : Int32} {m_bad : Int32} {m_badKind : Int32} {m_opens : Int32} {m_faultAt : Int32} {m_tape : Nat → Int32} {m_newBed : Nat → Int32} {m_newLetter : Nat → Int32} {m_newReader : Nat → Int32} {m_bed : Nat → Int32} {m_letter : Nat → Int32} {m_reader : Nat → Int32} {m_newBeds : Int32} {m_newLetters : Int32} {m_newReaders : Int32} {m_beds : Int32} {m_letters : Int32} {m_readers : Int32} {m_newCode : Nat → Int32} {m_newOf : Nat → Int32} {m_code : Nat → Int32} {m_ofCode : Nat → Int32} {m_stack : Nat → Int32} {m_newCodes : Int32} {m_codes : Int32} {m_facts : Nat → Int32} {m_newStep : Nat → Int32} {m_step : Nat → Int32} {m_newSteps : Int32} {m_works : Int32} {m_refusedSteps : Int32} {m_begun : Int32} {m_done : Int32} {m_refusedNow : Int32} {m_now : Nat → Int32} {m_s : Nat → Int32} {m_past : Nat → Int32} {m_newBook : Nat → Int32} {m_book : Nat → Int32} {m_written : Int32} {m_mostBy : Nat → Int32} {m_stuffing : Nat → Int32} {m_stuffedMany : Int32} {m_lastBy : Nat → Int32} {m_leftBy : Nat → Int32} {m_splitBy : Nat → Int64} {m_seedNow : Int32} {m_image : Nat → Int32} {m_images : Int32} {n1 : Int32} {r : Int32} {o_m_at : Int32} {o_m_bad : Int32} {o_m_badKind : Int32} (h : f_X10_readFirst m_size m_at m_bad m_badKind m_tape m_beds m_letters m_readers n1 = some (r, o_m_at, o_m_bad, o_m_badKind)) : Mt J yX10_readFirst cX10_readFirst 2 (some .int) rm_X10_readFirst [.ref (a0 0), .int n1] (cs_X10 J.2.2.1 a0 m_thrown m_refused m_taped m_size m_at m_bad m_badKind m_opens m_faultAt m_tape m_newBed m_newLetter m_newReader m_bed m_letter m_reader m_newBeds m_newLetters m_newReaders m_beds m_letters m_readers m_newCode m_newOf m_code m_ofCode m_stack m_newCodes m_codes m_facts m_newStep m_step m_newSteps m_works m_refusedSteps m_begun m_done m_refusedNow m_now m_s m_past m_newBook m_book m_written m_mostBy m_stuffing m_stuffedMany m_lastBy m_leftBy m_splitBy m_seedNow m_image m_images) (some (.int r)) (cs_X10 J.2.2.1 a0 m_thrown m_refused m_taped m_size o_m_at o_m_bad o_m_badKind m_opens m_faultAt m_tape m_newBed m_newLetter m_newReader m_bed m_letter m_reader m_newBeds m_newLetters m_newReaders m_beds m_letters m_readers m_newCode m_newOf m_code m_ofCode m_stack m_newCodes m_codes m_facts m_newStep m_step m_newSteps m_works m_refusedSteps m_begun m_done m_refusedNow m_now m_s m_past m_newBook m_book m_written m_mostBy m_stuffing m_stuffedMany m_lastBy m_leftBy m_splitBy m_seedNow m_image m_images) := by
  refine Mt_of (own := RX10) (by decide) rfl (Nat.le_of_ble_eq_true rfl) rfl (fun Z C E => ?_)
  unfold f_X10_readFirst at h
  show G J Z 0 0 (cs_X10 J.2.2.1 a0 m_thrown m_refused m_taped m_size m_at m_bad m_badKind m_opens m_faultAt m_tape m_newBed m_newLetter m_newReader m_bed m_letter m_reader m_newBeds m_newLetters m_newReaders m_beds m_letters m_readers m_newCode m_newOf m_code m_ofCode m_stack m_newCodes m_codes m_facts m_newStep m_step m_newSteps m_works m_refusedSteps m_begun m_done m_refusedNow m_now m_s m_past m_newBook m_book m_written m_mostBy m_stuffing m_stuffedMany m_lastBy m_leftBy m_splitBy m_seedNow m_image m_images) 2 [(0, .ref (a0 0)), (1, .int n1)] 0 []
  refine g_iload_n (pc := 0) C 1 rfl dX10_readFirst_0 ?_
  refine g_iconst (pc := 1) C dX10_readFirst_1 ci_5 ?_
  refine g_icmp_ne (pc := 2) C (tgt := 9) dX10_readFirst_2 rfl h (fun h => ?_) (fun h => ?_)
  · refine g_iload_n (pc := 9) C 1 rfl dX10_readFirst_9 ?_
    refine g_if_ne (pc := 10) C (tgt := 23) dX10_readFirst_10 rfl h (fun h => ?_) (fun h => ?_)
    · refine g_iload_n (pc := 23) C 1 rfl dX10_readFirst_23 ?_
      refine g_iconst (pc := 24) C dX10_readFirst_24 ci_1 ?_
      refine g_icmp_ne (pc := 25) C (tgt := 38) dX10_readFirst_25 rfl h (fun h => ?_) (fun h => ?_)
      · refine g_aload_n (pc := 38) C 0 rfl dX10_readFirst_38 ?_
        refine g_iconst (pc := 39) C dX10_readFirst_39 ci_0 ?_
        refine g_iload_n (pc := 40) C 1 rfl dX10_readFirst_40 ?_
        refine g_iconst (pc := 41) C dX10_readFirst_41 ci_2 ?_
        refine g_icmp_ne (pc := 42) C (tgt := 52) dX10_readFirst_42 rfl h (fun h => ?_) (fun h => ?_)
        · refine g_iload_n (pc := 52) C 1 rfl dX10_readFirst_52 ?_
          refine g_iconst (pc := 53) C dX10_readFirst_53 ci_3 ?_
          refine g_icmp_ne (pc := 54) C (tgt := 64) dX10_readFirst_54 rfl h (fun h => ?_) (fun h => ?_)
          · refine g_aload_n (pc := 64) C 0 rfl dX10_readFirst_64 ?_
            refine g_get (pc := 65) C FOK_X10 0 rfl rfl 19 (by decide) kw_1296 rfl dX10_readFirst_65 ?_
            refine g_lv [] rfl ?_
            exact j_X10_readFirst_68 C E  0 m_beds m_at m_bad m_badKind h
          · refine g_aload_n (pc := 57) C 0 rfl dX10_readFirst_57 ?_
            refine g_get (pc := 58) C FOK_X10 0 rfl rfl 21 (by decide) kw_1298 rfl dX10_readFirst_58 ?_
            refine g_goto (pc := 61) C (tgt := 68) dX10_readFirst_61 rfl ?_
            refine g_lv [] rfl ?_
            exact j_X10_readFirst_68 C E  0 m_readers m_at m_bad m_badKind h
        · refine g_aload_n (pc := 45) C 0 rfl dX10_readFirst_45 ?_
          refine g_get (pc := 46) C FOK_X10 0 rfl rfl 20 (by decide) kw_1297 rfl dX10_readFirst_46 ?_
          refine g_goto (pc := 49) C (tgt := 68) dX10_readFirst_49 rfl ?_
          refine g_lv [] rfl ?_
          exact j_X10_readFirst_68 C E  0 m_letters m_at m_bad m_badKind h
      · refine g_aload_n (pc := 28) C 0 rfl dX10_readFirst_28 ?_
        refine g_iconst (pc := 29) C dX10_readFirst_29 ci_1 ?_
        refine g_bipush (pc := 30) C dX10_readFirst_30 cb_20 ?_
        obtain ⟨v5, c6, c7, c8, hc, h⟩ := b4_of h
        refine g_callV (pc := 32) C (w' := cs_X10 J.2.2.1 a0 m_thrown m_refused m_taped m_size c6 c7 c8 m_opens m_faultAt m_tape m_newBed m_newLetter m_newReader m_bed m_letter m_reader m_newBeds m_newLetters m_newReaders m_beds m_letters m_readers m_newCode m_newOf m_code m_ofCode m_stack m_newCodes m_codes m_facts m_newStep m_step m_newSteps m_works m_refusedSteps m_begun m_done m_refusedNow m_now m_s m_past m_newBook m_book m_written m_mostBy m_stuffing m_stuffedMany m_lastBy m_leftBy m_splitBy m_seedNow m_image m_images) (As := [.int 1, .int 20]) (st := []) (ci := 10) (q0 := 0) rfl rfl (t_X10_readNumber (a0 := a0) hc) Sub.same kw_1504 kw_1506 kw_30 kw_95 hy_X10_readNumber kw_1507 rfl (Nat.le_of_ble_eq_true rfl) (Nat.le_of_ble_eq_true rfl) (Nat.le_of_ble_eq_true rfl) (Nat.le_of_ble_eq_true rfl) (Nat.le_of_ble_eq_true rfl) dX10_readFirst_32 ?_
        refine g_goto (pc := 35) C (tgt := 73) dX10_readFirst_35 rfl ?_
        cases h
        exact g_iret C E dX10_readFirst_73
    · refine g_aload_n (pc := 13) C 0 rfl dX10_readFirst_13 ?_
      refine g_iconst (pc := 14) C dX10_readFirst_14 ci_1 ?_
      refine g_bipush (pc := 15) C dX10_readFirst_15 cb_30 ?_
      obtain ⟨v9, c10, c11, c12, hc, h⟩ := b4_of h
      refine g_callV (pc := 17) C (w' := cs_X10 J.2.2.1 a0 m_thrown m_refused m_taped m_size c10 c11 c12 m_opens m_faultAt m_tape m_newBed m_newLetter m_newReader m_bed m_letter m_reader m_newBeds m_newLetters m_newReaders m_beds m_letters m_readers m_newCode m_newOf m_code m_ofCode m_stack m_newCodes m_codes m_facts m_newStep m_step m_newSteps m_works m_refusedSteps m_begun m_done m_refusedNow m_now m_s m_past m_newBook m_book m_written m_mostBy m_stuffing m_stuffedMany m_lastBy m_leftBy m_splitBy m_seedNow m_image m_images) (As := [.int 1, .int 30]) (st := []) (ci := 10) (q0 := 0) rfl rfl (t_X10_readNumber (a0 := a0) hc) Sub.same kw_1504 kw_1506 kw_30 kw_95 hy_X10_readNumber kw_1507 rfl (Nat.le_of_ble_eq_true rfl) (Nat.le_of_ble_eq_true rfl) (Nat.le_of_ble_eq_true rfl) (Nat.le_of_ble_eq_true rfl) (Nat.le_of_ble_eq_true rfl) dX10_readFirst_17 ?_
      refine g_goto (pc := 20) C (tgt := 73) dX10_readFirst_20 rfl ?_
      cases h
      exact g_iret C E dX10_readFirst_73
  · refine g_iconst (pc := 5) C dX10_readFirst_5 ci_0 ?_
    refine g_goto (pc := 6) C (tgt := 73) dX10_readFirst_6 rfl ?_
    cases h
    exact g_iret C E dX10_readFirst_73
noncomputable def f_X10_leftOf (m_letter : Nat → Int32) (m_s : Nat → Int32) (n1 : Int32) : Option (Int32) := if ixb ((10 * n1) + 1) 60 then if ixb (0 + n1) 165 then some ((m_letter ((10 * n1) + 1).toNatClampNeg) - (m_s (0 + n1).toNatClampNeg)) else none else none
def rm_X10_leftOf : Room := { frames := 0, cells := 0, slots := 0, locals := 0 }
set_option maxRecDepth 100000 in
set_option maxHeartbeats 4000000 in
theorem t_X10_leftOf {J : Jt} {a0 : Nat → Nat} {m_thrown : Int32} {m_refused : Nat → Int32} {m_taped : Int32} {m_size : Int32} {m_at : Int32} {m_bad : Int32} {m_badKind : Int32} {m_opens : Int32} {m_faultAt : Int32} {m_tape : Nat → Int32} {m_newBed : Nat → Int32} {m_newLetter : Nat → Int32} {m_newReader : Nat → Int32} {m_bed : Nat → Int32} {m_letter : Nat → Int32} {m_reader : Nat → Int32} {m_newBeds : Int32} {m_newLetters : Int32} {m_newReaders : Int32} {m_beds : Int32} {m_letters : Int32} {m_readers : Int32} {m_newCode : Nat → Int32} {m_newOf : Nat → Int32} {m_code : Nat → Int32} {m_ofCode : Nat → Int32} {m_stack : Nat → Int32} {m_newCodes : Int32} {m_codes : Int32} {m_facts : Nat → Int32} {m_newStep : Nat → Int32} {m_step : Nat → Int32} {m_newSteps : Int32} {m_works : Int32} {m_refusedSteps : Int32} {m_begun : Int32} {m_done : Int32} {m_refusedNow : Int32} {m_now : Nat → Int32} {m_s : Nat → Int32} {m_past : Nat → Int32} {m_newBook : Nat → Int32} {m_book : Nat → Int32} {m_written : Int32} {m_mostBy : Nat → Int32} {m_stuffing : Nat → Int32} {m_stuffedMany : Int32} {m_lastBy : Nat → Int32} {m_leftBy : Nat → Int32} {m_splitBy : Nat → Int64} {m_seedNow : Int32} {m_image : Nat → Int32} {m_images : Int32} {n1 : Int32} {r : Int32} (h : f_X10_leftOf m_letter m_s n1 = some r) : Mt J yX10_leftOf cX10_leftOf 2 (some .int) rm_X10_leftOf [.ref (a0 0), .int n1] (cs_X10 J.2.2.1 a0 m_thrown m_refused m_taped m_size m_at m_bad m_badKind m_opens m_faultAt m_tape m_newBed m_newLetter m_newReader m_bed m_letter m_reader m_newBeds m_newLetters m_newReaders m_beds m_letters m_readers m_newCode m_newOf m_code m_ofCode m_stack m_newCodes m_codes m_facts m_newStep m_step m_newSteps m_works m_refusedSteps m_begun m_done m_refusedNow m_now m_s m_past m_newBook m_book m_written m_mostBy m_stuffing m_stuffedMany m_lastBy m_leftBy m_splitBy m_seedNow m_image m_images) (some (.int r)) (cs_X10 J.2.2.1 a0 m_thrown m_refused m_taped m_size m_at m_bad m_badKind m_opens m_faultAt m_tape m_newBed m_newLetter m_newReader m_bed m_letter m_reader m_newBeds m_newLetters m_newReaders m_beds m_letters m_readers m_newCode m_newOf m_code m_ofCode m_stack m_newCodes m_codes m_facts m_newStep m_step m_newSteps m_works m_refusedSteps m_begun m_done m_refusedNow m_now m_s m_past m_newBook m_book m_written m_mostBy m_stuffing m_stuffedMany m_lastBy m_leftBy m_splitBy m_seedNow m_image m_images) := by
  refine Mt_of (own := RX10) (by decide) rfl (Nat.le_of_ble_eq_true rfl) rfl (fun Z C E => ?_)
  unfold f_X10_leftOf at h
  show G J Z 0 0 (cs_X10 J.2.2.1 a0 m_thrown m_refused m_taped m_size m_at m_bad m_badKind m_opens m_faultAt m_tape m_newBed m_newLetter m_newReader m_bed m_letter m_reader m_newBeds m_newLetters m_newReaders m_beds m_letters m_readers m_newCode m_newOf m_code m_ofCode m_stack m_newCodes m_codes m_facts m_newStep m_step m_newSteps m_works m_refusedSteps m_begun m_done m_refusedNow m_now m_s m_past m_newBook m_book m_written m_mostBy m_stuffing m_stuffedMany m_lastBy m_leftBy m_splitBy m_seedNow m_image m_images) 2 [(0, .ref (a0 0)), (1, .int n1)] 0 []
  refine g_aload_n (pc := 0) C 0 rfl dX10_leftOf_0 ?_
  refine g_get (pc := 1) C FOK_X10 0 rfl rfl 14 (by decide) kw_1291 rfl dX10_leftOf_1 ?_
  refine g_bipush (pc := 4) C dX10_leftOf_4 cb_10 ?_
  refine g_iload_n (pc := 6) C 1 rfl dX10_leftOf_6 ?_
  refine g_imul (pc := 7) C dX10_leftOf_7 ?_
  refine g_iconst (pc := 8) C dX10_leftOf_8 ci_1 ?_
  refine g_iadd (pc := 9) C dX10_leftOf_9 ?_
  obtain ⟨hi, h⟩ := ix_of h
  refine g_iald (pc := 10) C 7 rfl hi dX10_leftOf_10 ?_
  refine g_aload_n (pc := 11) C 0 rfl dX10_leftOf_11 ?_
  refine g_get (pc := 12) C FOK_X10 0 rfl rfl 39 (by decide) kw_1316 rfl dX10_leftOf_12 ?_
  refine g_iconst (pc := 15) C dX10_leftOf_15 ci_0 ?_
  refine g_iload_n (pc := 16) C 1 rfl dX10_leftOf_16 ?_
  refine g_iadd (pc := 17) C dX10_leftOf_17 ?_
  obtain ⟨hi, h⟩ := ix_of h
  refine g_iald (pc := 18) C 18 rfl hi dX10_leftOf_18 ?_
  refine g_isub (pc := 19) C dX10_leftOf_19 ?_
  cases h
  exact g_iret C E dX10_leftOf_20
noncomputable def f_X10_wordOf (m_letter : Nat → Int32) (m_s : Nat → Int32) (n1 : Int32) (n2 : Int32) : Option (Int32) := if ixb (0 + n1) 165 then if ixb ((((10 * n1) + 2) + (m_s (0 + n1).toNatClampNeg)) + n2) 60 then some (m_letter ((((10 * n1) + 2) + (m_s (0 + n1).toNatClampNeg)) + n2).toNatClampNeg) else none else none
def rm_X10_wordOf : Room := { frames := 0, cells := 0, slots := 0, locals := 0 }
set_option maxRecDepth 100000 in
set_option maxHeartbeats 4000000 in
theorem t_X10_wordOf {J : Jt} {a0 : Nat → Nat} {m_thrown : Int32} {m_refused : Nat → Int32} {m_taped : Int32} {m_size : Int32} {m_at : Int32} {m_bad : Int32} {m_badKind : Int32} {m_opens : Int32} {m_faultAt : Int32} {m_tape : Nat → Int32} {m_newBed : Nat → Int32} {m_newLetter : Nat → Int32} {m_newReader : Nat → Int32} {m_bed : Nat → Int32} {m_letter : Nat → Int32} {m_reader : Nat → Int32} {m_newBeds : Int32} {m_newLetters : Int32} {m_newReaders : Int32} {m_beds : Int32} {m_letters : Int32} {m_readers : Int32} {m_newCode : Nat → Int32} {m_newOf : Nat → Int32} {m_code : Nat → Int32} {m_ofCode : Nat → Int32} {m_stack : Nat → Int32} {m_newCodes : Int32} {m_codes : Int32} {m_facts : Nat → Int32} {m_newStep : Nat → Int32} {m_step : Nat → Int32} {m_newSteps : Int32} {m_works : Int32} {m_refusedSteps : Int32} {m_begun : Int32} {m_done : Int32} {m_refusedNow : Int32} {m_now : Nat → Int32} {m_s : Nat → Int32} {m_past : Nat → Int32} {m_newBook : Nat → Int32} {m_book : Nat → Int32} {m_written : Int32} {m_mostBy : Nat → Int32} {m_stuffing : Nat → Int32} {m_stuffedMany : Int32} {m_lastBy : Nat → Int32} {m_leftBy : Nat → Int32} {m_splitBy : Nat → Int64} {m_seedNow : Int32} {m_image : Nat → Int32} {m_images : Int32} {n1 : Int32} {n2 : Int32} {r : Int32} (h : f_X10_wordOf m_letter m_s n1 n2 = some r) : Mt J yX10_wordOf cX10_wordOf 3 (some .int) rm_X10_wordOf [.ref (a0 0), .int n1, .int n2] (cs_X10 J.2.2.1 a0 m_thrown m_refused m_taped m_size m_at m_bad m_badKind m_opens m_faultAt m_tape m_newBed m_newLetter m_newReader m_bed m_letter m_reader m_newBeds m_newLetters m_newReaders m_beds m_letters m_readers m_newCode m_newOf m_code m_ofCode m_stack m_newCodes m_codes m_facts m_newStep m_step m_newSteps m_works m_refusedSteps m_begun m_done m_refusedNow m_now m_s m_past m_newBook m_book m_written m_mostBy m_stuffing m_stuffedMany m_lastBy m_leftBy m_splitBy m_seedNow m_image m_images) (some (.int r)) (cs_X10 J.2.2.1 a0 m_thrown m_refused m_taped m_size m_at m_bad m_badKind m_opens m_faultAt m_tape m_newBed m_newLetter m_newReader m_bed m_letter m_reader m_newBeds m_newLetters m_newReaders m_beds m_letters m_readers m_newCode m_newOf m_code m_ofCode m_stack m_newCodes m_codes m_facts m_newStep m_step m_newSteps m_works m_refusedSteps m_begun m_done m_refusedNow m_now m_s m_past m_newBook m_book m_written m_mostBy m_stuffing m_stuffedMany m_lastBy m_leftBy m_splitBy m_seedNow m_image m_images) := by
  refine Mt_of (own := RX10) (by decide) rfl (Nat.le_of_ble_eq_true rfl) rfl (fun Z C E => ?_)
  unfold f_X10_wordOf at h
  show G J Z 0 0 (cs_X10 J.2.2.1 a0 m_thrown m_refused m_taped m_size m_at m_bad m_badKind m_opens m_faultAt m_tape m_newBed m_newLetter m_newReader m_bed m_letter m_reader m_newBeds m_newLetters m_newReaders m_beds m_letters m_readers m_newCode m_newOf m_code m_ofCode m_stack m_newCodes m_codes m_facts m_newStep m_step m_newSteps m_works m_refusedSteps m_begun m_done m_refusedNow m_now m_s m_past m_newBook m_book m_written m_mostBy m_stuffing m_stuffedMany m_lastBy m_leftBy m_splitBy m_seedNow m_image m_images) 3 [(0, .ref (a0 0)), (1, .int n1), (2, .int n2)] 0 []
  refine g_aload_n (pc := 0) C 0 rfl dX10_wordOf_0 ?_
  refine g_get (pc := 1) C FOK_X10 0 rfl rfl 14 (by decide) kw_1291 rfl dX10_wordOf_1 ?_
  refine g_bipush (pc := 4) C dX10_wordOf_4 cb_10 ?_
  refine g_iload_n (pc := 6) C 1 rfl dX10_wordOf_6 ?_
  refine g_imul (pc := 7) C dX10_wordOf_7 ?_
  refine g_iconst (pc := 8) C dX10_wordOf_8 ci_2 ?_
  refine g_iadd (pc := 9) C dX10_wordOf_9 ?_
  refine g_aload_n (pc := 10) C 0 rfl dX10_wordOf_10 ?_
  refine g_get (pc := 11) C FOK_X10 0 rfl rfl 39 (by decide) kw_1316 rfl dX10_wordOf_11 ?_
  refine g_iconst (pc := 14) C dX10_wordOf_14 ci_0 ?_
  refine g_iload_n (pc := 15) C 1 rfl dX10_wordOf_15 ?_
  refine g_iadd (pc := 16) C dX10_wordOf_16 ?_
  obtain ⟨hi, h⟩ := ix_of h
  refine g_iald (pc := 17) C 18 rfl hi dX10_wordOf_17 ?_
  refine g_iadd (pc := 18) C dX10_wordOf_18 ?_
  refine g_iload_n (pc := 19) C 2 rfl dX10_wordOf_19 ?_
  refine g_iadd (pc := 20) C dX10_wordOf_20 ?_
  obtain ⟨hi, h⟩ := ix_of h
  refine g_iald (pc := 21) C 7 rfl hi dX10_wordOf_21 ?_
  cases h
  exact g_iret C E dX10_wordOf_22
noncomputable def f_X10_nextWords_4 (m_letter : Nat → Int32) (m_letters : Int32) (m_s : Nat → Int32) : Nat → Int32 → Int32 → Option (Int32)
  | 0, _, _ => none
  | n + 1, x1, x2 => if m_letters ≤ x2 then some x1 else b1 (f_X10_leftOf m_letter m_s x2) (fun v1 => if v1 ≤ 0 then f_X10_nextWords_4 m_letter m_letters m_s n (x1 ||| 0) (x2 + 1) else b1 (f_X10_wordOf m_letter m_s x2 0) (fun v2 => f_X10_nextWords_4 m_letter m_letters m_s n (x1 ||| ((1 : Int32) <<< (v2 &&& 31))) (x2 + 1)))
noncomputable def f_X10_nextWords (m_letter : Nat → Int32) (m_letters : Int32) (m_s : Nat → Int32) : Option (Int32) := f_X10_nextWords_4 m_letter m_letters m_s FU 0 0
def rm_X10_nextWords : Room := { frames := 1, cells := 0, slots := 0, locals := 22 }
set_option maxRecDepth 100000 in
set_option maxHeartbeats 4000000 in
theorem j_X10_nextWords_4 {J : Jt} {Z : Zt} {a0 : Nat → Nat} {m_thrown : Int32} {m_refused : Nat → Int32} {m_taped : Int32} {m_size : Int32} {m_at : Int32} {m_bad : Int32} {m_badKind : Int32} {m_opens : Int32} {m_faultAt : Int32} {m_tape : Nat → Int32} {m_newBed : Nat → Int32} {m_newLetter : Nat → Int32} {m_newReader : Nat → Int32} {m_bed : Nat → Int32} {m_letter : Nat → Int32} {m_reader : Nat → Int32} {m_newBeds : Int32} {m_newLetters : Int32} {m_newReaders : Int32} {m_beds : Int32} {m_letters : Int32} {m_readers : Int32} {m_newCode : Nat → Int32} {m_newOf : Nat → Int32} {m_code : Nat → Int32} {m_ofCode : Nat → Int32} {m_stack : Nat → Int32} {m_newCodes : Int32} {m_codes : Int32} {m_facts : Nat → Int32} {m_newStep : Nat → Int32} {m_step : Nat → Int32} {m_newSteps : Int32} {m_works : Int32} {m_refusedSteps : Int32} {m_begun : Int32} {m_done : Int32} {m_refusedNow : Int32} {m_now : Nat → Int32} {m_s : Nat → Int32} {m_past : Nat → Int32} {m_newBook : Nat → Int32} {m_book : Nat → Int32} {m_written : Int32} {m_mostBy : Nat → Int32} {m_stuffing : Nat → Int32} {m_stuffedMany : Int32} {m_lastBy : Nat → Int32} {m_leftBy : Nat → Int32} {m_splitBy : Nat → Int64} {m_seedNow : Int32} {m_image : Nat → Int32} {m_images : Int32} {r : Int32} (C : Cx J Z cX10_nextWords 3 RX10 (some .int) rm_X10_nextWords) (E : Ez J Z 0 0 (some (.int r)) (cs_X10 J.2.2.1 a0 m_thrown m_refused m_taped m_size m_at m_bad m_badKind m_opens m_faultAt m_tape m_newBed m_newLetter m_newReader m_bed m_letter m_reader m_newBeds m_newLetters m_newReaders m_beds m_letters m_readers m_newCode m_newOf m_code m_ofCode m_stack m_newCodes m_codes m_facts m_newStep m_step m_newSteps m_works m_refusedSteps m_begun m_done m_refusedNow m_now m_s m_past m_newBook m_book m_written m_mostBy m_stuffing m_stuffedMany m_lastBy m_leftBy m_splitBy m_seedNow m_image m_images)) : ∀ (n : Nat) (x1 : Int32) (x2 : Int32), f_X10_nextWords_4 m_letter m_letters m_s n x1 x2 = some r → G J Z 0 0 (cs_X10 J.2.2.1 a0 m_thrown m_refused m_taped m_size m_at m_bad m_badKind m_opens m_faultAt m_tape m_newBed m_newLetter m_newReader m_bed m_letter m_reader m_newBeds m_newLetters m_newReaders m_beds m_letters m_readers m_newCode m_newOf m_code m_ofCode m_stack m_newCodes m_codes m_facts m_newStep m_step m_newSteps m_works m_refusedSteps m_begun m_done m_refusedNow m_now m_s m_past m_newBook m_book m_written m_mostBy m_stuffing m_stuffedMany m_lastBy m_leftBy m_splitBy m_seedNow m_image m_images) 3 [(0, .ref (a0 0)), (1, .int x1), (2, .int x2)] 4 [] := by
  intro n
  induction n with
  | zero =>
    intro x1 x2 h
    rw [f_X10_nextWords_4] at h
    cases h
  | succ n ih =>
    intro x1 x2 h
    rw [f_X10_nextWords_4] at h
    refine g_iload_n (pc := 4) C 2 rfl dX10_nextWords_4 ?_
    refine g_aload_n (pc := 5) C 0 rfl dX10_nextWords_5 ?_
    refine g_get (pc := 6) C FOK_X10 0 rfl rfl 20 (by decide) kw_1297 rfl dX10_nextWords_6 ?_
    refine g_icmp_ge (pc := 9) C (tgt := 41) dX10_nextWords_9 rfl h (fun h => ?_) (fun h => ?_)
    · refine g_iload_n (pc := 41) C 1 rfl dX10_nextWords_41 ?_
      cases h
      exact g_iret C E dX10_nextWords_42
    · refine g_iload_n (pc := 12) C 1 rfl dX10_nextWords_12 ?_
      refine g_aload_n (pc := 13) C 0 rfl dX10_nextWords_13 ?_
      refine g_iload_n (pc := 14) C 2 rfl dX10_nextWords_14 ?_
      obtain ⟨v1, hc, h⟩ := b1_of h
      refine g_callV (pc := 15) C (w' := cs_X10 J.2.2.1 a0 m_thrown m_refused m_taped m_size m_at m_bad m_badKind m_opens m_faultAt m_tape m_newBed m_newLetter m_newReader m_bed m_letter m_reader m_newBeds m_newLetters m_newReaders m_beds m_letters m_readers m_newCode m_newOf m_code m_ofCode m_stack m_newCodes m_codes m_facts m_newStep m_step m_newSteps m_works m_refusedSteps m_begun m_done m_refusedNow m_now m_s m_past m_newBook m_book m_written m_mostBy m_stuffing m_stuffedMany m_lastBy m_leftBy m_splitBy m_seedNow m_image m_images) (As := [.int x2]) (st := [.int x1]) (ci := 10) (q0 := 0) rfl rfl (t_X10_leftOf (a0 := a0) hc) Sub.same kw_1619 kw_1621 kw_52 kw_95 hy_X10_leftOf kw_1622 rfl (Nat.le_of_ble_eq_true rfl) (Nat.le_of_ble_eq_true rfl) (Nat.le_of_ble_eq_true rfl) (Nat.le_of_ble_eq_true rfl) (Nat.le_of_ble_eq_true rfl) dX10_nextWords_15 ?_
      refine g_if_le (pc := 18) C (tgt := 32) dX10_nextWords_18 rfl h (fun h => ?_) (fun h => ?_)
      · refine g_iconst (pc := 32) C dX10_nextWords_32 ci_0 ?_
        refine g_ior (pc := 33) C dX10_nextWords_33 ?_
        refine g_istore_n (pc := 34) C [(1, .int (x1 ||| 0)), (0, .ref (a0 0)), (2, .int x2)] dX10_nextWords_34 rfl (by decide) rfl ?_
        refine g_iinc (pc := 35) C (j := 2) [(2, .int (x2 + 1)), (1, .int (x1 ||| 0)), (0, .ref (a0 0))] dX10_nextWords_35 rfl (ii_1 _) (by decide) rfl ?_
        refine g_goto (pc := 38) C (tgt := 4) dX10_nextWords_38 rfl ?_
        refine g_lv [2, 1, 0] rfl ?_
        exact ih (x1 ||| 0) (x2 + 1) h
      · refine g_iconst (pc := 21) C dX10_nextWords_21 ci_1 ?_
        refine g_aload_n (pc := 22) C 0 rfl dX10_nextWords_22 ?_
        refine g_iload_n (pc := 23) C 2 rfl dX10_nextWords_23 ?_
        refine g_iconst (pc := 24) C dX10_nextWords_24 ci_0 ?_
        obtain ⟨v2, hc, h⟩ := b1_of h
        refine g_callV (pc := 25) C (w' := cs_X10 J.2.2.1 a0 m_thrown m_refused m_taped m_size m_at m_bad m_badKind m_opens m_faultAt m_tape m_newBed m_newLetter m_newReader m_bed m_letter m_reader m_newBeds m_newLetters m_newReaders m_beds m_letters m_readers m_newCode m_newOf m_code m_ofCode m_stack m_newCodes m_codes m_facts m_newStep m_step m_newSteps m_works m_refusedSteps m_begun m_done m_refusedNow m_now m_s m_past m_newBook m_book m_written m_mostBy m_stuffing m_stuffedMany m_lastBy m_leftBy m_splitBy m_seedNow m_image m_images) (As := [.int x2, .int 0]) (st := [.int 1, .int x1]) (ci := 10) (q0 := 0) rfl rfl (t_X10_wordOf (a0 := a0) hc) Sub.same kw_1623 kw_1625 kw_53 kw_95 hy_X10_wordOf kw_1626 rfl (Nat.le_of_ble_eq_true rfl) (Nat.le_of_ble_eq_true rfl) (Nat.le_of_ble_eq_true rfl) (Nat.le_of_ble_eq_true rfl) (Nat.le_of_ble_eq_true rfl) dX10_nextWords_25 ?_
        refine g_ishl (pc := 28) C dX10_nextWords_28 ?_
        refine g_goto (pc := 29) C (tgt := 33) dX10_nextWords_29 rfl ?_
        refine g_ior (pc := 33) C dX10_nextWords_33 ?_
        refine g_istore_n (pc := 34) C [(1, .int (x1 ||| ((1 : Int32) <<< (v2 &&& 31)))), (0, .ref (a0 0)), (2, .int x2)] dX10_nextWords_34 rfl (by decide) rfl ?_
        refine g_iinc (pc := 35) C (j := 2) [(2, .int (x2 + 1)), (1, .int (x1 ||| ((1 : Int32) <<< (v2 &&& 31)))), (0, .ref (a0 0))] dX10_nextWords_35 rfl (ii_1 _) (by decide) rfl ?_
        refine g_goto (pc := 38) C (tgt := 4) dX10_nextWords_38 rfl ?_
        refine g_lv [2, 1, 0] rfl ?_
        exact ih (x1 ||| ((1 : Int32) <<< (v2 &&& 31))) (x2 + 1) h
set_option maxRecDepth 100000 in
set_option maxHeartbeats 4000000 in
theorem t_X10_nextWords {J : Jt} {a0 : Nat → Nat} {m_thrown : Int32} {m_refused : Nat → Int32} {m_taped : Int32} {m_size : Int32} {m_at : Int32} {m_bad : Int32} {m_badKind : Int32} {m_opens : Int32} {m_faultAt : Int32} {m_tape : Nat → Int32} {m_newBed : Nat → Int32} {m_newLetter : Nat → Int32} {m_newReader : Nat → Int32} {m_bed : Nat → Int32} {m_letter : Nat → Int32} {m_reader : Nat → Int32} {m_newBeds : Int32} {m_newLetters : Int32} {m_newReaders : Int32} {m_beds : Int32} {m_letters : Int32} {m_readers : Int32} {m_newCode : Nat → Int32} {m_newOf : Nat → Int32} {m_code : Nat → Int32} {m_ofCode : Nat → Int32} {m_stack : Nat → Int32} {m_newCodes : Int32} {m_codes : Int32} {m_facts : Nat → Int32} {m_newStep : Nat → Int32} {m_step : Nat → Int32} {m_newSteps : Int32} {m_works : Int32} {m_refusedSteps : Int32} {m_begun : Int32} {m_done : Int32} {m_refusedNow : Int32} {m_now : Nat → Int32} {m_s : Nat → Int32} {m_past : Nat → Int32} {m_newBook : Nat → Int32} {m_book : Nat → Int32} {m_written : Int32} {m_mostBy : Nat → Int32} {m_stuffing : Nat → Int32} {m_stuffedMany : Int32} {m_lastBy : Nat → Int32} {m_leftBy : Nat → Int32} {m_splitBy : Nat → Int64} {m_seedNow : Int32} {m_image : Nat → Int32} {m_images : Int32} {r : Int32} (h : f_X10_nextWords m_letter m_letters m_s = some r) : Mt J yX10_nextWords cX10_nextWords 3 (some .int) rm_X10_nextWords [.ref (a0 0)] (cs_X10 J.2.2.1 a0 m_thrown m_refused m_taped m_size m_at m_bad m_badKind m_opens m_faultAt m_tape m_newBed m_newLetter m_newReader m_bed m_letter m_reader m_newBeds m_newLetters m_newReaders m_beds m_letters m_readers m_newCode m_newOf m_code m_ofCode m_stack m_newCodes m_codes m_facts m_newStep m_step m_newSteps m_works m_refusedSteps m_begun m_done m_refusedNow m_now m_s m_past m_newBook m_book m_written m_mostBy m_stuffing m_stuffedMany m_lastBy m_leftBy m_splitBy m_seedNow m_image m_images) (some (.int r)) (cs_X10 J.2.2.1 a0 m_thrown m_refused m_taped m_size m_at m_bad m_badKind m_opens m_faultAt m_tape m_newBed m_newLetter m_newReader m_bed m_letter m_reader m_newBeds m_newLetters m_newReaders m_beds m_letters m_readers m_newCode m_newOf m_code m_ofCode m_stack m_newCodes m_codes m_facts m_newStep m_step m_newSteps m_works m_refusedSteps m_begun m_done m_refusedNow m_now m_s m_past m_newBook m_book m_written m_mostBy m_stuffing m_stuffedMany m_lastBy m_leftBy m_splitBy m_seedNow m_image m_images) := by
  refine Mt_of (own := RX10) (by decide) rfl (Nat.le_of_ble_eq_true rfl) rfl (fun Z C E => ?_)
  unfold f_X10_nextWords at h
  show G J Z 0 0 (cs_X10 J.2.2.1 a0 m_thrown m_refused m_taped m_size m_at m_bad m_badKind m_opens m_faultAt m_tape m_newBed m_newLetter m_newReader m_bed m_letter m_reader m_newBeds m_newLetters m_newReaders m_beds m_letters m_readers m_newCode m_newOf m_code m_ofCode m_stack m_newCodes m_codes m_facts m_newStep m_step m_newSteps m_works m_refusedSteps m_begun m_done m_refusedNow m_now m_s m_past m_newBook m_book m_written m_mostBy m_stuffing m_stuffedMany m_lastBy m_leftBy m_splitBy m_seedNow m_image m_images) 3 [(0, .ref (a0 0))] 0 []
  refine g_iconst (pc := 0) C dX10_nextWords_0 ci_0 ?_
  refine g_istore_n (pc := 1) C [(1, .int 0), (0, .ref (a0 0))] dX10_nextWords_1 rfl (by decide) rfl ?_
  refine g_iconst (pc := 2) C dX10_nextWords_2 ci_0 ?_
  refine g_istore_n (pc := 3) C [(2, .int 0), (1, .int 0), (0, .ref (a0 0))] dX10_nextWords_3 rfl (by decide) rfl ?_
  refine g_lv [2, 1, 0] rfl ?_
  exact j_X10_nextWords_4 C E  FU 0 0 h
noncomputable def f_X10_newsOf (m_bed : Nat → Int32) (m_letter : Nat → Int32) (m_letters : Int32) (m_s : Nat → Int32) (n1 : Int32) (n2 : Int32) : Option (Int32) := if ixb (90 + n1) 165 then if ixb (m_s (90 + n1).toNatClampNeg) 6 then if n2 < (m_bed (m_s (90 + n1).toNatClampNeg).toNatClampNeg) then some 0 else b1 (f_X10_nextWords m_letter m_letters m_s) (fun v1 => if ixb (95 + n1) 165 then some (v1 &&& ((m_s (95 + n1).toNatClampNeg) ^^^ (-1))) else none) else none else none
def rm_X10_newsOf : Room := { frames := 2, cells := 0, slots := 0, locals := 44 }
set_option maxRecDepth 100000 in
set_option maxHeartbeats 4000000 in
theorem t_X10_newsOf {J : Jt} {a0 : Nat → Nat} {m_thrown : Int32} {m_refused : Nat → Int32} {m_taped : Int32} {m_size : Int32} {m_at : Int32} {m_bad : Int32} {m_badKind : Int32} {m_opens : Int32} {m_faultAt : Int32} {m_tape : Nat → Int32} {m_newBed : Nat → Int32} {m_newLetter : Nat → Int32} {m_newReader : Nat → Int32} {m_bed : Nat → Int32} {m_letter : Nat → Int32} {m_reader : Nat → Int32} {m_newBeds : Int32} {m_newLetters : Int32} {m_newReaders : Int32} {m_beds : Int32} {m_letters : Int32} {m_readers : Int32} {m_newCode : Nat → Int32} {m_newOf : Nat → Int32} {m_code : Nat → Int32} {m_ofCode : Nat → Int32} {m_stack : Nat → Int32} {m_newCodes : Int32} {m_codes : Int32} {m_facts : Nat → Int32} {m_newStep : Nat → Int32} {m_step : Nat → Int32} {m_newSteps : Int32} {m_works : Int32} {m_refusedSteps : Int32} {m_begun : Int32} {m_done : Int32} {m_refusedNow : Int32} {m_now : Nat → Int32} {m_s : Nat → Int32} {m_past : Nat → Int32} {m_newBook : Nat → Int32} {m_book : Nat → Int32} {m_written : Int32} {m_mostBy : Nat → Int32} {m_stuffing : Nat → Int32} {m_stuffedMany : Int32} {m_lastBy : Nat → Int32} {m_leftBy : Nat → Int32} {m_splitBy : Nat → Int64} {m_seedNow : Int32} {m_image : Nat → Int32} {m_images : Int32} {n1 : Int32} {n2 : Int32} {r : Int32} (h : f_X10_newsOf m_bed m_letter m_letters m_s n1 n2 = some r) : Mt J yX10_newsOf cX10_newsOf 3 (some .int) rm_X10_newsOf [.ref (a0 0), .int n1, .int n2] (cs_X10 J.2.2.1 a0 m_thrown m_refused m_taped m_size m_at m_bad m_badKind m_opens m_faultAt m_tape m_newBed m_newLetter m_newReader m_bed m_letter m_reader m_newBeds m_newLetters m_newReaders m_beds m_letters m_readers m_newCode m_newOf m_code m_ofCode m_stack m_newCodes m_codes m_facts m_newStep m_step m_newSteps m_works m_refusedSteps m_begun m_done m_refusedNow m_now m_s m_past m_newBook m_book m_written m_mostBy m_stuffing m_stuffedMany m_lastBy m_leftBy m_splitBy m_seedNow m_image m_images) (some (.int r)) (cs_X10 J.2.2.1 a0 m_thrown m_refused m_taped m_size m_at m_bad m_badKind m_opens m_faultAt m_tape m_newBed m_newLetter m_newReader m_bed m_letter m_reader m_newBeds m_newLetters m_newReaders m_beds m_letters m_readers m_newCode m_newOf m_code m_ofCode m_stack m_newCodes m_codes m_facts m_newStep m_step m_newSteps m_works m_refusedSteps m_begun m_done m_refusedNow m_now m_s m_past m_newBook m_book m_written m_mostBy m_stuffing m_stuffedMany m_lastBy m_leftBy m_splitBy m_seedNow m_image m_images) := by
  refine Mt_of (own := RX10) (by decide) rfl (Nat.le_of_ble_eq_true rfl) rfl (fun Z C E => ?_)
  unfold f_X10_newsOf at h
  show G J Z 0 0 (cs_X10 J.2.2.1 a0 m_thrown m_refused m_taped m_size m_at m_bad m_badKind m_opens m_faultAt m_tape m_newBed m_newLetter m_newReader m_bed m_letter m_reader m_newBeds m_newLetters m_newReaders m_beds m_letters m_readers m_newCode m_newOf m_code m_ofCode m_stack m_newCodes m_codes m_facts m_newStep m_step m_newSteps m_works m_refusedSteps m_begun m_done m_refusedNow m_now m_s m_past m_newBook m_book m_written m_mostBy m_stuffing m_stuffedMany m_lastBy m_leftBy m_splitBy m_seedNow m_image m_images) 3 [(0, .ref (a0 0)), (1, .int n1), (2, .int n2)] 0 []
  refine g_aload_n (pc := 0) C 0 rfl dX10_newsOf_0 ?_
  refine g_get (pc := 1) C FOK_X10 0 rfl rfl 13 (by decide) kw_1290 rfl dX10_newsOf_1 ?_
  refine g_aload_n (pc := 4) C 0 rfl dX10_newsOf_4 ?_
  refine g_get (pc := 5) C FOK_X10 0 rfl rfl 39 (by decide) kw_1316 rfl dX10_newsOf_5 ?_
  refine g_bipush (pc := 8) C dX10_newsOf_8 cb_90 ?_
  refine g_iload_n (pc := 10) C 1 rfl dX10_newsOf_10 ?_
  refine g_iadd (pc := 11) C dX10_newsOf_11 ?_
  obtain ⟨hi, h⟩ := ix_of h
  refine g_iald (pc := 12) C 18 rfl hi dX10_newsOf_12 ?_
  obtain ⟨hi, h⟩ := ix_of h
  refine g_iald (pc := 13) C 6 rfl hi dX10_newsOf_13 ?_
  refine g_iload_n (pc := 14) C 2 rfl dX10_newsOf_14 ?_
  refine g_icmp_gt (pc := 15) C (tgt := 37) dX10_newsOf_15 rfl h (fun h => ?_) (fun h => ?_)
  · refine g_iconst (pc := 37) C dX10_newsOf_37 ci_0 ?_
    cases h
    exact g_iret C E dX10_newsOf_38
  · refine g_aload_n (pc := 18) C 0 rfl dX10_newsOf_18 ?_
    obtain ⟨v1, hc, h⟩ := b1_of h
    refine g_callV (pc := 19) C (w' := cs_X10 J.2.2.1 a0 m_thrown m_refused m_taped m_size m_at m_bad m_badKind m_opens m_faultAt m_tape m_newBed m_newLetter m_newReader m_bed m_letter m_reader m_newBeds m_newLetters m_newReaders m_beds m_letters m_readers m_newCode m_newOf m_code m_ofCode m_stack m_newCodes m_codes m_facts m_newStep m_step m_newSteps m_works m_refusedSteps m_begun m_done m_refusedNow m_now m_s m_past m_newBook m_book m_written m_mostBy m_stuffing m_stuffedMany m_lastBy m_leftBy m_splitBy m_seedNow m_image m_images) (As := []) (st := []) (ci := 10) (q0 := 0) rfl rfl (t_X10_nextWords (a0 := a0) hc) Sub.same kw_1615 kw_1617 kw_51 kw_95 hy_X10_nextWords kw_1618 rfl (Nat.le_of_ble_eq_true rfl) (Nat.le_of_ble_eq_true rfl) (Nat.le_of_ble_eq_true rfl) (Nat.le_of_ble_eq_true rfl) (Nat.le_of_ble_eq_true rfl) dX10_newsOf_19 ?_
    refine g_aload_n (pc := 22) C 0 rfl dX10_newsOf_22 ?_
    refine g_get (pc := 23) C FOK_X10 0 rfl rfl 39 (by decide) kw_1316 rfl dX10_newsOf_23 ?_
    refine g_bipush (pc := 26) C dX10_newsOf_26 cb_95 ?_
    refine g_iload_n (pc := 28) C 1 rfl dX10_newsOf_28 ?_
    refine g_iadd (pc := 29) C dX10_newsOf_29 ?_
    obtain ⟨hi, h⟩ := ix_of h
    refine g_iald (pc := 30) C 18 rfl hi dX10_newsOf_30 ?_
    refine g_iconst (pc := 31) C dX10_newsOf_31 ci_m1 ?_
    refine g_ixor (pc := 32) C dX10_newsOf_32 ?_
    refine g_iand (pc := 33) C dX10_newsOf_33 ?_
    refine g_goto (pc := 34) C (tgt := 38) dX10_newsOf_34 rfl ?_
    cases h
    exact g_iret C E dX10_newsOf_38
noncomputable def f_X10_isBlown_34 (m_bed : Nat → Int32) (m_letter : Nat → Int32) (m_letters : Int32) (m_readers : Int32) (n1 : Int32) (k4 : Int32 → Int32 → (Nat → Int32) → Option (Int32 × (Nat → Int32))) (x3 : Int32) (x4 : Int32) (y0 : Int32) (m_s : Nat → Int32) : Option (Int32 × (Nat → Int32)) := if ixb (95 + x3) 165 then if ixb (95 + x3) 165 then k4 y0 (x3 + 1) (upd m_s (95 + x3).toNatClampNeg ((m_s (95 + x3).toNatClampNeg) ||| x4)) else none else none
noncomputable def f_X10_isBlown_4 (m_bed : Nat → Int32) (m_letter : Nat → Int32) (m_letters : Int32) (m_readers : Int32) (n1 : Int32) : Nat → Int32 → Int32 → (Nat → Int32) → Option (Int32 × (Nat → Int32))
  | 0, _, _, _ => none
  | n + 1, x2, x3, m_s => if m_readers ≤ x3 then if zok x2 then some (x2, m_s) else none else b1 (f_X10_newsOf m_bed m_letter m_letters m_s x3 n1) (fun v1 => if v1 = 0 then if x2 = 0 then f_X10_isBlown_34 m_bed m_letter m_letters m_readers n1 (f_X10_isBlown_4 m_bed m_letter m_letters m_readers n1 n) x3 v1 0 m_s else f_X10_isBlown_34 m_bed m_letter m_letters m_readers n1 (f_X10_isBlown_4 m_bed m_letter m_letters m_readers n1 n) x3 v1 1 m_s else f_X10_isBlown_34 m_bed m_letter m_letters m_readers n1 (f_X10_isBlown_4 m_bed m_letter m_letters m_readers n1 n) x3 v1 1 m_s)
noncomputable def f_X10_isBlown (m_bed : Nat → Int32) (m_letter : Nat → Int32) (m_letters : Int32) (m_readers : Int32) (m_s : Nat → Int32) (n1 : Int32) : Option (Int32 × (Nat → Int32)) := f_X10_isBlown_4 m_bed m_letter m_letters m_readers n1 FU 0 0 m_s
def rm_X10_isBlown : Room := { frames := 3, cells := 0, slots := 0, locals := 66 }
set_option maxRecDepth 100000 in
set_option maxHeartbeats 4000000 in
theorem j_X10_isBlown_34 {J : Jt} {Z : Zt} {a0 : Nat → Nat} {m_thrown : Int32} {m_refused : Nat → Int32} {m_taped : Int32} {m_size : Int32} {m_at : Int32} {m_bad : Int32} {m_badKind : Int32} {m_opens : Int32} {m_faultAt : Int32} {m_tape : Nat → Int32} {m_newBed : Nat → Int32} {m_newLetter : Nat → Int32} {m_newReader : Nat → Int32} {m_bed : Nat → Int32} {m_letter : Nat → Int32} {m_reader : Nat → Int32} {m_newBeds : Int32} {m_newLetters : Int32} {m_newReaders : Int32} {m_beds : Int32} {m_letters : Int32} {m_readers : Int32} {m_newCode : Nat → Int32} {m_newOf : Nat → Int32} {m_code : Nat → Int32} {m_ofCode : Nat → Int32} {m_stack : Nat → Int32} {m_newCodes : Int32} {m_codes : Int32} {m_facts : Nat → Int32} {m_newStep : Nat → Int32} {m_step : Nat → Int32} {m_newSteps : Int32} {m_works : Int32} {m_refusedSteps : Int32} {m_begun : Int32} {m_done : Int32} {m_refusedNow : Int32} {m_now : Nat → Int32} {m_past : Nat → Int32} {m_newBook : Nat → Int32} {m_book : Nat → Int32} {m_written : Int32} {m_mostBy : Nat → Int32} {m_stuffing : Nat → Int32} {m_stuffedMany : Int32} {m_lastBy : Nat → Int32} {m_leftBy : Nat → Int32} {m_splitBy : Nat → Int64} {m_seedNow : Int32} {m_image : Nat → Int32} {m_images : Int32} {n1 : Int32} {r : Int32} {o_m_s : Nat → Int32} {k4 : Int32 → Int32 → (Nat → Int32) → Option (Int32 × (Nat → Int32))} (C : Cx J Z cX10_isBlown 5 RX10 (some .boolean) rm_X10_isBlown) (E : Ez J Z 0 0 (some (.int r)) (cs_X10 J.2.2.1 a0 m_thrown m_refused m_taped m_size m_at m_bad m_badKind m_opens m_faultAt m_tape m_newBed m_newLetter m_newReader m_bed m_letter m_reader m_newBeds m_newLetters m_newReaders m_beds m_letters m_readers m_newCode m_newOf m_code m_ofCode m_stack m_newCodes m_codes m_facts m_newStep m_step m_newSteps m_works m_refusedSteps m_begun m_done m_refusedNow m_now o_m_s m_past m_newBook m_book m_written m_mostBy m_stuffing m_stuffedMany m_lastBy m_leftBy m_splitBy m_seedNow m_image m_images)) (hk4 : ∀ (x2 : Int32) (x3 : Int32) (m_s : Nat → Int32), k4 x2 x3 m_s = some (r, o_m_s) → G J Z 0 0 (cs_X10 J.2.2.1 a0 m_thrown m_refused m_taped m_size m_at m_bad m_badKind m_opens m_faultAt m_tape m_newBed m_newLetter m_newReader m_bed m_letter m_reader m_newBeds m_newLetters m_newReaders m_beds m_letters m_readers m_newCode m_newOf m_code m_ofCode m_stack m_newCodes m_codes m_facts m_newStep m_step m_newSteps m_works m_refusedSteps m_begun m_done m_refusedNow m_now m_s m_past m_newBook m_book m_written m_mostBy m_stuffing m_stuffedMany m_lastBy m_leftBy m_splitBy m_seedNow m_image m_images) 5 [(0, .ref (a0 0)), (1, .int n1), (2, .int x2), (3, .int x3)] 4 []) : ∀ (x3 : Int32) (x4 : Int32) (y0 : Int32) (m_s : Nat → Int32), f_X10_isBlown_34 m_bed m_letter m_letters m_readers n1 k4 x3 x4 y0 m_s = some (r, o_m_s) → G J Z 0 0 (cs_X10 J.2.2.1 a0 m_thrown m_refused m_taped m_size m_at m_bad m_badKind m_opens m_faultAt m_tape m_newBed m_newLetter m_newReader m_bed m_letter m_reader m_newBeds m_newLetters m_newReaders m_beds m_letters m_readers m_newCode m_newOf m_code m_ofCode m_stack m_newCodes m_codes m_facts m_newStep m_step m_newSteps m_works m_refusedSteps m_begun m_done m_refusedNow m_now m_s m_past m_newBook m_book m_written m_mostBy m_stuffing m_stuffedMany m_lastBy m_leftBy m_splitBy m_seedNow m_image m_images) 5 [(0, .ref (a0 0)), (1, .int n1), (3, .int x3), (4, .int x4)] 34 [.int y0] := by
  intro x3 x4 y0 m_s h
  unfold f_X10_isBlown_34 at h
  refine g_istore_n (pc := 34) C [(2, .int y0), (0, .ref (a0 0)), (1, .int n1), (3, .int x3), (4, .int x4)] dX10_isBlown_34 rfl (by decide) rfl ?_
  refine g_aload_n (pc := 35) C 1 rfl dX10_isBlown_35 ?_
  refine g_get (pc := 36) C FOK_X10 0 rfl rfl 39 (by decide) kw_1316 rfl dX10_isBlown_36 ?_
  refine g_bipush (pc := 39) C dX10_isBlown_39 cb_95 ?_
  refine g_iload_n (pc := 41) C 3 rfl dX10_isBlown_41 ?_
  refine g_iadd (pc := 42) C dX10_isBlown_42 ?_
  refine g_dup2 (pc := 43) C dX10_isBlown_43 rfl rfl ?_
  obtain ⟨hi, h⟩ := ix_of h
  refine g_iald (pc := 44) C 18 rfl hi dX10_isBlown_44 ?_
  refine g_iload (pc := 45) C 4 rfl dX10_isBlown_45 ?_
  refine g_ior (pc := 47) C dX10_isBlown_47 ?_
  obtain ⟨hi, h⟩ := ix_of h
  refine g_iast (pc := 48) C (w' := cs_X10 J.2.2.1 a0 m_thrown m_refused m_taped m_size m_at m_bad m_badKind m_opens m_faultAt m_tape m_newBed m_newLetter m_newReader m_bed m_letter m_reader m_newBeds m_newLetters m_newReaders m_beds m_letters m_readers m_newCode m_newOf m_code m_ofCode m_stack m_newCodes m_codes m_facts m_newStep m_step m_newSteps m_works m_refusedSteps m_begun m_done m_refusedNow m_now (upd m_s (95 + x3).toNatClampNeg ((m_s (95 + x3).toNatClampNeg) ||| x4)) m_past m_newBook m_book m_written m_mostBy m_stuffing m_stuffedMany m_lastBy m_leftBy m_splitBy m_seedNow m_image m_images) 18 rfl hi dX10_isBlown_48 rfl ?_
  refine g_iinc (pc := 49) C (j := 3) [(3, .int (x3 + 1)), (2, .int y0), (0, .ref (a0 0)), (1, .int n1), (4, .int x4)] dX10_isBlown_49 rfl (ii_1 _) (by decide) rfl ?_
  refine g_goto (pc := 52) C (tgt := 4) dX10_isBlown_52 rfl ?_
  refine g_lv [2, 3, 1, 0] rfl ?_
  exact hk4 y0 (x3 + 1) (upd m_s (95 + x3).toNatClampNeg ((m_s (95 + x3).toNatClampNeg) ||| x4)) h
set_option maxRecDepth 100000 in
set_option maxHeartbeats 4000000 in
theorem j_X10_isBlown_4 {J : Jt} {Z : Zt} {a0 : Nat → Nat} {m_thrown : Int32} {m_refused : Nat → Int32} {m_taped : Int32} {m_size : Int32} {m_at : Int32} {m_bad : Int32} {m_badKind : Int32} {m_opens : Int32} {m_faultAt : Int32} {m_tape : Nat → Int32} {m_newBed : Nat → Int32} {m_newLetter : Nat → Int32} {m_newReader : Nat → Int32} {m_bed : Nat → Int32} {m_letter : Nat → Int32} {m_reader : Nat → Int32} {m_newBeds : Int32} {m_newLetters : Int32} {m_newReaders : Int32} {m_beds : Int32} {m_letters : Int32} {m_readers : Int32} {m_newCode : Nat → Int32} {m_newOf : Nat → Int32} {m_code : Nat → Int32} {m_ofCode : Nat → Int32} {m_stack : Nat → Int32} {m_newCodes : Int32} {m_codes : Int32} {m_facts : Nat → Int32} {m_newStep : Nat → Int32} {m_step : Nat → Int32} {m_newSteps : Int32} {m_works : Int32} {m_refusedSteps : Int32} {m_begun : Int32} {m_done : Int32} {m_refusedNow : Int32} {m_now : Nat → Int32} {m_past : Nat → Int32} {m_newBook : Nat → Int32} {m_book : Nat → Int32} {m_written : Int32} {m_mostBy : Nat → Int32} {m_stuffing : Nat → Int32} {m_stuffedMany : Int32} {m_lastBy : Nat → Int32} {m_leftBy : Nat → Int32} {m_splitBy : Nat → Int64} {m_seedNow : Int32} {m_image : Nat → Int32} {m_images : Int32} {n1 : Int32} {r : Int32} {o_m_s : Nat → Int32} (C : Cx J Z cX10_isBlown 5 RX10 (some .boolean) rm_X10_isBlown) (E : Ez J Z 0 0 (some (.int r)) (cs_X10 J.2.2.1 a0 m_thrown m_refused m_taped m_size m_at m_bad m_badKind m_opens m_faultAt m_tape m_newBed m_newLetter m_newReader m_bed m_letter m_reader m_newBeds m_newLetters m_newReaders m_beds m_letters m_readers m_newCode m_newOf m_code m_ofCode m_stack m_newCodes m_codes m_facts m_newStep m_step m_newSteps m_works m_refusedSteps m_begun m_done m_refusedNow m_now o_m_s m_past m_newBook m_book m_written m_mostBy m_stuffing m_stuffedMany m_lastBy m_leftBy m_splitBy m_seedNow m_image m_images)) : ∀ (n : Nat) (x2 : Int32) (x3 : Int32) (m_s : Nat → Int32), f_X10_isBlown_4 m_bed m_letter m_letters m_readers n1 n x2 x3 m_s = some (r, o_m_s) → G J Z 0 0 (cs_X10 J.2.2.1 a0 m_thrown m_refused m_taped m_size m_at m_bad m_badKind m_opens m_faultAt m_tape m_newBed m_newLetter m_newReader m_bed m_letter m_reader m_newBeds m_newLetters m_newReaders m_beds m_letters m_readers m_newCode m_newOf m_code m_ofCode m_stack m_newCodes m_codes m_facts m_newStep m_step m_newSteps m_works m_refusedSteps m_begun m_done m_refusedNow m_now m_s m_past m_newBook m_book m_written m_mostBy m_stuffing m_stuffedMany m_lastBy m_leftBy m_splitBy m_seedNow m_image m_images) 5 [(0, .ref (a0 0)), (1, .int n1), (2, .int x2), (3, .int x3)] 4 [] := by
  intro n
  induction n with
  | zero =>
    intro x2 x3 m_s h
    rw [f_X10_isBlown_4] at h
    cases h
  | succ n ih =>
    intro x2 x3 m_s h
    rw [f_X10_isBlown_4] at h
    refine g_iload_n (pc := 4) C 3 rfl dX10_isBlown_4 ?_
    refine g_aload_n (pc := 5) C 0 rfl dX10_isBlown_5 ?_
    refine g_get (pc := 6) C FOK_X10 0 rfl rfl 21 (by decide) kw_1298 rfl dX10_isBlown_6 ?_
    refine g_icmp_ge (pc := 9) C (tgt := 55) dX10_isBlown_9 rfl h (fun h => ?_) (fun h => ?_)
    · refine g_iload_n (pc := 55) C 2 rfl dX10_isBlown_55 ?_
      obtain ⟨hz, h⟩ := zok_of h
      cases h
      exact g_zret C hz E dX10_isBlown_56
    · refine g_aload_n (pc := 12) C 0 rfl dX10_isBlown_12 ?_
      refine g_iload_n (pc := 13) C 3 rfl dX10_isBlown_13 ?_
      refine g_iload_n (pc := 14) C 1 rfl dX10_isBlown_14 ?_
      obtain ⟨v1, hc, h⟩ := b1_of h
      refine g_callV (pc := 15) C (w' := cs_X10 J.2.2.1 a0 m_thrown m_refused m_taped m_size m_at m_bad m_badKind m_opens m_faultAt m_tape m_newBed m_newLetter m_newReader m_bed m_letter m_reader m_newBeds m_newLetters m_newReaders m_beds m_letters m_readers m_newCode m_newOf m_code m_ofCode m_stack m_newCodes m_codes m_facts m_newStep m_step m_newSteps m_works m_refusedSteps m_begun m_done m_refusedNow m_now m_s m_past m_newBook m_book m_written m_mostBy m_stuffing m_stuffedMany m_lastBy m_leftBy m_splitBy m_seedNow m_image m_images) (As := [.int x3, .int n1]) (st := []) (ci := 10) (q0 := 0) rfl rfl (t_X10_newsOf (a0 := a0) hc) Sub.same kw_1611 kw_1613 kw_50 kw_95 hy_X10_newsOf kw_1614 rfl (Nat.le_of_ble_eq_true rfl) (Nat.le_of_ble_eq_true rfl) (Nat.le_of_ble_eq_true rfl) (Nat.le_of_ble_eq_true rfl) (Nat.le_of_ble_eq_true rfl) dX10_isBlown_15 ?_
      refine g_istore (pc := 18) C [(4, .int v1), (0, .ref (a0 0)), (1, .int n1), (2, .int x2), (3, .int x3)] dX10_isBlown_18 (by decide) rfl ?_
      refine g_iload (pc := 20) C 0 rfl dX10_isBlown_20 ?_
      refine g_if_ne (pc := 22) C (tgt := 29) dX10_isBlown_22 rfl h (fun h => ?_) (fun h => ?_)
      · refine g_iconst (pc := 29) C dX10_isBlown_29 ci_1 ?_
        refine g_goto (pc := 30) C (tgt := 34) dX10_isBlown_30 rfl ?_
        refine g_lv [1, 2, 4, 0] rfl ?_
        exact j_X10_isBlown_34 C E ih x3 v1 1 m_s h
      · refine g_iload_n (pc := 25) C 3 rfl dX10_isBlown_25 ?_
        refine g_if_eq (pc := 26) C (tgt := 33) dX10_isBlown_26 rfl h (fun h => ?_) (fun h => ?_)
        · refine g_iconst (pc := 33) C dX10_isBlown_33 ci_0 ?_
          refine g_lv [1, 2, 4, 0] rfl ?_
          exact j_X10_isBlown_34 C E ih x3 v1 0 m_s h
        · refine g_iconst (pc := 29) C dX10_isBlown_29 ci_1 ?_
          refine g_goto (pc := 30) C (tgt := 34) dX10_isBlown_30 rfl ?_
          refine g_lv [1, 2, 4, 0] rfl ?_
          exact j_X10_isBlown_34 C E ih x3 v1 1 m_s h
set_option maxRecDepth 100000 in
set_option maxHeartbeats 4000000 in
theorem t_X10_isBlown {J : Jt} {a0 : Nat → Nat} {m_thrown : Int32} {m_refused : Nat → Int32} {m_taped : Int32} {m_size : Int32} {m_at : Int32} {m_bad : Int32} {m_badKind : Int32} {m_opens : Int32} {m_faultAt : Int32} {m_tape : Nat → Int32} {m_newBed : Nat → Int32} {m_newLetter : Nat → Int32} {m_newReader : Nat → Int32} {m_bed : Nat → Int32} {m_letter : Nat → Int32} {m_reader : Nat → Int32} {m_newBeds : Int32} {m_newLetters : Int32} {m_newReaders : Int32} {m_beds : Int32} {m_letters : Int32} {m_readers : Int32} {m_newCode : Nat → Int32} {m_newOf : Nat → Int32} {m_code : Nat → Int32} {m_ofCode : Nat → Int32} {m_stack : Nat → Int32} {m_newCodes : Int32} {m_codes : Int32} {m_facts : Nat → Int32} {m_newStep : Nat → Int32} {m_step : Nat → Int32} {m_newSteps : Int32} {m_works : Int32} {m_refusedSteps : Int32} {m_begun : Int32} {m_done : Int32} {m_refusedNow : Int32} {m_now : Nat → Int32} {m_s : Nat → Int32} {m_past : Nat → Int32} {m_newBook : Nat → Int32} {m_book : Nat → Int32} {m_written : Int32} {m_mostBy : Nat → Int32} {m_stuffing : Nat → Int32} {m_stuffedMany : Int32} {m_lastBy : Nat → Int32} {m_leftBy : Nat → Int32} {m_splitBy : Nat → Int64} {m_seedNow : Int32} {m_image : Nat → Int32} {m_images : Int32} {n1 : Int32} {r : Int32} {o_m_s : Nat → Int32} (h : f_X10_isBlown m_bed m_letter m_letters m_readers m_s n1 = some (r, o_m_s)) : Mt J yX10_isBlown cX10_isBlown 5 (some .boolean) rm_X10_isBlown [.ref (a0 0), .int n1] (cs_X10 J.2.2.1 a0 m_thrown m_refused m_taped m_size m_at m_bad m_badKind m_opens m_faultAt m_tape m_newBed m_newLetter m_newReader m_bed m_letter m_reader m_newBeds m_newLetters m_newReaders m_beds m_letters m_readers m_newCode m_newOf m_code m_ofCode m_stack m_newCodes m_codes m_facts m_newStep m_step m_newSteps m_works m_refusedSteps m_begun m_done m_refusedNow m_now m_s m_past m_newBook m_book m_written m_mostBy m_stuffing m_stuffedMany m_lastBy m_leftBy m_splitBy m_seedNow m_image m_images) (some (.int r)) (cs_X10 J.2.2.1 a0 m_thrown m_refused m_taped m_size m_at m_bad m_badKind m_opens m_faultAt m_tape m_newBed m_newLetter m_newReader m_bed m_letter m_reader m_newBeds m_newLetters m_newReaders m_beds m_letters m_readers m_newCode m_newOf m_code m_ofCode m_stack m_newCodes m_codes m_facts m_newStep m_step m_newSteps m_works m_refusedSteps m_begun m_done m_refusedNow m_now o_m_s m_past m_newBook m_book m_written m_mostBy m_stuffing m_stuffedMany m_lastBy m_leftBy m_splitBy m_seedNow m_image m_images) := by
  refine Mt_of (own := RX10) (by decide) rfl (Nat.le_of_ble_eq_true rfl) rfl (fun Z C E => ?_)
  unfold f_X10_isBlown at h
  show G J Z 0 0 (cs_X10 J.2.2.1 a0 m_thrown m_refused m_taped m_size m_at m_bad m_badKind m_opens m_faultAt m_tape m_newBed m_newLetter m_newReader m_bed m_letter m_reader m_newBeds m_newLetters m_newReaders m_beds m_letters m_readers m_newCode m_newOf m_code m_ofCode m_stack m_newCodes m_codes m_facts m_newStep m_step m_newSteps m_works m_refusedSteps m_begun m_done m_refusedNow m_now m_s m_past m_newBook m_book m_written m_mostBy m_stuffing m_stuffedMany m_lastBy m_leftBy m_splitBy m_seedNow m_image m_images) 5 [(0, .ref (a0 0)), (1, .int n1)] 0 []
  refine g_iconst (pc := 0) C dX10_isBlown_0 ci_0 ?_
  refine g_istore_n (pc := 1) C [(2, .int 0), (0, .ref (a0 0)), (1, .int n1)] dX10_isBlown_1 rfl (by decide) rfl ?_
  refine g_iconst (pc := 2) C dX10_isBlown_2 ci_0 ?_
  refine g_istore_n (pc := 3) C [(3, .int 0), (2, .int 0), (0, .ref (a0 0)), (1, .int n1)] dX10_isBlown_3 rfl (by decide) rfl ?_
  refine g_lv [2, 3, 1, 0] rfl ?_
  exact j_X10_isBlown_4 C E  FU 0 0 m_s h
noncomputable def f_X10_isEaten (m_s : Nat → Int32) (n1 : Int32) : Option (Int32 × (Nat → Int32)) := if ixb (84 + n1) 165 then if (m_s (84 + n1).toNatClampNeg) = 0 then some (0, m_s) else if ixb 163 165 then if ixb (84 + n1) 165 then if ixb 163 165 then if ixb (84 + n1) 165 then some (1, upd (upd m_s (163 : Int32).toNatClampNeg ((m_s (163 : Int32).toNatClampNeg) + (m_s (84 + n1).toNatClampNeg))) (84 + n1).toNatClampNeg 0) else none else none else none else none else none
def rm_X10_isEaten : Room := { frames := 0, cells := 0, slots := 0, locals := 0 }
set_option maxRecDepth 100000 in
set_option maxHeartbeats 4000000 in
theorem t_X10_isEaten {J : Jt} {a0 : Nat → Nat} {m_thrown : Int32} {m_refused : Nat → Int32} {m_taped : Int32} {m_size : Int32} {m_at : Int32} {m_bad : Int32} {m_badKind : Int32} {m_opens : Int32} {m_faultAt : Int32} {m_tape : Nat → Int32} {m_newBed : Nat → Int32} {m_newLetter : Nat → Int32} {m_newReader : Nat → Int32} {m_bed : Nat → Int32} {m_letter : Nat → Int32} {m_reader : Nat → Int32} {m_newBeds : Int32} {m_newLetters : Int32} {m_newReaders : Int32} {m_beds : Int32} {m_letters : Int32} {m_readers : Int32} {m_newCode : Nat → Int32} {m_newOf : Nat → Int32} {m_code : Nat → Int32} {m_ofCode : Nat → Int32} {m_stack : Nat → Int32} {m_newCodes : Int32} {m_codes : Int32} {m_facts : Nat → Int32} {m_newStep : Nat → Int32} {m_step : Nat → Int32} {m_newSteps : Int32} {m_works : Int32} {m_refusedSteps : Int32} {m_begun : Int32} {m_done : Int32} {m_refusedNow : Int32} {m_now : Nat → Int32} {m_s : Nat → Int32} {m_past : Nat → Int32} {m_newBook : Nat → Int32} {m_book : Nat → Int32} {m_written : Int32} {m_mostBy : Nat → Int32} {m_stuffing : Nat → Int32} {m_stuffedMany : Int32} {m_lastBy : Nat → Int32} {m_leftBy : Nat → Int32} {m_splitBy : Nat → Int64} {m_seedNow : Int32} {m_image : Nat → Int32} {m_images : Int32} {n1 : Int32} {r : Int32} {o_m_s : Nat → Int32} (h : f_X10_isEaten m_s n1 = some (r, o_m_s)) : Mt J yX10_isEaten cX10_isEaten 2 (some .boolean) rm_X10_isEaten [.ref (a0 0), .int n1] (cs_X10 J.2.2.1 a0 m_thrown m_refused m_taped m_size m_at m_bad m_badKind m_opens m_faultAt m_tape m_newBed m_newLetter m_newReader m_bed m_letter m_reader m_newBeds m_newLetters m_newReaders m_beds m_letters m_readers m_newCode m_newOf m_code m_ofCode m_stack m_newCodes m_codes m_facts m_newStep m_step m_newSteps m_works m_refusedSteps m_begun m_done m_refusedNow m_now m_s m_past m_newBook m_book m_written m_mostBy m_stuffing m_stuffedMany m_lastBy m_leftBy m_splitBy m_seedNow m_image m_images) (some (.int r)) (cs_X10 J.2.2.1 a0 m_thrown m_refused m_taped m_size m_at m_bad m_badKind m_opens m_faultAt m_tape m_newBed m_newLetter m_newReader m_bed m_letter m_reader m_newBeds m_newLetters m_newReaders m_beds m_letters m_readers m_newCode m_newOf m_code m_ofCode m_stack m_newCodes m_codes m_facts m_newStep m_step m_newSteps m_works m_refusedSteps m_begun m_done m_refusedNow m_now o_m_s m_past m_newBook m_book m_written m_mostBy m_stuffing m_stuffedMany m_lastBy m_leftBy m_splitBy m_seedNow m_image m_images) := by
  refine Mt_of (own := RX10) (by decide) rfl (Nat.le_of_ble_eq_true rfl) rfl (fun Z C E => ?_)
  unfold f_X10_isEaten at h
  show G J Z 0 0 (cs_X10 J.2.2.1 a0 m_thrown m_refused m_taped m_size m_at m_bad m_badKind m_opens m_faultAt m_tape m_newBed m_newLetter m_newReader m_bed m_letter m_reader m_newBeds m_newLetters m_newReaders m_beds m_letters m_readers m_newCode m_newOf m_code m_ofCode m_stack m_newCodes m_codes m_facts m_newStep m_step m_newSteps m_works m_refusedSteps m_begun m_done m_refusedNow m_now m_s m_past m_newBook m_book m_written m_mostBy m_stuffing m_stuffedMany m_lastBy m_leftBy m_splitBy m_seedNow m_image m_images) 2 [(0, .ref (a0 0)), (1, .int n1)] 0 []
  refine g_aload_n (pc := 0) C 0 rfl dX10_isEaten_0 ?_
  refine g_get (pc := 1) C FOK_X10 0 rfl rfl 39 (by decide) kw_1316 rfl dX10_isEaten_1 ?_
  refine g_bipush (pc := 4) C dX10_isEaten_4 cb_84 ?_
  refine g_iload_n (pc := 6) C 1 rfl dX10_isEaten_6 ?_
  refine g_iadd (pc := 7) C dX10_isEaten_7 ?_
  obtain ⟨hi, h⟩ := ix_of h
  refine g_iald (pc := 8) C 18 rfl hi dX10_isEaten_8 ?_
  refine g_if_ne (pc := 9) C (tgt := 14) dX10_isEaten_9 rfl h (fun h => ?_) (fun h => ?_)
  · refine g_aload_n (pc := 14) C 0 rfl dX10_isEaten_14 ?_
    refine g_get (pc := 15) C FOK_X10 0 rfl rfl 39 (by decide) kw_1316 rfl dX10_isEaten_15 ?_
    refine g_sipush (pc := 18) C dX10_isEaten_18 cs_163 ?_
    refine g_dup2 (pc := 21) C dX10_isEaten_21 rfl rfl ?_
    obtain ⟨hi, h⟩ := ix_of h
    refine g_iald (pc := 22) C 18 rfl hi dX10_isEaten_22 ?_
    refine g_aload_n (pc := 23) C 0 rfl dX10_isEaten_23 ?_
    refine g_get (pc := 24) C FOK_X10 0 rfl rfl 39 (by decide) kw_1316 rfl dX10_isEaten_24 ?_
    refine g_bipush (pc := 27) C dX10_isEaten_27 cb_84 ?_
    refine g_iload_n (pc := 29) C 1 rfl dX10_isEaten_29 ?_
    refine g_iadd (pc := 30) C dX10_isEaten_30 ?_
    obtain ⟨hi, h⟩ := ix_of h
    refine g_iald (pc := 31) C 18 rfl hi dX10_isEaten_31 ?_
    refine g_iadd (pc := 32) C dX10_isEaten_32 ?_
    obtain ⟨hi, h⟩ := ix_of h
    refine g_iast (pc := 33) C (w' := cs_X10 J.2.2.1 a0 m_thrown m_refused m_taped m_size m_at m_bad m_badKind m_opens m_faultAt m_tape m_newBed m_newLetter m_newReader m_bed m_letter m_reader m_newBeds m_newLetters m_newReaders m_beds m_letters m_readers m_newCode m_newOf m_code m_ofCode m_stack m_newCodes m_codes m_facts m_newStep m_step m_newSteps m_works m_refusedSteps m_begun m_done m_refusedNow m_now (upd m_s (163 : Int32).toNatClampNeg ((m_s (163 : Int32).toNatClampNeg) + (m_s (84 + n1).toNatClampNeg))) m_past m_newBook m_book m_written m_mostBy m_stuffing m_stuffedMany m_lastBy m_leftBy m_splitBy m_seedNow m_image m_images) 18 rfl hi dX10_isEaten_33 rfl ?_
    refine g_aload_n (pc := 34) C 0 rfl dX10_isEaten_34 ?_
    refine g_get (pc := 35) C FOK_X10 0 rfl rfl 39 (by decide) kw_1316 rfl dX10_isEaten_35 ?_
    refine g_bipush (pc := 38) C dX10_isEaten_38 cb_84 ?_
    refine g_iload_n (pc := 40) C 1 rfl dX10_isEaten_40 ?_
    refine g_iadd (pc := 41) C dX10_isEaten_41 ?_
    refine g_iconst (pc := 42) C dX10_isEaten_42 ci_0 ?_
    obtain ⟨hi, h⟩ := ix_of h
    refine g_iast (pc := 43) C (w' := cs_X10 J.2.2.1 a0 m_thrown m_refused m_taped m_size m_at m_bad m_badKind m_opens m_faultAt m_tape m_newBed m_newLetter m_newReader m_bed m_letter m_reader m_newBeds m_newLetters m_newReaders m_beds m_letters m_readers m_newCode m_newOf m_code m_ofCode m_stack m_newCodes m_codes m_facts m_newStep m_step m_newSteps m_works m_refusedSteps m_begun m_done m_refusedNow m_now (upd (upd m_s (163 : Int32).toNatClampNeg ((m_s (163 : Int32).toNatClampNeg) + (m_s (84 + n1).toNatClampNeg))) (84 + n1).toNatClampNeg 0) m_past m_newBook m_book m_written m_mostBy m_stuffing m_stuffedMany m_lastBy m_leftBy m_splitBy m_seedNow m_image m_images) 18 rfl hi dX10_isEaten_43 rfl ?_
    refine g_iconst (pc := 44) C dX10_isEaten_44 ci_1 ?_
    cases h
    exact g_zret C rfl E dX10_isEaten_45
  · refine g_iconst (pc := 12) C dX10_isEaten_12 ci_0 ?_
    cases h
    exact g_zret C rfl E dX10_isEaten_13
noncomputable def f_X10_wordsIn_4 (m_s : Nat → Int32) (n1 : Int32) : Nat → Int32 → Int32 → Option (Int32)
  | 0, _, _ => none
  | n + 1, x2, x3 => if ixb (84 + n1) 165 then if (m_s (84 + n1).toNatClampNeg) ≤ x3 then some x2 else if ixb ((12 + (12 * n1)) + x3) 165 then f_X10_wordsIn_4 m_s n1 n (x2 ||| ((1 : Int32) <<< ((m_s ((12 + (12 * n1)) + x3).toNatClampNeg) &&& 31))) (x3 + 1) else none else none
noncomputable def f_X10_wordsIn (m_s : Nat → Int32) (n1 : Int32) : Option (Int32) := f_X10_wordsIn_4 m_s n1 FU 0 0
def rm_X10_wordsIn : Room := { frames := 0, cells := 0, slots := 0, locals := 0 }
set_option maxRecDepth 100000 in
set_option maxHeartbeats 4000000 in
theorem j_X10_wordsIn_4 {J : Jt} {Z : Zt} {a0 : Nat → Nat} {m_thrown : Int32} {m_refused : Nat → Int32} {m_taped : Int32} {m_size : Int32} {m_at : Int32} {m_bad : Int32} {m_badKind : Int32} {m_opens : Int32} {m_faultAt : Int32} {m_tape : Nat → Int32} {m_newBed : Nat → Int32} {m_newLetter : Nat → Int32} {m_newReader : Nat → Int32} {m_bed : Nat → Int32} {m_letter : Nat → Int32} {m_reader : Nat → Int32} {m_newBeds : Int32} {m_newLetters : Int32} {m_newReaders : Int32} {m_beds : Int32} {m_letters : Int32} {m_readers : Int32} {m_newCode : Nat → Int32} {m_newOf : Nat → Int32} {m_code : Nat → Int32} {m_ofCode : Nat → Int32} {m_stack : Nat → Int32} {m_newCodes : Int32} {m_codes : Int32} {m_facts : Nat → Int32} {m_newStep : Nat → Int32} {m_step : Nat → Int32} {m_newSteps : Int32} {m_works : Int32} {m_refusedSteps : Int32} {m_begun : Int32} {m_done : Int32} {m_refusedNow : Int32} {m_now : Nat → Int32} {m_s : Nat → Int32} {m_past : Nat → Int32} {m_newBook : Nat → Int32} {m_book : Nat → Int32} {m_written : Int32} {m_mostBy : Nat → Int32} {m_stuffing : Nat → Int32} {m_stuffedMany : Int32} {m_lastBy : Nat → Int32} {m_leftBy : Nat → Int32} {m_splitBy : Nat → Int64} {m_seedNow : Int32} {m_image : Nat → Int32} {m_images : Int32} {n1 : Int32} {r : Int32} (C : Cx J Z cX10_wordsIn 4 RX10 (some .int) rm_X10_wordsIn) (E : Ez J Z 0 0 (some (.int r)) (cs_X10 J.2.2.1 a0 m_thrown m_refused m_taped m_size m_at m_bad m_badKind m_opens m_faultAt m_tape m_newBed m_newLetter m_newReader m_bed m_letter m_reader m_newBeds m_newLetters m_newReaders m_beds m_letters m_readers m_newCode m_newOf m_code m_ofCode m_stack m_newCodes m_codes m_facts m_newStep m_step m_newSteps m_works m_refusedSteps m_begun m_done m_refusedNow m_now m_s m_past m_newBook m_book m_written m_mostBy m_stuffing m_stuffedMany m_lastBy m_leftBy m_splitBy m_seedNow m_image m_images)) : ∀ (n : Nat) (x2 : Int32) (x3 : Int32), f_X10_wordsIn_4 m_s n1 n x2 x3 = some r → G J Z 0 0 (cs_X10 J.2.2.1 a0 m_thrown m_refused m_taped m_size m_at m_bad m_badKind m_opens m_faultAt m_tape m_newBed m_newLetter m_newReader m_bed m_letter m_reader m_newBeds m_newLetters m_newReaders m_beds m_letters m_readers m_newCode m_newOf m_code m_ofCode m_stack m_newCodes m_codes m_facts m_newStep m_step m_newSteps m_works m_refusedSteps m_begun m_done m_refusedNow m_now m_s m_past m_newBook m_book m_written m_mostBy m_stuffing m_stuffedMany m_lastBy m_leftBy m_splitBy m_seedNow m_image m_images) 4 [(0, .ref (a0 0)), (1, .int n1), (2, .int x2), (3, .int x3)] 4 [] := by
  intro n
  induction n with
  | zero =>
    intro x2 x3 h
    rw [f_X10_wordsIn_4] at h
    cases h
  | succ n ih =>
    intro x2 x3 h
    rw [f_X10_wordsIn_4] at h
    refine g_iload_n (pc := 4) C 3 rfl dX10_wordsIn_4 ?_
    refine g_aload_n (pc := 5) C 0 rfl dX10_wordsIn_5 ?_
    refine g_get (pc := 6) C FOK_X10 0 rfl rfl 39 (by decide) kw_1316 rfl dX10_wordsIn_6 ?_
    refine g_bipush (pc := 9) C dX10_wordsIn_9 cb_84 ?_
    refine g_iload_n (pc := 11) C 1 rfl dX10_wordsIn_11 ?_
    refine g_iadd (pc := 12) C dX10_wordsIn_12 ?_
    obtain ⟨hi, h⟩ := ix_of h
    refine g_iald (pc := 13) C 18 rfl hi dX10_wordsIn_13 ?_
    refine g_icmp_ge (pc := 14) C (tgt := 42) dX10_wordsIn_14 rfl h (fun h => ?_) (fun h => ?_)
    · refine g_iload_n (pc := 42) C 2 rfl dX10_wordsIn_42 ?_
      cases h
      exact g_iret C E dX10_wordsIn_43
    · refine g_iload_n (pc := 17) C 2 rfl dX10_wordsIn_17 ?_
      refine g_iconst (pc := 18) C dX10_wordsIn_18 ci_1 ?_
      refine g_aload_n (pc := 19) C 0 rfl dX10_wordsIn_19 ?_
      refine g_get (pc := 20) C FOK_X10 0 rfl rfl 39 (by decide) kw_1316 rfl dX10_wordsIn_20 ?_
      refine g_bipush (pc := 23) C dX10_wordsIn_23 cb_12 ?_
      refine g_bipush (pc := 25) C dX10_wordsIn_25 cb_12 ?_
      refine g_iload_n (pc := 27) C 1 rfl dX10_wordsIn_27 ?_
      refine g_imul (pc := 28) C dX10_wordsIn_28 ?_
      refine g_iadd (pc := 29) C dX10_wordsIn_29 ?_
      refine g_iload_n (pc := 30) C 3 rfl dX10_wordsIn_30 ?_
      refine g_iadd (pc := 31) C dX10_wordsIn_31 ?_
      obtain ⟨hi, h⟩ := ix_of h
      refine g_iald (pc := 32) C 18 rfl hi dX10_wordsIn_32 ?_
      refine g_ishl (pc := 33) C dX10_wordsIn_33 ?_
      refine g_ior (pc := 34) C dX10_wordsIn_34 ?_
      refine g_istore_n (pc := 35) C [(2, .int (x2 ||| ((1 : Int32) <<< ((m_s ((12 + (12 * n1)) + x3).toNatClampNeg) &&& 31)))), (0, .ref (a0 0)), (1, .int n1), (3, .int x3)] dX10_wordsIn_35 rfl (by decide) rfl ?_
      refine g_iinc (pc := 36) C (j := 3) [(3, .int (x3 + 1)), (2, .int (x2 ||| ((1 : Int32) <<< ((m_s ((12 + (12 * n1)) + x3).toNatClampNeg) &&& 31)))), (0, .ref (a0 0)), (1, .int n1)] dX10_wordsIn_36 rfl (ii_1 _) (by decide) rfl ?_
      refine g_goto (pc := 39) C (tgt := 4) dX10_wordsIn_39 rfl ?_
      refine g_lv [2, 3, 1, 0] rfl ?_
      exact ih (x2 ||| ((1 : Int32) <<< ((m_s ((12 + (12 * n1)) + x3).toNatClampNeg) &&& 31))) (x3 + 1) h
set_option maxRecDepth 100000 in
set_option maxHeartbeats 4000000 in
theorem t_X10_wordsIn {J : Jt} {a0 : Nat → Nat} {m_thrown : Int32} {m_refused : Nat → Int32} {m_taped : Int32} {m_size : Int32} {m_at : Int32} {m_bad : Int32} {m_badKind : Int32} {m_opens : Int32} {m_faultAt : Int32} {m_tape : Nat → Int32} {m_newBed : Nat → Int32} {m_newLetter : Nat → Int32} {m_newReader : Nat → Int32} {m_bed : Nat → Int32} {m_letter : Nat → Int32} {m_reader : Nat → Int32} {m_newBeds : Int32} {m_newLetters : Int32} {m_newReaders : Int32} {m_beds : Int32} {m_letters : Int32} {m_readers : Int32} {m_newCode : Nat → Int32} {m_newOf : Nat → Int32} {m_code : Nat → Int32} {m_ofCode : Nat → Int32} {m_stack : Nat → Int32} {m_newCodes : Int32} {m_codes : Int32} {m_facts : Nat → Int32} {m_newStep : Nat → Int32} {m_step : Nat → Int32} {m_newSteps : Int32} {m_works : Int32} {m_refusedSteps : Int32} {m_begun : Int32} {m_done : Int32} {m_refusedNow : Int32} {m_now : Nat → Int32} {m_s : Nat → Int32} {m_past : Nat → Int32} {m_newBook : Nat → Int32} {m_book : Nat → Int32} {m_written : Int32} {m_mostBy : Nat → Int32} {m_stuffing : Nat → Int32} {m_stuffedMany : Int32} {m_lastBy : Nat → Int32} {m_leftBy : Nat → Int32} {m_splitBy : Nat → Int64} {m_seedNow : Int32} {m_image : Nat → Int32} {m_images : Int32} {n1 : Int32} {r : Int32} (h : f_X10_wordsIn m_s n1 = some r) : Mt J yX10_wordsIn cX10_wordsIn 4 (some .int) rm_X10_wordsIn [.ref (a0 0), .int n1] (cs_X10 J.2.2.1 a0 m_thrown m_refused m_taped m_size m_at m_bad m_badKind m_opens m_faultAt m_tape m_newBed m_newLetter m_newReader m_bed m_letter m_reader m_newBeds m_newLetters m_newReaders m_beds m_letters m_readers m_newCode m_newOf m_code m_ofCode m_stack m_newCodes m_codes m_facts m_newStep m_step m_newSteps m_works m_refusedSteps m_begun m_done m_refusedNow m_now m_s m_past m_newBook m_book m_written m_mostBy m_stuffing m_stuffedMany m_lastBy m_leftBy m_splitBy m_seedNow m_image m_images) (some (.int r)) (cs_X10 J.2.2.1 a0 m_thrown m_refused m_taped m_size m_at m_bad m_badKind m_opens m_faultAt m_tape m_newBed m_newLetter m_newReader m_bed m_letter m_reader m_newBeds m_newLetters m_newReaders m_beds m_letters m_readers m_newCode m_newOf m_code m_ofCode m_stack m_newCodes m_codes m_facts m_newStep m_step m_newSteps m_works m_refusedSteps m_begun m_done m_refusedNow m_now m_s m_past m_newBook m_book m_written m_mostBy m_stuffing m_stuffedMany m_lastBy m_leftBy m_splitBy m_seedNow m_image m_images) := by
  refine Mt_of (own := RX10) (by decide) rfl (Nat.le_of_ble_eq_true rfl) rfl (fun Z C E => ?_)
  unfold f_X10_wordsIn at h
  show G J Z 0 0 (cs_X10 J.2.2.1 a0 m_thrown m_refused m_taped m_size m_at m_bad m_badKind m_opens m_faultAt m_tape m_newBed m_newLetter m_newReader m_bed m_letter m_reader m_newBeds m_newLetters m_newReaders m_beds m_letters m_readers m_newCode m_newOf m_code m_ofCode m_stack m_newCodes m_codes m_facts m_newStep m_step m_newSteps m_works m_refusedSteps m_begun m_done m_refusedNow m_now m_s m_past m_newBook m_book m_written m_mostBy m_stuffing m_stuffedMany m_lastBy m_leftBy m_splitBy m_seedNow m_image m_images) 4 [(0, .ref (a0 0)), (1, .int n1)] 0 []
  refine g_iconst (pc := 0) C dX10_wordsIn_0 ci_0 ?_
  refine g_istore_n (pc := 1) C [(2, .int 0), (0, .ref (a0 0)), (1, .int n1)] dX10_wordsIn_1 rfl (by decide) rfl ?_
  refine g_iconst (pc := 2) C dX10_wordsIn_2 ci_0 ?_
  refine g_istore_n (pc := 3) C [(3, .int 0), (2, .int 0), (0, .ref (a0 0)), (1, .int n1)] dX10_wordsIn_3 rfl (by decide) rfl ?_
  refine g_lv [2, 3, 1, 0] rfl ?_
  exact j_X10_wordsIn_4 C E  FU 0 0 h
noncomputable def f_X10_isWalked (m_s : Nat → Int32) (n1 : Int32) (n2 : Int32) : Option (Int32 × (Nat → Int32)) := if ixb (90 + n1) 165 then if (m_s (90 + n1).toNatClampNeg) = n2 then some (0, m_s) else if ixb (90 + n1) 165 then if ixb (95 + n1) 165 then b1 (f_X10_wordsIn (upd m_s (90 + n1).toNatClampNeg n2) n2) (fun v1 => if ixb (95 + n1) 165 then some (1, upd (upd m_s (90 + n1).toNatClampNeg n2) (95 + n1).toNatClampNeg (((upd m_s (90 + n1).toNatClampNeg n2) (95 + n1).toNatClampNeg) ||| v1)) else none) else none else none else none
def rm_X10_isWalked : Room := { frames := 1, cells := 0, slots := 0, locals := 23 }
set_option maxRecDepth 100000 in
set_option maxHeartbeats 4000000 in
theorem t_X10_isWalked {J : Jt} {a0 : Nat → Nat} {m_thrown : Int32} {m_refused : Nat → Int32} {m_taped : Int32} {m_size : Int32} {m_at : Int32} {m_bad : Int32} {m_badKind : Int32} {m_opens : Int32} {m_faultAt : Int32} {m_tape : Nat → Int32} {m_newBed : Nat → Int32} {m_newLetter : Nat → Int32} {m_newReader : Nat → Int32} {m_bed : Nat → Int32} {m_letter : Nat → Int32} {m_reader : Nat → Int32} {m_newBeds : Int32} {m_newLetters : Int32} {m_newReaders : Int32} {m_beds : Int32} {m_letters : Int32} {m_readers : Int32} {m_newCode : Nat → Int32} {m_newOf : Nat → Int32} {m_code : Nat → Int32} {m_ofCode : Nat → Int32} {m_stack : Nat → Int32} {m_newCodes : Int32} {m_codes : Int32} {m_facts : Nat → Int32} {m_newStep : Nat → Int32} {m_step : Nat → Int32} {m_newSteps : Int32} {m_works : Int32} {m_refusedSteps : Int32} {m_begun : Int32} {m_done : Int32} {m_refusedNow : Int32} {m_now : Nat → Int32} {m_s : Nat → Int32} {m_past : Nat → Int32} {m_newBook : Nat → Int32} {m_book : Nat → Int32} {m_written : Int32} {m_mostBy : Nat → Int32} {m_stuffing : Nat → Int32} {m_stuffedMany : Int32} {m_lastBy : Nat → Int32} {m_leftBy : Nat → Int32} {m_splitBy : Nat → Int64} {m_seedNow : Int32} {m_image : Nat → Int32} {m_images : Int32} {n1 : Int32} {n2 : Int32} {r : Int32} {o_m_s : Nat → Int32} (h : f_X10_isWalked m_s n1 n2 = some (r, o_m_s)) : Mt J yX10_isWalked cX10_isWalked 3 (some .boolean) rm_X10_isWalked [.ref (a0 0), .int n1, .int n2] (cs_X10 J.2.2.1 a0 m_thrown m_refused m_taped m_size m_at m_bad m_badKind m_opens m_faultAt m_tape m_newBed m_newLetter m_newReader m_bed m_letter m_reader m_newBeds m_newLetters m_newReaders m_beds m_letters m_readers m_newCode m_newOf m_code m_ofCode m_stack m_newCodes m_codes m_facts m_newStep m_step m_newSteps m_works m_refusedSteps m_begun m_done m_refusedNow m_now m_s m_past m_newBook m_book m_written m_mostBy m_stuffing m_stuffedMany m_lastBy m_leftBy m_splitBy m_seedNow m_image m_images) (some (.int r)) (cs_X10 J.2.2.1 a0 m_thrown m_refused m_taped m_size m_at m_bad m_badKind m_opens m_faultAt m_tape m_newBed m_newLetter m_newReader m_bed m_letter m_reader m_newBeds m_newLetters m_newReaders m_beds m_letters m_readers m_newCode m_newOf m_code m_ofCode m_stack m_newCodes m_codes m_facts m_newStep m_step m_newSteps m_works m_refusedSteps m_begun m_done m_refusedNow m_now o_m_s m_past m_newBook m_book m_written m_mostBy m_stuffing m_stuffedMany m_lastBy m_leftBy m_splitBy m_seedNow m_image m_images) := by
  refine Mt_of (own := RX10) (by decide) rfl (Nat.le_of_ble_eq_true rfl) rfl (fun Z C E => ?_)
  unfold f_X10_isWalked at h
  show G J Z 0 0 (cs_X10 J.2.2.1 a0 m_thrown m_refused m_taped m_size m_at m_bad m_badKind m_opens m_faultAt m_tape m_newBed m_newLetter m_newReader m_bed m_letter m_reader m_newBeds m_newLetters m_newReaders m_beds m_letters m_readers m_newCode m_newOf m_code m_ofCode m_stack m_newCodes m_codes m_facts m_newStep m_step m_newSteps m_works m_refusedSteps m_begun m_done m_refusedNow m_now m_s m_past m_newBook m_book m_written m_mostBy m_stuffing m_stuffedMany m_lastBy m_leftBy m_splitBy m_seedNow m_image m_images) 3 [(0, .ref (a0 0)), (1, .int n1), (2, .int n2)] 0 []
  refine g_aload_n (pc := 0) C 0 rfl dX10_isWalked_0 ?_
  refine g_get (pc := 1) C FOK_X10 0 rfl rfl 39 (by decide) kw_1316 rfl dX10_isWalked_1 ?_
  refine g_bipush (pc := 4) C dX10_isWalked_4 cb_90 ?_
  refine g_iload_n (pc := 6) C 1 rfl dX10_isWalked_6 ?_
  refine g_iadd (pc := 7) C dX10_isWalked_7 ?_
  obtain ⟨hi, h⟩ := ix_of h
  refine g_iald (pc := 8) C 18 rfl hi dX10_isWalked_8 ?_
  refine g_iload_n (pc := 9) C 2 rfl dX10_isWalked_9 ?_
  refine g_icmp_ne (pc := 10) C (tgt := 15) dX10_isWalked_10 rfl h (fun h => ?_) (fun h => ?_)
  · refine g_aload_n (pc := 15) C 0 rfl dX10_isWalked_15 ?_
    refine g_get (pc := 16) C FOK_X10 0 rfl rfl 39 (by decide) kw_1316 rfl dX10_isWalked_16 ?_
    refine g_bipush (pc := 19) C dX10_isWalked_19 cb_90 ?_
    refine g_iload_n (pc := 21) C 1 rfl dX10_isWalked_21 ?_
    refine g_iadd (pc := 22) C dX10_isWalked_22 ?_
    refine g_iload_n (pc := 23) C 2 rfl dX10_isWalked_23 ?_
    obtain ⟨hi, h⟩ := ix_of h
    refine g_iast (pc := 24) C (w' := cs_X10 J.2.2.1 a0 m_thrown m_refused m_taped m_size m_at m_bad m_badKind m_opens m_faultAt m_tape m_newBed m_newLetter m_newReader m_bed m_letter m_reader m_newBeds m_newLetters m_newReaders m_beds m_letters m_readers m_newCode m_newOf m_code m_ofCode m_stack m_newCodes m_codes m_facts m_newStep m_step m_newSteps m_works m_refusedSteps m_begun m_done m_refusedNow m_now (upd m_s (90 + n1).toNatClampNeg n2) m_past m_newBook m_book m_written m_mostBy m_stuffing m_stuffedMany m_lastBy m_leftBy m_splitBy m_seedNow m_image m_images) 18 rfl hi dX10_isWalked_24 rfl ?_
    refine g_aload_n (pc := 25) C 0 rfl dX10_isWalked_25 ?_
    refine g_get (pc := 26) C FOK_X10 0 rfl rfl 39 (by decide) kw_1316 rfl dX10_isWalked_26 ?_
    refine g_bipush (pc := 29) C dX10_isWalked_29 cb_95 ?_
    refine g_iload_n (pc := 31) C 1 rfl dX10_isWalked_31 ?_
    refine g_iadd (pc := 32) C dX10_isWalked_32 ?_
    refine g_dup2 (pc := 33) C dX10_isWalked_33 rfl rfl ?_
    obtain ⟨hi, h⟩ := ix_of h
    refine g_iald (pc := 34) C 18 rfl hi dX10_isWalked_34 ?_
    refine g_aload_n (pc := 35) C 0 rfl dX10_isWalked_35 ?_
    refine g_iload_n (pc := 36) C 2 rfl dX10_isWalked_36 ?_
    obtain ⟨v1, hc, h⟩ := b1_of h
    refine g_callV (pc := 37) C (w' := cs_X10 J.2.2.1 a0 m_thrown m_refused m_taped m_size m_at m_bad m_badKind m_opens m_faultAt m_tape m_newBed m_newLetter m_newReader m_bed m_letter m_reader m_newBeds m_newLetters m_newReaders m_beds m_letters m_readers m_newCode m_newOf m_code m_ofCode m_stack m_newCodes m_codes m_facts m_newStep m_step m_newSteps m_works m_refusedSteps m_begun m_done m_refusedNow m_now (upd m_s (90 + n1).toNatClampNeg n2) m_past m_newBook m_book m_written m_mostBy m_stuffing m_stuffedMany m_lastBy m_leftBy m_splitBy m_seedNow m_image m_images) (As := [.int n2]) (st := [.int ((upd m_s (90 + n1).toNatClampNeg n2) (95 + n1).toNatClampNeg), .int (95 + n1), .ref (a0 18)]) (ci := 10) (q0 := 0) rfl rfl (t_X10_wordsIn (a0 := a0) hc) Sub.same kw_1631 kw_1633 kw_55 kw_95 hy_X10_wordsIn kw_1634 rfl (Nat.le_of_ble_eq_true rfl) (Nat.le_of_ble_eq_true rfl) (Nat.le_of_ble_eq_true rfl) (Nat.le_of_ble_eq_true rfl) (Nat.le_of_ble_eq_true rfl) dX10_isWalked_37 ?_
    refine g_ior (pc := 40) C dX10_isWalked_40 ?_
    obtain ⟨hi, h⟩ := ix_of h
    refine g_iast (pc := 41) C (w' := cs_X10 J.2.2.1 a0 m_thrown m_refused m_taped m_size m_at m_bad m_badKind m_opens m_faultAt m_tape m_newBed m_newLetter m_newReader m_bed m_letter m_reader m_newBeds m_newLetters m_newReaders m_beds m_letters m_readers m_newCode m_newOf m_code m_ofCode m_stack m_newCodes m_codes m_facts m_newStep m_step m_newSteps m_works m_refusedSteps m_begun m_done m_refusedNow m_now (upd (upd m_s (90 + n1).toNatClampNeg n2) (95 + n1).toNatClampNeg (((upd m_s (90 + n1).toNatClampNeg n2) (95 + n1).toNatClampNeg) ||| v1)) m_past m_newBook m_book m_written m_mostBy m_stuffing m_stuffedMany m_lastBy m_leftBy m_splitBy m_seedNow m_image m_images) 18 rfl hi dX10_isWalked_41 rfl ?_
    refine g_iconst (pc := 42) C dX10_isWalked_42 ci_1 ?_
    cases h
    exact g_zret C rfl E dX10_isWalked_43
  · refine g_iconst (pc := 13) C dX10_isWalked_13 ci_0 ?_
    cases h
    exact g_zret C rfl E dX10_isWalked_14
noncomputable def f_X10_grows_59  (n1 : Int32) (m_s : Nat → Int32) : Option ((Nat → Int32)) := if ixb 160 165 then if ixb (100 + (m_s (160 : Int32).toNatClampNeg)) 165 then if ixb 160 165 then if ixb 160 165 then some (upd (upd m_s (100 + (m_s (160 : Int32).toNatClampNeg)).toNatClampNeg n1) (160 : Int32).toNatClampNeg (((upd m_s (100 + (m_s (160 : Int32).toNatClampNeg)).toNatClampNeg n1) (160 : Int32).toNatClampNeg) + 1)) else none else none else none else none
noncomputable def f_X10_grows_15  (n1 : Int32) : Nat → Int32 → (Nat → Int32) → Option ((Nat → Int32))
  | 0, _, _ => none
  | n + 1, x2, m_s => if 60 ≤ x2 then if ixb 160 165 then if ixb 160 165 then f_X10_grows_59 n1 (upd m_s (160 : Int32).toNatClampNeg ((m_s (160 : Int32).toNatClampNeg) - 1)) else none else none else if ixb (100 + x2) 165 then if ixb ((100 + x2) - 1) 165 then f_X10_grows_15 n1 n (x2 + 1) (upd m_s ((100 + x2) - 1).toNatClampNeg (m_s (100 + x2).toNatClampNeg)) else none else none
noncomputable def f_X10_grows (m_s : Nat → Int32) (n1 : Int32) : Option ((Nat → Int32)) := if ixb 160 165 then if (m_s (160 : Int32).toNatClampNeg) = 60 then f_X10_grows_15 n1 FU 1 m_s else f_X10_grows_59 n1 m_s else none
def rm_X10_grows : Room := { frames := 0, cells := 0, slots := 0, locals := 0 }
set_option maxRecDepth 100000 in
set_option maxHeartbeats 4000000 in
theorem j_X10_grows_59 {J : Jt} {Z : Zt} {a0 : Nat → Nat} {m_thrown : Int32} {m_refused : Nat → Int32} {m_taped : Int32} {m_size : Int32} {m_at : Int32} {m_bad : Int32} {m_badKind : Int32} {m_opens : Int32} {m_faultAt : Int32} {m_tape : Nat → Int32} {m_newBed : Nat → Int32} {m_newLetter : Nat → Int32} {m_newReader : Nat → Int32} {m_bed : Nat → Int32} {m_letter : Nat → Int32} {m_reader : Nat → Int32} {m_newBeds : Int32} {m_newLetters : Int32} {m_newReaders : Int32} {m_beds : Int32} {m_letters : Int32} {m_readers : Int32} {m_newCode : Nat → Int32} {m_newOf : Nat → Int32} {m_code : Nat → Int32} {m_ofCode : Nat → Int32} {m_stack : Nat → Int32} {m_newCodes : Int32} {m_codes : Int32} {m_facts : Nat → Int32} {m_newStep : Nat → Int32} {m_step : Nat → Int32} {m_newSteps : Int32} {m_works : Int32} {m_refusedSteps : Int32} {m_begun : Int32} {m_done : Int32} {m_refusedNow : Int32} {m_now : Nat → Int32} {m_past : Nat → Int32} {m_newBook : Nat → Int32} {m_book : Nat → Int32} {m_written : Int32} {m_mostBy : Nat → Int32} {m_stuffing : Nat → Int32} {m_stuffedMany : Int32} {m_lastBy : Nat → Int32} {m_leftBy : Nat → Int32} {m_splitBy : Nat → Int64} {m_seedNow : Int32} {m_image : Nat → Int32} {m_images : Int32} {n1 : Int32} {o_m_s : Nat → Int32} (C : Cx J Z cX10_grows 3 RX10 none rm_X10_grows) (E : Ez J Z 0 0 none (cs_X10 J.2.2.1 a0 m_thrown m_refused m_taped m_size m_at m_bad m_badKind m_opens m_faultAt m_tape m_newBed m_newLetter m_newReader m_bed m_letter m_reader m_newBeds m_newLetters m_newReaders m_beds m_letters m_readers m_newCode m_newOf m_code m_ofCode m_stack m_newCodes m_codes m_facts m_newStep m_step m_newSteps m_works m_refusedSteps m_begun m_done m_refusedNow m_now o_m_s m_past m_newBook m_book m_written m_mostBy m_stuffing m_stuffedMany m_lastBy m_leftBy m_splitBy m_seedNow m_image m_images)) : ∀ (m_s : Nat → Int32), f_X10_grows_59 n1 m_s = some o_m_s → G J Z 0 0 (cs_X10 J.2.2.1 a0 m_thrown m_refused m_taped m_size m_at m_bad m_badKind m_opens m_faultAt m_tape m_newBed m_newLetter m_newReader m_bed m_letter m_reader m_newBeds m_newLetters m_newReaders m_beds m_letters m_readers m_newCode m_newOf m_code m_ofCode m_stack m_newCodes m_codes m_facts m_newStep m_step m_newSteps m_works m_refusedSteps m_begun m_done m_refusedNow m_now m_s m_past m_newBook m_book m_written m_mostBy m_stuffing m_stuffedMany m_lastBy m_leftBy m_splitBy m_seedNow m_image m_images) 3 [(0, .ref (a0 0)), (1, .int n1)] 59 [] := by
  intro m_s h
  unfold f_X10_grows_59 at h
  refine g_aload_n (pc := 59) C 0 rfl dX10_grows_59 ?_
  refine g_get (pc := 60) C FOK_X10 0 rfl rfl 39 (by decide) kw_1316 rfl dX10_grows_60 ?_
  refine g_bipush (pc := 63) C dX10_grows_63 cb_100 ?_
  refine g_aload_n (pc := 65) C 0 rfl dX10_grows_65 ?_
  refine g_get (pc := 66) C FOK_X10 0 rfl rfl 39 (by decide) kw_1316 rfl dX10_grows_66 ?_
  refine g_sipush (pc := 69) C dX10_grows_69 cs_160 ?_
  obtain ⟨hi, h⟩ := ix_of h
  refine g_iald (pc := 72) C 18 rfl hi dX10_grows_72 ?_
  refine g_iadd (pc := 73) C dX10_grows_73 ?_
  refine g_iload_n (pc := 74) C 1 rfl dX10_grows_74 ?_
  obtain ⟨hi, h⟩ := ix_of h
  refine g_iast (pc := 75) C (w' := cs_X10 J.2.2.1 a0 m_thrown m_refused m_taped m_size m_at m_bad m_badKind m_opens m_faultAt m_tape m_newBed m_newLetter m_newReader m_bed m_letter m_reader m_newBeds m_newLetters m_newReaders m_beds m_letters m_readers m_newCode m_newOf m_code m_ofCode m_stack m_newCodes m_codes m_facts m_newStep m_step m_newSteps m_works m_refusedSteps m_begun m_done m_refusedNow m_now (upd m_s (100 + (m_s (160 : Int32).toNatClampNeg)).toNatClampNeg n1) m_past m_newBook m_book m_written m_mostBy m_stuffing m_stuffedMany m_lastBy m_leftBy m_splitBy m_seedNow m_image m_images) 18 rfl hi dX10_grows_75 rfl ?_
  refine g_aload_n (pc := 76) C 0 rfl dX10_grows_76 ?_
  refine g_get (pc := 77) C FOK_X10 0 rfl rfl 39 (by decide) kw_1316 rfl dX10_grows_77 ?_
  refine g_sipush (pc := 80) C dX10_grows_80 cs_160 ?_
  refine g_dup2 (pc := 83) C dX10_grows_83 rfl rfl ?_
  obtain ⟨hi, h⟩ := ix_of h
  refine g_iald (pc := 84) C 18 rfl hi dX10_grows_84 ?_
  refine g_iconst (pc := 85) C dX10_grows_85 ci_1 ?_
  refine g_iadd (pc := 86) C dX10_grows_86 ?_
  obtain ⟨hi, h⟩ := ix_of h
  refine g_iast (pc := 87) C (w' := cs_X10 J.2.2.1 a0 m_thrown m_refused m_taped m_size m_at m_bad m_badKind m_opens m_faultAt m_tape m_newBed m_newLetter m_newReader m_bed m_letter m_reader m_newBeds m_newLetters m_newReaders m_beds m_letters m_readers m_newCode m_newOf m_code m_ofCode m_stack m_newCodes m_codes m_facts m_newStep m_step m_newSteps m_works m_refusedSteps m_begun m_done m_refusedNow m_now (upd (upd m_s (100 + (m_s (160 : Int32).toNatClampNeg)).toNatClampNeg n1) (160 : Int32).toNatClampNeg (((upd m_s (100 + (m_s (160 : Int32).toNatClampNeg)).toNatClampNeg n1) (160 : Int32).toNatClampNeg) + 1)) m_past m_newBook m_book m_written m_mostBy m_stuffing m_stuffedMany m_lastBy m_leftBy m_splitBy m_seedNow m_image m_images) 18 rfl hi dX10_grows_87 rfl ?_
  cases h
  exact g_vret C E dX10_grows_88
set_option maxRecDepth 100000 in
set_option maxHeartbeats 4000000 in
theorem j_X10_grows_15 {J : Jt} {Z : Zt} {a0 : Nat → Nat} {m_thrown : Int32} {m_refused : Nat → Int32} {m_taped : Int32} {m_size : Int32} {m_at : Int32} {m_bad : Int32} {m_badKind : Int32} {m_opens : Int32} {m_faultAt : Int32} {m_tape : Nat → Int32} {m_newBed : Nat → Int32} {m_newLetter : Nat → Int32} {m_newReader : Nat → Int32} {m_bed : Nat → Int32} {m_letter : Nat → Int32} {m_reader : Nat → Int32} {m_newBeds : Int32} {m_newLetters : Int32} {m_newReaders : Int32} {m_beds : Int32} {m_letters : Int32} {m_readers : Int32} {m_newCode : Nat → Int32} {m_newOf : Nat → Int32} {m_code : Nat → Int32} {m_ofCode : Nat → Int32} {m_stack : Nat → Int32} {m_newCodes : Int32} {m_codes : Int32} {m_facts : Nat → Int32} {m_newStep : Nat → Int32} {m_step : Nat → Int32} {m_newSteps : Int32} {m_works : Int32} {m_refusedSteps : Int32} {m_begun : Int32} {m_done : Int32} {m_refusedNow : Int32} {m_now : Nat → Int32} {m_past : Nat → Int32} {m_newBook : Nat → Int32} {m_book : Nat → Int32} {m_written : Int32} {m_mostBy : Nat → Int32} {m_stuffing : Nat → Int32} {m_stuffedMany : Int32} {m_lastBy : Nat → Int32} {m_leftBy : Nat → Int32} {m_splitBy : Nat → Int64} {m_seedNow : Int32} {m_image : Nat → Int32} {m_images : Int32} {n1 : Int32} {o_m_s : Nat → Int32} (C : Cx J Z cX10_grows 3 RX10 none rm_X10_grows) (E : Ez J Z 0 0 none (cs_X10 J.2.2.1 a0 m_thrown m_refused m_taped m_size m_at m_bad m_badKind m_opens m_faultAt m_tape m_newBed m_newLetter m_newReader m_bed m_letter m_reader m_newBeds m_newLetters m_newReaders m_beds m_letters m_readers m_newCode m_newOf m_code m_ofCode m_stack m_newCodes m_codes m_facts m_newStep m_step m_newSteps m_works m_refusedSteps m_begun m_done m_refusedNow m_now o_m_s m_past m_newBook m_book m_written m_mostBy m_stuffing m_stuffedMany m_lastBy m_leftBy m_splitBy m_seedNow m_image m_images)) : ∀ (n : Nat) (x2 : Int32) (m_s : Nat → Int32), f_X10_grows_15 n1 n x2 m_s = some o_m_s → G J Z 0 0 (cs_X10 J.2.2.1 a0 m_thrown m_refused m_taped m_size m_at m_bad m_badKind m_opens m_faultAt m_tape m_newBed m_newLetter m_newReader m_bed m_letter m_reader m_newBeds m_newLetters m_newReaders m_beds m_letters m_readers m_newCode m_newOf m_code m_ofCode m_stack m_newCodes m_codes m_facts m_newStep m_step m_newSteps m_works m_refusedSteps m_begun m_done m_refusedNow m_now m_s m_past m_newBook m_book m_written m_mostBy m_stuffing m_stuffedMany m_lastBy m_leftBy m_splitBy m_seedNow m_image m_images) 3 [(0, .ref (a0 0)), (1, .int n1), (2, .int x2)] 15 [] := by
  intro n
  induction n with
  | zero =>
    intro x2 m_s h
    rw [f_X10_grows_15] at h
    cases h
  | succ n ih =>
    intro x2 m_s h
    rw [f_X10_grows_15] at h
    refine g_iload_n (pc := 15) C 2 rfl dX10_grows_15 ?_
    refine g_bipush (pc := 16) C dX10_grows_16 cb_60 ?_
    refine g_icmp_ge (pc := 18) C (tgt := 47) dX10_grows_18 rfl h (fun h => ?_) (fun h => ?_)
    · refine g_aload_n (pc := 47) C 0 rfl dX10_grows_47 ?_
      refine g_get (pc := 48) C FOK_X10 0 rfl rfl 39 (by decide) kw_1316 rfl dX10_grows_48 ?_
      refine g_sipush (pc := 51) C dX10_grows_51 cs_160 ?_
      refine g_dup2 (pc := 54) C dX10_grows_54 rfl rfl ?_
      obtain ⟨hi, h⟩ := ix_of h
      refine g_iald (pc := 55) C 18 rfl hi dX10_grows_55 ?_
      refine g_iconst (pc := 56) C dX10_grows_56 ci_1 ?_
      refine g_isub (pc := 57) C dX10_grows_57 ?_
      obtain ⟨hi, h⟩ := ix_of h
      refine g_iast (pc := 58) C (w' := cs_X10 J.2.2.1 a0 m_thrown m_refused m_taped m_size m_at m_bad m_badKind m_opens m_faultAt m_tape m_newBed m_newLetter m_newReader m_bed m_letter m_reader m_newBeds m_newLetters m_newReaders m_beds m_letters m_readers m_newCode m_newOf m_code m_ofCode m_stack m_newCodes m_codes m_facts m_newStep m_step m_newSteps m_works m_refusedSteps m_begun m_done m_refusedNow m_now (upd m_s (160 : Int32).toNatClampNeg ((m_s (160 : Int32).toNatClampNeg) - 1)) m_past m_newBook m_book m_written m_mostBy m_stuffing m_stuffedMany m_lastBy m_leftBy m_splitBy m_seedNow m_image m_images) 18 rfl hi dX10_grows_58 rfl ?_
      refine g_lv [0, 1] rfl ?_
      exact j_X10_grows_59 C E  (upd m_s (160 : Int32).toNatClampNeg ((m_s (160 : Int32).toNatClampNeg) - 1)) h
    · refine g_aload_n (pc := 21) C 0 rfl dX10_grows_21 ?_
      refine g_get (pc := 22) C FOK_X10 0 rfl rfl 39 (by decide) kw_1316 rfl dX10_grows_22 ?_
      refine g_bipush (pc := 25) C dX10_grows_25 cb_100 ?_
      refine g_iload_n (pc := 27) C 2 rfl dX10_grows_27 ?_
      refine g_iadd (pc := 28) C dX10_grows_28 ?_
      refine g_iconst (pc := 29) C dX10_grows_29 ci_1 ?_
      refine g_isub (pc := 30) C dX10_grows_30 ?_
      refine g_aload_n (pc := 31) C 0 rfl dX10_grows_31 ?_
      refine g_get (pc := 32) C FOK_X10 0 rfl rfl 39 (by decide) kw_1316 rfl dX10_grows_32 ?_
      refine g_bipush (pc := 35) C dX10_grows_35 cb_100 ?_
      refine g_iload_n (pc := 37) C 2 rfl dX10_grows_37 ?_
      refine g_iadd (pc := 38) C dX10_grows_38 ?_
      obtain ⟨hi, h⟩ := ix_of h
      refine g_iald (pc := 39) C 18 rfl hi dX10_grows_39 ?_
      obtain ⟨hi, h⟩ := ix_of h
      refine g_iast (pc := 40) C (w' := cs_X10 J.2.2.1 a0 m_thrown m_refused m_taped m_size m_at m_bad m_badKind m_opens m_faultAt m_tape m_newBed m_newLetter m_newReader m_bed m_letter m_reader m_newBeds m_newLetters m_newReaders m_beds m_letters m_readers m_newCode m_newOf m_code m_ofCode m_stack m_newCodes m_codes m_facts m_newStep m_step m_newSteps m_works m_refusedSteps m_begun m_done m_refusedNow m_now (upd m_s ((100 + x2) - 1).toNatClampNeg (m_s (100 + x2).toNatClampNeg)) m_past m_newBook m_book m_written m_mostBy m_stuffing m_stuffedMany m_lastBy m_leftBy m_splitBy m_seedNow m_image m_images) 18 rfl hi dX10_grows_40 rfl ?_
      refine g_iinc (pc := 41) C (j := 2) [(2, .int (x2 + 1)), (0, .ref (a0 0)), (1, .int n1)] dX10_grows_41 rfl (ii_1 _) (by decide) rfl ?_
      refine g_goto (pc := 44) C (tgt := 15) dX10_grows_44 rfl ?_
      refine g_lv [1, 2, 0] rfl ?_
      exact ih (x2 + 1) (upd m_s ((100 + x2) - 1).toNatClampNeg (m_s (100 + x2).toNatClampNeg)) h
set_option maxRecDepth 100000 in
set_option maxHeartbeats 4000000 in
theorem t_X10_grows {J : Jt} {a0 : Nat → Nat} {m_thrown : Int32} {m_refused : Nat → Int32} {m_taped : Int32} {m_size : Int32} {m_at : Int32} {m_bad : Int32} {m_badKind : Int32} {m_opens : Int32} {m_faultAt : Int32} {m_tape : Nat → Int32} {m_newBed : Nat → Int32} {m_newLetter : Nat → Int32} {m_newReader : Nat → Int32} {m_bed : Nat → Int32} {m_letter : Nat → Int32} {m_reader : Nat → Int32} {m_newBeds : Int32} {m_newLetters : Int32} {m_newReaders : Int32} {m_beds : Int32} {m_letters : Int32} {m_readers : Int32} {m_newCode : Nat → Int32} {m_newOf : Nat → Int32} {m_code : Nat → Int32} {m_ofCode : Nat → Int32} {m_stack : Nat → Int32} {m_newCodes : Int32} {m_codes : Int32} {m_facts : Nat → Int32} {m_newStep : Nat → Int32} {m_step : Nat → Int32} {m_newSteps : Int32} {m_works : Int32} {m_refusedSteps : Int32} {m_begun : Int32} {m_done : Int32} {m_refusedNow : Int32} {m_now : Nat → Int32} {m_s : Nat → Int32} {m_past : Nat → Int32} {m_newBook : Nat → Int32} {m_book : Nat → Int32} {m_written : Int32} {m_mostBy : Nat → Int32} {m_stuffing : Nat → Int32} {m_stuffedMany : Int32} {m_lastBy : Nat → Int32} {m_leftBy : Nat → Int32} {m_splitBy : Nat → Int64} {m_seedNow : Int32} {m_image : Nat → Int32} {m_images : Int32} {n1 : Int32} {o_m_s : Nat → Int32} (h : f_X10_grows m_s n1 = some o_m_s) : Mt J yX10_grows cX10_grows 3 none rm_X10_grows [.ref (a0 0), .int n1] (cs_X10 J.2.2.1 a0 m_thrown m_refused m_taped m_size m_at m_bad m_badKind m_opens m_faultAt m_tape m_newBed m_newLetter m_newReader m_bed m_letter m_reader m_newBeds m_newLetters m_newReaders m_beds m_letters m_readers m_newCode m_newOf m_code m_ofCode m_stack m_newCodes m_codes m_facts m_newStep m_step m_newSteps m_works m_refusedSteps m_begun m_done m_refusedNow m_now m_s m_past m_newBook m_book m_written m_mostBy m_stuffing m_stuffedMany m_lastBy m_leftBy m_splitBy m_seedNow m_image m_images) none (cs_X10 J.2.2.1 a0 m_thrown m_refused m_taped m_size m_at m_bad m_badKind m_opens m_faultAt m_tape m_newBed m_newLetter m_newReader m_bed m_letter m_reader m_newBeds m_newLetters m_newReaders m_beds m_letters m_readers m_newCode m_newOf m_code m_ofCode m_stack m_newCodes m_codes m_facts m_newStep m_step m_newSteps m_works m_refusedSteps m_begun m_done m_refusedNow m_now o_m_s m_past m_newBook m_book m_written m_mostBy m_stuffing m_stuffedMany m_lastBy m_leftBy m_splitBy m_seedNow m_image m_images) := by
  refine Mt_of (own := RX10) (by decide) rfl (Nat.le_of_ble_eq_true rfl) rfl (fun Z C E => ?_)
  unfold f_X10_grows at h
  show G J Z 0 0 (cs_X10 J.2.2.1 a0 m_thrown m_refused m_taped m_size m_at m_bad m_badKind m_opens m_faultAt m_tape m_newBed m_newLetter m_newReader m_bed m_letter m_reader m_newBeds m_newLetters m_newReaders m_beds m_letters m_readers m_newCode m_newOf m_code m_ofCode m_stack m_newCodes m_codes m_facts m_newStep m_step m_newSteps m_works m_refusedSteps m_begun m_done m_refusedNow m_now m_s m_past m_newBook m_book m_written m_mostBy m_stuffing m_stuffedMany m_lastBy m_leftBy m_splitBy m_seedNow m_image m_images) 3 [(0, .ref (a0 0)), (1, .int n1)] 0 []
  refine g_aload_n (pc := 0) C 0 rfl dX10_grows_0 ?_
  refine g_get (pc := 1) C FOK_X10 0 rfl rfl 39 (by decide) kw_1316 rfl dX10_grows_1 ?_
  refine g_sipush (pc := 4) C dX10_grows_4 cs_160 ?_
  obtain ⟨hi, h⟩ := ix_of h
  refine g_iald (pc := 7) C 18 rfl hi dX10_grows_7 ?_
  refine g_bipush (pc := 8) C dX10_grows_8 cb_60 ?_
  refine g_icmp_ne (pc := 10) C (tgt := 59) dX10_grows_10 rfl h (fun h => ?_) (fun h => ?_)
  · exact j_X10_grows_59 C E  m_s h
  · refine g_iconst (pc := 13) C dX10_grows_13 ci_1 ?_
    refine g_istore_n (pc := 14) C [(2, .int 1), (0, .ref (a0 0)), (1, .int n1)] dX10_grows_14 rfl (by decide) rfl ?_
    refine g_lv [1, 2, 0] rfl ?_
    exact j_X10_grows_15 C E  FU 1 m_s h
noncomputable def f_X10_passes_56 (m_beds : Int32) (k2 : Int32 → (Nat → Int32) → Option ((Nat → Int32))) : Nat → Int32 → Int32 → (Nat → Int32) → Option ((Nat → Int32))
  | 0, _, _, _ => none
  | n + 1, x1, x2, m_s => if ixb (84 + x1) 165 then if (m_s (84 + x1).toNatClampNeg) ≤ x2 then k2 (x1 + 1) m_s else if ixb (((12 + (12 * x1)) + x2) + 1) 165 then if ixb ((12 + (12 * x1)) + x2) 165 then f_X10_passes_56 m_beds k2 n x1 (x2 + 1) (upd m_s ((12 + (12 * x1)) + x2).toNatClampNeg (m_s (((12 + (12 * x1)) + x2) + 1).toNatClampNeg)) else none else none else none
noncomputable def f_X10_passes_2 (m_beds : Int32) : Nat → Int32 → (Nat → Int32) → Option ((Nat → Int32))
  | 0, _, _ => none
  | n + 1, x1, m_s => if m_beds ≤ x1 then if ixb 161 165 then if ixb 161 165 then if ixb 164 165 then if ixb 164 165 then some (upd (upd m_s (161 : Int32).toNatClampNeg ((m_s (161 : Int32).toNatClampNeg) / 2)) (164 : Int32).toNatClampNeg (((upd m_s (161 : Int32).toNatClampNeg ((m_s (161 : Int32).toNatClampNeg) / 2)) (164 : Int32).toNatClampNeg) + 1)) else none else none else none else none else if ixb (84 + x1) 165 then if (m_s (84 + x1).toNatClampNeg) = 0 then f_X10_passes_2 m_beds n (x1 + 1) m_s else if ixb (12 + (12 * x1)) 165 then b1 (f_X10_grows m_s (m_s (12 + (12 * x1)).toNatClampNeg)) (fun c1 => if ixb (84 + x1) 165 then if ixb (84 + x1) 165 then f_X10_passes_56 m_beds (f_X10_passes_2 m_beds n) FU x1 0 (upd c1 (84 + x1).toNatClampNeg ((c1 (84 + x1).toNatClampNeg) - 1)) else none else none) else none else none
noncomputable def f_X10_passes (m_beds : Int32) (m_s : Nat → Int32) : Option ((Nat → Int32)) := f_X10_passes_2 m_beds FU 0 m_s
def rm_X10_passes : Room := { frames := 1, cells := 0, slots := 0, locals := 22 }
set_option maxRecDepth 100000 in
set_option maxHeartbeats 4000000 in
theorem j_X10_passes_56 {J : Jt} {Z : Zt} {a0 : Nat → Nat} {m_thrown : Int32} {m_refused : Nat → Int32} {m_taped : Int32} {m_size : Int32} {m_at : Int32} {m_bad : Int32} {m_badKind : Int32} {m_opens : Int32} {m_faultAt : Int32} {m_tape : Nat → Int32} {m_newBed : Nat → Int32} {m_newLetter : Nat → Int32} {m_newReader : Nat → Int32} {m_bed : Nat → Int32} {m_letter : Nat → Int32} {m_reader : Nat → Int32} {m_newBeds : Int32} {m_newLetters : Int32} {m_newReaders : Int32} {m_beds : Int32} {m_letters : Int32} {m_readers : Int32} {m_newCode : Nat → Int32} {m_newOf : Nat → Int32} {m_code : Nat → Int32} {m_ofCode : Nat → Int32} {m_stack : Nat → Int32} {m_newCodes : Int32} {m_codes : Int32} {m_facts : Nat → Int32} {m_newStep : Nat → Int32} {m_step : Nat → Int32} {m_newSteps : Int32} {m_works : Int32} {m_refusedSteps : Int32} {m_begun : Int32} {m_done : Int32} {m_refusedNow : Int32} {m_now : Nat → Int32} {m_past : Nat → Int32} {m_newBook : Nat → Int32} {m_book : Nat → Int32} {m_written : Int32} {m_mostBy : Nat → Int32} {m_stuffing : Nat → Int32} {m_stuffedMany : Int32} {m_lastBy : Nat → Int32} {m_leftBy : Nat → Int32} {m_splitBy : Nat → Int64} {m_seedNow : Int32} {m_image : Nat → Int32} {m_images : Int32} {o_m_s : Nat → Int32} {k2 : Int32 → (Nat → Int32) → Option ((Nat → Int32))} (C : Cx J Z cX10_passes 3 RX10 none rm_X10_passes) (E : Ez J Z 0 0 none (cs_X10 J.2.2.1 a0 m_thrown m_refused m_taped m_size m_at m_bad m_badKind m_opens m_faultAt m_tape m_newBed m_newLetter m_newReader m_bed m_letter m_reader m_newBeds m_newLetters m_newReaders m_beds m_letters m_readers m_newCode m_newOf m_code m_ofCode m_stack m_newCodes m_codes m_facts m_newStep m_step m_newSteps m_works m_refusedSteps m_begun m_done m_refusedNow m_now o_m_s m_past m_newBook m_book m_written m_mostBy m_stuffing m_stuffedMany m_lastBy m_leftBy m_splitBy m_seedNow m_image m_images)) (hk2 : ∀ (x1 : Int32) (m_s : Nat → Int32), k2 x1 m_s = some o_m_s → G J Z 0 0 (cs_X10 J.2.2.1 a0 m_thrown m_refused m_taped m_size m_at m_bad m_badKind m_opens m_faultAt m_tape m_newBed m_newLetter m_newReader m_bed m_letter m_reader m_newBeds m_newLetters m_newReaders m_beds m_letters m_readers m_newCode m_newOf m_code m_ofCode m_stack m_newCodes m_codes m_facts m_newStep m_step m_newSteps m_works m_refusedSteps m_begun m_done m_refusedNow m_now m_s m_past m_newBook m_book m_written m_mostBy m_stuffing m_stuffedMany m_lastBy m_leftBy m_splitBy m_seedNow m_image m_images) 3 [(0, .ref (a0 0)), (1, .int x1)] 2 []) : ∀ (n : Nat) (x1 : Int32) (x2 : Int32) (m_s : Nat → Int32), f_X10_passes_56 m_beds k2 n x1 x2 m_s = some o_m_s → G J Z 0 0 (cs_X10 J.2.2.1 a0 m_thrown m_refused m_taped m_size m_at m_bad m_badKind m_opens m_faultAt m_tape m_newBed m_newLetter m_newReader m_bed m_letter m_reader m_newBeds m_newLetters m_newReaders m_beds m_letters m_readers m_newCode m_newOf m_code m_ofCode m_stack m_newCodes m_codes m_facts m_newStep m_step m_newSteps m_works m_refusedSteps m_begun m_done m_refusedNow m_now m_s m_past m_newBook m_book m_written m_mostBy m_stuffing m_stuffedMany m_lastBy m_leftBy m_splitBy m_seedNow m_image m_images) 3 [(0, .ref (a0 0)), (1, .int x1), (2, .int x2)] 56 [] := by
  intro n
  induction n with
  | zero =>
    intro x1 x2 m_s h
    rw [f_X10_passes_56] at h
    cases h
  | succ n ih =>
    intro x1 x2 m_s h
    rw [f_X10_passes_56] at h
    refine g_iload_n (pc := 56) C 2 rfl dX10_passes_56 ?_
    refine g_aload_n (pc := 57) C 0 rfl dX10_passes_57 ?_
    refine g_get (pc := 58) C FOK_X10 0 rfl rfl 39 (by decide) kw_1316 rfl dX10_passes_58 ?_
    refine g_bipush (pc := 61) C dX10_passes_61 cb_84 ?_
    refine g_iload_n (pc := 63) C 1 rfl dX10_passes_63 ?_
    refine g_iadd (pc := 64) C dX10_passes_64 ?_
    obtain ⟨hi, h⟩ := ix_of h
    refine g_iald (pc := 65) C 18 rfl hi dX10_passes_65 ?_
    refine g_icmp_ge (pc := 66) C (tgt := 105) dX10_passes_66 rfl h (fun h => ?_) (fun h => ?_)
    · refine g_iinc (pc := 105) C (j := 1) [(1, .int (x1 + 1)), (0, .ref (a0 0)), (2, .int x2)] dX10_passes_105 rfl (ii_1 _) (by decide) rfl ?_
      refine g_goto (pc := 108) C (tgt := 2) dX10_passes_108 rfl ?_
      refine g_lv [1, 0] rfl ?_
      exact hk2 (x1 + 1) m_s h
    · refine g_aload_n (pc := 69) C 0 rfl dX10_passes_69 ?_
      refine g_get (pc := 70) C FOK_X10 0 rfl rfl 39 (by decide) kw_1316 rfl dX10_passes_70 ?_
      refine g_bipush (pc := 73) C dX10_passes_73 cb_12 ?_
      refine g_bipush (pc := 75) C dX10_passes_75 cb_12 ?_
      refine g_iload_n (pc := 77) C 1 rfl dX10_passes_77 ?_
      refine g_imul (pc := 78) C dX10_passes_78 ?_
      refine g_iadd (pc := 79) C dX10_passes_79 ?_
      refine g_iload_n (pc := 80) C 2 rfl dX10_passes_80 ?_
      refine g_iadd (pc := 81) C dX10_passes_81 ?_
      refine g_aload_n (pc := 82) C 0 rfl dX10_passes_82 ?_
      refine g_get (pc := 83) C FOK_X10 0 rfl rfl 39 (by decide) kw_1316 rfl dX10_passes_83 ?_
      refine g_bipush (pc := 86) C dX10_passes_86 cb_12 ?_
      refine g_bipush (pc := 88) C dX10_passes_88 cb_12 ?_
      refine g_iload_n (pc := 90) C 1 rfl dX10_passes_90 ?_
      refine g_imul (pc := 91) C dX10_passes_91 ?_
      refine g_iadd (pc := 92) C dX10_passes_92 ?_
      refine g_iload_n (pc := 93) C 2 rfl dX10_passes_93 ?_
      refine g_iadd (pc := 94) C dX10_passes_94 ?_
      refine g_iconst (pc := 95) C dX10_passes_95 ci_1 ?_
      refine g_iadd (pc := 96) C dX10_passes_96 ?_
      obtain ⟨hi, h⟩ := ix_of h
      refine g_iald (pc := 97) C 18 rfl hi dX10_passes_97 ?_
      obtain ⟨hi, h⟩ := ix_of h
      refine g_iast (pc := 98) C (w' := cs_X10 J.2.2.1 a0 m_thrown m_refused m_taped m_size m_at m_bad m_badKind m_opens m_faultAt m_tape m_newBed m_newLetter m_newReader m_bed m_letter m_reader m_newBeds m_newLetters m_newReaders m_beds m_letters m_readers m_newCode m_newOf m_code m_ofCode m_stack m_newCodes m_codes m_facts m_newStep m_step m_newSteps m_works m_refusedSteps m_begun m_done m_refusedNow m_now (upd m_s ((12 + (12 * x1)) + x2).toNatClampNeg (m_s (((12 + (12 * x1)) + x2) + 1).toNatClampNeg)) m_past m_newBook m_book m_written m_mostBy m_stuffing m_stuffedMany m_lastBy m_leftBy m_splitBy m_seedNow m_image m_images) 18 rfl hi dX10_passes_98 rfl ?_
      refine g_iinc (pc := 99) C (j := 2) [(2, .int (x2 + 1)), (0, .ref (a0 0)), (1, .int x1)] dX10_passes_99 rfl (ii_1 _) (by decide) rfl ?_
      refine g_goto (pc := 102) C (tgt := 56) dX10_passes_102 rfl ?_
      refine g_lv [1, 2, 0] rfl ?_
      exact ih x1 (x2 + 1) (upd m_s ((12 + (12 * x1)) + x2).toNatClampNeg (m_s (((12 + (12 * x1)) + x2) + 1).toNatClampNeg)) h
set_option maxRecDepth 100000 in
set_option maxHeartbeats 4000000 in
theorem j_X10_passes_2 {J : Jt} {Z : Zt} {a0 : Nat → Nat} {m_thrown : Int32} {m_refused : Nat → Int32} {m_taped : Int32} {m_size : Int32} {m_at : Int32} {m_bad : Int32} {m_badKind : Int32} {m_opens : Int32} {m_faultAt : Int32} {m_tape : Nat → Int32} {m_newBed : Nat → Int32} {m_newLetter : Nat → Int32} {m_newReader : Nat → Int32} {m_bed : Nat → Int32} {m_letter : Nat → Int32} {m_reader : Nat → Int32} {m_newBeds : Int32} {m_newLetters : Int32} {m_newReaders : Int32} {m_beds : Int32} {m_letters : Int32} {m_readers : Int32} {m_newCode : Nat → Int32} {m_newOf : Nat → Int32} {m_code : Nat → Int32} {m_ofCode : Nat → Int32} {m_stack : Nat → Int32} {m_newCodes : Int32} {m_codes : Int32} {m_facts : Nat → Int32} {m_newStep : Nat → Int32} {m_step : Nat → Int32} {m_newSteps : Int32} {m_works : Int32} {m_refusedSteps : Int32} {m_begun : Int32} {m_done : Int32} {m_refusedNow : Int32} {m_now : Nat → Int32} {m_past : Nat → Int32} {m_newBook : Nat → Int32} {m_book : Nat → Int32} {m_written : Int32} {m_mostBy : Nat → Int32} {m_stuffing : Nat → Int32} {m_stuffedMany : Int32} {m_lastBy : Nat → Int32} {m_leftBy : Nat → Int32} {m_splitBy : Nat → Int64} {m_seedNow : Int32} {m_image : Nat → Int32} {m_images : Int32} {o_m_s : Nat → Int32} (C : Cx J Z cX10_passes 3 RX10 none rm_X10_passes) (E : Ez J Z 0 0 none (cs_X10 J.2.2.1 a0 m_thrown m_refused m_taped m_size m_at m_bad m_badKind m_opens m_faultAt m_tape m_newBed m_newLetter m_newReader m_bed m_letter m_reader m_newBeds m_newLetters m_newReaders m_beds m_letters m_readers m_newCode m_newOf m_code m_ofCode m_stack m_newCodes m_codes m_facts m_newStep m_step m_newSteps m_works m_refusedSteps m_begun m_done m_refusedNow m_now o_m_s m_past m_newBook m_book m_written m_mostBy m_stuffing m_stuffedMany m_lastBy m_leftBy m_splitBy m_seedNow m_image m_images)) : ∀ (n : Nat) (x1 : Int32) (m_s : Nat → Int32), f_X10_passes_2 m_beds n x1 m_s = some o_m_s → G J Z 0 0 (cs_X10 J.2.2.1 a0 m_thrown m_refused m_taped m_size m_at m_bad m_badKind m_opens m_faultAt m_tape m_newBed m_newLetter m_newReader m_bed m_letter m_reader m_newBeds m_newLetters m_newReaders m_beds m_letters m_readers m_newCode m_newOf m_code m_ofCode m_stack m_newCodes m_codes m_facts m_newStep m_step m_newSteps m_works m_refusedSteps m_begun m_done m_refusedNow m_now m_s m_past m_newBook m_book m_written m_mostBy m_stuffing m_stuffedMany m_lastBy m_leftBy m_splitBy m_seedNow m_image m_images) 3 [(0, .ref (a0 0)), (1, .int x1)] 2 [] := by
  intro n
  induction n with
  | zero =>
    intro x1 m_s h
    rw [f_X10_passes_2] at h
    cases h
  | succ n ih =>
    intro x1 m_s h
    rw [f_X10_passes_2] at h
    refine g_iload_n (pc := 2) C 1 rfl dX10_passes_2 ?_
    refine g_aload_n (pc := 3) C 0 rfl dX10_passes_3 ?_
    refine g_get (pc := 4) C FOK_X10 0 rfl rfl 19 (by decide) kw_1296 rfl dX10_passes_4 ?_
    refine g_icmp_ge (pc := 7) C (tgt := 111) dX10_passes_7 rfl h (fun h => ?_) (fun h => ?_)
    · refine g_aload_n (pc := 111) C 0 rfl dX10_passes_111 ?_
      refine g_get (pc := 112) C FOK_X10 0 rfl rfl 39 (by decide) kw_1316 rfl dX10_passes_112 ?_
      refine g_sipush (pc := 115) C dX10_passes_115 cs_161 ?_
      refine g_dup2 (pc := 118) C dX10_passes_118 rfl rfl ?_
      obtain ⟨hi, h⟩ := ix_of h
      refine g_iald (pc := 119) C 18 rfl hi dX10_passes_119 ?_
      refine g_iconst (pc := 120) C dX10_passes_120 ci_2 ?_
      refine g_idiv (pc := 121) C dX10_passes_121 (by decide) ?_
      obtain ⟨hi, h⟩ := ix_of h
      refine g_iast (pc := 122) C (w' := cs_X10 J.2.2.1 a0 m_thrown m_refused m_taped m_size m_at m_bad m_badKind m_opens m_faultAt m_tape m_newBed m_newLetter m_newReader m_bed m_letter m_reader m_newBeds m_newLetters m_newReaders m_beds m_letters m_readers m_newCode m_newOf m_code m_ofCode m_stack m_newCodes m_codes m_facts m_newStep m_step m_newSteps m_works m_refusedSteps m_begun m_done m_refusedNow m_now (upd m_s (161 : Int32).toNatClampNeg ((m_s (161 : Int32).toNatClampNeg) / 2)) m_past m_newBook m_book m_written m_mostBy m_stuffing m_stuffedMany m_lastBy m_leftBy m_splitBy m_seedNow m_image m_images) 18 rfl hi dX10_passes_122 rfl ?_
      refine g_aload_n (pc := 123) C 0 rfl dX10_passes_123 ?_
      refine g_get (pc := 124) C FOK_X10 0 rfl rfl 39 (by decide) kw_1316 rfl dX10_passes_124 ?_
      refine g_sipush (pc := 127) C dX10_passes_127 cs_164 ?_
      refine g_dup2 (pc := 130) C dX10_passes_130 rfl rfl ?_
      obtain ⟨hi, h⟩ := ix_of h
      refine g_iald (pc := 131) C 18 rfl hi dX10_passes_131 ?_
      refine g_iconst (pc := 132) C dX10_passes_132 ci_1 ?_
      refine g_iadd (pc := 133) C dX10_passes_133 ?_
      obtain ⟨hi, h⟩ := ix_of h
      refine g_iast (pc := 134) C (w' := cs_X10 J.2.2.1 a0 m_thrown m_refused m_taped m_size m_at m_bad m_badKind m_opens m_faultAt m_tape m_newBed m_newLetter m_newReader m_bed m_letter m_reader m_newBeds m_newLetters m_newReaders m_beds m_letters m_readers m_newCode m_newOf m_code m_ofCode m_stack m_newCodes m_codes m_facts m_newStep m_step m_newSteps m_works m_refusedSteps m_begun m_done m_refusedNow m_now (upd (upd m_s (161 : Int32).toNatClampNeg ((m_s (161 : Int32).toNatClampNeg) / 2)) (164 : Int32).toNatClampNeg (((upd m_s (161 : Int32).toNatClampNeg ((m_s (161 : Int32).toNatClampNeg) / 2)) (164 : Int32).toNatClampNeg) + 1)) m_past m_newBook m_book m_written m_mostBy m_stuffing m_stuffedMany m_lastBy m_leftBy m_splitBy m_seedNow m_image m_images) 18 rfl hi dX10_passes_134 rfl ?_
      cases h
      exact g_vret C E dX10_passes_135
    · refine g_aload_n (pc := 10) C 0 rfl dX10_passes_10 ?_
      refine g_get (pc := 11) C FOK_X10 0 rfl rfl 39 (by decide) kw_1316 rfl dX10_passes_11 ?_
      refine g_bipush (pc := 14) C dX10_passes_14 cb_84 ?_
      refine g_iload_n (pc := 16) C 1 rfl dX10_passes_16 ?_
      refine g_iadd (pc := 17) C dX10_passes_17 ?_
      obtain ⟨hi, h⟩ := ix_of h
      refine g_iald (pc := 18) C 18 rfl hi dX10_passes_18 ?_
      refine g_if_ne (pc := 19) C (tgt := 25) dX10_passes_19 rfl h (fun h => ?_) (fun h => ?_)
      · refine g_aload_n (pc := 25) C 0 rfl dX10_passes_25 ?_
        refine g_aload_n (pc := 26) C 0 rfl dX10_passes_26 ?_
        refine g_get (pc := 27) C FOK_X10 0 rfl rfl 39 (by decide) kw_1316 rfl dX10_passes_27 ?_
        refine g_bipush (pc := 30) C dX10_passes_30 cb_12 ?_
        refine g_bipush (pc := 32) C dX10_passes_32 cb_12 ?_
        refine g_iload_n (pc := 34) C 1 rfl dX10_passes_34 ?_
        refine g_imul (pc := 35) C dX10_passes_35 ?_
        refine g_iadd (pc := 36) C dX10_passes_36 ?_
        obtain ⟨hi, h⟩ := ix_of h
        refine g_iald (pc := 37) C 18 rfl hi dX10_passes_37 ?_
        obtain ⟨c1, hc, h⟩ := b1_of h
        refine g_callV (pc := 38) C (w' := cs_X10 J.2.2.1 a0 m_thrown m_refused m_taped m_size m_at m_bad m_badKind m_opens m_faultAt m_tape m_newBed m_newLetter m_newReader m_bed m_letter m_reader m_newBeds m_newLetters m_newReaders m_beds m_letters m_readers m_newCode m_newOf m_code m_ofCode m_stack m_newCodes m_codes m_facts m_newStep m_step m_newSteps m_works m_refusedSteps m_begun m_done m_refusedNow m_now c1 m_past m_newBook m_book m_written m_mostBy m_stuffing m_stuffedMany m_lastBy m_leftBy m_splitBy m_seedNow m_image m_images) (As := [.int (m_s (12 + (12 * x1)).toNatClampNeg)]) (st := []) (ci := 10) (q0 := 0) rfl rfl (t_X10_grows (a0 := a0) hc) Sub.same kw_1673 kw_1675 kw_64 kw_95 hy_X10_grows kw_1676 rfl (Nat.le_of_ble_eq_true rfl) (Nat.le_of_ble_eq_true rfl) (Nat.le_of_ble_eq_true rfl) (Nat.le_of_ble_eq_true rfl) (Nat.le_of_ble_eq_true rfl) dX10_passes_38 ?_
        refine g_aload_n (pc := 41) C 0 rfl dX10_passes_41 ?_
        refine g_get (pc := 42) C FOK_X10 0 rfl rfl 39 (by decide) kw_1316 rfl dX10_passes_42 ?_
        refine g_bipush (pc := 45) C dX10_passes_45 cb_84 ?_
        refine g_iload_n (pc := 47) C 1 rfl dX10_passes_47 ?_
        refine g_iadd (pc := 48) C dX10_passes_48 ?_
        refine g_dup2 (pc := 49) C dX10_passes_49 rfl rfl ?_
        obtain ⟨hi, h⟩ := ix_of h
        refine g_iald (pc := 50) C 18 rfl hi dX10_passes_50 ?_
        refine g_iconst (pc := 51) C dX10_passes_51 ci_1 ?_
        refine g_isub (pc := 52) C dX10_passes_52 ?_
        obtain ⟨hi, h⟩ := ix_of h
        refine g_iast (pc := 53) C (w' := cs_X10 J.2.2.1 a0 m_thrown m_refused m_taped m_size m_at m_bad m_badKind m_opens m_faultAt m_tape m_newBed m_newLetter m_newReader m_bed m_letter m_reader m_newBeds m_newLetters m_newReaders m_beds m_letters m_readers m_newCode m_newOf m_code m_ofCode m_stack m_newCodes m_codes m_facts m_newStep m_step m_newSteps m_works m_refusedSteps m_begun m_done m_refusedNow m_now (upd c1 (84 + x1).toNatClampNeg ((c1 (84 + x1).toNatClampNeg) - 1)) m_past m_newBook m_book m_written m_mostBy m_stuffing m_stuffedMany m_lastBy m_leftBy m_splitBy m_seedNow m_image m_images) 18 rfl hi dX10_passes_53 rfl ?_
        refine g_iconst (pc := 54) C dX10_passes_54 ci_0 ?_
        refine g_istore_n (pc := 55) C [(2, .int 0), (0, .ref (a0 0)), (1, .int x1)] dX10_passes_55 rfl (by decide) rfl ?_
        refine g_lv [1, 2, 0] rfl ?_
        exact j_X10_passes_56 C E ih FU x1 0 (upd c1 (84 + x1).toNatClampNeg ((c1 (84 + x1).toNatClampNeg) - 1)) h
      · refine g_goto (pc := 22) C (tgt := 105) dX10_passes_22 rfl ?_
        refine g_iinc (pc := 105) C (j := 1) [(1, .int (x1 + 1)), (0, .ref (a0 0))] dX10_passes_105 rfl (ii_1 _) (by decide) rfl ?_
        refine g_goto (pc := 108) C (tgt := 2) dX10_passes_108 rfl ?_
        refine g_lv [1, 0] rfl ?_
        exact ih (x1 + 1) m_s h
set_option maxRecDepth 100000 in
set_option maxHeartbeats 4000000 in
theorem t_X10_passes {J : Jt} {a0 : Nat → Nat} {m_thrown : Int32} {m_refused : Nat → Int32} {m_taped : Int32} {m_size : Int32} {m_at : Int32} {m_bad : Int32} {m_badKind : Int32} {m_opens : Int32} {m_faultAt : Int32} {m_tape : Nat → Int32} {m_newBed : Nat → Int32} {m_newLetter : Nat → Int32} {m_newReader : Nat → Int32} {m_bed : Nat → Int32} {m_letter : Nat → Int32} {m_reader : Nat → Int32} {m_newBeds : Int32} {m_newLetters : Int32} {m_newReaders : Int32} {m_beds : Int32} {m_letters : Int32} {m_readers : Int32} {m_newCode : Nat → Int32} {m_newOf : Nat → Int32} {m_code : Nat → Int32} {m_ofCode : Nat → Int32} {m_stack : Nat → Int32} {m_newCodes : Int32} {m_codes : Int32} {m_facts : Nat → Int32} {m_newStep : Nat → Int32} {m_step : Nat → Int32} {m_newSteps : Int32} {m_works : Int32} {m_refusedSteps : Int32} {m_begun : Int32} {m_done : Int32} {m_refusedNow : Int32} {m_now : Nat → Int32} {m_s : Nat → Int32} {m_past : Nat → Int32} {m_newBook : Nat → Int32} {m_book : Nat → Int32} {m_written : Int32} {m_mostBy : Nat → Int32} {m_stuffing : Nat → Int32} {m_stuffedMany : Int32} {m_lastBy : Nat → Int32} {m_leftBy : Nat → Int32} {m_splitBy : Nat → Int64} {m_seedNow : Int32} {m_image : Nat → Int32} {m_images : Int32} {o_m_s : Nat → Int32} (h : f_X10_passes m_beds m_s = some o_m_s) : Mt J yX10_passes cX10_passes 3 none rm_X10_passes [.ref (a0 0)] (cs_X10 J.2.2.1 a0 m_thrown m_refused m_taped m_size m_at m_bad m_badKind m_opens m_faultAt m_tape m_newBed m_newLetter m_newReader m_bed m_letter m_reader m_newBeds m_newLetters m_newReaders m_beds m_letters m_readers m_newCode m_newOf m_code m_ofCode m_stack m_newCodes m_codes m_facts m_newStep m_step m_newSteps m_works m_refusedSteps m_begun m_done m_refusedNow m_now m_s m_past m_newBook m_book m_written m_mostBy m_stuffing m_stuffedMany m_lastBy m_leftBy m_splitBy m_seedNow m_image m_images) none (cs_X10 J.2.2.1 a0 m_thrown m_refused m_taped m_size m_at m_bad m_badKind m_opens m_faultAt m_tape m_newBed m_newLetter m_newReader m_bed m_letter m_reader m_newBeds m_newLetters m_newReaders m_beds m_letters m_readers m_newCode m_newOf m_code m_ofCode m_stack m_newCodes m_codes m_facts m_newStep m_step m_newSteps m_works m_refusedSteps m_begun m_done m_refusedNow m_now o_m_s m_past m_newBook m_book m_written m_mostBy m_stuffing m_stuffedMany m_lastBy m_leftBy m_splitBy m_seedNow m_image m_images) := by
  refine Mt_of (own := RX10) (by decide) rfl (Nat.le_of_ble_eq_true rfl) rfl (fun Z C E => ?_)
  unfold f_X10_passes at h
  show G J Z 0 0 (cs_X10 J.2.2.1 a0 m_thrown m_refused m_taped m_size m_at m_bad m_badKind m_opens m_faultAt m_tape m_newBed m_newLetter m_newReader m_bed m_letter m_reader m_newBeds m_newLetters m_newReaders m_beds m_letters m_readers m_newCode m_newOf m_code m_ofCode m_stack m_newCodes m_codes m_facts m_newStep m_step m_newSteps m_works m_refusedSteps m_begun m_done m_refusedNow m_now m_s m_past m_newBook m_book m_written m_mostBy m_stuffing m_stuffedMany m_lastBy m_leftBy m_splitBy m_seedNow m_image m_images) 3 [(0, .ref (a0 0))] 0 []
  refine g_iconst (pc := 0) C dX10_passes_0 ci_0 ?_
  refine g_istore_n (pc := 1) C [(1, .int 0), (0, .ref (a0 0))] dX10_passes_1 rfl (by decide) rfl ?_
  refine g_lv [1, 0] rfl ?_
  exact j_X10_passes_2 C E  FU 0 m_s h
