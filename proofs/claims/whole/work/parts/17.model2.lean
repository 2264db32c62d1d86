





noncomputable def f_X10_law_77  (m_tape : Nat → Int32) (n1 : Int32) (m_thrown : Int32) (m_refused : Nat → Int32) (m_taped : Int32) (m_size : Int32) (m_at : Int32) (m_bad : Int32) (m_badKind : Int32) (m_opens : Int32) (m_faultAt : Int32) (m_newCode : Nat → Int32) (m_newOf : Nat → Int32) (m_code : Nat → Int32) (m_ofCode : Nat → Int32) (m_newCodes : Int32) (m_codes : Int32) : Option (Int32 × Int32 × (Nat → Int32) × Int32 × Int32 × Int32 × Int32 × Int32 × Int32 × Int32 × (Nat → Int32) × (Nat → Int32) × (Nat → Int32) × (Nat → Int32) × Int32 × Int32) := b2 (f_X10_result m_bad m_badKind m_faultAt 1) (fun v1 c2 => if m_bad = (-1) then b1 (f_X10_copies 150 m_newCode 150 m_code m_newCodes) (fun c3 => b1 (f_X10_copies 150 m_newOf 150 m_ofCode m_newCodes) (fun c4 => some (v1, m_thrown, m_refused, m_taped, m_size, m_at, m_bad, m_badKind, m_opens, c2, m_newCode, m_newOf, c3, c4, m_newCodes, m_newCodes))) else some (v1, m_thrown, m_refused, m_taped, m_size, m_at, m_bad, m_badKind, m_opens, c2, m_newCode, m_newOf, m_code, m_ofCode, m_newCodes, m_codes))
noncomputable def f_X10_law_30  (m_tape : Nat → Int32) (n1 : Int32) (y1 : Int32) (m_thrown : Int32) (m_refused : Nat → Int32) (m_taped : Int32) (m_size : Int32) (m_at : Int32) (m_bad : Int32) (m_badKind : Int32) (m_opens : Int32) (m_faultAt : Int32) (m_newCode : Nat → Int32) (m_newOf : Nat → Int32) (m_code : Nat → Int32) (m_ofCode : Nat → Int32) (m_newCodes : Int32) (m_codes : Int32) : Option (Int32 × Int32 × (Nat → Int32) × Int32 × Int32 × Int32 × Int32 × Int32 × Int32 × Int32 × (Nat → Int32) × (Nat → Int32) × (Nat → Int32) × (Nat → Int32) × Int32 × Int32) := b3 (f_X10_may m_thrown m_refused y1 1 1) (fun v5 c6 c7 => if v5 = 0 then some (0, c6, c7, m_taped, m_size, m_at, m_bad, m_badKind, m_opens, m_faultAt, m_newCode, m_newOf, m_code, m_ofCode, m_newCodes, m_codes) else b6 (f_X10_begins m_taped m_size m_at m_bad m_opens m_faultAt n1) (fun c8 c9 c10 c11 c12 c13 => b7 (f_X10_readSum 40 c9 c10 c11 m_badKind c12 m_tape m_newCode m_newOf 0) (fun c14 c15 c16 c17 c18 c19 c20 => b1 (f_X10_fine c15) (fun v21 => if v21 = 0 then f_X10_law_77 m_tape n1 c6 c7 c8 c9 c14 c15 c16 c17 c13 c18 c19 m_code m_ofCode c20 m_codes else b2 (f_X10_isMore c9 c14 m_tape) (fun v22 c23 => if v22 = 0 then f_X10_law_77 m_tape n1 c6 c7 c8 c9 c23 c15 c16 c17 c13 c18 c19 m_code m_ofCode c20 m_codes else b2 (f_X10_wrong c15 c16 1 c23) (fun c24 c25 => f_X10_law_77 m_tape n1 c6 c7 c8 c9 c23 c24 c25 c17 c13 c18 c19 m_code m_ofCode c20 m_codes))))))
noncomputable def f_X10_law (m_thrown : Int32) (m_refused : Nat → Int32) (m_taped : Int32) (m_size : Int32) (m_at : Int32) (m_bad : Int32) (m_badKind : Int32) (m_opens : Int32) (m_faultAt : Int32) (m_tape : Nat → Int32) (m_newCode : Nat → Int32) (m_newOf : Nat → Int32) (m_code : Nat → Int32) (m_ofCode : Nat → Int32) (m_newCodes : Int32) (m_codes : Int32) (n1 : Int32) : Option (Int32 × Int32 × (Nat → Int32) × Int32 × Int32 × Int32 × Int32 × Int32 × Int32 × Int32 × (Nat → Int32) × (Nat → Int32) × (Nat → Int32) × (Nat → Int32) × Int32 × Int32) := if n1 < 0 then f_X10_law_30 m_tape n1 0 0 m_refused m_taped m_size m_at m_bad m_badKind m_opens m_faultAt m_newCode m_newOf m_code m_ofCode m_newCodes m_codes else if m_taped < n1 then f_X10_law_30 m_tape n1 0 0 m_refused m_taped m_size m_at m_bad m_badKind m_opens m_faultAt m_newCode m_newOf m_code m_ofCode m_newCodes m_codes else if 150 < n1 then f_X10_law_30 m_tape n1 0 0 m_refused m_taped m_size m_at m_bad m_badKind m_opens m_faultAt m_newCode m_newOf m_code m_ofCode m_newCodes m_codes else f_X10_law_30 m_tape n1 1 0 m_refused m_taped m_size m_at m_bad m_badKind m_opens m_faultAt m_newCode m_newOf m_code m_ofCode m_newCodes m_codes
def rm_X10_law : Room := { frames := 47, cells := 0, slots := 0, locals := 1085 }
set_option maxRecDepth 100000 in
set_option maxHeartbeats 4000000 in
theorem j_X10_law_77 {J : Jt} {Z : Zt} {a0 : Nat → Nat} {m_tape : Nat → Int32} {m_newBed : Nat → Int32} {m_newLetter : Nat → Int32} {m_newReader : Nat → Int32} {m_bed : Nat → Int32} {m_letter : Nat → Int32} {m_reader : Nat → Int32} {m_newBeds : Int32} {m_newLetters : Int32} {m_newReaders : Int32} {m_beds : Int32} {m_letters : Int32} {m_readers : Int32} {m_stack : Nat → Int32} {m_facts : Nat → Int32} {m_newStep : Nat → Int32} {m_step : Nat → Int32} {m_newSteps : Int32} {m_works : Int32} {m_refusedSteps : Int32} {m_begun : Int32} {m_done : Int32} {m_refusedNow : Int32} {m_now : Nat → Int32} {m_s : Nat → Int32} {m_past : Nat → Int32} {m_newBook : Nat → Int32} {m_book : Nat → Int32} {m_written : Int32} {m_mostBy : Nat → Int32} {m_stuffing : Nat → Int32} {m_stuffedMany : Int32} {m_lastBy : Nat → Int32} {m_leftBy : Nat → Int32} {m_splitBy : Nat → Int64} {m_seedNow : Int32} {m_image : Nat → Int32} {m_images : Int32} {n1 : Int32} {r : Int32} {o_m_thrown : Int32} {o_m_refused : Nat → Int32} {o_m_taped : Int32} {o_m_size : Int32} {o_m_at : Int32} {o_m_bad : Int32} {o_m_badKind : Int32} {o_m_opens : Int32} {o_m_faultAt : Int32} {o_m_newCode : Nat → Int32} {o_m_newOf : Nat → Int32} {o_m_code : Nat → Int32} {o_m_ofCode : Nat → Int32} {o_m_newCodes : Int32} {o_m_codes : Int32} (C : Cx J Z cX10_law 3 RX10 (some .int) rm_X10_law) (E : Ez J Z 0 0 (some (.int r)) (cs_X10 J.2.2.1 a0 o_m_thrown o_m_refused o_m_taped o_m_size o_m_at o_m_bad o_m_badKind o_m_opens o_m_faultAt m_tape m_newBed m_newLetter m_newReader m_bed m_letter m_reader m_newBeds m_newLetters m_newReaders m_beds m_letters m_readers o_m_newCode o_m_newOf o_m_code o_m_ofCode m_stack o_m_newCodes o_m_codes m_facts m_newStep m_step m_newSteps m_works m_refusedSteps m_begun m_done m_refusedNow m_now m_s m_past m_newBook m_book m_written m_mostBy m_stuffing m_stuffedMany m_lastBy m_leftBy m_splitBy m_seedNow m_image m_images)) : ∀ (m_thrown : Int32) (m_refused : Nat → Int32) (m_taped : Int32) (m_size : Int32) (m_at : Int32) (m_bad : Int32) (m_badKind : Int32) (m_opens : Int32) (m_faultAt : Int32) (m_newCode : Nat → Int32) (m_newOf : Nat → Int32) (m_code : Nat → Int32) (m_ofCode : Nat → Int32) (m_newCodes : Int32) (m_codes : Int32), f_X10_law_77 m_tape n1 m_thrown m_refused m_taped m_size m_at m_bad m_badKind m_opens m_faultAt m_newCode m_newOf m_code m_ofCode m_newCodes m_codes = some (r, o_m_thrown, o_m_refused, o_m_taped, o_m_size, o_m_at, o_m_bad, o_m_badKind, o_m_opens, o_m_faultAt, o_m_newCode, o_m_newOf, o_m_code, o_m_ofCode, o_m_newCodes, o_m_codes) → G J Z 0 0 (cs_X10 J.2.2.1 a0 m_thrown m_refused m_taped m_size m_at m_bad m_badKind m_opens m_faultAt m_tape m_newBed m_newLetter m_newReader m_bed m_letter m_reader m_newBeds m_newLetters m_newReaders m_beds m_letters m_readers m_newCode m_newOf m_code m_ofCode m_stack m_newCodes m_codes m_facts m_newStep m_step m_newSteps m_works m_refusedSteps m_begun m_done m_refusedNow m_now m_s m_past m_newBook m_book m_written m_mostBy m_stuffing m_stuffedMany m_lastBy m_leftBy m_splitBy m_seedNow m_image m_images) 3 [(0, .ref (a0 0))] 77 [] := by
  intro m_thrown m_refused m_taped m_size m_at m_bad m_badKind m_opens m_faultAt m_newCode m_newOf m_code m_ofCode m_newCodes m_codes h
  unfold f_X10_law_77 at h
  refine g_aload_n (pc := 77) C 0 rfl dX10_law_77 ?_
  refine g_iconst (pc := 78) C dX10_law_78 ci_1 ?_
  obtain ⟨v1, c2, hc, h⟩ := b2_of h
  refine g_callV (pc := 79) C (w' := cs_X10 J.2.2.1 a0 m_thrown m_refused m_taped m_size m_at m_bad m_badKind m_opens c2 m_tape m_newBed m_newLetter m_newReader m_bed m_letter m_reader m_newBeds m_newLetters m_newReaders m_beds m_letters m_readers m_newCode m_newOf m_code m_ofCode m_stack m_newCodes m_codes m_facts m_newStep m_step m_newSteps m_works m_refusedSteps m_begun m_done m_refusedNow m_now m_s m_past m_newBook m_book m_written m_mostBy m_stuffing m_stuffedMany m_lastBy m_leftBy m_splitBy m_seedNow m_image m_images) (As := [.int 1]) (st := []) (ci := 10) (q0 := 0) rfl rfl (t_X10_result (a0 := a0) hc) Sub.same kw_1523 kw_1525 kw_34 kw_95 hy_X10_result kw_1526 rfl (Nat.le_of_ble_eq_true rfl) (Nat.le_of_ble_eq_true rfl) (Nat.le_of_ble_eq_true rfl) (Nat.le_of_ble_eq_true rfl) (Nat.le_of_ble_eq_true rfl) dX10_law_79 ?_
  refine g_istore_n (pc := 82) C [(2, .int v1), (0, .ref (a0 0))] dX10_law_82 rfl (by decide) rfl ?_
  refine g_aload_n (pc := 83) C 1 rfl dX10_law_83 ?_
  refine g_get (pc := 84) C FOK_X10 0 rfl rfl 5 (by decide) kw_1282 rfl dX10_law_84 ?_
  refine g_iconst (pc := 87) C dX10_law_87 ci_m1 ?_
  refine g_icmp_eq (pc := 88) C (tgt := 93) dX10_law_88 rfl h (fun h => ?_) (fun h => ?_)
  · refine g_aload_n (pc := 93) C 1 rfl dX10_law_93 ?_
    refine g_aload_n (pc := 94) C 1 rfl dX10_law_94 ?_
    refine g_get (pc := 95) C FOK_X10 0 rfl rfl 27 (by decide) kw_1304 rfl dX10_law_95 ?_
    refine g_put (pc := 98) C (w' := cs_X10 J.2.2.1 a0 m_thrown m_refused m_taped m_size m_at m_bad m_badKind m_opens c2 m_tape m_newBed m_newLetter m_newReader m_bed m_letter m_reader m_newBeds m_newLetters m_newReaders m_beds m_letters m_readers m_newCode m_newOf m_code m_ofCode m_stack m_newCodes m_newCodes m_facts m_newStep m_step m_newSteps m_works m_refusedSteps m_begun m_done m_refusedNow m_now m_s m_past m_newBook m_book m_written m_mostBy m_stuffing m_stuffedMany m_lastBy m_leftBy m_splitBy m_seedNow m_image m_images) FOK_X10 0 rfl rfl 28 (by decide) kw_1305 rfl rfl rfl (Nat.le_of_ble_eq_true rfl) dX10_law_98 rfl ?_
    refine g_aload_n (pc := 101) C 1 rfl dX10_law_101 ?_
    refine g_aload_n (pc := 102) C 1 rfl dX10_law_102 ?_
    refine g_get (pc := 103) C FOK_X10 0 rfl rfl 22 (by decide) kw_1299 rfl dX10_law_103 ?_
    refine g_aload_n (pc := 106) C 1 rfl dX10_law_106 ?_
    refine g_get (pc := 107) C FOK_X10 0 rfl rfl 24 (by decide) kw_1301 rfl dX10_law_107 ?_
    refine g_aload_n (pc := 110) C 1 rfl dX10_law_110 ?_
    refine g_get (pc := 111) C FOK_X10 0 rfl rfl 27 (by decide) kw_1304 rfl dX10_law_111 ?_
    obtain ⟨c3, hc, h⟩ := b1_of h
    refine g_callV (pc := 114) C (w' := cs_X10 J.2.2.1 a0 m_thrown m_refused m_taped m_size m_at m_bad m_badKind m_opens c2 m_tape m_newBed m_newLetter m_newReader m_bed m_letter m_reader m_newBeds m_newLetters m_newReaders m_beds m_letters m_readers m_newCode m_newOf c3 m_ofCode m_stack m_newCodes m_newCodes m_facts m_newStep m_step m_newSteps m_works m_refusedSteps m_begun m_done m_refusedNow m_now m_s m_past m_newBook m_book m_written m_mostBy m_stuffing m_stuffedMany m_lastBy m_leftBy m_splitBy m_seedNow m_image m_images) (As := [.ref (a0 9), .ref (a0 11), .int m_newCodes]) (st := []) (ci := 10) (q0 := 0) rfl rfl (t_X10_copies (rv := a0 0) (a0 := (fun _ => a0 9)) (a1 := (fun _ => a0 11)) hc) (Sub.gen [9, 11] [0, 1, 2, 3, 4, 5, 6, 7, 8, 10, 12, 13, 14, 15, 16, 17, 18, 19, 20, 21, 22, 23, 24, 25, 26, 27] [0, 1, 2, 3, 4, 5, 6, 7, 8, 26, 9, 27, 10, 11, 12, 13, 14, 15, 16, 17, 18, 19, 20, 21, 22, 23, 24, 25] rfl (by decide) rfl (by decide) (by decide) rfl (by decide)) kw_1273 kw_1275 kw_19 kw_95 hy_X10_copies kw_1276 rfl (Nat.le_of_ble_eq_true rfl) (Nat.le_of_ble_eq_true rfl) (Nat.le_of_ble_eq_true rfl) (Nat.le_of_ble_eq_true rfl) (Nat.le_of_ble_eq_true rfl) dX10_law_114 ?_
    refine g_aload_n (pc := 117) C 1 rfl dX10_law_117 ?_
    refine g_aload_n (pc := 118) C 1 rfl dX10_law_118 ?_
    refine g_get (pc := 119) C FOK_X10 0 rfl rfl 23 (by decide) kw_1300 rfl dX10_law_119 ?_
    refine g_aload_n (pc := 122) C 1 rfl dX10_law_122 ?_
    refine g_get (pc := 123) C FOK_X10 0 rfl rfl 25 (by decide) kw_1302 rfl dX10_law_123 ?_
    refine g_aload_n (pc := 126) C 1 rfl dX10_law_126 ?_
    refine g_get (pc := 127) C FOK_X10 0 rfl rfl 27 (by decide) kw_1304 rfl dX10_law_127 ?_
    obtain ⟨c4, hc, h⟩ := b1_of h
    refine g_callV (pc := 130) C (w' := cs_X10 J.2.2.1 a0 m_thrown m_refused m_taped m_size m_at m_bad m_badKind m_opens c2 m_tape m_newBed m_newLetter m_newReader m_bed m_letter m_reader m_newBeds m_newLetters m_newReaders m_beds m_letters m_readers m_newCode m_newOf c3 c4 m_stack m_newCodes m_newCodes m_facts m_newStep m_step m_newSteps m_works m_refusedSteps m_begun m_done m_refusedNow m_now m_s m_past m_newBook m_book m_written m_mostBy m_stuffing m_stuffedMany m_lastBy m_leftBy m_splitBy m_seedNow m_image m_images) (As := [.ref (a0 10), .ref (a0 12), .int m_newCodes]) (st := []) (ci := 10) (q0 := 0) rfl rfl (t_X10_copies (rv := a0 0) (a0 := (fun _ => a0 10)) (a1 := (fun _ => a0 12)) hc) (Sub.gen [10, 12] [0, 1, 2, 3, 4, 5, 6, 7, 8, 9, 11, 13, 14, 15, 16, 17, 18, 19, 20, 21, 22, 23, 24, 25, 26, 27] [0, 1, 2, 3, 4, 5, 6, 7, 8, 9, 26, 10, 27, 11, 12, 13, 14, 15, 16, 17, 18, 19, 20, 21, 22, 23, 24, 25] rfl (by decide) rfl (by decide) (by decide) rfl (by decide)) kw_1273 kw_1275 kw_19 kw_95 hy_X10_copies kw_1276 rfl (Nat.le_of_ble_eq_true rfl) (Nat.le_of_ble_eq_true rfl) (Nat.le_of_ble_eq_true rfl) (Nat.le_of_ble_eq_true rfl) (Nat.le_of_ble_eq_true rfl) dX10_law_130 ?_
    refine g_iload_n (pc := 133) C 0 rfl dX10_law_133 ?_
    cases h
    exact g_iret C E dX10_law_134
  · refine g_iload_n (pc := 91) C 0 rfl dX10_law_91 ?_
    cases h
    exact g_iret C E dX10_law_92
set_option maxRecDepth 100000 in
set_option maxHeartbeats 4000000 in
theorem j_X10_law_30 {J : Jt} {Z : Zt} {a0 : Nat → Nat} {m_tape : Nat → Int32} {m_newBed : Nat → Int32} {m_newLetter : Nat → Int32} {m_newReader : Nat → Int32} {m_bed : Nat → Int32} {m_letter : Nat → Int32} {m_reader : Nat → Int32} {m_newBeds : Int32} {m_newLetters : Int32} {m_newReaders : Int32} {m_beds : Int32} {m_letters : Int32} {m_readers : Int32} {m_stack : Nat → Int32} {m_facts : Nat → Int32} {m_newStep : Nat → Int32} {m_step : Nat → Int32} {m_newSteps : Int32} {m_works : Int32} {m_refusedSteps : Int32} {m_begun : Int32} {m_done : Int32} {m_refusedNow : Int32} {m_now : Nat → Int32} {m_s : Nat → Int32} {m_past : Nat → Int32} {m_newBook : Nat → Int32} {m_book : Nat → Int32} {m_written : Int32} {m_mostBy : Nat → Int32} {m_stuffing : Nat → Int32} {m_stuffedMany : Int32} {m_lastBy : Nat → Int32} {m_leftBy : Nat → Int32} {m_splitBy : Nat → Int64} {m_seedNow : Int32} {m_image : Nat → Int32} {m_images : Int32} {n1 : Int32} {r : Int32} {o_m_thrown : Int32} {o_m_refused : Nat → Int32} {o_m_taped : Int32} {o_m_size : Int32} {o_m_at : Int32} {o_m_bad : Int32} {o_m_badKind : Int32} {o_m_opens : Int32} {o_m_faultAt : Int32} {o_m_newCode : Nat → Int32} {o_m_newOf : Nat → Int32} {o_m_code : Nat → Int32} {o_m_ofCode : Nat → Int32} {o_m_newCodes : Int32} {o_m_codes : Int32} (C : Cx J Z cX10_law 3 RX10 (some .int) rm_X10_law) (E : Ez J Z 0 0 (some (.int r)) (cs_X10 J.2.2.1 a0 o_m_thrown o_m_refused o_m_taped o_m_size o_m_at o_m_bad o_m_badKind o_m_opens o_m_faultAt m_tape m_newBed m_newLetter m_newReader m_bed m_letter m_reader m_newBeds m_newLetters m_newReaders m_beds m_letters m_readers o_m_newCode o_m_newOf o_m_code o_m_ofCode m_stack o_m_newCodes o_m_codes m_facts m_newStep m_step m_newSteps m_works m_refusedSteps m_begun m_done m_refusedNow m_now m_s m_past m_newBook m_book m_written m_mostBy m_stuffing m_stuffedMany m_lastBy m_leftBy m_splitBy m_seedNow m_image m_images)) : ∀ (y1 : Int32) (m_thrown : Int32) (m_refused : Nat → Int32) (m_taped : Int32) (m_size : Int32) (m_at : Int32) (m_bad : Int32) (m_badKind : Int32) (m_opens : Int32) (m_faultAt : Int32) (m_newCode : Nat → Int32) (m_newOf : Nat → Int32) (m_code : Nat → Int32) (m_ofCode : Nat → Int32) (m_newCodes : Int32) (m_codes : Int32), f_X10_law_30 m_tape n1 y1 m_thrown m_refused m_taped m_size m_at m_bad m_badKind m_opens m_faultAt m_newCode m_newOf m_code m_ofCode m_newCodes m_codes = some (r, o_m_thrown, o_m_refused, o_m_taped, o_m_size, o_m_at, o_m_bad, o_m_badKind, o_m_opens, o_m_faultAt, o_m_newCode, o_m_newOf, o_m_code, o_m_ofCode, o_m_newCodes, o_m_codes) → G J Z 0 0 (cs_X10 J.2.2.1 a0 m_thrown m_refused m_taped m_size m_at m_bad m_badKind m_opens m_faultAt m_tape m_newBed m_newLetter m_newReader m_bed m_letter m_reader m_newBeds m_newLetters m_newReaders m_beds m_letters m_readers m_newCode m_newOf m_code m_ofCode m_stack m_newCodes m_codes m_facts m_newStep m_step m_newSteps m_works m_refusedSteps m_begun m_done m_refusedNow m_now m_s m_past m_newBook m_book m_written m_mostBy m_stuffing m_stuffedMany m_lastBy m_leftBy m_splitBy m_seedNow m_image m_images) 3 [(0, .ref (a0 0)), (1, .int n1)] 30 [.int y1, .ref (a0 0)] := by
  intro y1 m_thrown m_refused m_taped m_size m_at m_bad m_badKind m_opens m_faultAt m_newCode m_newOf m_code m_ofCode m_newCodes m_codes h
  unfold f_X10_law_30 at h
  refine g_iconst (pc := 30) C dX10_law_30 ci_1 ?_
  refine g_iconst (pc := 31) C dX10_law_31 ci_1 ?_
  obtain ⟨v5, c6, c7, hc, h⟩ := b3_of h
  refine g_callV (pc := 32) C (w' := cs_X10 J.2.2.1 a0 c6 c7 m_taped m_size m_at m_bad m_badKind m_opens m_faultAt m_tape m_newBed m_newLetter m_newReader m_bed m_letter m_reader m_newBeds m_newLetters m_newReaders m_beds m_letters m_readers m_newCode m_newOf m_code m_ofCode m_stack m_newCodes m_codes m_facts m_newStep m_step m_newSteps m_works m_refusedSteps m_begun m_done m_refusedNow m_now m_s m_past m_newBook m_book m_written m_mostBy m_stuffing m_stuffedMany m_lastBy m_leftBy m_splitBy m_seedNow m_image m_images) (As := [.int y1, .int 1, .int 1]) (st := []) (ci := 10) (q0 := 0) rfl rfl (t_X10_may (a0 := a0) hc) Sub.same kw_1450 kw_1452 kw_20 kw_95 hy_X10_may kw_1453 rfl (Nat.le_of_ble_eq_true rfl) (Nat.le_of_ble_eq_true rfl) (Nat.le_of_ble_eq_true rfl) (Nat.le_of_ble_eq_true rfl) (Nat.le_of_ble_eq_true rfl) dX10_law_32 ?_
  refine g_if_ne (pc := 35) C (tgt := 40) dX10_law_35 rfl h (fun h => ?_) (fun h => ?_)
  · refine g_aload_n (pc := 40) C 0 rfl dX10_law_40 ?_
    refine g_iload_n (pc := 41) C 1 rfl dX10_law_41 ?_
    obtain ⟨c8, c9, c10, c11, c12, c13, hc, h⟩ := b6_of h
    refine g_callV (pc := 42) C (w' := cs_X10 J.2.2.1 a0 c6 c7 c8 c9 c10 c11 m_badKind c12 c13 m_tape m_newBed m_newLetter m_newReader m_bed m_letter m_reader m_newBeds m_newLetters m_newReaders m_beds m_letters m_readers m_newCode m_newOf m_code m_ofCode m_stack m_newCodes m_codes m_facts m_newStep m_step m_newSteps m_works m_refusedSteps m_begun m_done m_refusedNow m_now m_s m_past m_newBook m_book m_written m_mostBy m_stuffing m_stuffedMany m_lastBy m_leftBy m_splitBy m_seedNow m_image m_images) (As := [.int n1]) (st := []) (ci := 10) (q0 := 0) rfl rfl (t_X10_begins (a0 := a0) hc) Sub.same kw_1454 kw_1456 kw_21 kw_95 hy_X10_begins kw_1457 rfl (Nat.le_of_ble_eq_true rfl) (Nat.le_of_ble_eq_true rfl) (Nat.le_of_ble_eq_true rfl) (Nat.le_of_ble_eq_true rfl) (Nat.le_of_ble_eq_true rfl) dX10_law_42 ?_
    refine g_aload_n (pc := 45) C 0 rfl dX10_law_45 ?_
    refine g_iconst (pc := 46) C dX10_law_46 ci_0 ?_
    refine g_put (pc := 47) C (w' := cs_X10 J.2.2.1 a0 c6 c7 c8 c9 c10 c11 m_badKind c12 c13 m_tape m_newBed m_newLetter m_newReader m_bed m_letter m_reader m_newBeds m_newLetters m_newReaders m_beds m_letters m_readers m_newCode m_newOf m_code m_ofCode m_stack 0 m_codes m_facts m_newStep m_step m_newSteps m_works m_refusedSteps m_begun m_done m_refusedNow m_now m_s m_past m_newBook m_book m_written m_mostBy m_stuffing m_stuffedMany m_lastBy m_leftBy m_splitBy m_seedNow m_image m_images) FOK_X10 0 rfl rfl 27 (by decide) kw_1304 rfl rfl rfl (Nat.le_of_ble_eq_true rfl) dX10_law_47 rfl ?_
    refine g_aload_n (pc := 50) C 0 rfl dX10_law_50 ?_
    obtain ⟨c14, c15, c16, c17, c18, c19, c20, hc, h⟩ := b7_of h
    refine g_callV (pc := 51) C (w' := cs_X10 J.2.2.1 a0 c6 c7 c8 c9 c14 c15 c16 c17 c13 m_tape m_newBed m_newLetter m_newReader m_bed m_letter m_reader m_newBeds m_newLetters m_newReaders m_beds m_letters m_readers c18 c19 m_code m_ofCode m_stack c20 m_codes m_facts m_newStep m_step m_newSteps m_works m_refusedSteps m_begun m_done m_refusedNow m_now m_s m_past m_newBook m_book m_written m_mostBy m_stuffing m_stuffedMany m_lastBy m_leftBy m_splitBy m_seedNow m_image m_images) (As := []) (st := []) (ci := 10) (q0 := 0) rfl rfl (t_X10_readSum 40 a0 _ _ _ _ _ _ _ _ _ _ _ _ _ _ _ _ _ _ _ _ _ _ _ _ _ _ _ _ _ _ _ _ _ _ _ _ _ _ _ _ _ _ _ _ _ _ _ _ _ _ _ _ _ _ _ _ _ _ _ _ hc) Sub.same kw_1531 kw_1533 kw_35 kw_95 hy_X10_readSum kw_1534 rfl (Nat.le_of_ble_eq_true rfl) (Nat.le_of_ble_eq_true rfl) (Nat.le_of_ble_eq_true rfl) (Nat.le_of_ble_eq_true rfl) (Nat.le_of_ble_eq_true rfl) dX10_law_51 ?_
    refine g_aload_n (pc := 54) C 0 rfl dX10_law_54 ?_
    obtain ⟨v21, hc, h⟩ := b1_of h
    refine g_callV (pc := 55) C (w' := cs_X10 J.2.2.1 a0 c6 c7 c8 c9 c14 c15 c16 c17 c13 m_tape m_newBed m_newLetter m_newReader m_bed m_letter m_reader m_newBeds m_newLetters m_newReaders m_beds m_letters m_readers c18 c19 m_code m_ofCode m_stack c20 m_codes m_facts m_newStep m_step m_newSteps m_works m_refusedSteps m_begun m_done m_refusedNow m_now m_s m_past m_newBook m_book m_written m_mostBy m_stuffing m_stuffedMany m_lastBy m_leftBy m_splitBy m_seedNow m_image m_images) (As := []) (st := []) (ci := 10) (q0 := 0) rfl rfl (t_X10_fine (a0 := a0) hc) Sub.same kw_1458 kw_1460 kw_22 kw_95 hy_X10_fine kw_1461 rfl (Nat.le_of_ble_eq_true rfl) (Nat.le_of_ble_eq_true rfl) (Nat.le_of_ble_eq_true rfl) (Nat.le_of_ble_eq_true rfl) (Nat.le_of_ble_eq_true rfl) dX10_law_55 ?_
    refine g_if_eq (pc := 58) C (tgt := 77) dX10_law_58 rfl h (fun h => ?_) (fun h => ?_)
    · refine g_lv [0] rfl ?_
      exact j_X10_law_77 C E    c6 c7 c8 c9 c14 c15 c16 c17 c13 c18 c19 m_code m_ofCode c20 m_codes h
    · refine g_aload_n (pc := 61) C 0 rfl dX10_law_61 ?_
      obtain ⟨v22, c23, hc, h⟩ := b2_of h
      refine g_callV (pc := 62) C (w' := cs_X10 J.2.2.1 a0 c6 c7 c8 c9 c23 c15 c16 c17 c13 m_tape m_newBed m_newLetter m_newReader m_bed m_letter m_reader m_newBeds m_newLetters m_newReaders m_beds m_letters m_readers c18 c19 m_code m_ofCode m_stack c20 m_codes m_facts m_newStep m_step m_newSteps m_works m_refusedSteps m_begun m_done m_refusedNow m_now m_s m_past m_newBook m_book m_written m_mostBy m_stuffing m_stuffedMany m_lastBy m_leftBy m_splitBy m_seedNow m_image m_images) (As := []) (st := []) (ci := 10) (q0 := 0) rfl rfl (t_X10_isMore (a0 := a0) hc) Sub.same kw_1462 kw_1464 kw_23 kw_95 hy_X10_isMore kw_1465 rfl (Nat.le_of_ble_eq_true rfl) (Nat.le_of_ble_eq_true rfl) (Nat.le_of_ble_eq_true rfl) (Nat.le_of_ble_eq_true rfl) (Nat.le_of_ble_eq_true rfl) dX10_law_62 ?_
      refine g_if_eq (pc := 65) C (tgt := 77) dX10_law_65 rfl h (fun h => ?_) (fun h => ?_)
      · refine g_lv [0] rfl ?_
        exact j_X10_law_77 C E    c6 c7 c8 c9 c23 c15 c16 c17 c13 c18 c19 m_code m_ofCode c20 m_codes h
      · refine g_aload_n (pc := 68) C 0 rfl dX10_law_68 ?_
        refine g_iconst (pc := 69) C dX10_law_69 ci_1 ?_
        refine g_aload_n (pc := 70) C 0 rfl dX10_law_70 ?_
        refine g_get (pc := 71) C FOK_X10 0 rfl rfl 4 (by decide) kw_1281 rfl dX10_law_71 ?_
        obtain ⟨c24, c25, hc, h⟩ := b2_of h
        refine g_callV (pc := 74) C (w' := cs_X10 J.2.2.1 a0 c6 c7 c8 c9 c23 c24 c25 c17 c13 m_tape m_newBed m_newLetter m_newReader m_bed m_letter m_reader m_newBeds m_newLetters m_newReaders m_beds m_letters m_readers c18 c19 m_code m_ofCode m_stack c20 m_codes m_facts m_newStep m_step m_newSteps m_works m_refusedSteps m_begun m_done m_refusedNow m_now m_s m_past m_newBook m_book m_written m_mostBy m_stuffing m_stuffedMany m_lastBy m_leftBy m_splitBy m_seedNow m_image m_images) (As := [.int 1, .int c23]) (st := []) (ci := 10) (q0 := 0) rfl rfl (t_X10_wrong (a0 := a0) hc) Sub.same kw_1488 kw_1490 kw_26 kw_95 hy_X10_wrong kw_1491 rfl (Nat.le_of_ble_eq_true rfl) (Nat.le_of_ble_eq_true rfl) (Nat.le_of_ble_eq_true rfl) (Nat.le_of_ble_eq_true rfl) (Nat.le_of_ble_eq_true rfl) dX10_law_74 ?_
        refine g_lv [0] rfl ?_
        exact j_X10_law_77 C E    c6 c7 c8 c9 c23 c24 c25 c17 c13 c18 c19 m_code m_ofCode c20 m_codes h
  · refine g_iconst (pc := 38) C dX10_law_38 ci_0 ?_
    cases h
    exact g_iret C E dX10_law_39
set_option maxRecDepth 100000 in
set_option maxHeartbeats 4000000 in
theorem t_X10_law {J : Jt} {a0 : Nat → Nat} {m_thrown : Int32} {m_refused : Nat → Int32} {m_taped : Int32} {m_size : Int32} {m_at : Int32} {m_bad : Int32} {m_badKind : Int32} {m_opens : Int32} {m_faultAt : Int32} {m_tape : Nat → Int32} {m_newBed : Nat → Int32} {m_newLetter : Nat → Int32} {m_newReader : Nat → Int32} {m_bed : Nat → Int32} {m_letter : Nat → Int32} {m_reader : Nat → Int32} {m_newBeds : Int32} {m_newLetters : Int32} {m_newReaders : Int32} {m_beds : Int32} {m_letters : Int32} {m_readers : Int32} {m_newCode : Nat → Int32} {m_newOf : Nat → Int32} {m_code : Nat → Int32} {m_ofCode : Nat → Int32} {m_stack : Nat → Int32} {m_newCodes : Int32} {m_codes : Int32} {m_facts : Nat → Int32} {m_newStep : Nat → Int32} {m_step : Nat → Int32} {m_newSteps : Int32} {m_works : Int32} {m_refusedSteps : Int32} {m_begun : Int32} {m_done : Int32} {m_refusedNow : Int32} {m_now : Nat → Int32} {m_s : Nat → Int32} {m_past : Nat → Int32} {m_newBook : Nat → Int32} {m_book : Nat → Int32} {m_written : Int32} {m_mostBy : Nat → Int32} {m_stuffing : Nat → Int32} {m_stuffedMany : Int32} {m_lastBy : Nat → Int32} {m_leftBy : Nat → Int32} {m_splitBy : Nat → Int64} {m_seedNow : Int32} {m_image : Nat → Int32} {m_images : Int32} {n1 : Int32} {r : Int32} {o_m_thrown : Int32} {o_m_refused : Nat → Int32} {o_m_taped : Int32} {o_m_size : Int32} {o_m_at : Int32} {o_m_bad : Int32} {o_m_badKind : Int32} {o_m_opens : Int32} {o_m_faultAt : Int32} {o_m_newCode : Nat → Int32} {o_m_newOf : Nat → Int32} {o_m_code : Nat → Int32} {o_m_ofCode : Nat → Int32} {o_m_newCodes : Int32} {o_m_codes : Int32} (h : f_X10_law m_thrown m_refused m_taped m_size m_at m_bad m_badKind m_opens m_faultAt m_tape m_newCode m_newOf m_code m_ofCode m_newCodes m_codes n1 = some (r, o_m_thrown, o_m_refused, o_m_taped, o_m_size, o_m_at, o_m_bad, o_m_badKind, o_m_opens, o_m_faultAt, o_m_newCode, o_m_newOf, o_m_code, o_m_ofCode, o_m_newCodes, o_m_codes)) : Mt J yX10_law cX10_law 3 (some .int) rm_X10_law [.ref (a0 0), .int n1] (cs_X10 J.2.2.1 a0 m_thrown m_refused m_taped m_size m_at m_bad m_badKind m_opens m_faultAt m_tape m_newBed m_newLetter m_newReader m_bed m_letter m_reader m_newBeds m_newLetters m_newReaders m_beds m_letters m_readers m_newCode m_newOf m_code m_ofCode m_stack m_newCodes m_codes m_facts m_newStep m_step m_newSteps m_works m_refusedSteps m_begun m_done m_refusedNow m_now m_s m_past m_newBook m_book m_written m_mostBy m_stuffing m_stuffedMany m_lastBy m_leftBy m_splitBy m_seedNow m_image m_images) (some (.int r)) (cs_X10 J.2.2.1 a0 o_m_thrown o_m_refused o_m_taped o_m_size o_m_at o_m_bad o_m_badKind o_m_opens o_m_faultAt m_tape m_newBed m_newLetter m_newReader m_bed m_letter m_reader m_newBeds m_newLetters m_newReaders m_beds m_letters m_readers o_m_newCode o_m_newOf o_m_code o_m_ofCode m_stack o_m_newCodes o_m_codes m_facts m_newStep m_step m_newSteps m_works m_refusedSteps m_begun m_done m_refusedNow m_now m_s m_past m_newBook m_book m_written m_mostBy m_stuffing m_stuffedMany m_lastBy m_leftBy m_splitBy m_seedNow m_image m_images) := by
  refine Mt_of (own := RX10) (by decide) rfl (Nat.le_of_ble_eq_true rfl) rfl (fun Z C E => ?_)
  unfold f_X10_law at h
  show G J Z 0 0 (cs_X10 J.2.2.1 a0 m_thrown m_refused m_taped m_size m_at m_bad m_badKind m_opens m_faultAt m_tape m_newBed m_newLetter m_newReader m_bed m_letter m_reader m_newBeds m_newLetters m_newReaders m_beds m_letters m_readers m_newCode m_newOf m_code m_ofCode m_stack m_newCodes m_codes m_facts m_newStep m_step m_newSteps m_works m_refusedSteps m_begun m_done m_refusedNow m_now m_s m_past m_newBook m_book m_written m_mostBy m_stuffing m_stuffedMany m_lastBy m_leftBy m_splitBy m_seedNow m_image m_images) 3 [(0, .ref (a0 0)), (1, .int n1)] 0 []
  refine g_aload_n (pc := 0) C 0 rfl dX10_law_0 ?_
  refine g_iconst (pc := 1) C dX10_law_1 ci_0 ?_
  refine g_put (pc := 2) C (w' := cs_X10 J.2.2.1 a0 0 m_refused m_taped m_size m_at m_bad m_badKind m_opens m_faultAt m_tape m_newBed m_newLetter m_newReader m_bed m_letter m_reader m_newBeds m_newLetters m_newReaders m_beds m_letters m_readers m_newCode m_newOf m_code m_ofCode m_stack m_newCodes m_codes m_facts m_newStep m_step m_newSteps m_works m_refusedSteps m_begun m_done m_refusedNow m_now m_s m_past m_newBook m_book m_written m_mostBy m_stuffing m_stuffedMany m_lastBy m_leftBy m_splitBy m_seedNow m_image m_images) FOK_X10 0 rfl rfl 0 (by decide) kw_1277 rfl rfl rfl (Nat.le_of_ble_eq_true rfl) dX10_law_2 rfl ?_
  refine g_aload_n (pc := 5) C 0 rfl dX10_law_5 ?_
  refine g_iload_n (pc := 6) C 1 rfl dX10_law_6 ?_
  refine g_if_lt (pc := 7) C (tgt := 29) dX10_law_7 rfl h (fun h => ?_) (fun h => ?_)
  · refine g_iconst (pc := 29) C dX10_law_29 ci_0 ?_
    exact j_X10_law_30 C E    0 0 m_refused m_taped m_size m_at m_bad m_badKind m_opens m_faultAt m_newCode m_newOf m_code m_ofCode m_newCodes m_codes h
  · refine g_iload_n (pc := 10) C 1 rfl dX10_law_10 ?_
    refine g_aload_n (pc := 11) C 0 rfl dX10_law_11 ?_
    refine g_get (pc := 12) C FOK_X10 0 rfl rfl 2 (by decide) kw_1279 rfl dX10_law_12 ?_
    refine g_icmp_gt (pc := 15) C (tgt := 29) dX10_law_15 rfl h (fun h => ?_) (fun h => ?_)
    · refine g_iconst (pc := 29) C dX10_law_29 ci_0 ?_
      exact j_X10_law_30 C E    0 0 m_refused m_taped m_size m_at m_bad m_badKind m_opens m_faultAt m_newCode m_newOf m_code m_ofCode m_newCodes m_codes h
    · refine g_iload_n (pc := 18) C 1 rfl dX10_law_18 ?_
      refine g_sipush (pc := 19) C dX10_law_19 cs_150 ?_
      refine g_icmp_gt (pc := 22) C (tgt := 29) dX10_law_22 rfl h (fun h => ?_) (fun h => ?_)
      · refine g_iconst (pc := 29) C dX10_law_29 ci_0 ?_
        exact j_X10_law_30 C E    0 0 m_refused m_taped m_size m_at m_bad m_badKind m_opens m_faultAt m_newCode m_newOf m_code m_ofCode m_newCodes m_codes h
      · refine g_iconst (pc := 25) C dX10_law_25 ci_1 ?_
        refine g_goto (pc := 26) C (tgt := 30) dX10_law_26 rfl ?_
        exact j_X10_law_30 C E    1 0 m_refused m_taped m_size m_at m_bad m_badKind m_opens m_faultAt m_newCode m_newOf m_code m_ofCode m_newCodes m_codes h
noncomputable def f_X10_both_38   (n1 : Int32) (n2 : Int32) (n3 : Int32)  : Option (Int32) := if n3 = 0 then some 0 else if n1 = 5 then if n3 = 0 then none else some (n2 / n3) else if n3 = 0 then none else some (n2 - n2 / n3 * n3)
noncomputable def f_X10_both_82   (n1 : Int32) (n2 : Int32) (n3 : Int32) (y0 : Int32) (y1 : Int32) : Option (Int32) := if y0 = y1 then some n2 else some n3
noncomputable def f_X10_both_71   (n1 : Int32) (n2 : Int32) (n3 : Int32) (y0 : Int32) : Option (Int32) := if n1 = 6 then f_X10_both_82 n1 n2 n3 y0 1 else f_X10_both_82 n1 n2 n3 y0 0
noncomputable def f_X10_both  (n1 : Int32) (n2 : Int32) (n3 : Int32) : Option (Int32) := if n1 = 2 then some (n2 + n3) else if n1 = 3 then some (n2 - n3) else if n1 = 4 then some (n2 * n3) else if n1 = 5 then f_X10_both_38 n1 n2 n3 else if n1 = 8 then f_X10_both_38 n1 n2 n3 else if n3 ≤ n2 then f_X10_both_71 n1 n2 n3 0 else f_X10_both_71 n1 n2 n3 1
def rm_X10_both : Room := { frames := 0, cells := 0, slots := 0, locals := 0 }
set_option maxRecDepth 100000 in
set_option maxHeartbeats 4000000 in
theorem j_X10_both_38 {J : Jt} {Z : Zt}  {n1 : Int32} {n2 : Int32} {n3 : Int32} {r : Int32} (C : Cx J Z cX10_both 3 RX10 (some .int) rm_X10_both) (E : Ez J Z 0 0 (some (.int r)) ([])) : f_X10_both_38 n1 n2 n3 = some r → G J Z 0 0 ([]) 3 [(0, .int n1), (1, .int n2), (2, .int n3)] 38 [] := by
  intro  h
  unfold f_X10_both_38 at h
  refine g_iload_n (pc := 38) C 2 rfl dX10_both_38 ?_
  refine g_if_ne (pc := 39) C (tgt := 46) dX10_both_39 rfl h (fun h => ?_) (fun h => ?_)
  · refine g_iload_n (pc := 46) C 0 rfl dX10_both_46 ?_
    refine g_iconst (pc := 47) C dX10_both_47 ci_5 ?_
    refine g_icmp_ne (pc := 48) C (tgt := 57) dX10_both_48 rfl h (fun h => ?_) (fun h => ?_)
    · refine g_iload_n (pc := 57) C 1 rfl dX10_both_57 ?_
      refine g_iload_n (pc := 58) C 2 rfl dX10_both_58 ?_
      obtain ⟨hz, h⟩ := nz_of h
      refine g_irem (pc := 59) C dX10_both_59 hz ?_
      cases h
      exact g_iret C E dX10_both_60
    · refine g_iload_n (pc := 51) C 1 rfl dX10_both_51 ?_
      refine g_iload_n (pc := 52) C 2 rfl dX10_both_52 ?_
      obtain ⟨hz, h⟩ := nz_of h
      refine g_idiv (pc := 53) C dX10_both_53 hz ?_
      refine g_goto (pc := 54) C (tgt := 60) dX10_both_54 rfl ?_
      cases h
      exact g_iret C E dX10_both_60
  · refine g_iconst (pc := 42) C dX10_both_42 ci_0 ?_
    refine g_goto (pc := 43) C (tgt := 60) dX10_both_43 rfl ?_
    cases h
    exact g_iret C E dX10_both_60
set_option maxRecDepth 100000 in
set_option maxHeartbeats 4000000 in
theorem j_X10_both_82 {J : Jt} {Z : Zt}  {n1 : Int32} {n2 : Int32} {n3 : Int32} {r : Int32} (C : Cx J Z cX10_both 3 RX10 (some .int) rm_X10_both) (E : Ez J Z 0 0 (some (.int r)) ([])) : ∀ (y0 : Int32) (y1 : Int32), f_X10_both_82 n1 n2 n3 y0 y1 = some r → G J Z 0 0 ([]) 3 [(1, .int n2), (2, .int n3)] 82 [.int y1, .int y0] := by
  intro y0 y1 h
  unfold f_X10_both_82 at h
  refine g_icmp_ne (pc := 82) C (tgt := 89) dX10_both_82 rfl h (fun h => ?_) (fun h => ?_)
  · refine g_iload_n (pc := 89) C 1 rfl dX10_both_89 ?_
    cases h
    exact g_iret C E dX10_both_90
  · refine g_iload_n (pc := 85) C 0 rfl dX10_both_85 ?_
    refine g_goto (pc := 86) C (tgt := 90) dX10_both_86 rfl ?_
    cases h
    exact g_iret C E dX10_both_90
set_option maxRecDepth 100000 in
set_option maxHeartbeats 4000000 in
theorem j_X10_both_71 {J : Jt} {Z : Zt}  {n1 : Int32} {n2 : Int32} {n3 : Int32} {r : Int32} (C : Cx J Z cX10_both 3 RX10 (some .int) rm_X10_both) (E : Ez J Z 0 0 (some (.int r)) ([])) : ∀ (y0 : Int32), f_X10_both_71 n1 n2 n3 y0 = some r → G J Z 0 0 ([]) 3 [(0, .int n1), (1, .int n2), (2, .int n3)] 71 [.int y0] := by
  intro y0 h
  unfold f_X10_both_71 at h
  refine g_iload_n (pc := 71) C 0 rfl dX10_both_71 ?_
  refine g_bipush (pc := 72) C dX10_both_72 cb_6 ?_
  refine g_icmp_ne (pc := 74) C (tgt := 81) dX10_both_74 rfl h (fun h => ?_) (fun h => ?_)
  · refine g_iconst (pc := 81) C dX10_both_81 ci_0 ?_
    refine g_lv [1, 2] rfl ?_
    exact j_X10_both_82 C E    y0 0 h
  · refine g_iconst (pc := 77) C dX10_both_77 ci_1 ?_
    refine g_goto (pc := 78) C (tgt := 82) dX10_both_78 rfl ?_
    refine g_lv [1, 2] rfl ?_
    exact j_X10_both_82 C E    y0 1 h
set_option maxRecDepth 100000 in
set_option maxHeartbeats 4000000 in
theorem t_X10_both {J : Jt}  {n1 : Int32} {n2 : Int32} {n3 : Int32} {r : Int32} (h : f_X10_both n1 n2 n3 = some r) : Mt J yX10_both cX10_both 3 (some .int) rm_X10_both [.int n1, .int n2, .int n3] ([]) (some (.int r)) ([]) := by
  refine Mt_of (own := RX10) (by decide) rfl (Nat.le_of_ble_eq_true rfl) rfl (fun Z C E => ?_)
  unfold f_X10_both at h
  show G J Z 0 0 ([]) 3 [(0, .int n1), (1, .int n2), (2, .int n3)] 0 []
  refine g_iload_n (pc := 0) C 0 rfl dX10_both_0 ?_
  refine g_iconst (pc := 1) C dX10_both_1 ci_2 ?_
  refine g_icmp_ne (pc := 2) C (tgt := 9) dX10_both_2 rfl h (fun h => ?_) (fun h => ?_)
  · refine g_iload_n (pc := 9) C 0 rfl dX10_both_9 ?_
    refine g_iconst (pc := 10) C dX10_both_10 ci_3 ?_
    refine g_icmp_ne (pc := 11) C (tgt := 18) dX10_both_11 rfl h (fun h => ?_) (fun h => ?_)
    · refine g_iload_n (pc := 18) C 0 rfl dX10_both_18 ?_
      refine g_iconst (pc := 19) C dX10_both_19 ci_4 ?_
      refine g_icmp_ne (pc := 20) C (tgt := 27) dX10_both_20 rfl h (fun h => ?_) (fun h => ?_)
      · refine g_iload_n (pc := 27) C 0 rfl dX10_both_27 ?_
        refine g_iconst (pc := 28) C dX10_both_28 ci_5 ?_
        refine g_icmp_eq (pc := 29) C (tgt := 38) dX10_both_29 rfl h (fun h => ?_) (fun h => ?_)
        · exact j_X10_both_38 C E     h
        · refine g_iload_n (pc := 32) C 0 rfl dX10_both_32 ?_
          refine g_bipush (pc := 33) C dX10_both_33 cb_8 ?_
          refine g_icmp_ne (pc := 35) C (tgt := 61) dX10_both_35 rfl h (fun h => ?_) (fun h => ?_)
          · refine g_iload_n (pc := 61) C 1 rfl dX10_both_61 ?_
            refine g_iload_n (pc := 62) C 2 rfl dX10_both_62 ?_
            refine g_icmp_ge (pc := 63) C (tgt := 70) dX10_both_63 rfl h (fun h => ?_) (fun h => ?_)
            · refine g_iconst (pc := 70) C dX10_both_70 ci_0 ?_
              exact j_X10_both_71 C E    0 h
            · refine g_iconst (pc := 66) C dX10_both_66 ci_1 ?_
              refine g_goto (pc := 67) C (tgt := 71) dX10_both_67 rfl ?_
              exact j_X10_both_71 C E    1 h
          · exact j_X10_both_38 C E     h
      · refine g_iload_n (pc := 23) C 1 rfl dX10_both_23 ?_
        refine g_iload_n (pc := 24) C 2 rfl dX10_both_24 ?_
        refine g_imul (pc := 25) C dX10_both_25 ?_
        cases h
        exact g_iret C E dX10_both_26
    · refine g_iload_n (pc := 14) C 1 rfl dX10_both_14 ?_
      refine g_iload_n (pc := 15) C 2 rfl dX10_both_15 ?_
      refine g_isub (pc := 16) C dX10_both_16 ?_
      cases h
      exact g_iret C E dX10_both_17
  · refine g_iload_n (pc := 5) C 1 rfl dX10_both_5 ?_
    refine g_iload_n (pc := 6) C 2 rfl dX10_both_6 ?_
    refine g_iadd (pc := 7) C dX10_both_7 ?_
    cases h
    exact g_iret C E dX10_both_8
noncomputable def f_X10_valueNow_4  (m_code : Nat → Int32) (m_ofCode : Nat → Int32) (m_codes : Int32) (m_facts : Nat → Int32) : Nat → Int32 → Int32 → (Nat → Int32) → Option (Int32 × (Nat → Int32))
  | 0, _, _, _ => none
  | n + 1, x1, x2, m_stack => if m_codes ≤ x2 then if ixb 0 150 then some (m_stack (0 : Int32).toNatClampNeg, m_stack) else none else if ixb x2 150 then if 1 < (m_code x2.toNatClampNeg) then if ixb ((x1 + (-1)) - 1) 150 then if ixb (x1 + (-1)) 150 then b1 (f_X10_both (m_code x2.toNatClampNeg) (m_stack ((x1 + (-1)) - 1).toNatClampNeg) (m_stack (x1 + (-1)).toNatClampNeg)) (fun v1 => if ixb ((x1 + (-1)) - 1) 150 then f_X10_valueNow_4 m_code m_ofCode m_codes m_facts n (x1 + (-1)) (x2 + 1) (upd m_stack ((x1 + (-1)) - 1).toNatClampNeg v1) else none) else none else none else if (m_code x2.toNatClampNeg) = 0 then if ixb x2 150 then if ixb x1 150 then f_X10_valueNow_4 m_code m_ofCode m_codes m_facts n (x1 + 1) (x2 + 1) (upd m_stack x1.toNatClampNeg (m_ofCode x2.toNatClampNeg)) else none else none else if ixb x2 150 then if ixb (m_ofCode x2.toNatClampNeg) 7 then if ixb x1 150 then f_X10_valueNow_4 m_code m_ofCode m_codes m_facts n (x1 + 1) (x2 + 1) (upd m_stack x1.toNatClampNeg (m_facts (m_ofCode x2.toNatClampNeg).toNatClampNeg)) else none else none else none else none
noncomputable def f_X10_valueNow (m_code : Nat → Int32) (m_ofCode : Nat → Int32) (m_stack : Nat → Int32) (m_codes : Int32) (m_facts : Nat → Int32) : Option (Int32 × (Nat → Int32)) := f_X10_valueNow_4 m_code m_ofCode m_codes m_facts FU 0 0 m_stack
def rm_X10_valueNow : Room := { frames := 1, cells := 0, slots := 0, locals := 22 }
set_option maxRecDepth 100000 in
set_option maxHeartbeats 4000000 in
theorem j_X10_valueNow_4 {J : Jt} {Z : Zt} {a0 : Nat → Nat} {m_thrown : Int32} {m_refused : Nat → Int32} {m_taped : Int32} {m_size : Int32} {m_at : Int32} {m_bad : Int32} {m_badKind : Int32} {m_opens : Int32} {m_faultAt : Int32} {m_tape : Nat → Int32} {m_newBed : Nat → Int32} {m_newLetter : Nat → Int32} {m_newReader : Nat → Int32} {m_bed : Nat → Int32} {m_letter : Nat → Int32} {m_reader : Nat → Int32} {m_newBeds : Int32} {m_newLetters : Int32} {m_newReaders : Int32} {m_beds : Int32} {m_letters : Int32} {m_readers : Int32} {m_newCode : Nat → Int32} {m_newOf : Nat → Int32} {m_code : Nat → Int32} {m_ofCode : Nat → Int32} {m_newCodes : Int32} {m_codes : Int32} {m_facts : Nat → Int32} {m_newStep : Nat → Int32} {m_step : Nat → Int32} {m_newSteps : Int32} {m_works : Int32} {m_refusedSteps : Int32} {m_begun : Int32} {m_done : Int32} {m_refusedNow : Int32} {m_now : Nat → Int32} {m_s : Nat → Int32} {m_past : Nat → Int32} {m_newBook : Nat → Int32} {m_book : Nat → Int32} {m_written : Int32} {m_mostBy : Nat → Int32} {m_stuffing : Nat → Int32} {m_stuffedMany : Int32} {m_lastBy : Nat → Int32} {m_leftBy : Nat → Int32} {m_splitBy : Nat → Int64} {m_seedNow : Int32} {m_image : Nat → Int32} {m_images : Int32} {r : Int32} {o_m_stack : Nat → Int32} (C : Cx J Z cX10_valueNow 4 RX10 (some .int) rm_X10_valueNow) (E : Ez J Z 0 0 (some (.int r)) (cs_X10 J.2.2.1 a0 m_thrown m_refused m_taped m_size m_at m_bad m_badKind m_opens m_faultAt m_tape m_newBed m_newLetter m_newReader m_bed m_letter m_reader m_newBeds m_newLetters m_newReaders m_beds m_letters m_readers m_newCode m_newOf m_code m_ofCode o_m_stack m_newCodes m_codes m_facts m_newStep m_step m_newSteps m_works m_refusedSteps m_begun m_done m_refusedNow m_now m_s m_past m_newBook m_book m_written m_mostBy m_stuffing m_stuffedMany m_lastBy m_leftBy m_splitBy m_seedNow m_image m_images)) : ∀ (n : Nat) (x1 : Int32) (x2 : Int32) (m_stack : Nat → Int32), f_X10_valueNow_4 m_code m_ofCode m_codes m_facts n x1 x2 m_stack = some (r, o_m_stack) → G J Z 0 0 (cs_X10 J.2.2.1 a0 m_thrown m_refused m_taped m_size m_at m_bad m_badKind m_opens m_faultAt m_tape m_newBed m_newLetter m_newReader m_bed m_letter m_reader m_newBeds m_newLetters m_newReaders m_beds m_letters m_readers m_newCode m_newOf m_code m_ofCode m_stack m_newCodes m_codes m_facts m_newStep m_step m_newSteps m_works m_refusedSteps m_begun m_done m_refusedNow m_now m_s m_past m_newBook m_book m_written m_mostBy m_stuffing m_stuffedMany m_lastBy m_leftBy m_splitBy m_seedNow m_image m_images) 4 [(0, .ref (a0 0)), (1, .int x1), (2, .int x2)] 4 [] := by
  intro n
  induction n with
  | zero =>
    intro x1 x2 m_stack h
    rw [f_X10_valueNow_4] at h
    cases h
  | succ n ih =>
    intro x1 x2 m_stack h
    rw [f_X10_valueNow_4] at h
    refine g_iload_n (pc := 4) C 2 rfl dX10_valueNow_4 ?_
    refine g_aload_n (pc := 5) C 0 rfl dX10_valueNow_5 ?_
    refine g_get (pc := 6) C FOK_X10 0 rfl rfl 28 (by decide) kw_1305 rfl dX10_valueNow_6 ?_
    refine g_icmp_ge (pc := 9) C (tgt := 95) dX10_valueNow_9 rfl h (fun h => ?_) (fun h => ?_)
    · refine g_aload_n (pc := 95) C 0 rfl dX10_valueNow_95 ?_
      refine g_get (pc := 96) C FOK_X10 0 rfl rfl 26 (by decide) kw_1303 rfl dX10_valueNow_96 ?_
      refine g_iconst (pc := 99) C dX10_valueNow_99 ci_0 ?_
      obtain ⟨hi, h⟩ := ix_of h
      refine g_iald (pc := 100) C 13 rfl hi dX10_valueNow_100 ?_
      cases h
      exact g_iret C E dX10_valueNow_101
    · refine g_aload_n (pc := 12) C 0 rfl dX10_valueNow_12 ?_
      refine g_get (pc := 13) C FOK_X10 0 rfl rfl 24 (by decide) kw_1301 rfl dX10_valueNow_13 ?_
      refine g_iload_n (pc := 16) C 2 rfl dX10_valueNow_16 ?_
      obtain ⟨hi, h⟩ := ix_of h
      refine g_iald (pc := 17) C 11 rfl hi dX10_valueNow_17 ?_
      refine g_istore_n (pc := 18) C [(3, .int (m_code x2.toNatClampNeg)), (0, .ref (a0 0)), (1, .int x1), (2, .int x2)] dX10_valueNow_18 rfl (by decide) rfl ?_
      refine g_iload_n (pc := 19) C 0 rfl dX10_valueNow_19 ?_
      refine g_iconst (pc := 20) C dX10_valueNow_20 ci_1 ?_
      refine g_icmp_gt (pc := 21) C (tgt := 60) dX10_valueNow_21 rfl h (fun h => ?_) (fun h => ?_)
      · refine g_iinc (pc := 60) C (j := 2) [(1, .int (x1 + (-1))), (3, .int (m_code x2.toNatClampNeg)), (0, .ref (a0 0)), (2, .int x2)] dX10_valueNow_60 rfl (ii_m1 _) (by decide) rfl ?_
        refine g_aload_n (pc := 63) C 2 rfl dX10_valueNow_63 ?_
        refine g_get (pc := 64) C FOK_X10 0 rfl rfl 26 (by decide) kw_1303 rfl dX10_valueNow_64 ?_
        refine g_iload_n (pc := 67) C 0 rfl dX10_valueNow_67 ?_
        refine g_iconst (pc := 68) C dX10_valueNow_68 ci_1 ?_
        refine g_isub (pc := 69) C dX10_valueNow_69 ?_
        refine g_iload_n (pc := 70) C 1 rfl dX10_valueNow_70 ?_
        refine g_aload_n (pc := 71) C 2 rfl dX10_valueNow_71 ?_
        refine g_get (pc := 72) C FOK_X10 0 rfl rfl 26 (by decide) kw_1303 rfl dX10_valueNow_72 ?_
        refine g_iload_n (pc := 75) C 0 rfl dX10_valueNow_75 ?_
        refine g_iconst (pc := 76) C dX10_valueNow_76 ci_1 ?_
        refine g_isub (pc := 77) C dX10_valueNow_77 ?_
        obtain ⟨hi, h⟩ := ix_of h
        refine g_iald (pc := 78) C 13 rfl hi dX10_valueNow_78 ?_
        refine g_aload_n (pc := 79) C 2 rfl dX10_valueNow_79 ?_
        refine g_get (pc := 80) C FOK_X10 0 rfl rfl 26 (by decide) kw_1303 rfl dX10_valueNow_80 ?_
        refine g_iload_n (pc := 83) C 0 rfl dX10_valueNow_83 ?_
        obtain ⟨hi, h⟩ := ix_of h
        refine g_iald (pc := 84) C 13 rfl hi dX10_valueNow_84 ?_
        obtain ⟨v1, hc, h⟩ := b1_of h
        refine g_callS (pc := 85) C (w' := cs_X10 J.2.2.1 a0 m_thrown m_refused m_taped m_size m_at m_bad m_badKind m_opens m_faultAt m_tape m_newBed m_newLetter m_newReader m_bed m_letter m_reader m_newBeds m_newLetters m_newReaders m_beds m_letters m_readers m_newCode m_newOf m_code m_ofCode m_stack m_newCodes m_codes m_facts m_newStep m_step m_newSteps m_works m_refusedSteps m_begun m_done m_refusedNow m_now m_s m_past m_newBook m_book m_written m_mostBy m_stuffing m_stuffedMany m_lastBy m_leftBy m_splitBy m_seedNow m_image m_images) (As := [.int (m_code x2.toNatClampNeg), .int (m_stack ((x1 + (-1)) - 1).toNatClampNeg), .int (m_stack (x1 + (-1)).toNatClampNeg)]) (st := [.int ((x1 + (-1)) - 1), .ref (a0 13)]) (t_X10_both hc) Sub.nil kw_1662 kw_1663 kw_95 hy_X10_both kw_1664 rfl (Nat.le_of_ble_eq_true rfl) (Nat.le_of_ble_eq_true rfl) (Nat.le_of_ble_eq_true rfl) (Nat.le_of_ble_eq_true rfl) (Nat.le_of_ble_eq_true rfl) dX10_valueNow_85 ?_
        obtain ⟨hi, h⟩ := ix_of h
        refine g_iast (pc := 88) C (w' := cs_X10 J.2.2.1 a0 m_thrown m_refused m_taped m_size m_at m_bad m_badKind m_opens m_faultAt m_tape m_newBed m_newLetter m_newReader m_bed m_letter m_reader m_newBeds m_newLetters m_newReaders m_beds m_letters m_readers m_newCode m_newOf m_code m_ofCode (upd m_stack ((x1 + (-1)) - 1).toNatClampNeg v1) m_newCodes m_codes m_facts m_newStep m_step m_newSteps m_works m_refusedSteps m_begun m_done m_refusedNow m_now m_s m_past m_newBook m_book m_written m_mostBy m_stuffing m_stuffedMany m_lastBy m_leftBy m_splitBy m_seedNow m_image m_images) 13 rfl hi dX10_valueNow_88 rfl ?_
        refine g_iinc (pc := 89) C (j := 3) [(2, .int (x2 + 1)), (1, .int (x1 + (-1))), (3, .int (m_code x2.toNatClampNeg)), (0, .ref (a0 0))] dX10_valueNow_89 rfl (ii_1 _) (by decide) rfl ?_
        refine g_goto (pc := 92) C (tgt := 4) dX10_valueNow_92 rfl ?_
        refine g_lv [3, 1, 0] rfl ?_
        exact ih (x1 + (-1)) (x2 + 1) (upd m_stack ((x1 + (-1)) - 1).toNatClampNeg v1) h
      · refine g_aload_n (pc := 24) C 1 rfl dX10_valueNow_24 ?_
        refine g_get (pc := 25) C FOK_X10 0 rfl rfl 26 (by decide) kw_1303 rfl dX10_valueNow_25 ?_
        refine g_iload_n (pc := 28) C 2 rfl dX10_valueNow_28 ?_
        refine g_iload_n (pc := 29) C 0 rfl dX10_valueNow_29 ?_
        refine g_if_ne (pc := 30) C (tgt := 42) dX10_valueNow_30 rfl h (fun h => ?_) (fun h => ?_)
        · refine g_aload_n (pc := 42) C 1 rfl dX10_valueNow_42 ?_
          refine g_get (pc := 43) C FOK_X10 0 rfl rfl 29 (by decide) kw_1306 rfl dX10_valueNow_43 ?_
          refine g_aload_n (pc := 46) C 1 rfl dX10_valueNow_46 ?_
          refine g_get (pc := 47) C FOK_X10 0 rfl rfl 25 (by decide) kw_1302 rfl dX10_valueNow_47 ?_
          refine g_iload_n (pc := 50) C 3 rfl dX10_valueNow_50 ?_
          obtain ⟨hi, h⟩ := ix_of h
          refine g_iald (pc := 51) C 12 rfl hi dX10_valueNow_51 ?_
          obtain ⟨hi, h⟩ := ix_of h
          refine g_iald (pc := 52) C 14 rfl hi dX10_valueNow_52 ?_
          obtain ⟨hi, h⟩ := ix_of h
          refine g_iast (pc := 53) C (w' := cs_X10 J.2.2.1 a0 m_thrown m_refused m_taped m_size m_at m_bad m_badKind m_opens m_faultAt m_tape m_newBed m_newLetter m_newReader m_bed m_letter m_reader m_newBeds m_newLetters m_newReaders m_beds m_letters m_readers m_newCode m_newOf m_code m_ofCode (upd m_stack x1.toNatClampNeg (m_facts (m_ofCode x2.toNatClampNeg).toNatClampNeg)) m_newCodes m_codes m_facts m_newStep m_step m_newSteps m_works m_refusedSteps m_begun m_done m_refusedNow m_now m_s m_past m_newBook m_book m_written m_mostBy m_stuffing m_stuffedMany m_lastBy m_leftBy m_splitBy m_seedNow m_image m_images) 13 rfl hi dX10_valueNow_53 rfl ?_
          refine g_iinc (pc := 54) C (j := 2) [(1, .int (x1 + 1)), (3, .int (m_code x2.toNatClampNeg)), (0, .ref (a0 0)), (2, .int x2)] dX10_valueNow_54 rfl (ii_1 _) (by decide) rfl ?_
          refine g_goto (pc := 57) C (tgt := 89) dX10_valueNow_57 rfl ?_
          refine g_iinc (pc := 89) C (j := 3) [(2, .int (x2 + 1)), (1, .int (x1 + 1)), (3, .int (m_code x2.toNatClampNeg)), (0, .ref (a0 0))] dX10_valueNow_89 rfl (ii_1 _) (by decide) rfl ?_
          refine g_goto (pc := 92) C (tgt := 4) dX10_valueNow_92 rfl ?_
          refine g_lv [3, 1, 0] rfl ?_
          exact ih (x1 + 1) (x2 + 1) (upd m_stack x1.toNatClampNeg (m_facts (m_ofCode x2.toNatClampNeg).toNatClampNeg)) h
        · refine g_aload_n (pc := 33) C 1 rfl dX10_valueNow_33 ?_
          refine g_get (pc := 34) C FOK_X10 0 rfl rfl 25 (by decide) kw_1302 rfl dX10_valueNow_34 ?_
          refine g_iload_n (pc := 37) C 3 rfl dX10_valueNow_37 ?_
          obtain ⟨hi, h⟩ := ix_of h
          refine g_iald (pc := 38) C 12 rfl hi dX10_valueNow_38 ?_
          refine g_goto (pc := 39) C (tgt := 53) dX10_valueNow_39 rfl ?_
          obtain ⟨hi, h⟩ := ix_of h
          refine g_iast (pc := 53) C (w' := cs_X10 J.2.2.1 a0 m_thrown m_refused m_taped m_size m_at m_bad m_badKind m_opens m_faultAt m_tape m_newBed m_newLetter m_newReader m_bed m_letter m_reader m_newBeds m_newLetters m_newReaders m_beds m_letters m_readers m_newCode m_newOf m_code m_ofCode (upd m_stack x1.toNatClampNeg (m_ofCode x2.toNatClampNeg)) m_newCodes m_codes m_facts m_newStep m_step m_newSteps m_works m_refusedSteps m_begun m_done m_refusedNow m_now m_s m_past m_newBook m_book m_written m_mostBy m_stuffing m_stuffedMany m_lastBy m_leftBy m_splitBy m_seedNow m_image m_images) 13 rfl hi dX10_valueNow_53 rfl ?_
          refine g_iinc (pc := 54) C (j := 2) [(1, .int (x1 + 1)), (3, .int (m_code x2.toNatClampNeg)), (0, .ref (a0 0)), (2, .int x2)] dX10_valueNow_54 rfl (ii_1 _) (by decide) rfl ?_
          refine g_goto (pc := 57) C (tgt := 89) dX10_valueNow_57 rfl ?_
          refine g_iinc (pc := 89) C (j := 3) [(2, .int (x2 + 1)), (1, .int (x1 + 1)), (3, .int (m_code x2.toNatClampNeg)), (0, .ref (a0 0))] dX10_valueNow_89 rfl (ii_1 _) (by decide) rfl ?_
          refine g_goto (pc := 92) C (tgt := 4) dX10_valueNow_92 rfl ?_
          refine g_lv [3, 1, 0] rfl ?_
          exact ih (x1 + 1) (x2 + 1) (upd m_stack x1.toNatClampNeg (m_ofCode x2.toNatClampNeg)) h
set_option maxRecDepth 100000 in
set_option maxHeartbeats 4000000 in
theorem t_X10_valueNow {J : Jt} {a0 : Nat → Nat} {m_thrown : Int32} {m_refused : Nat → Int32} {m_taped : Int32} {m_size : Int32} {m_at : Int32} {m_bad : Int32} {m_badKind : Int32} {m_opens : Int32} {m_faultAt : Int32} {m_tape : Nat → Int32} {m_newBed : Nat → Int32} {m_newLetter : Nat → Int32} {m_newReader : Nat → Int32} {m_bed : Nat → Int32} {m_letter : Nat → Int32} {m_reader : Nat → Int32} {m_newBeds : Int32} {m_newLetters : Int32} {m_newReaders : Int32} {m_beds : Int32} {m_letters : Int32} {m_readers : Int32} {m_newCode : Nat → Int32} {m_newOf : Nat → Int32} {m_code : Nat → Int32} {m_ofCode : Nat → Int32} {m_stack : Nat → Int32} {m_newCodes : Int32} {m_codes : Int32} {m_facts : Nat → Int32} {m_newStep : Nat → Int32} {m_step : Nat → Int32} {m_newSteps : Int32} {m_works : Int32} {m_refusedSteps : Int32} {m_begun : Int32} {m_done : Int32} {m_refusedNow : Int32} {m_now : Nat → Int32} {m_s : Nat → Int32} {m_past : Nat → Int32} {m_newBook : Nat → Int32} {m_book : Nat → Int32} {m_written : Int32} {m_mostBy : Nat → Int32} {m_stuffing : Nat → Int32} {m_stuffedMany : Int32} {m_lastBy : Nat → Int32} {m_leftBy : Nat → Int32} {m_splitBy : Nat → Int64} {m_seedNow : Int32} {m_image : Nat → Int32} {m_images : Int32} {r : Int32} {o_m_stack : Nat → Int32} (h : f_X10_valueNow m_code m_ofCode m_stack m_codes m_facts = some (r, o_m_stack)) : Mt J yX10_valueNow cX10_valueNow 4 (some .int) rm_X10_valueNow [.ref (a0 0)] (cs_X10 J.2.2.1 a0 m_thrown m_refused m_taped m_size m_at m_bad m_badKind m_opens m_faultAt m_tape m_newBed m_newLetter m_newReader m_bed m_letter m_reader m_newBeds m_newLetters m_newReaders m_beds m_letters m_readers m_newCode m_newOf m_code m_ofCode m_stack m_newCodes m_codes m_facts m_newStep m_step m_newSteps m_works m_refusedSteps m_begun m_done m_refusedNow m_now m_s m_past m_newBook m_book m_written m_mostBy m_stuffing m_stuffedMany m_lastBy m_leftBy m_splitBy m_seedNow m_image m_images) (some (.int r)) (cs_X10 J.2.2.1 a0 m_thrown m_refused m_taped m_size m_at m_bad m_badKind m_opens m_faultAt m_tape m_newBed m_newLetter m_newReader m_bed m_letter m_reader m_newBeds m_newLetters m_newReaders m_beds m_letters m_readers m_newCode m_newOf m_code m_ofCode o_m_stack m_newCodes m_codes m_facts m_newStep m_step m_newSteps m_works m_refusedSteps m_begun m_done m_refusedNow m_now m_s m_past m_newBook m_book m_written m_mostBy m_stuffing m_stuffedMany m_lastBy m_leftBy m_splitBy m_seedNow m_image m_images) := by
  refine Mt_of (own := RX10) (by decide) rfl (Nat.le_of_ble_eq_true rfl) rfl (fun Z C E => ?_)
  unfold f_X10_valueNow at h
  show G J Z 0 0 (cs_X10 J.2.2.1 a0 m_thrown m_refused m_taped m_size m_at m_bad m_badKind m_opens m_faultAt m_tape m_newBed m_newLetter m_newReader m_bed m_letter m_reader m_newBeds m_newLetters m_newReaders m_beds m_letters m_readers m_newCode m_newOf m_code m_ofCode m_stack m_newCodes m_codes m_facts m_newStep m_step m_newSteps m_works m_refusedSteps m_begun m_done m_refusedNow m_now m_s m_past m_newBook m_book m_written m_mostBy m_stuffing m_stuffedMany m_lastBy m_leftBy m_splitBy m_seedNow m_image m_images) 4 [(0, .ref (a0 0))] 0 []
  refine g_iconst (pc := 0) C dX10_valueNow_0 ci_0 ?_
  refine g_istore_n (pc := 1) C [(1, .int 0), (0, .ref (a0 0))] dX10_valueNow_1 rfl (by decide) rfl ?_
  refine g_iconst (pc := 2) C dX10_valueNow_2 ci_0 ?_
  refine g_istore_n (pc := 3) C [(2, .int 0), (1, .int 0), (0, .ref (a0 0))] dX10_valueNow_3 rfl (by decide) rfl ?_
  refine g_lv [2, 1, 0] rfl ?_
  exact j_X10_valueNow_4 C E    FU 0 0 m_stack h
noncomputable def f_X10_runNow_24  (m_code : Nat → Int32) (m_ofCode : Nat → Int32) (m_codes : Int32) (m_facts : Nat → Int32) (y0 : Int32) (m_stack : Nat → Int32) : Option (Int32 × (Nat → Int32)) := if 0 ≤ y0 then if y0 ≤ 8 then some (y0, m_stack) else some (8, m_stack) else some (0, m_stack)
noncomputable def f_X10_runNow (m_code : Nat → Int32) (m_ofCode : Nat → Int32) (m_stack : Nat → Int32) (m_codes : Int32) (m_facts : Nat → Int32) : Option (Int32 × (Nat → Int32)) := if m_codes = 0 then if ixb 0 7 then f_X10_runNow_24 m_code m_ofCode m_codes m_facts (((m_facts (0 : Int32).toNatClampNeg) / 4) + 1) m_stack else none else b2 (f_X10_valueNow m_code m_ofCode m_stack m_codes m_facts) (fun v1 c2 => f_X10_runNow_24 m_code m_ofCode m_codes m_facts v1 c2)
def rm_X10_runNow : Room := { frames := 2, cells := 0, slots := 0, locals := 45 }
set_option maxRecDepth 100000 in
set_option maxHeartbeats 4000000 in
theorem j_X10_runNow_24 {J : Jt} {Z : Zt} {a0 : Nat → Nat} {m_thrown : Int32} {m_refused : Nat → Int32} {m_taped : Int32} {m_size : Int32} {m_at : Int32} {m_bad : Int32} {m_badKind : Int32} {m_opens : Int32} {m_faultAt : Int32} {m_tape : Nat → Int32} {m_newBed : Nat → Int32} {m_newLetter : Nat → Int32} {m_newReader : Nat → Int32} {m_bed : Nat → Int32} {m_letter : Nat → Int32} {m_reader : Nat → Int32} {m_newBeds : Int32} {m_newLetters : Int32} {m_newReaders : Int32} {m_beds : Int32} {m_letters : Int32} {m_readers : Int32} {m_newCode : Nat → Int32} {m_newOf : Nat → Int32} {m_code : Nat → Int32} {m_ofCode : Nat → Int32} {m_newCodes : Int32} {m_codes : Int32} {m_facts : Nat → Int32} {m_newStep : Nat → Int32} {m_step : Nat → Int32} {m_newSteps : Int32} {m_works : Int32} {m_refusedSteps : Int32} {m_begun : Int32} {m_done : Int32} {m_refusedNow : Int32} {m_now : Nat → Int32} {m_s : Nat → Int32} {m_past : Nat → Int32} {m_newBook : Nat → Int32} {m_book : Nat → Int32} {m_written : Int32} {m_mostBy : Nat → Int32} {m_stuffing : Nat → Int32} {m_stuffedMany : Int32} {m_lastBy : Nat → Int32} {m_leftBy : Nat → Int32} {m_splitBy : Nat → Int64} {m_seedNow : Int32} {m_image : Nat → Int32} {m_images : Int32} {r : Int32} {o_m_stack : Nat → Int32} (C : Cx J Z cX10_runNow 2 RX10 (some .int) rm_X10_runNow) (E : Ez J Z 0 0 (some (.int r)) (cs_X10 J.2.2.1 a0 m_thrown m_refused m_taped m_size m_at m_bad m_badKind m_opens m_faultAt m_tape m_newBed m_newLetter m_newReader m_bed m_letter m_reader m_newBeds m_newLetters m_newReaders m_beds m_letters m_readers m_newCode m_newOf m_code m_ofCode o_m_stack m_newCodes m_codes m_facts m_newStep m_step m_newSteps m_works m_refusedSteps m_begun m_done m_refusedNow m_now m_s m_past m_newBook m_book m_written m_mostBy m_stuffing m_stuffedMany m_lastBy m_leftBy m_splitBy m_seedNow m_image m_images)) : ∀ (y0 : Int32) (m_stack : Nat → Int32), f_X10_runNow_24 m_code m_ofCode m_codes m_facts y0 m_stack = some (r, o_m_stack) → G J Z 0 0 (cs_X10 J.2.2.1 a0 m_thrown m_refused m_taped m_size m_at m_bad m_badKind m_opens m_faultAt m_tape m_newBed m_newLetter m_newReader m_bed m_letter m_reader m_newBeds m_newLetters m_newReaders m_beds m_letters m_readers m_newCode m_newOf m_code m_ofCode m_stack m_newCodes m_codes m_facts m_newStep m_step m_newSteps m_works m_refusedSteps m_begun m_done m_refusedNow m_now m_s m_past m_newBook m_book m_written m_mostBy m_stuffing m_stuffedMany m_lastBy m_leftBy m_splitBy m_seedNow m_image m_images) 2 [] 24 [.int y0] := by
  intro y0 m_stack h
  unfold f_X10_runNow_24 at h
  refine g_istore_n (pc := 24) C [(1, .int y0)] dX10_runNow_24 rfl (by decide) rfl ?_
  refine g_iload_n (pc := 25) C 0 rfl dX10_runNow_25 ?_
  refine g_if_ge (pc := 26) C (tgt := 33) dX10_runNow_26 rfl h (fun h => ?_) (fun h => ?_)
  · refine g_iload_n (pc := 33) C 0 rfl dX10_runNow_33 ?_
    refine g_bipush (pc := 34) C dX10_runNow_34 cb_8 ?_
    refine g_icmp_le (pc := 36) C (tgt := 44) dX10_runNow_36 rfl h (fun h => ?_) (fun h => ?_)
    · refine g_iload_n (pc := 44) C 0 rfl dX10_runNow_44 ?_
      cases h
      exact g_iret C E dX10_runNow_45
    · refine g_bipush (pc := 39) C dX10_runNow_39 cb_8 ?_
      refine g_goto (pc := 41) C (tgt := 45) dX10_runNow_41 rfl ?_
      cases h
      exact g_iret C E dX10_runNow_45
  · refine g_iconst (pc := 29) C dX10_runNow_29 ci_0 ?_
    refine g_goto (pc := 30) C (tgt := 45) dX10_runNow_30 rfl ?_
    cases h
    exact g_iret C E dX10_runNow_45
set_option maxRecDepth 100000 in
set_option maxHeartbeats 4000000 in
theorem t_X10_runNow {J : Jt} {a0 : Nat → Nat} {m_thrown : Int32} {m_refused : Nat → Int32} {m_taped : Int32} {m_size : Int32} {m_at : Int32} {m_bad : Int32} {m_badKind : Int32} {m_opens : Int32} {m_faultAt : Int32} {m_tape : Nat → Int32} {m_newBed : Nat → Int32} {m_newLetter : Nat → Int32} {m_newReader : Nat → Int32} {m_bed : Nat → Int32} {m_letter : Nat → Int32} {m_reader : Nat → Int32} {m_newBeds : Int32} {m_newLetters : Int32} {m_newReaders : Int32} {m_beds : Int32} {m_letters : Int32} {m_readers : Int32} {m_newCode : Nat → Int32} {m_newOf : Nat → Int32} {m_code : Nat → Int32} {m_ofCode : Nat → Int32} {m_stack : Nat → Int32} {m_newCodes : Int32} {m_codes : Int32} {m_facts : Nat → Int32} {m_newStep : Nat → Int32} {m_step : Nat → Int32} {m_newSteps : Int32} {m_works : Int32} {m_refusedSteps : Int32} {m_begun : Int32} {m_done : Int32} {m_refusedNow : Int32} {m_now : Nat → Int32} {m_s : Nat → Int32} {m_past : Nat → Int32} {m_newBook : Nat → Int32} {m_book : Nat → Int32} {m_written : Int32} {m_mostBy : Nat → Int32} {m_stuffing : Nat → Int32} {m_stuffedMany : Int32} {m_lastBy : Nat → Int32} {m_leftBy : Nat → Int32} {m_splitBy : Nat → Int64} {m_seedNow : Int32} {m_image : Nat → Int32} {m_images : Int32} {r : Int32} {o_m_stack : Nat → Int32} (h : f_X10_runNow m_code m_ofCode m_stack m_codes m_facts = some (r, o_m_stack)) : Mt J yX10_runNow cX10_runNow 2 (some .int) rm_X10_runNow [.ref (a0 0)] (cs_X10 J.2.2.1 a0 m_thrown m_refused m_taped m_size m_at m_bad m_badKind m_opens m_faultAt m_tape m_newBed m_newLetter m_newReader m_bed m_letter m_reader m_newBeds m_newLetters m_newReaders m_beds m_letters m_readers m_newCode m_newOf m_code m_ofCode m_stack m_newCodes m_codes m_facts m_newStep m_step m_newSteps m_works m_refusedSteps m_begun m_done m_refusedNow m_now m_s m_past m_newBook m_book m_written m_mostBy m_stuffing m_stuffedMany m_lastBy m_leftBy m_splitBy m_seedNow m_image m_images) (some (.int r)) (cs_X10 J.2.2.1 a0 m_thrown m_refused m_taped m_size m_at m_bad m_badKind m_opens m_faultAt m_tape m_newBed m_newLetter m_newReader m_bed m_letter m_reader m_newBeds m_newLetters m_newReaders m_beds m_letters m_readers m_newCode m_newOf m_code m_ofCode o_m_stack m_newCodes m_codes m_facts m_newStep m_step m_newSteps m_works m_refusedSteps m_begun m_done m_refusedNow m_now m_s m_past m_newBook m_book m_written m_mostBy m_stuffing m_stuffedMany m_lastBy m_leftBy m_splitBy m_seedNow m_image m_images) := by
  refine Mt_of (own := RX10) (by decide) rfl (Nat.le_of_ble_eq_true rfl) rfl (fun Z C E => ?_)
  unfold f_X10_runNow at h
  show G J Z 0 0 (cs_X10 J.2.2.1 a0 m_thrown m_refused m_taped m_size m_at m_bad m_badKind m_opens m_faultAt m_tape m_newBed m_newLetter m_newReader m_bed m_letter m_reader m_newBeds m_newLetters m_newReaders m_beds m_letters m_readers m_newCode m_newOf m_code m_ofCode m_stack m_newCodes m_codes m_facts m_newStep m_step m_newSteps m_works m_refusedSteps m_begun m_done m_refusedNow m_now m_s m_past m_newBook m_book m_written m_mostBy m_stuffing m_stuffedMany m_lastBy m_leftBy m_splitBy m_seedNow m_image m_images) 2 [(0, .ref (a0 0))] 0 []
  refine g_aload_n (pc := 0) C 0 rfl dX10_runNow_0 ?_
  refine g_get (pc := 1) C FOK_X10 0 rfl rfl 28 (by decide) kw_1305 rfl dX10_runNow_1 ?_
  refine g_if_ne (pc := 4) C (tgt := 20) dX10_runNow_4 rfl h (fun h => ?_) (fun h => ?_)
  · refine g_aload_n (pc := 20) C 0 rfl dX10_runNow_20 ?_
    obtain ⟨v1, c2, hc, h⟩ := b2_of h
    refine g_callV (pc := 21) C (w' := cs_X10 J.2.2.1 a0 m_thrown m_refused m_taped m_size m_at m_bad m_badKind m_opens m_faultAt m_tape m_newBed m_newLetter m_newReader m_bed m_letter m_reader m_newBeds m_newLetters m_newReaders m_beds m_letters m_readers m_newCode m_newOf m_code m_ofCode c2 m_newCodes m_codes m_facts m_newStep m_step m_newSteps m_works m_refusedSteps m_begun m_done m_refusedNow m_now m_s m_past m_newBook m_book m_written m_mostBy m_stuffing m_stuffedMany m_lastBy m_leftBy m_splitBy m_seedNow m_image m_images) (As := []) (st := []) (ci := 10) (q0 := 0) rfl rfl (t_X10_valueNow (a0 := a0) hc) Sub.same kw_1658 kw_1660 kw_61 kw_95 hy_X10_valueNow kw_1661 rfl (Nat.le_of_ble_eq_true rfl) (Nat.le_of_ble_eq_true rfl) (Nat.le_of_ble_eq_true rfl) (Nat.le_of_ble_eq_true rfl) (Nat.le_of_ble_eq_true rfl) dX10_runNow_21 ?_
    refine g_lv [] rfl ?_
    exact j_X10_runNow_24 C E    v1 c2 h
  · refine g_aload_n (pc := 7) C 0 rfl dX10_runNow_7 ?_
    refine g_get (pc := 8) C FOK_X10 0 rfl rfl 29 (by decide) kw_1306 rfl dX10_runNow_8 ?_
    refine g_iconst (pc := 11) C dX10_runNow_11 ci_0 ?_
    obtain ⟨hi, h⟩ := ix_of h
    refine g_iald (pc := 12) C 14 rfl hi dX10_runNow_12 ?_
    refine g_iconst (pc := 13) C dX10_runNow_13 ci_4 ?_
    refine g_idiv (pc := 14) C dX10_runNow_14 (by decide) ?_
    refine g_iconst (pc := 15) C dX10_runNow_15 ci_1 ?_
    refine g_iadd (pc := 16) C dX10_runNow_16 ?_
    refine g_goto (pc := 17) C (tgt := 24) dX10_runNow_17 rfl ?_
    refine g_lv [] rfl ?_
    exact j_X10_runNow_24 C E    (((m_facts (0 : Int32).toNatClampNeg) / 4) + 1) m_stack h
noncomputable def f_X10_tellsStep (m_bad : Int32) (m_newStep : Nat → Int32) (m_newSteps : Int32) (n1 : Int32) (n2 : Int32) (n3 : Int32) : Option ((Nat → Int32) × Int32) := b1 (f_X10_fine m_bad) (fun v1 => if v1 = 0 then some (m_newStep, m_newSteps) else if ixb m_newSteps 150 then if ixb (m_newSteps + 1) 150 then if ixb (m_newSteps + 2) 150 then some (upd (upd (upd m_newStep m_newSteps.toNatClampNeg n1) (m_newSteps + 1).toNatClampNeg n2) (m_newSteps + 2).toNatClampNeg n3, m_newSteps + 3) else none else none else none)
def rm_X10_tellsStep : Room := { frames := 1, cells := 0, slots := 0, locals := 20 }
set_option maxRecDepth 100000 in
set_option maxHeartbeats 4000000 in
theorem t_X10_tellsStep {J : Jt} {a0 : Nat → Nat} {m_thrown : Int32} {m_refused : Nat → Int32} {m_taped : Int32} {m_size : Int32} {m_at : Int32} {m_bad : Int32} {m_badKind : Int32} {m_opens : Int32} {m_faultAt : Int32} {m_tape : Nat → Int32} {m_newBed : Nat → Int32} {m_newLetter : Nat → Int32} {m_newReader : Nat → Int32} {m_bed : Nat → Int32} {m_letter : Nat → Int32} {m_reader : Nat → Int32} {m_newBeds : Int32} {m_newLetters : Int32} {m_newReaders : Int32} {m_beds : Int32} {m_letters : Int32} {m_readers : Int32} {m_newCode : Nat → Int32} {m_newOf : Nat → Int32} {m_code : Nat → Int32} {m_ofCode : Nat → Int32} {m_stack : Nat → Int32} {m_newCodes : Int32} {m_codes : Int32} {m_facts : Nat → Int32} {m_newStep : Nat → Int32} {m_step : Nat → Int32} {m_newSteps : Int32} {m_works : Int32} {m_refusedSteps : Int32} {m_begun : Int32} {m_done : Int32} {m_refusedNow : Int32} {m_now : Nat → Int32} {m_s : Nat → Int32} {m_past : Nat → Int32} {m_newBook : Nat → Int32} {m_book : Nat → Int32} {m_written : Int32} {m_mostBy : Nat → Int32} {m_stuffing : Nat → Int32} {m_stuffedMany : Int32} {m_lastBy : Nat → Int32} {m_leftBy : Nat → Int32} {m_splitBy : Nat → Int64} {m_seedNow : Int32} {m_image : Nat → Int32} {m_images : Int32} {n1 : Int32} {n2 : Int32} {n3 : Int32} {o_m_newStep : Nat → Int32} {o_m_newSteps : Int32} (h : f_X10_tellsStep m_bad m_newStep m_newSteps n1 n2 n3 = some (o_m_newStep, o_m_newSteps)) : Mt J yX10_tellsStep cX10_tellsStep 4 none rm_X10_tellsStep [.ref (a0 0), .int n1, .int n2, .int n3] (cs_X10 J.2.2.1 a0 m_thrown m_refused m_taped m_size m_at m_bad m_badKind m_opens m_faultAt m_tape m_newBed m_newLetter m_newReader m_bed m_letter m_reader m_newBeds m_newLetters m_newReaders m_beds m_letters m_readers m_newCode m_newOf m_code m_ofCode m_stack m_newCodes m_codes m_facts m_newStep m_step m_newSteps m_works m_refusedSteps m_begun m_done m_refusedNow m_now m_s m_past m_newBook m_book m_written m_mostBy m_stuffing m_stuffedMany m_lastBy m_leftBy m_splitBy m_seedNow m_image m_images) none (cs_X10 J.2.2.1 a0 m_thrown m_refused m_taped m_size m_at m_bad m_badKind m_opens m_faultAt m_tape m_newBed m_newLetter m_newReader m_bed m_letter m_reader m_newBeds m_newLetters m_newReaders m_beds m_letters m_readers m_newCode m_newOf m_code m_ofCode m_stack m_newCodes m_codes m_facts o_m_newStep m_step o_m_newSteps m_works m_refusedSteps m_begun m_done m_refusedNow m_now m_s m_past m_newBook m_book m_written m_mostBy m_stuffing m_stuffedMany m_lastBy m_leftBy m_splitBy m_seedNow m_image m_images) := by
  refine Mt_of (own := RX10) (by decide) rfl (Nat.le_of_ble_eq_true rfl) rfl (fun Z C E => ?_)
  unfold f_X10_tellsStep at h
  show G J Z 0 0 (cs_X10 J.2.2.1 a0 m_thrown m_refused m_taped m_size m_at m_bad m_badKind m_opens m_faultAt m_tape m_newBed m_newLetter m_newReader m_bed m_letter m_reader m_newBeds m_newLetters m_newReaders m_beds m_letters m_readers m_newCode m_newOf m_code m_ofCode m_stack m_newCodes m_codes m_facts m_newStep m_step m_newSteps m_works m_refusedSteps m_begun m_done m_refusedNow m_now m_s m_past m_newBook m_book m_written m_mostBy m_stuffing m_stuffedMany m_lastBy m_leftBy m_splitBy m_seedNow m_image m_images) 4 [(0, .ref (a0 0)), (1, .int n1), (2, .int n2), (3, .int n3)] 0 []
  refine g_aload_n (pc := 0) C 0 rfl dX10_tellsStep_0 ?_
  obtain ⟨v1, hc, h⟩ := b1_of h
  refine g_callV (pc := 1) C (w' := cs_X10 J.2.2.1 a0 m_thrown m_refused m_taped m_size m_at m_bad m_badKind m_opens m_faultAt m_tape m_newBed m_newLetter m_newReader m_bed m_letter m_reader m_newBeds m_newLetters m_newReaders m_beds m_letters m_readers m_newCode m_newOf m_code m_ofCode m_stack m_newCodes m_codes m_facts m_newStep m_step m_newSteps m_works m_refusedSteps m_begun m_done m_refusedNow m_now m_s m_past m_newBook m_book m_written m_mostBy m_stuffing m_stuffedMany m_lastBy m_leftBy m_splitBy m_seedNow m_image m_images) (As := []) (st := []) (ci := 10) (q0 := 0) rfl rfl (t_X10_fine (a0 := a0) hc) Sub.same kw_1458 kw_1460 kw_22 kw_95 hy_X10_fine kw_1461 rfl (Nat.le_of_ble_eq_true rfl) (Nat.le_of_ble_eq_true rfl) (Nat.le_of_ble_eq_true rfl) (Nat.le_of_ble_eq_true rfl) (Nat.le_of_ble_eq_true rfl) dX10_tellsStep_1 ?_
  refine g_if_ne (pc := 4) C (tgt := 8) dX10_tellsStep_4 rfl h (fun h => ?_) (fun h => ?_)
  · refine g_aload_n (pc := 8) C 0 rfl dX10_tellsStep_8 ?_
    refine g_get (pc := 9) C FOK_X10 0 rfl rfl 30 (by decide) kw_1307 rfl dX10_tellsStep_9 ?_
    refine g_aload_n (pc := 12) C 0 rfl dX10_tellsStep_12 ?_
    refine g_get (pc := 13) C FOK_X10 0 rfl rfl 32 (by decide) kw_1309 rfl dX10_tellsStep_13 ?_
    refine g_iload_n (pc := 16) C 1 rfl dX10_tellsStep_16 ?_
    obtain ⟨hi, h⟩ := ix_of h
    refine g_iast (pc := 17) C (w' := cs_X10 J.2.2.1 a0 m_thrown m_refused m_taped m_size m_at m_bad m_badKind m_opens m_faultAt m_tape m_newBed m_newLetter m_newReader m_bed m_letter m_reader m_newBeds m_newLetters m_newReaders m_beds m_letters m_readers m_newCode m_newOf m_code m_ofCode m_stack m_newCodes m_codes m_facts (upd m_newStep m_newSteps.toNatClampNeg n1) m_step m_newSteps m_works m_refusedSteps m_begun m_done m_refusedNow m_now m_s m_past m_newBook m_book m_written m_mostBy m_stuffing m_stuffedMany m_lastBy m_leftBy m_splitBy m_seedNow m_image m_images) 15 rfl hi dX10_tellsStep_17 rfl ?_
    refine g_aload_n (pc := 18) C 0 rfl dX10_tellsStep_18 ?_
    refine g_get (pc := 19) C FOK_X10 0 rfl rfl 30 (by decide) kw_1307 rfl dX10_tellsStep_19 ?_
    refine g_aload_n (pc := 22) C 0 rfl dX10_tellsStep_22 ?_
    refine g_get (pc := 23) C FOK_X10 0 rfl rfl 32 (by decide) kw_1309 rfl dX10_tellsStep_23 ?_
    refine g_iconst (pc := 26) C dX10_tellsStep_26 ci_1 ?_
    refine g_iadd (pc := 27) C dX10_tellsStep_27 ?_
    refine g_iload_n (pc := 28) C 2 rfl dX10_tellsStep_28 ?_
    obtain ⟨hi, h⟩ := ix_of h
    refine g_iast (pc := 29) C (w' := cs_X10 J.2.2.1 a0 m_thrown m_refused m_taped m_size m_at m_bad m_badKind m_opens m_faultAt m_tape m_newBed m_newLetter m_newReader m_bed m_letter m_reader m_newBeds m_newLetters m_newReaders m_beds m_letters m_readers m_newCode m_newOf m_code m_ofCode m_stack m_newCodes m_codes m_facts (upd (upd m_newStep m_newSteps.toNatClampNeg n1) (m_newSteps + 1).toNatClampNeg n2) m_step m_newSteps m_works m_refusedSteps m_begun m_done m_refusedNow m_now m_s m_past m_newBook m_book m_written m_mostBy m_stuffing m_stuffedMany m_lastBy m_leftBy m_splitBy m_seedNow m_image m_images) 15 rfl hi dX10_tellsStep_29 rfl ?_
    refine g_aload_n (pc := 30) C 0 rfl dX10_tellsStep_30 ?_
    refine g_get (pc := 31) C FOK_X10 0 rfl rfl 30 (by decide) kw_1307 rfl dX10_tellsStep_31 ?_
    refine g_aload_n (pc := 34) C 0 rfl dX10_tellsStep_34 ?_
    refine g_get (pc := 35) C FOK_X10 0 rfl rfl 32 (by decide) kw_1309 rfl dX10_tellsStep_35 ?_
    refine g_iconst (pc := 38) C dX10_tellsStep_38 ci_2 ?_
    refine g_iadd (pc := 39) C dX10_tellsStep_39 ?_
    refine g_iload_n (pc := 40) C 3 rfl dX10_tellsStep_40 ?_
    obtain ⟨hi, h⟩ := ix_of h
    refine g_iast (pc := 41) C (w' := cs_X10 J.2.2.1 a0 m_thrown m_refused m_taped m_size m_at m_bad m_badKind m_opens m_faultAt m_tape m_newBed m_newLetter m_newReader m_bed m_letter m_reader m_newBeds m_newLetters m_newReaders m_beds m_letters m_readers m_newCode m_newOf m_code m_ofCode m_stack m_newCodes m_codes m_facts (upd (upd (upd m_newStep m_newSteps.toNatClampNeg n1) (m_newSteps + 1).toNatClampNeg n2) (m_newSteps + 2).toNatClampNeg n3) m_step m_newSteps m_works m_refusedSteps m_begun m_done m_refusedNow m_now m_s m_past m_newBook m_book m_written m_mostBy m_stuffing m_stuffedMany m_lastBy m_leftBy m_splitBy m_seedNow m_image m_images) 15 rfl hi dX10_tellsStep_41 rfl ?_
    refine g_aload_n (pc := 42) C 0 rfl dX10_tellsStep_42 ?_
    refine g_dup (pc := 43) C dX10_tellsStep_43 rfl ?_
    refine g_get (pc := 44) C FOK_X10 0 rfl rfl 32 (by decide) kw_1309 rfl dX10_tellsStep_44 ?_
    refine g_iconst (pc := 47) C dX10_tellsStep_47 ci_3 ?_
    refine g_iadd (pc := 48) C dX10_tellsStep_48 ?_
    refine g_put (pc := 49) C (w' := cs_X10 J.2.2.1 a0 m_thrown m_refused m_taped m_size m_at m_bad m_badKind m_opens m_faultAt m_tape m_newBed m_newLetter m_newReader m_bed m_letter m_reader m_newBeds m_newLetters m_newReaders m_beds m_letters m_readers m_newCode m_newOf m_code m_ofCode m_stack m_newCodes m_codes m_facts (upd (upd (upd m_newStep m_newSteps.toNatClampNeg n1) (m_newSteps + 1).toNatClampNeg n2) (m_newSteps + 2).toNatClampNeg n3) m_step (m_newSteps + 3) m_works m_refusedSteps m_begun m_done m_refusedNow m_now m_s m_past m_newBook m_book m_written m_mostBy m_stuffing m_stuffedMany m_lastBy m_leftBy m_splitBy m_seedNow m_image m_images) FOK_X10 0 rfl rfl 32 (by decide) kw_1309 rfl rfl rfl (Nat.le_of_ble_eq_true rfl) dX10_tellsStep_49 rfl ?_
    cases h
    exact g_vret C E dX10_tellsStep_52
  · cases h
    exact g_vret C E dX10_tellsStep_7
noncomputable def f_X10_stepOf  (n1 : Int32) : Option (Int32) := b1 (f_X10_of 30) (fun v1 => if n1 = v1 then some 0 else b1 (f_X10_of 24) (fun v2 => if n1 = v2 then some 1 else b1 (f_X10_of 31) (fun v3 => if n1 = v3 then some 2 else b1 (f_X10_of 32) (fun v4 => if n1 = v4 then some 3 else b1 (f_X10_of 33) (fun v5 => if n1 = v5 then some 4 else b1 (f_X10_of 29) (fun v6 => if n1 = v6 then some 5 else b1 (f_X10_of 34) (fun v7 => if n1 = v7 then some 6 else some (-1))))))))
def rm_X10_stepOf : Room := { frames := 5, cells := 0, slots := 0, locals := 163 }
set_option maxRecDepth 100000 in
set_option maxHeartbeats 4000000 in
theorem t_X10_stepOf {J : Jt}  {n1 : Int32} {r : Int32} (h : f_X10_stepOf n1 = some r) : Mt J yX10_stepOf cX10_stepOf 1 (some .int) rm_X10_stepOf [.int n1] ([]) (some (.int r)) ([]) := by
  refine Mt_of (own := RX10) (by decide) rfl (Nat.le_of_ble_eq_true rfl) rfl (fun Z C E => ?_)
  unfold f_X10_stepOf at h
  show G J Z 0 0 ([]) 1 [(0, .int n1)] 0 []
  refine g_iload_n (pc := 0) C 0 rfl dX10_stepOf_0 ?_
  refine g_ldcwS (pc := 1) C (i := 30) rfl dX10_stepOf_1 ?_
  obtain ⟨v1, hc, h⟩ := b1_of h
  refine g_callS (pc := 4) C (w' := []) (As := [.ref (J.2.2.2.1 30)]) (st := [.int n1]) (t_X10_of (by decide) hc) Sub.same kw_1481 kw_1482 kw_95 hy_X10_of kw_1483 rfl (Nat.le_of_ble_eq_true rfl) (Nat.le_of_ble_eq_true rfl) (Nat.le_of_ble_eq_true rfl) (Nat.le_of_ble_eq_true rfl) (Nat.le_of_ble_eq_true rfl) dX10_stepOf_4 ?_
  refine g_icmp_ne (pc := 7) C (tgt := 14) dX10_stepOf_7 rfl h (fun h => ?_) (fun h => ?_)
  · refine g_iload_n (pc := 14) C 0 rfl dX10_stepOf_14 ?_
    refine g_ldcwS (pc := 15) C (i := 24) rfl dX10_stepOf_15 ?_
    obtain ⟨v2, hc, h⟩ := b1_of h
    refine g_callS (pc := 18) C (w' := []) (As := [.ref (J.2.2.2.1 24)]) (st := [.int n1]) (t_X10_of (by decide) hc) Sub.same kw_1481 kw_1482 kw_95 hy_X10_of kw_1483 rfl (Nat.le_of_ble_eq_true rfl) (Nat.le_of_ble_eq_true rfl) (Nat.le_of_ble_eq_true rfl) (Nat.le_of_ble_eq_true rfl) (Nat.le_of_ble_eq_true rfl) dX10_stepOf_18 ?_
    refine g_icmp_ne (pc := 21) C (tgt := 28) dX10_stepOf_21 rfl h (fun h => ?_) (fun h => ?_)
    · refine g_iload_n (pc := 28) C 0 rfl dX10_stepOf_28 ?_
      refine g_ldcwS (pc := 29) C (i := 31) rfl dX10_stepOf_29 ?_
      obtain ⟨v3, hc, h⟩ := b1_of h
      refine g_callS (pc := 32) C (w' := []) (As := [.ref (J.2.2.2.1 31)]) (st := [.int n1]) (t_X10_of (by decide) hc) Sub.same kw_1481 kw_1482 kw_95 hy_X10_of kw_1483 rfl (Nat.le_of_ble_eq_true rfl) (Nat.le_of_ble_eq_true rfl) (Nat.le_of_ble_eq_true rfl) (Nat.le_of_ble_eq_true rfl) (Nat.le_of_ble_eq_true rfl) dX10_stepOf_32 ?_
      refine g_icmp_ne (pc := 35) C (tgt := 42) dX10_stepOf_35 rfl h (fun h => ?_) (fun h => ?_)
      · refine g_iload_n (pc := 42) C 0 rfl dX10_stepOf_42 ?_
        refine g_ldcwS (pc := 43) C (i := 32) rfl dX10_stepOf_43 ?_
        obtain ⟨v4, hc, h⟩ := b1_of h
        refine g_callS (pc := 46) C (w' := []) (As := [.ref (J.2.2.2.1 32)]) (st := [.int n1]) (t_X10_of (by decide) hc) Sub.same kw_1481 kw_1482 kw_95 hy_X10_of kw_1483 rfl (Nat.le_of_ble_eq_true rfl) (Nat.le_of_ble_eq_true rfl) (Nat.le_of_ble_eq_true rfl) (Nat.le_of_ble_eq_true rfl) (Nat.le_of_ble_eq_true rfl) dX10_stepOf_46 ?_
        refine g_icmp_ne (pc := 49) C (tgt := 56) dX10_stepOf_49 rfl h (fun h => ?_) (fun h => ?_)
        · refine g_iload_n (pc := 56) C 0 rfl dX10_stepOf_56 ?_
          refine g_ldcwS (pc := 57) C (i := 33) rfl dX10_stepOf_57 ?_
          obtain ⟨v5, hc, h⟩ := b1_of h
          refine g_callS (pc := 60) C (w' := []) (As := [.ref (J.2.2.2.1 33)]) (st := [.int n1]) (t_X10_of (by decide) hc) Sub.same kw_1481 kw_1482 kw_95 hy_X10_of kw_1483 rfl (Nat.le_of_ble_eq_true rfl) (Nat.le_of_ble_eq_true rfl) (Nat.le_of_ble_eq_true rfl) (Nat.le_of_ble_eq_true rfl) (Nat.le_of_ble_eq_true rfl) dX10_stepOf_60 ?_
          refine g_icmp_ne (pc := 63) C (tgt := 70) dX10_stepOf_63 rfl h (fun h => ?_) (fun h => ?_)
          · refine g_iload_n (pc := 70) C 0 rfl dX10_stepOf_70 ?_
            refine g_ldcwS (pc := 71) C (i := 29) rfl dX10_stepOf_71 ?_
            obtain ⟨v6, hc, h⟩ := b1_of h
            refine g_callS (pc := 74) C (w' := []) (As := [.ref (J.2.2.2.1 29)]) (st := [.int n1]) (t_X10_of (by decide) hc) Sub.same kw_1481 kw_1482 kw_95 hy_X10_of kw_1483 rfl (Nat.le_of_ble_eq_true rfl) (Nat.le_of_ble_eq_true rfl) (Nat.le_of_ble_eq_true rfl) (Nat.le_of_ble_eq_true rfl) (Nat.le_of_ble_eq_true rfl) dX10_stepOf_74 ?_
            refine g_icmp_ne (pc := 77) C (tgt := 84) dX10_stepOf_77 rfl h (fun h => ?_) (fun h => ?_)
            · refine g_iload_n (pc := 84) C 0 rfl dX10_stepOf_84 ?_
              refine g_ldcwS (pc := 85) C (i := 34) rfl dX10_stepOf_85 ?_
              obtain ⟨v7, hc, h⟩ := b1_of h
              refine g_callS (pc := 88) C (w' := []) (As := [.ref (J.2.2.2.1 34)]) (st := [.int n1]) (t_X10_of (by decide) hc) Sub.same kw_1481 kw_1482 kw_95 hy_X10_of kw_1483 rfl (Nat.le_of_ble_eq_true rfl) (Nat.le_of_ble_eq_true rfl) (Nat.le_of_ble_eq_true rfl) (Nat.le_of_ble_eq_true rfl) (Nat.le_of_ble_eq_true rfl) dX10_stepOf_88 ?_
              refine g_icmp_ne (pc := 91) C (tgt := 99) dX10_stepOf_91 rfl h (fun h => ?_) (fun h => ?_)
              · refine g_iconst (pc := 99) C dX10_stepOf_99 ci_m1 ?_
                cases h
                exact g_iret C E dX10_stepOf_100
              · refine g_bipush (pc := 94) C dX10_stepOf_94 cb_6 ?_
                refine g_goto (pc := 96) C (tgt := 100) dX10_stepOf_96 rfl ?_
                cases h
                exact g_iret C E dX10_stepOf_100
            · refine g_iconst (pc := 80) C dX10_stepOf_80 ci_5 ?_
              refine g_goto (pc := 81) C (tgt := 100) dX10_stepOf_81 rfl ?_
              cases h
              exact g_iret C E dX10_stepOf_100
          · refine g_iconst (pc := 66) C dX10_stepOf_66 ci_4 ?_
            refine g_goto (pc := 67) C (tgt := 100) dX10_stepOf_67 rfl ?_
            cases h
            exact g_iret C E dX10_stepOf_100
        · refine g_iconst (pc := 52) C dX10_stepOf_52 ci_3 ?_
          refine g_goto (pc := 53) C (tgt := 100) dX10_stepOf_53 rfl ?_
          cases h
          exact g_iret C E dX10_stepOf_100
      · refine g_iconst (pc := 38) C dX10_stepOf_38 ci_2 ?_
        refine g_goto (pc := 39) C (tgt := 100) dX10_stepOf_39 rfl ?_
        cases h
        exact g_iret C E dX10_stepOf_100
    · refine g_iconst (pc := 24) C dX10_stepOf_24 ci_1 ?_
      refine g_goto (pc := 25) C (tgt := 100) dX10_stepOf_25 rfl ?_
      cases h
      exact g_iret C E dX10_stepOf_100
  · refine g_iconst (pc := 10) C dX10_stepOf_10 ci_0 ?_
    refine g_goto (pc := 11) C (tgt := 100) dX10_stepOf_11 rfl ?_
    cases h
    exact g_iret C E dX10_stepOf_100
noncomputable def f_X10_readFirst_68  (m_size : Int32) (m_tape : Nat → Int32) (m_beds : Int32) (m_letters : Int32) (m_readers : Int32) (n1 : Int32) (y1 : Int32) (y2 : Int32) (m_at : Int32) (m_bad : Int32) (m_badKind : Int32) : Option (Int32 × Int32 × Int32 × Int32) := b4 (f_X10_readNumber m_size m_at m_bad m_badKind m_tape y1 (y2 - 1)) (fun v1 c2 c3 c4 => some (v1, c2, c3, c4))
noncomputable def f_X10_readFirst (m_size : Int32) (m_at : Int32) (m_bad : Int32) (m_badKind : Int32) (m_tape : Nat → Int32) (m_beds : Int32) (m_letters : Int32) (m_readers : Int32) (n1 : Int32) : Option (Int32 × Int32 × Int32 × Int32) := if n1 = 5 then some (0, m_at, m_bad, m_badKind) else if n1 = 0 then b4 (f_X10_readNumber m_size m_at m_bad m_badKind m_tape 1 30) (fun v9 c10 c11 c12 => some (v9, c10, c11, c12)) else if n1 = 1 then b4 (f_X10_readNumber m_size m_at m_bad m_badKind m_tape 1 20) (fun v5 c6 c7 c8 => some (v5, c6, c7, c8)) else if n1 = 2 then f_X10_readFirst_68 m_size m_tape m_beds m_letters m_readers n1 0 m_letters m_at m_bad m_badKind else if n1 = 3 then f_X10_readFirst_68 m_size m_tape m_beds m_letters m_readers n1 0 m_readers m_at m_bad m_badKind else f_X10_readFirst_68 m_size m_tape m_beds m_letters m_readers n1 0 m_beds m_at m_bad m_badKind
def rm_X10_readFirst : Room := { frames := 2, cells := 0, slots := 0, locals := 47 }
set_option maxRecDepth 100000 in
set_option maxHeartbeats 4000000 in
theorem j_X10_readFirst_68 {J : Jt} {Z : Zt} {a0 : Nat → Nat} {m_thrown : Int32} {m_refused : Nat → Int32} {m_taped : Int32} {m_size : Int32} {m_opens : Int32} {m_faultAt : Int32} {m_tape : Nat → Int32} {m_newBed : Nat → Int32} {m_newLetter : Nat → Int32} {m_newReader : Nat → Int32} {m_bed : Nat → Int32} {m_letter : Nat → Int32} {m_reader : Nat → Int32} {m_newBeds : Int32} {m_newLetters : Int32} {m_newReaders : Int32} {m_beds : Int32} {m_letters : Int32} {m_readers : Int32} {m_newCode : Nat → Int32} {m_newOf : Nat → Int32} {m_code : Nat → Int32} {m_ofCode : Nat → Int32} {m_stack : Nat → Int32} {m_newCodes : Int32} {m_codes : Int32} {m_facts : Nat → Int32} {m_newStep : Nat → Int32} {m_step : Nat → Int32} {m_newSteps : Int32} {m_works : Int32} {m_refusedSteps : Int32} {m_begun : Int32} {m_done : Int32} {m_refusedNow : Int32} {m_now : Nat → Int32} {m_s : Nat → Int32} {m_past : Nat → Int32} {m_newBook : Nat → Int32} {m_book : Nat → Int32} {m_written : Int32} {m_mostBy : Nat → Int32} {m_stuffing : Nat → Int32} {m_stuffedMany : Int32} {m_lastBy : Nat → Int32} {m_leftBy : Nat → Int32} {m_splitBy : Nat → Int64} {m_seedNow : Int32} {m_image : Nat → Int32} {m_images : Int32} {n1 : Int32} {r : Int32} {o_m_at : Int32} {o_m_bad : Int32} {o_m_badKind : Int32} (C : Cx J Z cX10_readFirst 2 RX10 (some .int) rm_X10_readFirst) (E : Ez J Z 0 0 (some (.int r)) (cs_X10 J.2.2.1 a0 m_thrown m_refused m_taped m_size o_m_at o_m_bad o_m_badKind m_opens m_faultAt m_tape m_newBed m_newLetter m_newReader m_bed m_letter m_reader m_newBeds m_newLetters m_newReaders m_beds m_letters m_readers m_newCode m_newOf m_code m_ofCode m_stack m_newCodes m_codes m_facts m_newStep m_step m_newSteps m_works m_refusedSteps m_begun m_done m_refusedNow m_now m_s m_past m_newBook m_book m_written m_mostBy m_stuffing m_stuffedMany m_lastBy m_leftBy m_splitBy m_seedNow m_image m_images)) : ∀ (y1 : Int32) (y2 : Int32) (m_at : Int32) (m_bad : Int32) (m_badKind : Int32), f_X10_readFirst_68 m_size m_tape m_beds m_letters m_readers n1 y1 y2 m_at m_bad m_badKind = some (r, o_m_at, o_m_bad, o_m_badKind) → G J Z 0 0 (cs_X10 J.2.2.1 a0 m_thrown m_refused m_taped m_size m_at m_bad m_badKind m_opens m_faultAt m_tape m_newBed m_newLetter m_newReader m_bed m_letter m_reader m_newBeds m_newLetters m_newReaders m_beds m_letters m_readers m_newCode m_newOf m_code m_ofCode m_stack m_newCodes m_codes m_facts m_newStep m_step m_newSteps m_works m_refusedSteps m_begun m_done m_refusedNow m_now m_s m_past m_newBook m_book m_written m_mostBy m_stuffing m_stuffedMany m_lastBy m_leftBy m_splitBy m_seedNow m_image m_images) 2 [] 68 [.int y2, .int y1, .ref (a0 0)] := by
  intro y1 y2 m_at m_bad m_badKind h
  unfold f_X10_readFirst_68 at h
  refine g_iconst (pc := 68) C dX10_readFirst_68 ci_1 ?_
  refine g_isub (pc := 69) C dX10_readFirst_69 ?_
  obtain ⟨v1, c2, c3, c4, hc, h⟩ := b4_of h
  refine g_callV (pc := 70) C (w' := cs_X10 J.2.2.1 a0 m_thrown m_refused m_taped m_size c2 c3 c4 m_opens m_faultAt m_tape m_newBed m_newLetter m_newReader m_bed m_letter m_reader m_newBeds m_newLetters m_newReaders m_beds m_letters m_readers m_newCode m_newOf m_code m_ofCode m_stack m_newCodes m_codes m_facts m_newStep m_step m_newSteps m_works m_refusedSteps m_begun m_done m_refusedNow m_now m_s m_past m_newBook m_book m_written m_mostBy m_stuffing m_stuffedMany m_lastBy m_leftBy m_splitBy m_seedNow m_image m_images) (As := [.int y1, .int (y2 - 1)]) (st := []) (ci := 10) (q0 := 0) rfl rfl (t_X10_readNumber (a0 := a0) hc) Sub.same kw_1504 kw_1506 kw_30 kw_95 hy_X10_readNumber kw_1507 rfl (Nat.le_of_ble_eq_true rfl) (Nat.le_of_ble_eq_true rfl) (Nat.le_of_ble_eq_true rfl) (Nat.le_of_ble_eq_true rfl) (Nat.le_of_ble_eq_true rfl) dX10_readFirst_70 ?_
  cases h
  exact g_iret C E dX10_readFirst_73
set_option maxRecDepth 100000 in
set_option maxHeartbeats 4000000 in
theorem t_X10_readFirst {J : Jt} {a0 : Nat → Nat} {m_thrown : Int32} {m_refused : Nat → Int32} {m_taped : Int32} {m_size : Int32} {m_at : Int32} {m_bad : Int32} {m_badKind : Int32} {m_opens : Int32} {m_faultAt : Int32} {m_tape : Nat → Int32} {m_newBed : Nat → Int32} {m_newLetter : Nat → Int32} {m_newReader : Nat → Int32} {m_bed : Nat → Int32} {m_letter : Nat → Int32} {m_reader : Nat → Int32} {m_newBeds : Int32} {m_newLetters : Int32} {m_newReaders : Int32} {m_beds : Int32} {m_letters : Int32} {m_readers : Int32} {m_newCode : Nat → Int32} {m_newOf : Nat → Int32} {m_code : Nat → Int32} {m_ofCode : Nat → Int32} {m_stack : Nat → Int32} {m_newCodes : Int32} {m_codes : Int32} {m_facts : Nat → Int32} {m_newStep : Nat → Int32} {m_step : Nat → Int32} {m_newSteps : Int32} {m_works : Int32} {m_refusedSteps : Int32} {m_begun : Int32} {m_done : Int32} {m_refusedNow : Int32} {m_now : Nat → Int32} {m_s : Nat → Int32} {m_past : Nat → Int32} {m_newBook : Nat → Int32} {m_book : Nat → Int32} {m_written : Int32} {m_mostBy : Nat → Int32} {m_stuffing : Nat → Int32} {m_stuffedMany : Int32} {m_lastBy : Nat → Int32} {m_leftBy : Nat → Int32} {m_splitBy : Nat → Int64} {m_seedNow : Int32} {m_image : Nat → Int32} {m_images : Int32} {n1 : Int32} {r : Int32} {o_m_at : Int32} {o_m_bad : Int32} {o_m_badKind : Int32} (h : f_X10_readFirst m_size m_at m_bad m_badKind m_tape m_beds m_letters m_readers n1 = some (r, o_m_at, o_m_bad, o_m_badKind)) : Mt J yX10_readFirst cX10_readFirst 2 (some .int) rm_X10_readFirst [.ref (a0 0), .int n1] (cs_X10 J.2.2.1 a0 m_thrown m_refused m_taped m_size m_at m_bad m_badKind m_opens m_faultAt m_tape m_newBed m_newLetter m_newReader m_bed m_letter m_reader m_newBeds m_newLetters m_newReaders m_beds m_letters m_readers m_newCode m_newOf m_code m_ofCode m_stack m_newCodes m_codes m_facts m_newStep m_step m_newSteps m_works m_refusedSteps m_begun m_done m_refusedNow m_now m_s m_past m_newBook m_book m_written m_mostBy m_stuffing m_stuffedMany m_lastBy m_leftBy m_splitBy m_seedNow m_image m_images) (some (.int r)) (cs_X10 J.2.2.1 a0 m_thrown m_refused m_taped m_size o_m_at o_m_bad o_m_badKind m_opens m_faultAt m_tape m_newBed m_newLetter m_newReader m_bed m_letter m_reader m_newBeds m_newLetters m_newReaders m_beds m_letters m_readers m_newCode m_newOf m_code m_ofCode m_stack m_newCodes m_codes m_facts m_newStep m_step m_newSteps m_works m_refusedSteps m_begun m_done m_refusedNow m_now m_s m_past m_newBook m_book m_written m_mostBy m_stuffing m_stuffedMany m_lastBy m_leftBy m_splitBy m_seedNow m_image m_images) := by
  refine Mt_of (own := RX10) (by decide) rfl (Nat.le_of_ble_eq_true rfl) rfl (fun Z C E => ?_)
  unfold f_X10_readFirst at h
  show G J Z 0 0 (cs_X10 J.2.2.1 a0 m_thrown m_refused m_taped m_size m_at m_bad m_badKind m_opens m_faultAt m_tape m_newBed m_newLetter m_newReader m_bed m_letter m_reader m_newBeds m_newLetters m_newReaders m_beds m_letters m_readers m_newCode m_newOf m_code m_ofCode m_stack m_newCodes m_codes m_facts m_newStep m_step m_newSteps m_works m_refusedSteps m_begun m_done m_refusedNow m_now m_s m_past m_newBook m_book m_written m_mostBy m_stuffing m_stuffedMany m_lastBy m_leftBy m_splitBy m_seedNow m_image m_images) 2 [(0, .ref (a0 0)), (1, .int n1)] 0 []
  refine g_iload_n (pc := 0) C 1 rfl dX10_readFirst_0 ?_
  refine g_iconst (pc := 1) C dX10_readFirst_1 ci_5 ?_
  refine g_icmp_ne (pc := 2) C (tgt := 9) dX10_readFirst_2 rfl h (fun h => ?_) (fun h => ?_)
  · refine g_iload_n (pc := 9) C 1 rfl dX10_readFirst_9 ?_
    refine g_if_ne (pc := 10) C (tgt := 23) dX10_readFirst_10 rfl h (fun h => ?_) (fun h => ?_)
    · refine g_iload_n (pc := 23) C 1 rfl dX10_readFirst_23 ?_
      refine g_iconst (pc := 24) C dX10_readFirst_24 ci_1 ?_
      refine g_icmp_ne (pc := 25) C (tgt := 38) dX10_readFirst_25 rfl h (fun h => ?_) (fun h => ?_)
      · refine g_aload_n (pc := 38) C 0 rfl dX10_readFirst_38 ?_
        refine g_iconst (pc := 39) C dX10_readFirst_39 ci_0 ?_
        refine g_iload_n (pc := 40) C 1 rfl dX10_readFirst_40 ?_
        refine g_iconst (pc := 41) C dX10_readFirst_41 ci_2 ?_
        refine g_icmp_ne (pc := 42) C (tgt := 52) dX10_readFirst_42 rfl h (fun h => ?_) (fun h => ?_)
        · refine g_iload_n (pc := 52) C 1 rfl dX10_readFirst_52 ?_
          refine g_iconst (pc := 53) C dX10_readFirst_53 ci_3 ?_
          refine g_icmp_ne (pc := 54) C (tgt := 64) dX10_readFirst_54 rfl h (fun h => ?_) (fun h => ?_)
          · refine g_aload_n (pc := 64) C 0 rfl dX10_readFirst_64 ?_
            refine g_get (pc := 65) C FOK_X10 0 rfl rfl 19 (by decide) kw_1296 rfl dX10_readFirst_65 ?_
            refine g_lv [] rfl ?_
            exact j_X10_readFirst_68 C E    0 m_beds m_at m_bad m_badKind h
          · refine g_aload_n (pc := 57) C 0 rfl dX10_readFirst_57 ?_
            refine g_get (pc := 58) C FOK_X10 0 rfl rfl 21 (by decide) kw_1298 rfl dX10_readFirst_58 ?_
            refine g_goto (pc := 61) C (tgt := 68) dX10_readFirst_61 rfl ?_
            refine g_lv [] rfl ?_
            exact j_X10_readFirst_68 C E    0 m_readers m_at m_bad m_badKind h
        · refine g_aload_n (pc := 45) C 0 rfl dX10_readFirst_45 ?_
          refine g_get (pc := 46) C FOK_X10 0 rfl rfl 20 (by decide) kw_1297 rfl dX10_readFirst_46 ?_
          refine g_goto (pc := 49) C (tgt := 68) dX10_readFirst_49 rfl ?_
          refine g_lv [] rfl ?_
          exact j_X10_readFirst_68 C E    0 m_letters m_at m_bad m_badKind h
      · refine g_aload_n (pc := 28) C 0 rfl dX10_readFirst_28 ?_
        refine g_iconst (pc := 29) C dX10_readFirst_29 ci_1 ?_
        refine g_bipush (pc := 30) C dX10_readFirst_30 cb_20 ?_
        obtain ⟨v5, c6, c7, c8, hc, h⟩ := b4_of h
        refine g_callV (pc := 32) C (w' := cs_X10 J.2.2.1 a0 m_thrown m_refused m_taped m_size c6 c7 c8 m_opens m_faultAt m_tape m_newBed m_newLetter m_newReader m_bed m_letter m_reader m_newBeds m_newLetters m_newReaders m_beds m_letters m_readers m_newCode m_newOf m_code m_ofCode m_stack m_newCodes m_codes m_facts m_newStep m_step m_newSteps m_works m_refusedSteps m_begun m_done m_refusedNow m_now m_s m_past m_newBook m_book m_written m_mostBy m_stuffing m_stuffedMany m_lastBy m_leftBy m_splitBy m_seedNow m_image m_images) (As := [.int 1, .int 20]) (st := []) (ci := 10) (q0 := 0) rfl rfl (t_X10_readNumber (a0 := a0) hc) Sub.same kw_1504 kw_1506 kw_30 kw_95 hy_X10_readNumber kw_1507 rfl (Nat.le_of_ble_eq_true rfl) (Nat.le_of_ble_eq_true rfl) (Nat.le_of_ble_eq_true rfl) (Nat.le_of_ble_eq_true rfl) (Nat.le_of_ble_eq_true rfl) dX10_readFirst_32 ?_
        refine g_goto (pc := 35) C (tgt := 73) dX10_readFirst_35 rfl ?_
        cases h
        exact g_iret C E dX10_readFirst_73
    · refine g_aload_n (pc := 13) C 0 rfl dX10_readFirst_13 ?_
      refine g_iconst (pc := 14) C dX10_readFirst_14 ci_1 ?_
      refine g_bipush (pc := 15) C dX10_readFirst_15 cb_30 ?_
      obtain ⟨v9, c10, c11, c12, hc, h⟩ := b4_of h
      refine g_callV (pc := 17) C (w' := cs_X10 J.2.2.1 a0 m_thrown m_refused m_taped m_size c10 c11 c12 m_opens m_faultAt m_tape m_newBed m_newLetter m_newReader m_bed m_letter m_reader m_newBeds m_newLetters m_newReaders m_beds m_letters m_readers m_newCode m_newOf m_code m_ofCode m_stack m_newCodes m_codes m_facts m_newStep m_step m_newSteps m_works m_refusedSteps m_begun m_done m_refusedNow m_now m_s m_past m_newBook m_book m_written m_mostBy m_stuffing m_stuffedMany m_lastBy m_leftBy m_splitBy m_seedNow m_image m_images) (As := [.int 1, .int 30]) (st := []) (ci := 10) (q0 := 0) rfl rfl (t_X10_readNumber (a0 := a0) hc) Sub.same kw_1504 kw_1506 kw_30 kw_95 hy_X10_readNumber kw_1507 rfl (Nat.le_of_ble_eq_true rfl) (Nat.le_of_ble_eq_true rfl) (Nat.le_of_ble_eq_true rfl) (Nat.le_of_ble_eq_true rfl) (Nat.le_of_ble_eq_true rfl) dX10_readFirst_17 ?_
      refine g_goto (pc := 20) C (tgt := 73) dX10_readFirst_20 rfl ?_
      cases h
      exact g_iret C E dX10_readFirst_73
  · refine g_iconst (pc := 5) C dX10_readFirst_5 ci_0 ?_
    refine g_goto (pc := 6) C (tgt := 73) dX10_readFirst_6 rfl ?_
    cases h
    exact g_iret C E dX10_readFirst_73
noncomputable def f_X10_readStep_74  (q_X10_readStep : Int32 → Int32 → Int32 → Int32 → Int32 → (Nat → Int32) → Int32 → Int32 → Int32 → (Nat → Int32) → Int32 → Option (Int32 × Int32 × Int32 × Int32 × (Nat → Int32) × Int32)) (q_X10_readAgain : Int32 → Int32 → Int32 → Int32 → Int32 → (Nat → Int32) → Int32 → Int32 → Int32 → (Nat → Int32) → Int32 → Option (Int32 × Int32 × Int32 × Int32 × (Nat → Int32) × Int32)) (m_size : Int32) (m_tape : Nat → Int32) (m_beds : Int32) (m_letters : Int32) (m_readers : Int32) (m_at : Int32) (m_bad : Int32) (m_badKind : Int32) (m_opens : Int32) (m_newStep : Nat → Int32) (m_newSteps : Int32) : Option (Int32 × Int32 × Int32 × Int32 × (Nat → Int32) × Int32) := b3 (f_X10_sign m_size m_at m_bad m_badKind m_tape 59) (fun c1 c2 c3 => some (c1, c2, c3, m_opens, m_newStep, m_newSteps))
noncomputable def f_X10_readStep_71  (q_X10_readStep : Int32 → Int32 → Int32 → Int32 → Int32 → (Nat → Int32) → Int32 → Int32 → Int32 → (Nat → Int32) → Int32 → Option (Int32 × Int32 × Int32 × Int32 × (Nat → Int32) × Int32)) (q_X10_readAgain : Int32 → Int32 → Int32 → Int32 → Int32 → (Nat → Int32) → Int32 → Int32 → Int32 → (Nat → Int32) → Int32 → Option (Int32 × Int32 × Int32 × Int32 × (Nat → Int32) × Int32)) (m_size : Int32) (m_tape : Nat → Int32) (m_beds : Int32) (m_letters : Int32) (m_readers : Int32) (y1 : Int32) (y2 : Int32) (y3 : Int32) (m_at : Int32) (m_bad : Int32) (m_badKind : Int32) (m_opens : Int32) (m_newStep : Nat → Int32) (m_newSteps : Int32) : Option (Int32 × Int32 × Int32 × Int32 × (Nat → Int32) × Int32) := b2 (f_X10_tellsStep m_bad m_newStep m_newSteps y1 y2 y3) (fun c4 c5 => f_X10_readStep_74 q_X10_readStep q_X10_readAgain m_size m_tape m_beds m_letters m_readers m_at m_bad m_badKind m_opens c4 c5)
noncomputable def f_X10_readStep_b (q_X10_readStep : Int32 → Int32 → Int32 → Int32 → Int32 → (Nat → Int32) → Int32 → Int32 → Int32 → (Nat → Int32) → Int32 → Option (Int32 × Int32 × Int32 × Int32 × (Nat → Int32) × Int32)) (q_X10_readAgain : Int32 → Int32 → Int32 → Int32 → Int32 → (Nat → Int32) → Int32 → Int32 → Int32 → (Nat → Int32) → Int32 → Option (Int32 × Int32 × Int32 × Int32 × (Nat → Int32) × Int32)) (m_size : Int32) (m_at : Int32) (m_bad : Int32) (m_badKind : Int32) (m_opens : Int32) (m_tape : Nat → Int32) (m_beds : Int32) (m_letters : Int32) (m_readers : Int32) (m_newStep : Nat → Int32) (m_newSteps : Int32) : Option (Int32 × Int32 × Int32 × Int32 × (Nat → Int32) × Int32) := b2 (f_X10_wordHere m_size m_at m_tape) (fun v6 c7 => b1 (f_X10_stepOf v6) (fun v8 => if v8 = (-1) then b2 (f_X10_wrong m_bad m_badKind 1 c7) (fun c24 c25 => f_X10_readStep_74 q_X10_readStep q_X10_readAgain m_size m_tape m_beds m_letters m_readers c7 c24 c25 m_opens m_newStep m_newSteps) else if v8 = 6 then b6 (q_X10_readAgain m_size c7 m_bad m_badKind m_opens m_tape m_beds m_letters m_readers m_newStep m_newSteps) (fun c18 c19 c20 c21 c22 c23 => f_X10_readStep_74 q_X10_readStep q_X10_readAgain m_size m_tape m_beds m_letters m_readers c18 c19 c20 c21 c22 c23) else b1 (f_X10_pass m_size c7 m_tape) (fun c9 => b4 (f_X10_readFirst m_size c9 m_bad m_badKind m_tape m_beds m_letters m_readers v8) (fun v10 c11 c12 c13 => if v8 = 3 then b4 (f_X10_readNumber m_size c11 c12 c13 m_tape 0 (m_beds - 1)) (fun v14 c15 c16 c17 => f_X10_readStep_71 q_X10_readStep q_X10_readAgain m_size m_tape m_beds m_letters m_readers v8 v10 v14 c15 c16 c17 m_opens m_newStep m_newSteps) else f_X10_readStep_71 q_X10_readStep q_X10_readAgain m_size m_tape m_beds m_letters m_readers v8 v10 0 c11 c12 c13 m_opens m_newStep m_newSteps))))
noncomputable def f_X10_readAgain_55  (q_X10_readStep : Int32 → Int32 → Int32 → Int32 → Int32 → (Nat → Int32) → Int32 → Int32 → Int32 → (Nat → Int32) → Int32 → Option (Int32 × Int32 × Int32 × Int32 × (Nat → Int32) × Int32)) (q_X10_readAgain : Int32 → Int32 → Int32 → Int32 → Int32 → (Nat → Int32) → Int32 → Int32 → Int32 → (Nat → Int32) → Int32 → Option (Int32 × Int32 × Int32 × Int32 × (Nat → Int32) × Int32)) (m_size : Int32) (m_tape : Nat → Int32) (m_beds : Int32) (m_letters : Int32) (m_readers : Int32) (x2 : Int32) (m_at : Int32) (m_bad : Int32) (m_badKind : Int32) (m_opens : Int32) (m_newStep : Nat → Int32) (m_newSteps : Int32) : Option (Int32 × Int32 × Int32 × Int32 × (Nat → Int32) × Int32) := b3 (f_X10_sign m_size m_at m_bad m_badKind m_tape 93) (fun c1 c2 c3 => b1 (f_X10_fine c2) (fun v4 => if v4 = 0 then some (c1, c2, c3, m_opens - 1, m_newStep, m_newSteps) else if ixb (x2 + 2) 150 then some (c1, c2, c3, m_opens - 1, upd m_newStep (x2 + 2).toNatClampNeg m_newSteps, m_newSteps) else none))
noncomputable def f_X10_readAgain_32  (q_X10_readStep : Int32 → Int32 → Int32 → Int32 → Int32 → (Nat → Int32) → Int32 → Int32 → Int32 → (Nat → Int32) → Int32 → Option (Int32 × Int32 × Int32 × Int32 × (Nat → Int32) × Int32)) (q_X10_readAgain : Int32 → Int32 → Int32 → Int32 → Int32 → (Nat → Int32) → Int32 → Int32 → Int32 → (Nat → Int32) → Int32 → Option (Int32 × Int32 × Int32 × Int32 × (Nat → Int32) × Int32)) (m_size : Int32) (m_tape : Nat → Int32) (m_beds : Int32) (m_letters : Int32) (m_readers : Int32) : Nat → Int32 → Int32 → Int32 → Int32 → Int32 → (Nat → Int32) → Int32 → Option (Int32 × Int32 × Int32 × Int32 × (Nat → Int32) × Int32)
  | 0, _, _, _, _, _, _, _ => none
  | n + 1, x2, m_at, m_bad, m_badKind, m_opens, m_newStep, m_newSteps => b1 (f_X10_fine m_bad) (fun v5 => if v5 = 0 then f_X10_readAgain_55 q_X10_readStep q_X10_readAgain m_size m_tape m_beds m_letters m_readers x2 m_at m_bad m_badKind m_opens m_newStep m_newSteps else b2 (f_X10_here m_size m_at m_tape) (fun v6 c7 => if v6 = 93 then f_X10_readAgain_55 q_X10_readStep q_X10_readAgain m_size m_tape m_beds m_letters m_readers x2 c7 m_bad m_badKind m_opens m_newStep m_newSteps else b6 (q_X10_readStep m_size c7 m_bad m_badKind m_opens m_tape m_beds m_letters m_readers m_newStep m_newSteps) (fun c8 c9 c10 c11 c12 c13 => f_X10_readAgain_32 q_X10_readStep q_X10_readAgain m_size m_tape m_beds m_letters m_readers n x2 c8 c9 c10 c11 c12 c13)))
noncomputable def f_X10_readAgain_b (q_X10_readStep : Int32 → Int32 → Int32 → Int32 → Int32 → (Nat → Int32) → Int32 → Int32 → Int32 → (Nat → Int32) → Int32 → Option (Int32 × Int32 × Int32 × Int32 × (Nat → Int32) × Int32)) (q_X10_readAgain : Int32 → Int32 → Int32 → Int32 → Int32 → (Nat → Int32) → Int32 → Int32 → Int32 → (Nat → Int32) → Int32 → Option (Int32 × Int32 × Int32 × Int32 × (Nat → Int32) × Int32)) (m_size : Int32) (m_at : Int32) (m_bad : Int32) (m_badKind : Int32) (m_opens : Int32) (m_tape : Nat → Int32) (m_beds : Int32) (m_letters : Int32) (m_readers : Int32) (m_newStep : Nat → Int32) (m_newSteps : Int32) : Option (Int32 × Int32 × Int32 × Int32 × (Nat → Int32) × Int32) := b4 (f_X10_opensOne m_at m_bad m_badKind m_opens 5) (fun c14 c15 c16 c17 => b4 (f_X10_readNumber m_size c14 c15 c16 m_tape 0 30) (fun v18 c19 c20 c21 => b3 (f_X10_sign m_size c19 c20 c21 m_tape 91) (fun c22 c23 c24 => b2 (f_X10_tellsStep c23 m_newStep m_newSteps 6 v18 0) (fun c25 c26 => f_X10_readAgain_32 q_X10_readStep q_X10_readAgain m_size m_tape m_beds m_letters m_readers FU m_newSteps c22 c23 c24 c17 c25 c26))))
noncomputable def F_mw : Nat → (Int32 → Int32 → Int32 → Int32 → Int32 → (Nat → Int32) → Int32 → Int32 → Int32 → (Nat → Int32) → Int32 → Option (Int32 × Int32 × Int32 × Int32 × (Nat → Int32) × Int32)) × (Int32 → Int32 → Int32 → Int32 → Int32 → (Nat → Int32) → Int32 → Int32 → Int32 → (Nat → Int32) → Int32 → Option (Int32 × Int32 × Int32 × Int32 × (Nat → Int32) × Int32))
  | 0 => (fun _ _ _ _ _ _ _ _ _ _ _ => none, fun _ _ _ _ _ _ _ _ _ _ _ => none)
  | d + 1 => (f_X10_readStep_b (F_mw d).1 (F_mw d).2, f_X10_readAgain_b (F_mw d).1 (F_mw d).2)
noncomputable def f_X10_readStep (d : Nat) : Int32 → Int32 → Int32 → Int32 → Int32 → (Nat → Int32) → Int32 → Int32 → Int32 → (Nat → Int32) → Int32 → Option (Int32 × Int32 × Int32 × Int32 × (Nat → Int32) × Int32) := (F_mw d).1
noncomputable def f_X10_readAgain (d : Nat) : Int32 → Int32 → Int32 → Int32 → Int32 → (Nat → Int32) → Int32 → Int32 → Int32 → (Nat → Int32) → Int32 → Option (Int32 × Int32 × Int32 × Int32 × (Nat → Int32) × Int32) := (F_mw d).2
theorem f_X10_readStep_s (d : Nat) : f_X10_readStep (d + 1) = f_X10_readStep_b (f_X10_readStep d) (f_X10_readAgain d) := rfl
theorem f_X10_readAgain_s (d : Nat) : f_X10_readAgain (d + 1) = f_X10_readAgain_b (f_X10_readStep d) (f_X10_readAgain d) := rfl
def rm_mw (d : Nat) : Room := { frames := 6 + d, cells := 0, slots := 0, locals := 183 + 22 * d }
theorem rm_mw_f (d : Nat) : (rm_mw d).frames + 1 ≤ (rm_mw (d + 1)).frames := Nat.le_refl _
theorem rm_mw_l (d : Nat) {n : Nat} (h : 8 + (n + 11) ≤ 22) : 8 + (n + 11) + (rm_mw d).locals ≤ (rm_mw (d + 1)).locals := by simp only [rm_mw]; omega
theorem rm_mw_f0 (d : Nat) {n : Nat} (h : n ≤ 6) : n ≤ (rm_mw (d + 1)).frames := Nat.le_trans h (Nat.le_add_right _ _)
theorem rm_mw_l0 (d : Nat) {n : Nat} (h : n ≤ 183) : n ≤ (rm_mw (d + 1)).locals := Nat.le_trans h (Nat.le_add_right _ _)
def K_X10_readStep (J : Jt) (q : Int32 → Int32 → Int32 → Int32 → Int32 → (Nat → Int32) → Int32 → Int32 → Int32 → (Nat → Int32) → Int32 → Option (Int32 × Int32 × Int32 × Int32 × (Nat → Int32) × Int32)) (R : Room) : Prop := ∀ (a0 : Nat → Nat) (m_thrown : Int32) (m_refused : Nat → Int32) (m_taped : Int32) (m_size : Int32) (m_at : Int32) (m_bad : Int32) (m_badKind : Int32) (m_opens : Int32) (m_faultAt : Int32) (m_tape : Nat → Int32) (m_newBed : Nat → Int32) (m_newLetter : Nat → Int32) (m_newReader : Nat → Int32) (m_bed : Nat → Int32) (m_letter : Nat → Int32) (m_reader : Nat → Int32) (m_newBeds : Int32) (m_newLetters : Int32) (m_newReaders : Int32) (m_beds : Int32) (m_letters : Int32) (m_readers : Int32) (m_newCode : Nat → Int32) (m_newOf : Nat → Int32) (m_code : Nat → Int32) (m_ofCode : Nat → Int32) (m_stack : Nat → Int32) (m_newCodes : Int32) (m_codes : Int32) (m_facts : Nat → Int32) (m_newStep : Nat → Int32) (m_step : Nat → Int32) (m_newSteps : Int32) (m_works : Int32) (m_refusedSteps : Int32) (m_begun : Int32) (m_done : Int32) (m_refusedNow : Int32) (m_now : Nat → Int32) (m_s : Nat → Int32) (m_past : Nat → Int32) (m_newBook : Nat → Int32) (m_book : Nat → Int32) (m_written : Int32) (m_mostBy : Nat → Int32) (m_stuffing : Nat → Int32) (m_stuffedMany : Int32) (m_lastBy : Nat → Int32) (m_leftBy : Nat → Int32) (m_splitBy : Nat → Int64) (m_seedNow : Int32) (m_image : Nat → Int32) (m_images : Int32) (o_m_at : Int32) (o_m_bad : Int32) (o_m_badKind : Int32) (o_m_opens : Int32) (o_m_newStep : Nat → Int32) (o_m_newSteps : Int32), q m_size m_at m_bad m_badKind m_opens m_tape m_beds m_letters m_readers m_newStep m_newSteps = some (o_m_at, o_m_bad, o_m_badKind, o_m_opens, o_m_newStep, o_m_newSteps) → Mt J yX10_readStep cX10_readStep 3 none R [.ref (a0 0)] (cs_X10 J.2.2.1 a0 m_thrown m_refused m_taped m_size m_at m_bad m_badKind m_opens m_faultAt m_tape m_newBed m_newLetter m_newReader m_bed m_letter m_reader m_newBeds m_newLetters m_newReaders m_beds m_letters m_readers m_newCode m_newOf m_code m_ofCode m_stack m_newCodes m_codes m_facts m_newStep m_step m_newSteps m_works m_refusedSteps m_begun m_done m_refusedNow m_now m_s m_past m_newBook m_book m_written m_mostBy m_stuffing m_stuffedMany m_lastBy m_leftBy m_splitBy m_seedNow m_image m_images) none (cs_X10 J.2.2.1 a0 m_thrown m_refused m_taped m_size o_m_at o_m_bad o_m_badKind o_m_opens m_faultAt m_tape m_newBed m_newLetter m_newReader m_bed m_letter m_reader m_newBeds m_newLetters m_newReaders m_beds m_letters m_readers m_newCode m_newOf m_code m_ofCode m_stack m_newCodes m_codes m_facts o_m_newStep m_step o_m_newSteps m_works m_refusedSteps m_begun m_done m_refusedNow m_now m_s m_past m_newBook m_book m_written m_mostBy m_stuffing m_stuffedMany m_lastBy m_leftBy m_splitBy m_seedNow m_image m_images)
def K_X10_readAgain (J : Jt) (q : Int32 → Int32 → Int32 → Int32 → Int32 → (Nat → Int32) → Int32 → Int32 → Int32 → (Nat → Int32) → Int32 → Option (Int32 × Int32 × Int32 × Int32 × (Nat → Int32) × Int32)) (R : Room) : Prop := ∀ (a0 : Nat → Nat) (m_thrown : Int32) (m_refused : Nat → Int32) (m_taped : Int32) (m_size : Int32) (m_at : Int32) (m_bad : Int32) (m_badKind : Int32) (m_opens : Int32) (m_faultAt : Int32) (m_tape : Nat → Int32) (m_newBed : Nat → Int32) (m_newLetter : Nat → Int32) (m_newReader : Nat → Int32) (m_bed : Nat → Int32) (m_letter : Nat → Int32) (m_reader : Nat → Int32) (m_newBeds : Int32) (m_newLetters : Int32) (m_newReaders : Int32) (m_beds : Int32) (m_letters : Int32) (m_readers : Int32) (m_newCode : Nat → Int32) (m_newOf : Nat → Int32) (m_code : Nat → Int32) (m_ofCode : Nat → Int32) (m_stack : Nat → Int32) (m_newCodes : Int32) (m_codes : Int32) (m_facts : Nat → Int32) (m_newStep : Nat → Int32) (m_step : Nat → Int32) (m_newSteps : Int32) (m_works : Int32) (m_refusedSteps : Int32) (m_begun : Int32) (m_done : Int32) (m_refusedNow : Int32) (m_now : Nat → Int32) (m_s : Nat → Int32) (m_past : Nat → Int32) (m_newBook : Nat → Int32) (m_book : Nat → Int32) (m_written : Int32) (m_mostBy : Nat → Int32) (m_stuffing : Nat → Int32) (m_stuffedMany : Int32) (m_lastBy : Nat → Int32) (m_leftBy : Nat → Int32) (m_splitBy : Nat → Int64) (m_seedNow : Int32) (m_image : Nat → Int32) (m_images : Int32) (o_m_at : Int32) (o_m_bad : Int32) (o_m_badKind : Int32) (o_m_opens : Int32) (o_m_newStep : Nat → Int32) (o_m_newSteps : Int32), q m_size m_at m_bad m_badKind m_opens m_tape m_beds m_letters m_readers m_newStep m_newSteps = some (o_m_at, o_m_bad, o_m_badKind, o_m_opens, o_m_newStep, o_m_newSteps) → Mt J yX10_readAgain cX10_readAgain 3 none R [.ref (a0 0)] (cs_X10 J.2.2.1 a0 m_thrown m_refused m_taped m_size m_at m_bad m_badKind m_opens m_faultAt m_tape m_newBed m_newLetter m_newReader m_bed m_letter m_reader m_newBeds m_newLetters m_newReaders m_beds m_letters m_readers m_newCode m_newOf m_code m_ofCode m_stack m_newCodes m_codes m_facts m_newStep m_step m_newSteps m_works m_refusedSteps m_begun m_done m_refusedNow m_now m_s m_past m_newBook m_book m_written m_mostBy m_stuffing m_stuffedMany m_lastBy m_leftBy m_splitBy m_seedNow m_image m_images) none (cs_X10 J.2.2.1 a0 m_thrown m_refused m_taped m_size o_m_at o_m_bad o_m_badKind o_m_opens m_faultAt m_tape m_newBed m_newLetter m_newReader m_bed m_letter m_reader m_newBeds m_newLetters m_newReaders m_beds m_letters m_readers m_newCode m_newOf m_code m_ofCode m_stack m_newCodes m_codes m_facts o_m_newStep m_step o_m_newSteps m_works m_refusedSteps m_begun m_done m_refusedNow m_now m_s m_past m_newBook m_book m_written m_mostBy m_stuffing m_stuffedMany m_lastBy m_leftBy m_splitBy m_seedNow m_image m_images)

set_option maxRecDepth 100000 in
set_option maxHeartbeats 4000000 in
theorem j_X10_readStep_74 {J : Jt} {Z : Zt} {d : Nat} {q_X10_readStep : Int32 → Int32 → Int32 → Int32 → Int32 → (Nat → Int32) → Int32 → Int32 → Int32 → (Nat → Int32) → Int32 → Option (Int32 × Int32 × Int32 × Int32 × (Nat → Int32) × Int32)} {q_X10_readAgain : Int32 → Int32 → Int32 → Int32 → Int32 → (Nat → Int32) → Int32 → Int32 → Int32 → (Nat → Int32) → Int32 → Option (Int32 × Int32 × Int32 × Int32 × (Nat → Int32) × Int32)} {a0 : Nat → Nat} {m_thrown : Int32} {m_refused : Nat → Int32} {m_taped : Int32} {m_size : Int32} {m_faultAt : Int32} {m_tape : Nat → Int32} {m_newBed : Nat → Int32} {m_newLetter : Nat → Int32} {m_newReader : Nat → Int32} {m_bed : Nat → Int32} {m_letter : Nat → Int32} {m_reader : Nat → Int32} {m_newBeds : Int32} {m_newLetters : Int32} {m_newReaders : Int32} {m_beds : Int32} {m_letters : Int32} {m_readers : Int32} {m_newCode : Nat → Int32} {m_newOf : Nat → Int32} {m_code : Nat → Int32} {m_ofCode : Nat → Int32} {m_stack : Nat → Int32} {m_newCodes : Int32} {m_codes : Int32} {m_facts : Nat → Int32} {m_step : Nat → Int32} {m_works : Int32} {m_refusedSteps : Int32} {m_begun : Int32} {m_done : Int32} {m_refusedNow : Int32} {m_now : Nat → Int32} {m_s : Nat → Int32} {m_past : Nat → Int32} {m_newBook : Nat → Int32} {m_book : Nat → Int32} {m_written : Int32} {m_mostBy : Nat → Int32} {m_stuffing : Nat → Int32} {m_stuffedMany : Int32} {m_lastBy : Nat → Int32} {m_leftBy : Nat → Int32} {m_splitBy : Nat → Int64} {m_seedNow : Int32} {m_image : Nat → Int32} {m_images : Int32} {o_m_at : Int32} {o_m_bad : Int32} {o_m_badKind : Int32} {o_m_opens : Int32} {o_m_newStep : Nat → Int32} {o_m_newSteps : Int32} (C : Cx J Z cX10_readStep 3 RX10 none (rm_mw (d + 1))) (E : Ez J Z 0 0 none (cs_X10 J.2.2.1 a0 m_thrown m_refused m_taped m_size o_m_at o_m_bad o_m_badKind o_m_opens m_faultAt m_tape m_newBed m_newLetter m_newReader m_bed m_letter m_reader m_newBeds m_newLetters m_newReaders m_beds m_letters m_readers m_newCode m_newOf m_code m_ofCode m_stack m_newCodes m_codes m_facts o_m_newStep m_step o_m_newSteps m_works m_refusedSteps m_begun m_done m_refusedNow m_now m_s m_past m_newBook m_book m_written m_mostBy m_stuffing m_stuffedMany m_lastBy m_leftBy m_splitBy m_seedNow m_image m_images)) (hq_X10_readStep : K_X10_readStep J q_X10_readStep (rm_mw d)) (hq_X10_readAgain : K_X10_readAgain J q_X10_readAgain (rm_mw d)) : ∀ (m_at : Int32) (m_bad : Int32) (m_badKind : Int32) (m_opens : Int32) (m_newStep : Nat → Int32) (m_newSteps : Int32), f_X10_readStep_74 q_X10_readStep q_X10_readAgain m_size m_tape m_beds m_letters m_readers m_at m_bad m_badKind m_opens m_newStep m_newSteps = some (o_m_at, o_m_bad, o_m_badKind, o_m_opens, o_m_newStep, o_m_newSteps) → G J Z 0 0 (cs_X10 J.2.2.1 a0 m_thrown m_refused m_taped m_size m_at m_bad m_badKind m_opens m_faultAt m_tape m_newBed m_newLetter m_newReader m_bed m_letter m_reader m_newBeds m_newLetters m_newReaders m_beds m_letters m_readers m_newCode m_newOf m_code m_ofCode m_stack m_newCodes m_codes m_facts m_newStep m_step m_newSteps m_works m_refusedSteps m_begun m_done m_refusedNow m_now m_s m_past m_newBook m_book m_written m_mostBy m_stuffing m_stuffedMany m_lastBy m_leftBy m_splitBy m_seedNow m_image m_images) 3 [(0, .ref (a0 0))] 74 [] := by
  intro m_at m_bad m_badKind m_opens m_newStep m_newSteps h
  unfold f_X10_readStep_74 at h
  refine g_aload_n (pc := 74) C 0 rfl dX10_readStep_74 ?_
  refine g_bipush (pc := 75) C dX10_readStep_75 cb_59 ?_
  obtain ⟨c1, c2, c3, hc, h⟩ := b3_of h
  refine g_callV (pc := 77) C (w' := cs_X10 J.2.2.1 a0 m_thrown m_refused m_taped m_size c1 c2 c3 m_opens m_faultAt m_tape m_newBed m_newLetter m_newReader m_bed m_letter m_reader m_newBeds m_newLetters m_newReaders m_beds m_letters m_readers m_newCode m_newOf m_code m_ofCode m_stack m_newCodes m_codes m_facts m_newStep m_step m_newSteps m_works m_refusedSteps m_begun m_done m_refusedNow m_now m_s m_past m_newBook m_book m_written m_mostBy m_stuffing m_stuffedMany m_lastBy m_leftBy m_splitBy m_seedNow m_image m_images) (As := [.int 59]) (st := []) (ci := 10) (q0 := 0) rfl rfl (t_X10_sign (a0 := a0) hc) Sub.same kw_1519 kw_1521 kw_33 kw_95 hy_X10_sign kw_1522 rfl (rm_mw_f0 d (Nat.le_of_ble_eq_true rfl)) (rm_mw_l0 d (Nat.le_of_ble_eq_true rfl)) (Nat.le_of_ble_eq_true rfl) (Nat.le_of_ble_eq_true rfl) (Nat.le_of_ble_eq_true rfl) dX10_readStep_77 ?_
  cases h
  exact g_vret C E dX10_readStep_80
set_option maxRecDepth 100000 in
set_option maxHeartbeats 4000000 in
theorem j_X10_readStep_71 {J : Jt} {Z : Zt} {d : Nat} {q_X10_readStep : Int32 → Int32 → Int32 → Int32 → Int32 → (Nat → Int32) → Int32 → Int32 → Int32 → (Nat → Int32) → Int32 → Option (Int32 × Int32 × Int32 × Int32 × (Nat → Int32) × Int32)} {q_X10_readAgain : Int32 → Int32 → Int32 → Int32 → Int32 → (Nat → Int32) → Int32 → Int32 → Int32 → (Nat → Int32) → Int32 → Option (Int32 × Int32 × Int32 × Int32 × (Nat → Int32) × Int32)} {a0 : Nat → Nat} {m_thrown : Int32} {m_refused : Nat → Int32} {m_taped : Int32} {m_size : Int32} {m_faultAt : Int32} {m_tape : Nat → Int32} {m_newBed : Nat → Int32} {m_newLetter : Nat → Int32} {m_newReader : Nat → Int32} {m_bed : Nat → Int32} {m_letter : Nat → Int32} {m_reader : Nat → Int32} {m_newBeds : Int32} {m_newLetters : Int32} {m_newReaders : Int32} {m_beds : Int32} {m_letters : Int32} {m_readers : Int32} {m_newCode : Nat → Int32} {m_newOf : Nat → Int32} {m_code : Nat → Int32} {m_ofCode : Nat → Int32} {m_stack : Nat → Int32} {m_newCodes : Int32} {m_codes : Int32} {m_facts : Nat → Int32} {m_step : Nat → Int32} {m_works : Int32} {m_refusedSteps : Int32} {m_begun : Int32} {m_done : Int32} {m_refusedNow : Int32} {m_now : Nat → Int32} {m_s : Nat → Int32} {m_past : Nat → Int32} {m_newBook : Nat → Int32} {m_book : Nat → Int32} {m_written : Int32} {m_mostBy : Nat → Int32} {m_stuffing : Nat → Int32} {m_stuffedMany : Int32} {m_lastBy : Nat → Int32} {m_leftBy : Nat → Int32} {m_splitBy : Nat → Int64} {m_seedNow : Int32} {m_image : Nat → Int32} {m_images : Int32} {o_m_at : Int32} {o_m_bad : Int32} {o_m_badKind : Int32} {o_m_opens : Int32} {o_m_newStep : Nat → Int32} {o_m_newSteps : Int32} (C : Cx J Z cX10_readStep 3 RX10 none (rm_mw (d + 1))) (E : Ez J Z 0 0 none (cs_X10 J.2.2.1 a0 m_thrown m_refused m_taped m_size o_m_at o_m_bad o_m_badKind o_m_opens m_faultAt m_tape m_newBed m_newLetter m_newReader m_bed m_letter m_reader m_newBeds m_newLetters m_newReaders m_beds m_letters m_readers m_newCode m_newOf m_code m_ofCode m_stack m_newCodes m_codes m_facts o_m_newStep m_step o_m_newSteps m_works m_refusedSteps m_begun m_done m_refusedNow m_now m_s m_past m_newBook m_book m_written m_mostBy m_stuffing m_stuffedMany m_lastBy m_leftBy m_splitBy m_seedNow m_image m_images)) (hq_X10_readStep : K_X10_readStep J q_X10_readStep (rm_mw d)) (hq_X10_readAgain : K_X10_readAgain J q_X10_readAgain (rm_mw d)) : ∀ (y1 : Int32) (y2 : Int32) (y3 : Int32) (m_at : Int32) (m_bad : Int32) (m_badKind : Int32) (m_opens : Int32) (m_newStep : Nat → Int32) (m_newSteps : Int32), f_X10_readStep_71 q_X10_readStep q_X10_readAgain m_size m_tape m_beds m_letters m_readers y1 y2 y3 m_at m_bad m_badKind m_opens m_newStep m_newSteps = some (o_m_at, o_m_bad, o_m_badKind, o_m_opens, o_m_newStep, o_m_newSteps) → G J Z 0 0 (cs_X10 J.2.2.1 a0 m_thrown m_refused m_taped m_size m_at m_bad m_badKind m_opens m_faultAt m_tape m_newBed m_newLetter m_newReader m_bed m_letter m_reader m_newBeds m_newLetters m_newReaders m_beds m_letters m_readers m_newCode m_newOf m_code m_ofCode m_stack m_newCodes m_codes m_facts m_newStep m_step m_newSteps m_works m_refusedSteps m_begun m_done m_refusedNow m_now m_s m_past m_newBook m_book m_written m_mostBy m_stuffing m_stuffedMany m_lastBy m_leftBy m_splitBy m_seedNow m_image m_images) 3 [(0, .ref (a0 0))] 71 [.int y3, .int y2, .int y1, .ref (a0 0)] := by
  intro y1 y2 y3 m_at m_bad m_badKind m_opens m_newStep m_newSteps h
  unfold f_X10_readStep_71 at h
  obtain ⟨c4, c5, hc, h⟩ := b2_of h
  refine g_callV (pc := 71) C (w' := cs_X10 J.2.2.1 a0 m_thrown m_refused m_taped m_size m_at m_bad m_badKind m_opens m_faultAt m_tape m_newBed m_newLetter m_newReader m_bed m_letter m_reader m_newBeds m_newLetters m_newReaders m_beds m_letters m_readers m_newCode m_newOf m_code m_ofCode m_stack m_newCodes m_codes m_facts c4 m_step c5 m_works m_refusedSteps m_begun m_done m_refusedNow m_now m_s m_past m_newBook m_book m_written m_mostBy m_stuffing m_stuffedMany m_lastBy m_leftBy m_splitBy m_seedNow m_image m_images) (As := [.int y1, .int y2, .int y3]) (st := []) (ci := 10) (q0 := 0) rfl rfl (t_X10_tellsStep (a0 := a0) hc) Sub.same kw_1587 kw_1589 kw_44 kw_95 hy_X10_tellsStep kw_1590 rfl (rm_mw_f0 d (Nat.le_of_ble_eq_true rfl)) (rm_mw_l0 d (Nat.le_of_ble_eq_true rfl)) (Nat.le_of_ble_eq_true rfl) (Nat.le_of_ble_eq_true rfl) (Nat.le_of_ble_eq_true rfl) dX10_readStep_71 ?_
  exact j_X10_readStep_74 C E hq_X10_readStep hq_X10_readAgain   m_at m_bad m_badKind m_opens c4 c5 h
set_option maxRecDepth 100000 in
set_option maxHeartbeats 4000000 in
theorem t_X10_readStep_b {J : Jt} {d : Nat} {q_X10_readStep : Int32 → Int32 → Int32 → Int32 → Int32 → (Nat → Int32) → Int32 → Int32 → Int32 → (Nat → Int32) → Int32 → Option (Int32 × Int32 × Int32 × Int32 × (Nat → Int32) × Int32)} {q_X10_readAgain : Int32 → Int32 → Int32 → Int32 → Int32 → (Nat → Int32) → Int32 → Int32 → Int32 → (Nat → Int32) → Int32 → Option (Int32 × Int32 × Int32 × Int32 × (Nat → Int32) × Int32)} {a0 : Nat → Nat} {m_thrown : Int32} {m_refused : Nat → Int32} {m_taped : Int32} {m_size : Int32} {m_at : Int32} {m_bad : Int32} {m_badKind : Int32} {m_opens : Int32} {m_faultAt : Int32} {m_tape : Nat → Int32} {m_newBed : Nat → Int32} {m_newLetter : Nat → Int32} {m_newReader : Nat → Int32} {m_bed : Nat → Int32} {m_letter : Nat → Int32} {m_reader : Nat → Int32} {m_newBeds : Int32} {m_newLetters : Int32} {m_newReaders : Int32} {m_beds : Int32} {m_letters : Int32} {m_readers : Int32} {m_newCode : Nat → Int32} {m_newOf : Nat → Int32} {m_code : Nat → Int32} {m_ofCode : Nat → Int32} {m_stack : Nat → Int32} {m_newCodes : Int32} {m_codes : Int32} {m_facts : Nat → Int32} {m_newStep : Nat → Int32} {m_step : Nat → Int32} {m_newSteps : Int32} {m_works : Int32} {m_refusedSteps : Int32} {m_begun : Int32} {m_done : Int32} {m_refusedNow : Int32} {m_now : Nat → Int32} {m_s : Nat → Int32} {m_past : Nat → Int32} {m_newBook : Nat → Int32} {m_book : Nat → Int32} {m_written : Int32} {m_mostBy : Nat → Int32} {m_stuffing : Nat → Int32} {m_stuffedMany : Int32} {m_lastBy : Nat → Int32} {m_leftBy : Nat → Int32} {m_splitBy : Nat → Int64} {m_seedNow : Int32} {m_image : Nat → Int32} {m_images : Int32} {o_m_at : Int32} {o_m_bad : Int32} {o_m_badKind : Int32} {o_m_opens : Int32} {o_m_newStep : Nat → Int32} {o_m_newSteps : Int32} (hq_X10_readStep : K_X10_readStep J q_X10_readStep (rm_mw d)) (hq_X10_readAgain : K_X10_readAgain J q_X10_readAgain (rm_mw d)) (h : f_X10_readStep_b q_X10_readStep q_X10_readAgain m_size m_at m_bad m_badKind m_opens m_tape m_beds m_letters m_readers m_newStep m_newSteps = some (o_m_at, o_m_bad, o_m_badKind, o_m_opens, o_m_newStep, o_m_newSteps)) : Mt J yX10_readStep cX10_readStep 3 none (rm_mw (d + 1)) [.ref (a0 0)] (cs_X10 J.2.2.1 a0 m_thrown m_refused m_taped m_size m_at m_bad m_badKind m_opens m_faultAt m_tape m_newBed m_newLetter m_newReader m_bed m_letter m_reader m_newBeds m_newLetters m_newReaders m_beds m_letters m_readers m_newCode m_newOf m_code m_ofCode m_stack m_newCodes m_codes m_facts m_newStep m_step m_newSteps m_works m_refusedSteps m_begun m_done m_refusedNow m_now m_s m_past m_newBook m_book m_written m_mostBy m_stuffing m_stuffedMany m_lastBy m_leftBy m_splitBy m_seedNow m_image m_images) none (cs_X10 J.2.2.1 a0 m_thrown m_refused m_taped m_size o_m_at o_m_bad o_m_badKind o_m_opens m_faultAt m_tape m_newBed m_newLetter m_newReader m_bed m_letter m_reader m_newBeds m_newLetters m_newReaders m_beds m_letters m_readers m_newCode m_newOf m_code m_ofCode m_stack m_newCodes m_codes m_facts o_m_newStep m_step o_m_newSteps m_works m_refusedSteps m_begun m_done m_refusedNow m_now m_s m_past m_newBook m_book m_written m_mostBy m_stuffing m_stuffedMany m_lastBy m_leftBy m_splitBy m_seedNow m_image m_images) := by
  refine Mt_of (own := RX10) (by decide) rfl (Nat.le_of_ble_eq_true rfl) rfl (fun Z C E => ?_)
  unfold f_X10_readStep_b at h
  show G J Z 0 0 (cs_X10 J.2.2.1 a0 m_thrown m_refused m_taped m_size m_at m_bad m_badKind m_opens m_faultAt m_tape m_newBed m_newLetter m_newReader m_bed m_letter m_reader m_newBeds m_newLetters m_newReaders m_beds m_letters m_readers m_newCode m_newOf m_code m_ofCode m_stack m_newCodes m_codes m_facts m_newStep m_step m_newSteps m_works m_refusedSteps m_begun m_done m_refusedNow m_now m_s m_past m_newBook m_book m_written m_mostBy m_stuffing m_stuffedMany m_lastBy m_leftBy m_splitBy m_seedNow m_image m_images) 3 [(0, .ref (a0 0))] 0 []
  refine g_aload_n (pc := 0) C 0 rfl dX10_readStep_0 ?_
  obtain ⟨v6, c7, hc, h⟩ := b2_of h
  refine g_callV (pc := 1) C (w' := cs_X10 J.2.2.1 a0 m_thrown m_refused m_taped m_size c7 m_bad m_badKind m_opens m_faultAt m_tape m_newBed m_newLetter m_newReader m_bed m_letter m_reader m_newBeds m_newLetters m_newReaders m_beds m_letters m_readers m_newCode m_newOf m_code m_ofCode m_stack m_newCodes m_codes m_facts m_newStep m_step m_newSteps m_works m_refusedSteps m_begun m_done m_refusedNow m_now m_s m_past m_newBook m_book m_written m_mostBy m_stuffing m_stuffedMany m_lastBy m_leftBy m_splitBy m_seedNow m_image m_images) (As := []) (st := []) (ci := 10) (q0 := 0) rfl rfl (t_X10_wordHere (a0 := a0) hc) Sub.same kw_1470 kw_1472 kw_25 kw_95 hy_X10_wordHere kw_1473 rfl (rm_mw_f0 d (Nat.le_of_ble_eq_true rfl)) (rm_mw_l0 d (Nat.le_of_ble_eq_true rfl)) (Nat.le_of_ble_eq_true rfl) (Nat.le_of_ble_eq_true rfl) (Nat.le_of_ble_eq_true rfl) dX10_readStep_1 ?_
  obtain ⟨v8, hc, h⟩ := b1_of h
  refine g_callS (pc := 4) C (w' := cs_X10 J.2.2.1 a0 m_thrown m_refused m_taped m_size c7 m_bad m_badKind m_opens m_faultAt m_tape m_newBed m_newLetter m_newReader m_bed m_letter m_reader m_newBeds m_newLetters m_newReaders m_beds m_letters m_readers m_newCode m_newOf m_code m_ofCode m_stack m_newCodes m_codes m_facts m_newStep m_step m_newSteps m_works m_refusedSteps m_begun m_done m_refusedNow m_now m_s m_past m_newBook m_book m_written m_mostBy m_stuffing m_stuffedMany m_lastBy m_leftBy m_splitBy m_seedNow m_image m_images) (As := [.int v6]) (st := []) (t_X10_stepOf hc) Sub.nil kw_1575 kw_1576 kw_95 hy_X10_stepOf kw_1577 rfl (rm_mw_f0 d (Nat.le_of_ble_eq_true rfl)) (rm_mw_l0 d (Nat.le_of_ble_eq_true rfl)) (Nat.le_of_ble_eq_true rfl) (Nat.le_of_ble_eq_true rfl) (Nat.le_of_ble_eq_true rfl) dX10_readStep_4 ?_
  refine g_istore_n (pc := 7) C [(1, .int v8), (0, .ref (a0 0))] dX10_readStep_7 rfl (by decide) rfl ?_
  refine g_iload_n (pc := 8) C 0 rfl dX10_readStep_8 ?_
  refine g_iconst (pc := 9) C dX10_readStep_9 ci_m1 ?_
  refine g_icmp_ne (pc := 10) C (tgt := 25) dX10_readStep_10 rfl h (fun h => ?_) (fun h => ?_)
  · refine g_iload_n (pc := 25) C 0 rfl dX10_readStep_25 ?_
    refine g_bipush (pc := 26) C dX10_readStep_26 cb_6 ?_
    refine g_icmp_ne (pc := 28) C (tgt := 38) dX10_readStep_28 rfl h (fun h => ?_) (fun h => ?_)
    · refine g_aload_n (pc := 38) C 1 rfl dX10_readStep_38 ?_
      obtain ⟨c9, hc, h⟩ := b1_of h
      refine g_callV (pc := 39) C (w' := cs_X10 J.2.2.1 a0 m_thrown m_refused m_taped m_size c9 m_bad m_badKind m_opens m_faultAt m_tape m_newBed m_newLetter m_newReader m_bed m_letter m_reader m_newBeds m_newLetters m_newReaders m_beds m_letters m_readers m_newCode m_newOf m_code m_ofCode m_stack m_newCodes m_codes m_facts m_newStep m_step m_newSteps m_works m_refusedSteps m_begun m_done m_refusedNow m_now m_s m_past m_newBook m_book m_written m_mostBy m_stuffing m_stuffedMany m_lastBy m_leftBy m_splitBy m_seedNow m_image m_images) (As := []) (st := []) (ci := 10) (q0 := 0) rfl rfl (t_X10_pass (a0 := a0) hc) Sub.same kw_1496 kw_1498 kw_28 kw_95 hy_X10_pass kw_1499 rfl (rm_mw_f0 d (Nat.le_of_ble_eq_true rfl)) (rm_mw_l0 d (Nat.le_of_ble_eq_true rfl)) (Nat.le_of_ble_eq_true rfl) (Nat.le_of_ble_eq_true rfl) (Nat.le_of_ble_eq_true rfl) dX10_readStep_39 ?_
      refine g_aload_n (pc := 42) C 1 rfl dX10_readStep_42 ?_
      refine g_iload_n (pc := 43) C 0 rfl dX10_readStep_43 ?_
      obtain ⟨v10, c11, c12, c13, hc, h⟩ := b4_of h
      refine g_callV (pc := 44) C (w' := cs_X10 J.2.2.1 a0 m_thrown m_refused m_taped m_size c11 c12 c13 m_opens m_faultAt m_tape m_newBed m_newLetter m_newReader m_bed m_letter m_reader m_newBeds m_newLetters m_newReaders m_beds m_letters m_readers m_newCode m_newOf m_code m_ofCode m_stack m_newCodes m_codes m_facts m_newStep m_step m_newSteps m_works m_refusedSteps m_begun m_done m_refusedNow m_now m_s m_past m_newBook m_book m_written m_mostBy m_stuffing m_stuffedMany m_lastBy m_leftBy m_splitBy m_seedNow m_image m_images) (As := [.int v8]) (st := []) (ci := 10) (q0 := 0) rfl rfl (t_X10_readFirst (a0 := a0) hc) Sub.same kw_1591 kw_1593 kw_45 kw_95 hy_X10_readFirst kw_1594 rfl (rm_mw_f0 d (Nat.le_of_ble_eq_true rfl)) (rm_mw_l0 d (Nat.le_of_ble_eq_true rfl)) (Nat.le_of_ble_eq_true rfl) (Nat.le_of_ble_eq_true rfl) (Nat.le_of_ble_eq_true rfl) dX10_readStep_44 ?_
      refine g_istore_n (pc := 47) C [(2, .int v10), (1, .int v8), (0, .ref (a0 0))] dX10_readStep_47 rfl (by decide) rfl ?_
      refine g_aload_n (pc := 48) C 2 rfl dX10_readStep_48 ?_
      refine g_iload_n (pc := 49) C 1 rfl dX10_readStep_49 ?_
      refine g_iload_n (pc := 50) C 0 rfl dX10_readStep_50 ?_
      refine g_iload_n (pc := 51) C 1 rfl dX10_readStep_51 ?_
      refine g_iconst (pc := 52) C dX10_readStep_52 ci_3 ?_
      refine g_icmp_ne (pc := 53) C (tgt := 70) dX10_readStep_53 rfl h (fun h => ?_) (fun h => ?_)
      · refine g_iconst (pc := 70) C dX10_readStep_70 ci_0 ?_
        refine g_lv [2] rfl ?_
        exact j_X10_readStep_71 C E hq_X10_readStep hq_X10_readAgain   v8 v10 0 c11 c12 c13 m_opens m_newStep m_newSteps h
      · refine g_aload_n (pc := 56) C 2 rfl dX10_readStep_56 ?_
        refine g_iconst (pc := 57) C dX10_readStep_57 ci_0 ?_
        refine g_aload_n (pc := 58) C 2 rfl dX10_readStep_58 ?_
        refine g_get (pc := 59) C FOK_X10 0 rfl rfl 19 (by decide) kw_1296 rfl dX10_readStep_59 ?_
        refine g_iconst (pc := 62) C dX10_readStep_62 ci_1 ?_
        refine g_isub (pc := 63) C dX10_readStep_63 ?_
        obtain ⟨v14, c15, c16, c17, hc, h⟩ := b4_of h
        refine g_callV (pc := 64) C (w' := cs_X10 J.2.2.1 a0 m_thrown m_refused m_taped m_size c15 c16 c17 m_opens m_faultAt m_tape m_newBed m_newLetter m_newReader m_bed m_letter m_reader m_newBeds m_newLetters m_newReaders m_beds m_letters m_readers m_newCode m_newOf m_code m_ofCode m_stack m_newCodes m_codes m_facts m_newStep m_step m_newSteps m_works m_refusedSteps m_begun m_done m_refusedNow m_now m_s m_past m_newBook m_book m_written m_mostBy m_stuffing m_stuffedMany m_lastBy m_leftBy m_splitBy m_seedNow m_image m_images) (As := [.int 0, .int (m_beds - 1)]) (st := [.int v10, .int v8, .ref (a0 0)]) (ci := 10) (q0 := 0) rfl rfl (t_X10_readNumber (a0 := a0) hc) Sub.same kw_1504 kw_1506 kw_30 kw_95 hy_X10_readNumber kw_1507 rfl (rm_mw_f0 d (Nat.le_of_ble_eq_true rfl)) (rm_mw_l0 d (Nat.le_of_ble_eq_true rfl)) (Nat.le_of_ble_eq_true rfl) (Nat.le_of_ble_eq_true rfl) (Nat.le_of_ble_eq_true rfl) dX10_readStep_64 ?_
        refine g_goto (pc := 67) C (tgt := 71) dX10_readStep_67 rfl ?_
        refine g_lv [2] rfl ?_
        exact j_X10_readStep_71 C E hq_X10_readStep hq_X10_readAgain   v8 v10 v14 c15 c16 c17 m_opens m_newStep m_newSteps h
    · refine g_aload_n (pc := 31) C 1 rfl dX10_readStep_31 ?_
      obtain ⟨c18, c19, c20, c21, c22, c23, hc, h⟩ := b6_of h
      refine g_callV (pc := 32) C (w' := cs_X10 J.2.2.1 a0 m_thrown m_refused m_taped m_size c18 c19 c20 c21 m_faultAt m_tape m_newBed m_newLetter m_newReader m_bed m_letter m_reader m_newBeds m_newLetters m_newReaders m_beds m_letters m_readers m_newCode m_newOf m_code m_ofCode m_stack m_newCodes m_codes m_facts c22 m_step c23 m_works m_refusedSteps m_begun m_done m_refusedNow m_now m_s m_past m_newBook m_book m_written m_mostBy m_stuffing m_stuffedMany m_lastBy m_leftBy m_splitBy m_seedNow m_image m_images) (As := []) (st := []) (ci := 10) (q0 := 0) rfl rfl (hq_X10_readAgain a0 _ _ _ _ _ _ _ _ _ _ _ _ _ _ _ _ _ _ _ _ _ _ _ _ _ _ _ _ _ _ _ _ _ _ _ _ _ _ _ _ _ _ _ _ _ _ _ _ _ _ _ _ _ _ _ _ _ _ _ hc) Sub.same kw_1583 kw_1585 kw_43 kw_95 hy_X10_readAgain kw_1586 rfl (rm_mw_f d) (rm_mw_l d (Nat.le_of_ble_eq_true rfl)) (Nat.le_of_ble_eq_true rfl) (Nat.le_of_ble_eq_true rfl) (Nat.le_of_ble_eq_true rfl) dX10_readStep_32 ?_
      refine g_goto (pc := 35) C (tgt := 74) dX10_readStep_35 rfl ?_
      refine g_lv [1] rfl ?_
      exact j_X10_readStep_74 C E hq_X10_readStep hq_X10_readAgain   c18 c19 c20 c21 c22 c23 h
  · refine g_aload_n (pc := 13) C 1 rfl dX10_readStep_13 ?_
    refine g_iconst (pc := 14) C dX10_readStep_14 ci_1 ?_
    refine g_aload_n (pc := 15) C 1 rfl dX10_readStep_15 ?_
    refine g_get (pc := 16) C FOK_X10 0 rfl rfl 4 (by decide) kw_1281 rfl dX10_readStep_16 ?_
    obtain ⟨c24, c25, hc, h⟩ := b2_of h
    refine g_callV (pc := 19) C (w' := cs_X10 J.2.2.1 a0 m_thrown m_refused m_taped m_size c7 c24 c25 m_opens m_faultAt m_tape m_newBed m_newLetter m_newReader m_bed m_letter m_reader m_newBeds m_newLetters m_newReaders m_beds m_letters m_readers m_newCode m_newOf m_code m_ofCode m_stack m_newCodes m_codes m_facts m_newStep m_step m_newSteps m_works m_refusedSteps m_begun m_done m_refusedNow m_now m_s m_past m_newBook m_book m_written m_mostBy m_stuffing m_stuffedMany m_lastBy m_leftBy m_splitBy m_seedNow m_image m_images) (As := [.int 1, .int c7]) (st := []) (ci := 10) (q0 := 0) rfl rfl (t_X10_wrong (a0 := a0) hc) Sub.same kw_1488 kw_1490 kw_26 kw_95 hy_X10_wrong kw_1491 rfl (rm_mw_f0 d (Nat.le_of_ble_eq_true rfl)) (rm_mw_l0 d (Nat.le_of_ble_eq_true rfl)) (Nat.le_of_ble_eq_true rfl) (Nat.le_of_ble_eq_true rfl) (Nat.le_of_ble_eq_true rfl) dX10_readStep_19 ?_
    refine g_goto (pc := 22) C (tgt := 74) dX10_readStep_22 rfl ?_
    refine g_lv [1] rfl ?_
    exact j_X10_readStep_74 C E hq_X10_readStep hq_X10_readAgain   c7 c24 c25 m_opens m_newStep m_newSteps h

set_option maxRecDepth 100000 in
set_option maxHeartbeats 4000000 in
theorem j_X10_readAgain_55 {J : Jt} {Z : Zt} {d : Nat} {q_X10_readStep : Int32 → Int32 → Int32 → Int32 → Int32 → (Nat → Int32) → Int32 → Int32 → Int32 → (Nat → Int32) → Int32 → Option (Int32 × Int32 × Int32 × Int32 × (Nat → Int32) × Int32)} {q_X10_readAgain : Int32 → Int32 → Int32 → Int32 → Int32 → (Nat → Int32) → Int32 → Int32 → Int32 → (Nat → Int32) → Int32 → Option (Int32 × Int32 × Int32 × Int32 × (Nat → Int32) × Int32)} {a0 : Nat → Nat} {m_thrown : Int32} {m_refused : Nat → Int32} {m_taped : Int32} {m_size : Int32} {m_faultAt : Int32} {m_tape : Nat → Int32} {m_newBed : Nat → Int32} {m_newLetter : Nat → Int32} {m_newReader : Nat → Int32} {m_bed : Nat → Int32} {m_letter : Nat → Int32} {m_reader : Nat → Int32} {m_newBeds : Int32} {m_newLetters : Int32} {m_newReaders : Int32} {m_beds : Int32} {m_letters : Int32} {m_readers : Int32} {m_newCode : Nat → Int32} {m_newOf : Nat → Int32} {m_code : Nat → Int32} {m_ofCode : Nat → Int32} {m_stack : Nat → Int32} {m_newCodes : Int32} {m_codes : Int32} {m_facts : Nat → Int32} {m_step : Nat → Int32} {m_works : Int32} {m_refusedSteps : Int32} {m_begun : Int32} {m_done : Int32} {m_refusedNow : Int32} {m_now : Nat → Int32} {m_s : Nat → Int32} {m_past : Nat → Int32} {m_newBook : Nat → Int32} {m_book : Nat → Int32} {m_written : Int32} {m_mostBy : Nat → Int32} {m_stuffing : Nat → Int32} {m_stuffedMany : Int32} {m_lastBy : Nat → Int32} {m_leftBy : Nat → Int32} {m_splitBy : Nat → Int64} {m_seedNow : Int32} {m_image : Nat → Int32} {m_images : Int32} {o_m_at : Int32} {o_m_bad : Int32} {o_m_badKind : Int32} {o_m_opens : Int32} {o_m_newStep : Nat → Int32} {o_m_newSteps : Int32} (C : Cx J Z cX10_readAgain 3 RX10 none (rm_mw (d + 1))) (E : Ez J Z 0 0 none (cs_X10 J.2.2.1 a0 m_thrown m_refused m_taped m_size o_m_at o_m_bad o_m_badKind o_m_opens m_faultAt m_tape m_newBed m_newLetter m_newReader m_bed m_letter m_reader m_newBeds m_newLetters m_newReaders m_beds m_letters m_readers m_newCode m_newOf m_code m_ofCode m_stack m_newCodes m_codes m_facts o_m_newStep m_step o_m_newSteps m_works m_refusedSteps m_begun m_done m_refusedNow m_now m_s m_past m_newBook m_book m_written m_mostBy m_stuffing m_stuffedMany m_lastBy m_leftBy m_splitBy m_seedNow m_image m_images)) (hq_X10_readStep : K_X10_readStep J q_X10_readStep (rm_mw d)) (hq_X10_readAgain : K_X10_readAgain J q_X10_readAgain (rm_mw d)) : ∀ (x2 : Int32) (m_at : Int32) (m_bad : Int32) (m_badKind : Int32) (m_opens : Int32) (m_newStep : Nat → Int32) (m_newSteps : Int32), f_X10_readAgain_55 q_X10_readStep q_X10_readAgain m_size m_tape m_beds m_letters m_readers x2 m_at m_bad m_badKind m_opens m_newStep m_newSteps = some (o_m_at, o_m_bad, o_m_badKind, o_m_opens, o_m_newStep, o_m_newSteps) → G J Z 0 0 (cs_X10 J.2.2.1 a0 m_thrown m_refused m_taped m_size m_at m_bad m_badKind m_opens m_faultAt m_tape m_newBed m_newLetter m_newReader m_bed m_letter m_reader m_newBeds m_newLetters m_newReaders m_beds m_letters m_readers m_newCode m_newOf m_code m_ofCode m_stack m_newCodes m_codes m_facts m_newStep m_step m_newSteps m_works m_refusedSteps m_begun m_done m_refusedNow m_now m_s m_past m_newBook m_book m_written m_mostBy m_stuffing m_stuffedMany m_lastBy m_leftBy m_splitBy m_seedNow m_image m_images) 3 [(0, .ref (a0 0)), (2, .int x2)] 55 [] := by
  intro x2 m_at m_bad m_badKind m_opens m_newStep m_newSteps h
  unfold f_X10_readAgain_55 at h
  refine g_aload_n (pc := 55) C 0 rfl dX10_readAgain_55 ?_
  refine g_bipush (pc := 56) C dX10_readAgain_56 cb_93 ?_
  obtain ⟨c1, c2, c3, hc, h⟩ := b3_of h
  refine g_callV (pc := 58) C (w' := cs_X10 J.2.2.1 a0 m_thrown m_refused m_taped m_size c1 c2 c3 m_opens m_faultAt m_tape m_newBed m_newLetter m_newReader m_bed m_letter m_reader m_newBeds m_newLetters m_newReaders m_beds m_letters m_readers m_newCode m_newOf m_code m_ofCode m_stack m_newCodes m_codes m_facts m_newStep m_step m_newSteps m_works m_refusedSteps m_begun m_done m_refusedNow m_now m_s m_past m_newBook m_book m_written m_mostBy m_stuffing m_stuffedMany m_lastBy m_leftBy m_splitBy m_seedNow m_image m_images) (As := [.int 93]) (st := []) (ci := 10) (q0 := 0) rfl rfl (t_X10_sign (a0 := a0) hc) Sub.same kw_1519 kw_1521 kw_33 kw_95 hy_X10_sign kw_1522 rfl (rm_mw_f0 d (Nat.le_of_ble_eq_true rfl)) (rm_mw_l0 d (Nat.le_of_ble_eq_true rfl)) (Nat.le_of_ble_eq_true rfl) (Nat.le_of_ble_eq_true rfl) (Nat.le_of_ble_eq_true rfl) dX10_readAgain_58 ?_
  refine g_aload_n (pc := 61) C 0 rfl dX10_readAgain_61 ?_
  refine g_dup (pc := 62) C dX10_readAgain_62 rfl ?_
  refine g_get (pc := 63) C FOK_X10 0 rfl rfl 7 (by decide) kw_1284 rfl dX10_readAgain_63 ?_
  refine g_iconst (pc := 66) C dX10_readAgain_66 ci_1 ?_
  refine g_isub (pc := 67) C dX10_readAgain_67 ?_
  refine g_put (pc := 68) C (w' := cs_X10 J.2.2.1 a0 m_thrown m_refused m_taped m_size c1 c2 c3 (m_opens - 1) m_faultAt m_tape m_newBed m_newLetter m_newReader m_bed m_letter m_reader m_newBeds m_newLetters m_newReaders m_beds m_letters m_readers m_newCode m_newOf m_code m_ofCode m_stack m_newCodes m_codes m_facts m_newStep m_step m_newSteps m_works m_refusedSteps m_begun m_done m_refusedNow m_now m_s m_past m_newBook m_book m_written m_mostBy m_stuffing m_stuffedMany m_lastBy m_leftBy m_splitBy m_seedNow m_image m_images) FOK_X10 0 rfl rfl 7 (by decide) kw_1284 rfl rfl rfl (Nat.le_of_ble_eq_true rfl) dX10_readAgain_68 rfl ?_
  refine g_aload_n (pc := 71) C 0 rfl dX10_readAgain_71 ?_
  obtain ⟨v4, hc, h⟩ := b1_of h
  refine g_callV (pc := 72) C (w' := cs_X10 J.2.2.1 a0 m_thrown m_refused m_taped m_size c1 c2 c3 (m_opens - 1) m_faultAt m_tape m_newBed m_newLetter m_newReader m_bed m_letter m_reader m_newBeds m_newLetters m_newReaders m_beds m_letters m_readers m_newCode m_newOf m_code m_ofCode m_stack m_newCodes m_codes m_facts m_newStep m_step m_newSteps m_works m_refusedSteps m_begun m_done m_refusedNow m_now m_s m_past m_newBook m_book m_written m_mostBy m_stuffing m_stuffedMany m_lastBy m_leftBy m_splitBy m_seedNow m_image m_images) (As := []) (st := []) (ci := 10) (q0 := 0) rfl rfl (t_X10_fine (a0 := a0) hc) Sub.same kw_1458 kw_1460 kw_22 kw_95 hy_X10_fine kw_1461 rfl (rm_mw_f0 d (Nat.le_of_ble_eq_true rfl)) (rm_mw_l0 d (Nat.le_of_ble_eq_true rfl)) (Nat.le_of_ble_eq_true rfl) (Nat.le_of_ble_eq_true rfl) (Nat.le_of_ble_eq_true rfl) dX10_readAgain_72 ?_
  refine g_if_eq (pc := 75) C (tgt := 90) dX10_readAgain_75 rfl h (fun h => ?_) (fun h => ?_)
  · cases h
    exact g_vret C E dX10_readAgain_90
  · refine g_aload_n (pc := 78) C 0 rfl dX10_readAgain_78 ?_
    refine g_get (pc := 79) C FOK_X10 0 rfl rfl 30 (by decide) kw_1307 rfl dX10_readAgain_79 ?_
    refine g_iload_n (pc := 82) C 1 rfl dX10_readAgain_82 ?_
    refine g_iconst (pc := 83) C dX10_readAgain_83 ci_2 ?_
    refine g_iadd (pc := 84) C dX10_readAgain_84 ?_
    refine g_aload_n (pc := 85) C 0 rfl dX10_readAgain_85 ?_
    refine g_get (pc := 86) C FOK_X10 0 rfl rfl 32 (by decide) kw_1309 rfl dX10_readAgain_86 ?_
    obtain ⟨hi, h⟩ := ix_of h
    refine g_iast (pc := 89) C (w' := cs_X10 J.2.2.1 a0 m_thrown m_refused m_taped m_size c1 c2 c3 (m_opens - 1) m_faultAt m_tape m_newBed m_newLetter m_newReader m_bed m_letter m_reader m_newBeds m_newLetters m_newReaders m_beds m_letters m_readers m_newCode m_newOf m_code m_ofCode m_stack m_newCodes m_codes m_facts (upd m_newStep (x2 + 2).toNatClampNeg m_newSteps) m_step m_newSteps m_works m_refusedSteps m_begun m_done m_refusedNow m_now m_s m_past m_newBook m_book m_written m_mostBy m_stuffing m_stuffedMany m_lastBy m_leftBy m_splitBy m_seedNow m_image m_images) 15 rfl hi dX10_readAgain_89 rfl ?_
    cases h
    exact g_vret C E dX10_readAgain_90
set_option maxRecDepth 100000 in
set_option maxHeartbeats 4000000 in
theorem j_X10_readAgain_32 {J : Jt} {Z : Zt} {d : Nat} {q_X10_readStep : Int32 → Int32 → Int32 → Int32 → Int32 → (Nat → Int32) → Int32 → Int32 → Int32 → (Nat → Int32) → Int32 → Option (Int32 × Int32 × Int32 × Int32 × (Nat → Int32) × Int32)} {q_X10_readAgain : Int32 → Int32 → Int32 → Int32 → Int32 → (Nat → Int32) → Int32 → Int32 → Int32 → (Nat → Int32) → Int32 → Option (Int32 × Int32 × Int32 × Int32 × (Nat → Int32) × Int32)} {a0 : Nat → Nat} {m_thrown : Int32} {m_refused : Nat → Int32} {m_taped : Int32} {m_size : Int32} {m_faultAt : Int32} {m_tape : Nat → Int32} {m_newBed : Nat → Int32} {m_newLetter : Nat → Int32} {m_newReader : Nat → Int32} {m_bed : Nat → Int32} {m_letter : Nat → Int32} {m_reader : Nat → Int32} {m_newBeds : Int32} {m_newLetters : Int32} {m_newReaders : Int32} {m_beds : Int32} {m_letters : Int32} {m_readers : Int32} {m_newCode : Nat → Int32} {m_newOf : Nat → Int32} {m_code : Nat → Int32} {m_ofCode : Nat → Int32} {m_stack : Nat → Int32} {m_newCodes : Int32} {m_codes : Int32} {m_facts : Nat → Int32} {m_step : Nat → Int32} {m_works : Int32} {m_refusedSteps : Int32} {m_begun : Int32} {m_done : Int32} {m_refusedNow : Int32} {m_now : Nat → Int32} {m_s : Nat → Int32} {m_past : Nat → Int32} {m_newBook : Nat → Int32} {m_book : Nat → Int32} {m_written : Int32} {m_mostBy : Nat → Int32} {m_stuffing : Nat → Int32} {m_stuffedMany : Int32} {m_lastBy : Nat → Int32} {m_leftBy : Nat → Int32} {m_splitBy : Nat → Int64} {m_seedNow : Int32} {m_image : Nat → Int32} {m_images : Int32} {o_m_at : Int32} {o_m_bad : Int32} {o_m_badKind : Int32} {o_m_opens : Int32} {o_m_newStep : Nat → Int32} {o_m_newSteps : Int32} (C : Cx J Z cX10_readAgain 3 RX10 none (rm_mw (d + 1))) (E : Ez J Z 0 0 none (cs_X10 J.2.2.1 a0 m_thrown m_refused m_taped m_size o_m_at o_m_bad o_m_badKind o_m_opens m_faultAt m_tape m_newBed m_newLetter m_newReader m_bed m_letter m_reader m_newBeds m_newLetters m_newReaders m_beds m_letters m_readers m_newCode m_newOf m_code m_ofCode m_stack m_newCodes m_codes m_facts o_m_newStep m_step o_m_newSteps m_works m_refusedSteps m_begun m_done m_refusedNow m_now m_s m_past m_newBook m_book m_written m_mostBy m_stuffing m_stuffedMany m_lastBy m_leftBy m_splitBy m_seedNow m_image m_images)) (hq_X10_readStep : K_X10_readStep J q_X10_readStep (rm_mw d)) (hq_X10_readAgain : K_X10_readAgain J q_X10_readAgain (rm_mw d)) : ∀ (n : Nat) (x2 : Int32) (m_at : Int32) (m_bad : Int32) (m_badKind : Int32) (m_opens : Int32) (m_newStep : Nat → Int32) (m_newSteps : Int32), f_X10_readAgain_32 q_X10_readStep q_X10_readAgain m_size m_tape m_beds m_letters m_readers n x2 m_at m_bad m_badKind m_opens m_newStep m_newSteps = some (o_m_at, o_m_bad, o_m_badKind, o_m_opens, o_m_newStep, o_m_newSteps) → G J Z 0 0 (cs_X10 J.2.2.1 a0 m_thrown m_refused m_taped m_size m_at m_bad m_badKind m_opens m_faultAt m_tape m_newBed m_newLetter m_newReader m_bed m_letter m_reader m_newBeds m_newLetters m_newReaders m_beds m_letters m_readers m_newCode m_newOf m_code m_ofCode m_stack m_newCodes m_codes m_facts m_newStep m_step m_newSteps m_works m_refusedSteps m_begun m_done m_refusedNow m_now m_s m_past m_newBook m_book m_written m_mostBy m_stuffing m_stuffedMany m_lastBy m_leftBy m_splitBy m_seedNow m_image m_images) 3 [(0, .ref (a0 0)), (2, .int x2)] 32 [] := by
  intro n
  induction n with
  | zero =>
    intro x2 m_at m_bad m_badKind m_opens m_newStep m_newSteps h
    rw [f_X10_readAgain_32] at h
    cases h
  | succ n ih =>
    intro x2 m_at m_bad m_badKind m_opens m_newStep m_newSteps h
    rw [f_X10_readAgain_32] at h
    refine g_aload_n (pc := 32) C 0 rfl dX10_readAgain_32 ?_
    obtain ⟨v5, hc, h⟩ := b1_of h
    refine g_callV (pc := 33) C (w' := cs_X10 J.2.2.1 a0 m_thrown m_refused m_taped m_size m_at m_bad m_badKind m_opens m_faultAt m_tape m_newBed m_newLetter m_newReader m_bed m_letter m_reader m_newBeds m_newLetters m_newReaders m_beds m_letters m_readers m_newCode m_newOf m_code m_ofCode m_stack m_newCodes m_codes m_facts m_newStep m_step m_newSteps m_works m_refusedSteps m_begun m_done m_refusedNow m_now m_s m_past m_newBook m_book m_written m_mostBy m_stuffing m_stuffedMany m_lastBy m_leftBy m_splitBy m_seedNow m_image m_images) (As := []) (st := []) (ci := 10) (q0 := 0) rfl rfl (t_X10_fine (a0 := a0) hc) Sub.same kw_1458 kw_1460 kw_22 kw_95 hy_X10_fine kw_1461 rfl (rm_mw_f0 d (Nat.le_of_ble_eq_true rfl)) (rm_mw_l0 d (Nat.le_of_ble_eq_true rfl)) (Nat.le_of_ble_eq_true rfl) (Nat.le_of_ble_eq_true rfl) (Nat.le_of_ble_eq_true rfl) dX10_readAgain_33 ?_
    refine g_if_eq (pc := 36) C (tgt := 55) dX10_readAgain_36 rfl h (fun h => ?_) (fun h => ?_)
    · exact j_X10_readAgain_55 C E hq_X10_readStep hq_X10_readAgain   x2 m_at m_bad m_badKind m_opens m_newStep m_newSteps h
    · refine g_aload_n (pc := 39) C 0 rfl dX10_readAgain_39 ?_
      obtain ⟨v6, c7, hc, h⟩ := b2_of h
      refine g_callV (pc := 40) C (w' := cs_X10 J.2.2.1 a0 m_thrown m_refused m_taped m_size c7 m_bad m_badKind m_opens m_faultAt m_tape m_newBed m_newLetter m_newReader m_bed m_letter m_reader m_newBeds m_newLetters m_newReaders m_beds m_letters m_readers m_newCode m_newOf m_code m_ofCode m_stack m_newCodes m_codes m_facts m_newStep m_step m_newSteps m_works m_refusedSteps m_begun m_done m_refusedNow m_now m_s m_past m_newBook m_book m_written m_mostBy m_stuffing m_stuffedMany m_lastBy m_leftBy m_splitBy m_seedNow m_image m_images) (As := []) (st := []) (ci := 10) (q0 := 0) rfl rfl (t_X10_here (a0 := a0) hc) Sub.same kw_1466 kw_1468 kw_24 kw_95 hy_X10_here kw_1469 rfl (rm_mw_f0 d (Nat.le_of_ble_eq_true rfl)) (rm_mw_l0 d (Nat.le_of_ble_eq_true rfl)) (Nat.le_of_ble_eq_true rfl) (Nat.le_of_ble_eq_true rfl) (Nat.le_of_ble_eq_true rfl) dX10_readAgain_40 ?_
      refine g_bipush (pc := 43) C dX10_readAgain_43 cb_93 ?_
      refine g_icmp_eq (pc := 45) C (tgt := 55) dX10_readAgain_45 rfl h (fun h => ?_) (fun h => ?_)
      · exact j_X10_readAgain_55 C E hq_X10_readStep hq_X10_readAgain   x2 c7 m_bad m_badKind m_opens m_newStep m_newSteps h
      · refine g_aload_n (pc := 48) C 0 rfl dX10_readAgain_48 ?_
        obtain ⟨c8, c9, c10, c11, c12, c13, hc, h⟩ := b6_of h
        refine g_callV (pc := 49) C (w' := cs_X10 J.2.2.1 a0 m_thrown m_refused m_taped m_size c8 c9 c10 c11 m_faultAt m_tape m_newBed m_newLetter m_newReader m_bed m_letter m_reader m_newBeds m_newLetters m_newReaders m_beds m_letters m_readers m_newCode m_newOf m_code m_ofCode m_stack m_newCodes m_codes m_facts c12 m_step c13 m_works m_refusedSteps m_begun m_done m_refusedNow m_now m_s m_past m_newBook m_book m_written m_mostBy m_stuffing m_stuffedMany m_lastBy m_leftBy m_splitBy m_seedNow m_image m_images) (As := []) (st := []) (ci := 10) (q0 := 0) rfl rfl (hq_X10_readStep a0 _ _ _ _ _ _ _ _ _ _ _ _ _ _ _ _ _ _ _ _ _ _ _ _ _ _ _ _ _ _ _ _ _ _ _ _ _ _ _ _ _ _ _ _ _ _ _ _ _ _ _ _ _ _ _ _ _ _ _ hc) Sub.same kw_1571 kw_1573 kw_42 kw_95 hy_X10_readStep kw_1574 rfl (rm_mw_f d) (rm_mw_l d (Nat.le_of_ble_eq_true rfl)) (Nat.le_of_ble_eq_true rfl) (Nat.le_of_ble_eq_true rfl) (Nat.le_of_ble_eq_true rfl) dX10_readAgain_49 ?_
        refine g_goto (pc := 52) C (tgt := 32) dX10_readAgain_52 rfl ?_
        exact ih x2 c8 c9 c10 c11 c12 c13 h
set_option maxRecDepth 100000 in
set_option maxHeartbeats 4000000 in
theorem t_X10_readAgain_b {J : Jt} {d : Nat} {q_X10_readStep : Int32 → Int32 → Int32 → Int32 → Int32 → (Nat → Int32) → Int32 → Int32 → Int32 → (Nat → Int32) → Int32 → Option (Int32 × Int32 × Int32 × Int32 × (Nat → Int32) × Int32)} {q_X10_readAgain : Int32 → Int32 → Int32 → Int32 → Int32 → (Nat → Int32) → Int32 → Int32 → Int32 → (Nat → Int32) → Int32 → Option (Int32 × Int32 × Int32 × Int32 × (Nat → Int32) × Int32)} {a0 : Nat → Nat} {m_thrown : Int32} {m_refused : Nat → Int32} {m_taped : Int32} {m_size : Int32} {m_at : Int32} {m_bad : Int32} {m_badKind : Int32} {m_opens : Int32} {m_faultAt : Int32} {m_tape : Nat → Int32} {m_newBed : Nat → Int32} {m_newLetter : Nat → Int32} {m_newReader : Nat → Int32} {m_bed : Nat → Int32} {m_letter : Nat → Int32} {m_reader : Nat → Int32} {m_newBeds : Int32} {m_newLetters : Int32} {m_newReaders : Int32} {m_beds : Int32} {m_letters : Int32} {m_readers : Int32} {m_newCode : Nat → Int32} {m_newOf : Nat → Int32} {m_code : Nat → Int32} {m_ofCode : Nat → Int32} {m_stack : Nat → Int32} {m_newCodes : Int32} {m_codes : Int32} {m_facts : Nat → Int32} {m_newStep : Nat → Int32} {m_step : Nat → Int32} {m_newSteps : Int32} {m_works : Int32} {m_refusedSteps : Int32} {m_begun : Int32} {m_done : Int32} {m_refusedNow : Int32} {m_now : Nat → Int32} {m_s : Nat → Int32} {m_past : Nat → Int32} {m_newBook : Nat → Int32} {m_book : Nat → Int32} {m_written : Int32} {m_mostBy : Nat → Int32} {m_stuffing : Nat → Int32} {m_stuffedMany : Int32} {m_lastBy : Nat → Int32} {m_leftBy : Nat → Int32} {m_splitBy : Nat → Int64} {m_seedNow : Int32} {m_image : Nat → Int32} {m_images : Int32} {o_m_at : Int32} {o_m_bad : Int32} {o_m_badKind : Int32} {o_m_opens : Int32} {o_m_newStep : Nat → Int32} {o_m_newSteps : Int32} (hq_X10_readStep : K_X10_readStep J q_X10_readStep (rm_mw d)) (hq_X10_readAgain : K_X10_readAgain J q_X10_readAgain (rm_mw d)) (h : f_X10_readAgain_b q_X10_readStep q_X10_readAgain m_size m_at m_bad m_badKind m_opens m_tape m_beds m_letters m_readers m_newStep m_newSteps = some (o_m_at, o_m_bad, o_m_badKind, o_m_opens, o_m_newStep, o_m_newSteps)) : Mt J yX10_readAgain cX10_readAgain 3 none (rm_mw (d + 1)) [.ref (a0 0)] (cs_X10 J.2.2.1 a0 m_thrown m_refused m_taped m_size m_at m_bad m_badKind m_opens m_faultAt m_tape m_newBed m_newLetter m_newReader m_bed m_letter m_reader m_newBeds m_newLetters m_newReaders m_beds m_letters m_readers m_newCode m_newOf m_code m_ofCode m_stack m_newCodes m_codes m_facts m_newStep m_step m_newSteps m_works m_refusedSteps m_begun m_done m_refusedNow m_now m_s m_past m_newBook m_book m_written m_mostBy m_stuffing m_stuffedMany m_lastBy m_leftBy m_splitBy m_seedNow m_image m_images) none (cs_X10 J.2.2.1 a0 m_thrown m_refused m_taped m_size o_m_at o_m_bad o_m_badKind o_m_opens m_faultAt m_tape m_newBed m_newLetter m_newReader m_bed m_letter m_reader m_newBeds m_newLetters m_newReaders m_beds m_letters m_readers m_newCode m_newOf m_code m_ofCode m_stack m_newCodes m_codes m_facts o_m_newStep m_step o_m_newSteps m_works m_refusedSteps m_begun m_done m_refusedNow m_now m_s m_past m_newBook m_book m_written m_mostBy m_stuffing m_stuffedMany m_lastBy m_leftBy m_splitBy m_seedNow m_image m_images) := by
  refine Mt_of (own := RX10) (by decide) rfl (Nat.le_of_ble_eq_true rfl) rfl (fun Z C E => ?_)
  unfold f_X10_readAgain_b at h
  show G J Z 0 0 (cs_X10 J.2.2.1 a0 m_thrown m_refused m_taped m_size m_at m_bad m_badKind m_opens m_faultAt m_tape m_newBed m_newLetter m_newReader m_bed m_letter m_reader m_newBeds m_newLetters m_newReaders m_beds m_letters m_readers m_newCode m_newOf m_code m_ofCode m_stack m_newCodes m_codes m_facts m_newStep m_step m_newSteps m_works m_refusedSteps m_begun m_done m_refusedNow m_now m_s m_past m_newBook m_book m_written m_mostBy m_stuffing m_stuffedMany m_lastBy m_leftBy m_splitBy m_seedNow m_image m_images) 3 [(0, .ref (a0 0))] 0 []
  refine g_aload_n (pc := 0) C 0 rfl dX10_readAgain_0 ?_
  refine g_iconst (pc := 1) C dX10_readAgain_1 ci_5 ?_
  obtain ⟨c14, c15, c16, c17, hc, h⟩ := b4_of h
  refine g_callV (pc := 2) C (w' := cs_X10 J.2.2.1 a0 m_thrown m_refused m_taped m_size c14 c15 c16 c17 m_faultAt m_tape m_newBed m_newLetter m_newReader m_bed m_letter m_reader m_newBeds m_newLetters m_newReaders m_beds m_letters m_readers m_newCode m_newOf m_code m_ofCode m_stack m_newCodes m_codes m_facts m_newStep m_step m_newSteps m_works m_refusedSteps m_begun m_done m_refusedNow m_now m_s m_past m_newBook m_book m_written m_mostBy m_stuffing m_stuffedMany m_lastBy m_leftBy m_splitBy m_seedNow m_image m_images) (As := [.int 5]) (st := []) (ci := 10) (q0 := 0) rfl rfl (t_X10_opensOne (a0 := a0) hc) Sub.same kw_1543 kw_1545 kw_38 kw_95 hy_X10_opensOne kw_1546 rfl (rm_mw_f0 d (Nat.le_of_ble_eq_true rfl)) (rm_mw_l0 d (Nat.le_of_ble_eq_true rfl)) (Nat.le_of_ble_eq_true rfl) (Nat.le_of_ble_eq_true rfl) (Nat.le_of_ble_eq_true rfl) dX10_readAgain_2 ?_
  refine g_aload_n (pc := 5) C 0 rfl dX10_readAgain_5 ?_
  refine g_iconst (pc := 6) C dX10_readAgain_6 ci_0 ?_
  refine g_bipush (pc := 7) C dX10_readAgain_7 cb_30 ?_
  obtain ⟨v18, c19, c20, c21, hc, h⟩ := b4_of h
  refine g_callV (pc := 9) C (w' := cs_X10 J.2.2.1 a0 m_thrown m_refused m_taped m_size c19 c20 c21 c17 m_faultAt m_tape m_newBed m_newLetter m_newReader m_bed m_letter m_reader m_newBeds m_newLetters m_newReaders m_beds m_letters m_readers m_newCode m_newOf m_code m_ofCode m_stack m_newCodes m_codes m_facts m_newStep m_step m_newSteps m_works m_refusedSteps m_begun m_done m_refusedNow m_now m_s m_past m_newBook m_book m_written m_mostBy m_stuffing m_stuffedMany m_lastBy m_leftBy m_splitBy m_seedNow m_image m_images) (As := [.int 0, .int 30]) (st := []) (ci := 10) (q0 := 0) rfl rfl (t_X10_readNumber (a0 := a0) hc) Sub.same kw_1504 kw_1506 kw_30 kw_95 hy_X10_readNumber kw_1507 rfl (rm_mw_f0 d (Nat.le_of_ble_eq_true rfl)) (rm_mw_l0 d (Nat.le_of_ble_eq_true rfl)) (Nat.le_of_ble_eq_true rfl) (Nat.le_of_ble_eq_true rfl) (Nat.le_of_ble_eq_true rfl) dX10_readAgain_9 ?_
  refine g_istore_n (pc := 12) C [(1, .int v18), (0, .ref (a0 0))] dX10_readAgain_12 rfl (by decide) rfl ?_
  refine g_aload_n (pc := 13) C 1 rfl dX10_readAgain_13 ?_
  refine g_bipush (pc := 14) C dX10_readAgain_14 cb_91 ?_
  obtain ⟨c22, c23, c24, hc, h⟩ := b3_of h
  refine g_callV (pc := 16) C (w' := cs_X10 J.2.2.1 a0 m_thrown m_refused m_taped m_size c22 c23 c24 c17 m_faultAt m_tape m_newBed m_newLetter m_newReader m_bed m_letter m_reader m_newBeds m_newLetters m_newReaders m_beds m_letters m_readers m_newCode m_newOf m_code m_ofCode m_stack m_newCodes m_codes m_facts m_newStep m_step m_newSteps m_works m_refusedSteps m_begun m_done m_refusedNow m_now m_s m_past m_newBook m_book m_written m_mostBy m_stuffing m_stuffedMany m_lastBy m_leftBy m_splitBy m_seedNow m_image m_images) (As := [.int 91]) (st := []) (ci := 10) (q0 := 0) rfl rfl (t_X10_sign (a0 := a0) hc) Sub.same kw_1519 kw_1521 kw_33 kw_95 hy_X10_sign kw_1522 rfl (rm_mw_f0 d (Nat.le_of_ble_eq_true rfl)) (rm_mw_l0 d (Nat.le_of_ble_eq_true rfl)) (Nat.le_of_ble_eq_true rfl) (Nat.le_of_ble_eq_true rfl) (Nat.le_of_ble_eq_true rfl) dX10_readAgain_16 ?_
  refine g_aload_n (pc := 19) C 1 rfl dX10_readAgain_19 ?_
  refine g_get (pc := 20) C FOK_X10 0 rfl rfl 32 (by decide) kw_1309 rfl dX10_readAgain_20 ?_
  refine g_istore_n (pc := 23) C [(2, .int m_newSteps), (1, .int v18), (0, .ref (a0 0))] dX10_readAgain_23 rfl (by decide) rfl ?_
  refine g_aload_n (pc := 24) C 2 rfl dX10_readAgain_24 ?_
  refine g_bipush (pc := 25) C dX10_readAgain_25 cb_6 ?_
  refine g_iload_n (pc := 27) C 1 rfl dX10_readAgain_27 ?_
  refine g_iconst (pc := 28) C dX10_readAgain_28 ci_0 ?_
  obtain ⟨c25, c26, hc, h⟩ := b2_of h
  refine g_callV (pc := 29) C (w' := cs_X10 J.2.2.1 a0 m_thrown m_refused m_taped m_size c22 c23 c24 c17 m_faultAt m_tape m_newBed m_newLetter m_newReader m_bed m_letter m_reader m_newBeds m_newLetters m_newReaders m_beds m_letters m_readers m_newCode m_newOf m_code m_ofCode m_stack m_newCodes m_codes m_facts c25 m_step c26 m_works m_refusedSteps m_begun m_done m_refusedNow m_now m_s m_past m_newBook m_book m_written m_mostBy m_stuffing m_stuffedMany m_lastBy m_leftBy m_splitBy m_seedNow m_image m_images) (As := [.int 6, .int v18, .int 0]) (st := []) (ci := 10) (q0 := 0) rfl rfl (t_X10_tellsStep (a0 := a0) hc) Sub.same kw_1587 kw_1589 kw_44 kw_95 hy_X10_tellsStep kw_1590 rfl (rm_mw_f0 d (Nat.le_of_ble_eq_true rfl)) (rm_mw_l0 d (Nat.le_of_ble_eq_true rfl)) (Nat.le_of_ble_eq_true rfl) (Nat.le_of_ble_eq_true rfl) (Nat.le_of_ble_eq_true rfl) dX10_readAgain_29 ?_
  refine g_lv [2, 0] rfl ?_
  exact j_X10_readAgain_32 C E hq_X10_readStep hq_X10_readAgain   FU m_newSteps c22 c23 c24 c17 c25 c26 h
theorem T_mw {J : Jt} : ∀ d, K_X10_readStep J (f_X10_readStep d) (rm_mw d) ∧ K_X10_readAgain J (f_X10_readAgain d) (rm_mw d) := by
  intro d
  induction d with
  | zero => exact ⟨(fun _ _ _ _ _ _ _ _ _ _ _ _ _ _ _ _ _ _ _ _ _ _ _ _ _ _ _ _ _ _ _ _ _ _ _ _ _ _ _ _ _ _ _ _ _ _ _ _ _ _ _ _ _ _ _ _ _ _ _ _ h => nomatch (show none = some _ from h)), (fun _ _ _ _ _ _ _ _ _ _ _ _ _ _ _ _ _ _ _ _ _ _ _ _ _ _ _ _ _ _ _ _ _ _ _ _ _ _ _ _ _ _ _ _ _ _ _ _ _ _ _ _ _ _ _ _ _ _ _ _ h => nomatch (show none = some _ from h))⟩
  | succ d ih => exact ⟨(fun _ _ _ _ _ _ _ _ _ _ _ _ _ _ _ _ _ _ _ _ _ _ _ _ _ _ _ _ _ _ _ _ _ _ _ _ _ _ _ _ _ _ _ _ _ _ _ _ _ _ _ _ _ _ _ _ _ _ _ _ h => t_X10_readStep_b ih.1 ih.2 h), (fun _ _ _ _ _ _ _ _ _ _ _ _ _ _ _ _ _ _ _ _ _ _ _ _ _ _ _ _ _ _ _ _ _ _ _ _ _ _ _ _ _ _ _ _ _ _ _ _ _ _ _ _ _ _ _ _ _ _ _ _ h => t_X10_readAgain_b ih.1 ih.2 h)⟩
theorem t_X10_readStep {J : Jt} (d : Nat) : K_X10_readStep J (f_X10_readStep d) (rm_mw d) := (T_mw d).1
theorem t_X10_readAgain {J : Jt} (d : Nat) : K_X10_readAgain J (f_X10_readAgain d) (rm_mw d) := (T_mw d).2


noncomputable def f_X10_leftOf (m_letter : Nat → Int32) (m_s : Nat → Int32) (n1 : Int32) : Option (Int32) := if ixb ((10 * n1) + 1) 60 then if ixb (0 + n1) 165 then some ((m_letter ((10 * n1) + 1).toNatClampNeg) - (m_s (0 + n1).toNatClampNeg)) else none else none
def rm_X10_leftOf : Room := { frames := 0, cells := 0, slots := 0, locals := 0 }
set_option maxRecDepth 100000 in
set_option maxHeartbeats 4000000 in
theorem t_X10_leftOf {J : Jt} {a0 : Nat → Nat} {m_thrown : Int32} {m_refused : Nat → Int32} {m_taped : Int32} {m_size : Int32} {m_at : Int32} {m_bad : Int32} {m_badKind : Int32} {m_opens : Int32} {m_faultAt : Int32} {m_tape : Nat → Int32} {m_newBed : Nat → Int32} {m_newLetter : Nat → Int32} {m_newReader : Nat → Int32} {m_bed : Nat → Int32} {m_letter : Nat → Int32} {m_reader : Nat → Int32} {m_newBeds : Int32} {m_newLetters : Int32} {m_newReaders : Int32} {m_beds : Int32} {m_letters : Int32} {m_readers : Int32} {m_newCode : Nat → Int32} {m_newOf : Nat → Int32} {m_code : Nat → Int32} {m_ofCode : Nat → Int32} {m_stack : Nat → Int32} {m_newCodes : Int32} {m_codes : Int32} {m_facts : Nat → Int32} {m_newStep : Nat → Int32} {m_step : Nat → Int32} {m_newSteps : Int32} {m_works : Int32} {m_refusedSteps : Int32} {m_begun : Int32} {m_done : Int32} {m_refusedNow : Int32} {m_now : Nat → Int32} {m_s : Nat → Int32} {m_past : Nat → Int32} {m_newBook : Nat → Int32} {m_book : Nat → Int32} {m_written : Int32} {m_mostBy : Nat → Int32} {m_stuffing : Nat → Int32} {m_stuffedMany : Int32} {m_lastBy : Nat → Int32} {m_leftBy : Nat → Int32} {m_splitBy : Nat → Int64} {m_seedNow : Int32} {m_image : Nat → Int32} {m_images : Int32} {n1 : Int32} {r : Int32} (h : f_X10_leftOf m_letter m_s n1 = some r) : Mt J yX10_leftOf cX10_leftOf 2 (some .int) rm_X10_leftOf [.ref (a0 0), .int n1] (cs_X10 J.2.2.1 a0 m_thrown m_refused m_taped m_size m_at m_bad m_badKind m_opens m_faultAt m_tape m_newBed m_newLetter m_newReader m_bed m_letter m_reader m_newBeds m_newLetters m_newReaders m_beds m_letters m_readers m_newCode m_newOf m_code m_ofCode m_stack m_newCodes m_codes m_facts m_newStep m_step m_newSteps m_works m_refusedSteps m_begun m_done m_refusedNow m_now m_s m_past m_newBook m_book m_written m_mostBy m_stuffing m_stuffedMany m_lastBy m_leftBy m_splitBy m_seedNow m_image m_images) (some (.int r)) (cs_X10 J.2.2.1 a0 m_thrown m_refused m_taped m_size m_at m_bad m_badKind m_opens m_faultAt m_tape m_newBed m_newLetter m_newReader m_bed m_letter m_reader m_newBeds m_newLetters m_newReaders m_beds m_letters m_readers m_newCode m_newOf m_code m_ofCode m_stack m_newCodes m_codes m_facts m_newStep m_step m_newSteps m_works m_refusedSteps m_begun m_done m_refusedNow m_now m_s m_past m_newBook m_book m_written m_mostBy m_stuffing m_stuffedMany m_lastBy m_leftBy m_splitBy m_seedNow m_image m_images) := by
  refine Mt_of (own := RX10) (by decide) rfl (Nat.le_of_ble_eq_true rfl) rfl (fun Z C E => ?_)
  unfold f_X10_leftOf at h
  show G J Z 0 0 (cs_X10 J.2.2.1 a0 m_thrown m_refused m_taped m_size m_at m_bad m_badKind m_opens m_faultAt m_tape m_newBed m_newLetter m_newReader m_bed m_letter m_reader m_newBeds m_newLetters m_newReaders m_beds m_letters m_readers m_newCode m_newOf m_code m_ofCode m_stack m_newCodes m_codes m_facts m_newStep m_step m_newSteps m_works m_refusedSteps m_begun m_done m_refusedNow m_now m_s m_past m_newBook m_book m_written m_mostBy m_stuffing m_stuffedMany m_lastBy m_leftBy m_splitBy m_seedNow m_image m_images) 2 [(0, .ref (a0 0)), (1, .int n1)] 0 []
  refine g_aload_n (pc := 0) C 0 rfl dX10_leftOf_0 ?_
  refine g_get (pc := 1) C FOK_X10 0 rfl rfl 14 (by decide) kw_1291 rfl dX10_leftOf_1 ?_
  refine g_bipush (pc := 4) C dX10_leftOf_4 cb_10 ?_
  refine g_iload_n (pc := 6) C 1 rfl dX10_leftOf_6 ?_
  refine g_imul (pc := 7) C dX10_leftOf_7 ?_
  refine g_iconst (pc := 8) C dX10_leftOf_8 ci_1 ?_
  refine g_iadd (pc := 9) C dX10_leftOf_9 ?_
  obtain ⟨hi, h⟩ := ix_of h
  refine g_iald (pc := 10) C 7 rfl hi dX10_leftOf_10 ?_
  refine g_aload_n (pc := 11) C 0 rfl dX10_leftOf_11 ?_
  refine g_get (pc := 12) C FOK_X10 0 rfl rfl 39 (by decide) kw_1316 rfl dX10_leftOf_12 ?_
  refine g_iconst (pc := 15) C dX10_leftOf_15 ci_0 ?_
  refine g_iload_n (pc := 16) C 1 rfl dX10_leftOf_16 ?_
  refine g_iadd (pc := 17) C dX10_leftOf_17 ?_
  obtain ⟨hi, h⟩ := ix_of h
  refine g_iald (pc := 18) C 18 rfl hi dX10_leftOf_18 ?_
  refine g_isub (pc := 19) C dX10_leftOf_19 ?_
  cases h
  exact g_iret C E dX10_leftOf_20
noncomputable def f_X10_wordOf (m_letter : Nat → Int32) (m_s : Nat → Int32) (n1 : Int32) (n2 : Int32) : Option (Int32) := if ixb (0 + n1) 165 then if ixb ((((10 * n1) + 2) + (m_s (0 + n1).toNatClampNeg)) + n2) 60 then some (m_letter ((((10 * n1) + 2) + (m_s (0 + n1).toNatClampNeg)) + n2).toNatClampNeg) else none else none
def rm_X10_wordOf : Room := { frames := 0, cells := 0, slots := 0, locals := 0 }
set_option maxRecDepth 100000 in
set_option maxHeartbeats 4000000 in
theorem t_X10_wordOf {J : Jt} {a0 : Nat → Nat} {m_thrown : Int32} {m_refused : Nat → Int32} {m_taped : Int32} {m_size : Int32} {m_at : Int32} {m_bad : Int32} {m_badKind : Int32} {m_opens : Int32} {m_faultAt : Int32} {m_tape : Nat → Int32} {m_newBed : Nat → Int32} {m_newLetter : Nat → Int32} {m_newReader : Nat → Int32} {m_bed : Nat → Int32} {m_letter : Nat → Int32} {m_reader : Nat → Int32} {m_newBeds : Int32} {m_newLetters : Int32} {m_newReaders : Int32} {m_beds : Int32} {m_letters : Int32} {m_readers : Int32} {m_newCode : Nat → Int32} {m_newOf : Nat → Int32} {m_code : Nat → Int32} {m_ofCode : Nat → Int32} {m_stack : Nat → Int32} {m_newCodes : Int32} {m_codes : Int32} {m_facts : Nat → Int32} {m_newStep : Nat → Int32} {m_step : Nat → Int32} {m_newSteps : Int32} {m_works : Int32} {m_refusedSteps : Int32} {m_begun : Int32} {m_done : Int32} {m_refusedNow : Int32} {m_now : Nat → Int32} {m_s : Nat → Int32} {m_past : Nat → Int32} {m_newBook : Nat → Int32} {m_book : Nat → Int32} {m_written : Int32} {m_mostBy : Nat → Int32} {m_stuffing : Nat → Int32} {m_stuffedMany : Int32} {m_lastBy : Nat → Int32} {m_leftBy : Nat → Int32} {m_splitBy : Nat → Int64} {m_seedNow : Int32} {m_image : Nat → Int32} {m_images : Int32} {n1 : Int32} {n2 : Int32} {r : Int32} (h : f_X10_wordOf m_letter m_s n1 n2 = some r) : Mt J yX10_wordOf cX10_wordOf 3 (some .int) rm_X10_wordOf [.ref (a0 0), .int n1, .int n2] (cs_X10 J.2.2.1 a0 m_thrown m_refused m_taped m_size m_at m_bad m_badKind m_opens m_faultAt m_tape m_newBed m_newLetter m_newReader m_bed m_letter m_reader m_newBeds m_newLetters m_newReaders m_beds m_letters m_readers m_newCode m_newOf m_code m_ofCode m_stack m_newCodes m_codes m_facts m_newStep m_step m_newSteps m_works m_refusedSteps m_begun m_done m_refusedNow m_now m_s m_past m_newBook m_book m_written m_mostBy m_stuffing m_stuffedMany m_lastBy m_leftBy m_splitBy m_seedNow m_image m_images) (some (.int r)) (cs_X10 J.2.2.1 a0 m_thrown m_refused m_taped m_size m_at m_bad m_badKind m_opens m_faultAt m_tape m_newBed m_newLetter m_newReader m_bed m_letter m_reader m_newBeds m_newLetters m_newReaders m_beds m_letters m_readers m_newCode m_newOf m_code m_ofCode m_stack m_newCodes m_codes m_facts m_newStep m_step m_newSteps m_works m_refusedSteps m_begun m_done m_refusedNow m_now m_s m_past m_newBook m_book m_written m_mostBy m_stuffing m_stuffedMany m_lastBy m_leftBy m_splitBy m_seedNow m_image m_images) := by
  refine Mt_of (own := RX10) (by decide) rfl (Nat.le_of_ble_eq_true rfl) rfl (fun Z C E => ?_)
  unfold f_X10_wordOf at h
  show G J Z 0 0 (cs_X10 J.2.2.1 a0 m_thrown m_refused m_taped m_size m_at m_bad m_badKind m_opens m_faultAt m_tape m_newBed m_newLetter m_newReader m_bed m_letter m_reader m_newBeds m_newLetters m_newReaders m_beds m_letters m_readers m_newCode m_newOf m_code m_ofCode m_stack m_newCodes m_codes m_facts m_newStep m_step m_newSteps m_works m_refusedSteps m_begun m_done m_refusedNow m_now m_s m_past m_newBook m_book m_written m_mostBy m_stuffing m_stuffedMany m_lastBy m_leftBy m_splitBy m_seedNow m_image m_images) 3 [(0, .ref (a0 0)), (1, .int n1), (2, .int n2)] 0 []
  refine g_aload_n (pc := 0) C 0 rfl dX10_wordOf_0 ?_
  refine g_get (pc := 1) C FOK_X10 0 rfl rfl 14 (by decide) kw_1291 rfl dX10_wordOf_1 ?_
  refine g_bipush (pc := 4) C dX10_wordOf_4 cb_10 ?_
  refine g_iload_n (pc := 6) C 1 rfl dX10_wordOf_6 ?_
  refine g_imul (pc := 7) C dX10_wordOf_7 ?_
  refine g_iconst (pc := 8) C dX10_wordOf_8 ci_2 ?_
  refine g_iadd (pc := 9) C dX10_wordOf_9 ?_
  refine g_aload_n (pc := 10) C 0 rfl dX10_wordOf_10 ?_
  refine g_get (pc := 11) C FOK_X10 0 rfl rfl 39 (by decide) kw_1316 rfl dX10_wordOf_11 ?_
  refine g_iconst (pc := 14) C dX10_wordOf_14 ci_0 ?_
  refine g_iload_n (pc := 15) C 1 rfl dX10_wordOf_15 ?_
  refine g_iadd (pc := 16) C dX10_wordOf_16 ?_
  obtain ⟨hi, h⟩ := ix_of h
  refine g_iald (pc := 17) C 18 rfl hi dX10_wordOf_17 ?_
  refine g_iadd (pc := 18) C dX10_wordOf_18 ?_
  refine g_iload_n (pc := 19) C 2 rfl dX10_wordOf_19 ?_
  refine g_iadd (pc := 20) C dX10_wordOf_20 ?_
  obtain ⟨hi, h⟩ := ix_of h
  refine g_iald (pc := 21) C 7 rfl hi dX10_wordOf_21 ?_
  cases h
  exact g_iret C E dX10_wordOf_22
noncomputable def f_X10_nextWords_4  (m_letter : Nat → Int32) (m_letters : Int32) (m_s : Nat → Int32) : Nat → Int32 → Int32 → Option (Int32)
  | 0, _, _ => none
  | n + 1, x1, x2 => if m_letters ≤ x2 then some x1 else b1 (f_X10_leftOf m_letter m_s x2) (fun v1 => if v1 ≤ 0 then f_X10_nextWords_4 m_letter m_letters m_s n (x1 ||| 0) (x2 + 1) else b1 (f_X10_wordOf m_letter m_s x2 0) (fun v2 => f_X10_nextWords_4 m_letter m_letters m_s n (x1 ||| ((1 : Int32) <<< (v2 &&& 31))) (x2 + 1)))
noncomputable def f_X10_nextWords (m_letter : Nat → Int32) (m_letters : Int32) (m_s : Nat → Int32) : Option (Int32) := f_X10_nextWords_4 m_letter m_letters m_s FU 0 0
def rm_X10_nextWords : Room := { frames := 1, cells := 0, slots := 0, locals := 22 }
set_option maxRecDepth 100000 in
set_option maxHeartbeats 4000000 in
theorem j_X10_nextWords_4 {J : Jt} {Z : Zt} {a0 : Nat → Nat} {m_thrown : Int32} {m_refused : Nat → Int32} {m_taped : Int32} {m_size : Int32} {m_at : Int32} {m_bad : Int32} {m_badKind : Int32} {m_opens : Int32} {m_faultAt : Int32} {m_tape : Nat → Int32} {m_newBed : Nat → Int32} {m_newLetter : Nat → Int32} {m_newReader : Nat → Int32} {m_bed : Nat → Int32} {m_letter : Nat → Int32} {m_reader : Nat → Int32} {m_newBeds : Int32} {m_newLetters : Int32} {m_newReaders : Int32} {m_beds : Int32} {m_letters : Int32} {m_readers : Int32} {m_newCode : Nat → Int32} {m_newOf : Nat → Int32} {m_code : Nat → Int32} {m_ofCode : Nat → Int32} {m_stack : Nat → Int32} {m_newCodes : Int32} {m_codes : Int32} {m_facts : Nat → Int32} {m_newStep : Nat → Int32} {m_step : Nat → Int32} {m_newSteps : Int32} {m_works : Int32} {m_refusedSteps : Int32} {m_begun : Int32} {m_done : Int32} {m_refusedNow : Int32} {m_now : Nat → Int32} {m_s : Nat → Int32} {m_past : Nat → Int32} {m_newBook : Nat → Int32} {m_book : Nat → Int32} {m_written : Int32} {m_mostBy : Nat → Int32} {m_stuffing : Nat → Int32} {m_stuffedMany : Int32} {m_lastBy : Nat → Int32} {m_leftBy : Nat → Int32} {m_splitBy : Nat → Int64} {m_seedNow : Int32} {m_image : Nat → Int32} {m_images : Int32} {r : Int32} (C : Cx J Z cX10_nextWords 3 RX10 (some .int) rm_X10_nextWords) (E : Ez J Z 0 0 (some (.int r)) (cs_X10 J.2.2.1 a0 m_thrown m_refused m_taped m_size m_at m_bad m_badKind m_opens m_faultAt m_tape m_newBed m_newLetter m_newReader m_bed m_letter m_reader m_newBeds m_newLetters m_newReaders m_beds m_letters m_readers m_newCode m_newOf m_code m_ofCode m_stack m_newCodes m_codes m_facts m_newStep m_step m_newSteps m_works m_refusedSteps m_begun m_done m_refusedNow m_now m_s m_past m_newBook m_book m_written m_mostBy m_stuffing m_stuffedMany m_lastBy m_leftBy m_splitBy m_seedNow m_image m_images)) : ∀ (n : Nat) (x1 : Int32) (x2 : Int32), f_X10_nextWords_4 m_letter m_letters m_s n x1 x2 = some r → G J Z 0 0 (cs_X10 J.2.2.1 a0 m_thrown m_refused m_taped m_size m_at m_bad m_badKind m_opens m_faultAt m_tape m_newBed m_newLetter m_newReader m_bed m_letter m_reader m_newBeds m_newLetters m_newReaders m_beds m_letters m_readers m_newCode m_newOf m_code m_ofCode m_stack m_newCodes m_codes m_facts m_newStep m_step m_newSteps m_works m_refusedSteps m_begun m_done m_refusedNow m_now m_s m_past m_newBook m_book m_written m_mostBy m_stuffing m_stuffedMany m_lastBy m_leftBy m_splitBy m_seedNow m_image m_images) 3 [(0, .ref (a0 0)), (1, .int x1), (2, .int x2)] 4 [] := by
  intro n
  induction n with
  | zero =>
    intro x1 x2 h
    rw [f_X10_nextWords_4] at h
    cases h
  | succ n ih =>
    intro x1 x2 h
    rw [f_X10_nextWords_4] at h
    refine g_iload_n (pc := 4) C 2 rfl dX10_nextWords_4 ?_
    refine g_aload_n (pc := 5) C 0 rfl dX10_nextWords_5 ?_
    refine g_get (pc := 6) C FOK_X10 0 rfl rfl 20 (by decide) kw_1297 rfl dX10_nextWords_6 ?_
    refine g_icmp_ge (pc := 9) C (tgt := 41) dX10_nextWords_9 rfl h (fun h => ?_) (fun h => ?_)
    · refine g_iload_n (pc := 41) C 1 rfl dX10_nextWords_41 ?_
      cases h
      exact g_iret C E dX10_nextWords_42
    · refine g_iload_n (pc := 12) C 1 rfl dX10_nextWords_12 ?_
      refine g_aload_n (pc := 13) C 0 rfl dX10_nextWords_13 ?_
      refine g_iload_n (pc := 14) C 2 rfl dX10_nextWords_14 ?_
      obtain ⟨v1, hc, h⟩ := b1_of h
      refine g_callV (pc := 15) C (w' := cs_X10 J.2.2.1 a0 m_thrown m_refused m_taped m_size m_at m_bad m_badKind m_opens m_faultAt m_tape m_newBed m_newLetter m_newReader m_bed m_letter m_reader m_newBeds m_newLetters m_newReaders m_beds m_letters m_readers m_newCode m_newOf m_code m_ofCode m_stack m_newCodes m_codes m_facts m_newStep m_step m_newSteps m_works m_refusedSteps m_begun m_done m_refusedNow m_now m_s m_past m_newBook m_book m_written m_mostBy m_stuffing m_stuffedMany m_lastBy m_leftBy m_splitBy m_seedNow m_image m_images) (As := [.int x2]) (st := [.int x1]) (ci := 10) (q0 := 0) rfl rfl (t_X10_leftOf (a0 := a0) hc) Sub.same kw_1619 kw_1621 kw_52 kw_95 hy_X10_leftOf kw_1622 rfl (Nat.le_of_ble_eq_true rfl) (Nat.le_of_ble_eq_true rfl) (Nat.le_of_ble_eq_true rfl) (Nat.le_of_ble_eq_true rfl) (Nat.le_of_ble_eq_true rfl) dX10_nextWords_15 ?_
      refine g_if_le (pc := 18) C (tgt := 32) dX10_nextWords_18 rfl h (fun h => ?_) (fun h => ?_)
      · refine g_iconst (pc := 32) C dX10_nextWords_32 ci_0 ?_
        refine g_ior (pc := 33) C dX10_nextWords_33 ?_
        refine g_istore_n (pc := 34) C [(1, .int (x1 ||| 0)), (0, .ref (a0 0)), (2, .int x2)] dX10_nextWords_34 rfl (by decide) rfl ?_
        refine g_iinc (pc := 35) C (j := 2) [(2, .int (x2 + 1)), (1, .int (x1 ||| 0)), (0, .ref (a0 0))] dX10_nextWords_35 rfl (ii_1 _) (by decide) rfl ?_
        refine g_goto (pc := 38) C (tgt := 4) dX10_nextWords_38 rfl ?_
        refine g_lv [2, 1, 0] rfl ?_
        exact ih (x1 ||| 0) (x2 + 1) h
      · refine g_iconst (pc := 21) C dX10_nextWords_21 ci_1 ?_
        refine g_aload_n (pc := 22) C 0 rfl dX10_nextWords_22 ?_
        refine g_iload_n (pc := 23) C 2 rfl dX10_nextWords_23 ?_
        refine g_iconst (pc := 24) C dX10_nextWords_24 ci_0 ?_
        obtain ⟨v2, hc, h⟩ := b1_of h
        refine g_callV (pc := 25) C (w' := cs_X10 J.2.2.1 a0 m_thrown m_refused m_taped m_size m_at m_bad m_badKind m_opens m_faultAt m_tape m_newBed m_newLetter m_newReader m_bed m_letter m_reader m_newBeds m_newLetters m_newReaders m_beds m_letters m_readers m_newCode m_newOf m_code m_ofCode m_stack m_newCodes m_codes m_facts m_newStep m_step m_newSteps m_works m_refusedSteps m_begun m_done m_refusedNow m_now m_s m_past m_newBook m_book m_written m_mostBy m_stuffing m_stuffedMany m_lastBy m_leftBy m_splitBy m_seedNow m_image m_images) (As := [.int x2, .int 0]) (st := [.int 1, .int x1]) (ci := 10) (q0 := 0) rfl rfl (t_X10_wordOf (a0 := a0) hc) Sub.same kw_1623 kw_1625 kw_53 kw_95 hy_X10_wordOf kw_1626 rfl (Nat.le_of_ble_eq_true rfl) (Nat.le_of_ble_eq_true rfl) (Nat.le_of_ble_eq_true rfl) (Nat.le_of_ble_eq_true rfl) (Nat.le_of_ble_eq_true rfl) dX10_nextWords_25 ?_
        refine g_ishl (pc := 28) C dX10_nextWords_28 ?_
        refine g_goto (pc := 29) C (tgt := 33) dX10_nextWords_29 rfl ?_
        refine g_ior (pc := 33) C dX10_nextWords_33 ?_
        refine g_istore_n (pc := 34) C [(1, .int (x1 ||| ((1 : Int32) <<< (v2 &&& 31)))), (0, .ref (a0 0)), (2, .int x2)] dX10_nextWords_34 rfl (by decide) rfl ?_
        refine g_iinc (pc := 35) C (j := 2) [(2, .int (x2 + 1)), (1, .int (x1 ||| ((1 : Int32) <<< (v2 &&& 31)))), (0, .ref (a0 0))] dX10_nextWords_35 rfl (ii_1 _) (by decide) rfl ?_
        refine g_goto (pc := 38) C (tgt := 4) dX10_nextWords_38 rfl ?_
        refine g_lv [2, 1, 0] rfl ?_
        exact ih (x1 ||| ((1 : Int32) <<< (v2 &&& 31))) (x2 + 1) h
set_option maxRecDepth 100000 in
set_option maxHeartbeats 4000000 in
theorem t_X10_nextWords {J : Jt} {a0 : Nat → Nat} {m_thrown : Int32} {m_refused : Nat → Int32} {m_taped : Int32} {m_size : Int32} {m_at : Int32} {m_bad : Int32} {m_badKind : Int32} {m_opens : Int32} {m_faultAt : Int32} {m_tape : Nat → Int32} {m_newBed : Nat → Int32} {m_newLetter : Nat → Int32} {m_newReader : Nat → Int32} {m_bed : Nat → Int32} {m_letter : Nat → Int32} {m_reader : Nat → Int32} {m_newBeds : Int32} {m_newLetters : Int32} {m_newReaders : Int32} {m_beds : Int32} {m_letters : Int32} {m_readers : Int32} {m_newCode : Nat → Int32} {m_newOf : Nat → Int32} {m_code : Nat → Int32} {m_ofCode : Nat → Int32} {m_stack : Nat → Int32} {m_newCodes : Int32} {m_codes : Int32} {m_facts : Nat → Int32} {m_newStep : Nat → Int32} {m_step : Nat → Int32} {m_newSteps : Int32} {m_works : Int32} {m_refusedSteps : Int32} {m_begun : Int32} {m_done : Int32} {m_refusedNow : Int32} {m_now : Nat → Int32} {m_s : Nat → Int32} {m_past : Nat → Int32} {m_newBook : Nat → Int32} {m_book : Nat → Int32} {m_written : Int32} {m_mostBy : Nat → Int32} {m_stuffing : Nat → Int32} {m_stuffedMany : Int32} {m_lastBy : Nat → Int32} {m_leftBy : Nat → Int32} {m_splitBy : Nat → Int64} {m_seedNow : Int32} {m_image : Nat → Int32} {m_images : Int32} {r : Int32} (h : f_X10_nextWords m_letter m_letters m_s = some r) : Mt J yX10_nextWords cX10_nextWords 3 (some .int) rm_X10_nextWords [.ref (a0 0)] (cs_X10 J.2.2.1 a0 m_thrown m_refused m_taped m_size m_at m_bad m_badKind m_opens m_faultAt m_tape m_newBed m_newLetter m_newReader m_bed m_letter m_reader m_newBeds m_newLetters m_newReaders m_beds m_letters m_readers m_newCode m_newOf m_code m_ofCode m_stack m_newCodes m_codes m_facts m_newStep m_step m_newSteps m_works m_refusedSteps m_begun m_done m_refusedNow m_now m_s m_past m_newBook m_book m_written m_mostBy m_stuffing m_stuffedMany m_lastBy m_leftBy m_splitBy m_seedNow m_image m_images) (some (.int r)) (cs_X10 J.2.2.1 a0 m_thrown m_refused m_taped m_size m_at m_bad m_badKind m_opens m_faultAt m_tape m_newBed m_newLetter m_newReader m_bed m_letter m_reader m_newBeds m_newLetters m_newReaders m_beds m_letters m_readers m_newCode m_newOf m_code m_ofCode m_stack m_newCodes m_codes m_facts m_newStep m_step m_newSteps m_works m_refusedSteps m_begun m_done m_refusedNow m_now m_s m_past m_newBook m_book m_written m_mostBy m_stuffing m_stuffedMany m_lastBy m_leftBy m_splitBy m_seedNow m_image m_images) := by
  refine Mt_of (own := RX10) (by decide) rfl (Nat.le_of_ble_eq_true rfl) rfl (fun Z C E => ?_)
  unfold f_X10_nextWords at h
  show G J Z 0 0 (cs_X10 J.2.2.1 a0 m_thrown m_refused m_taped m_size m_at m_bad m_badKind m_opens m_faultAt m_tape m_newBed m_newLetter m_newReader m_bed m_letter m_reader m_newBeds m_newLetters m_newReaders m_beds m_letters m_readers m_newCode m_newOf m_code m_ofCode m_stack m_newCodes m_codes m_facts m_newStep m_step m_newSteps m_works m_refusedSteps m_begun m_done m_refusedNow m_now m_s m_past m_newBook m_book m_written m_mostBy m_stuffing m_stuffedMany m_lastBy m_leftBy m_splitBy m_seedNow m_image m_images) 3 [(0, .ref (a0 0))] 0 []
  refine g_iconst (pc := 0) C dX10_nextWords_0 ci_0 ?_
  refine g_istore_n (pc := 1) C [(1, .int 0), (0, .ref (a0 0))] dX10_nextWords_1 rfl (by decide) rfl ?_
  refine g_iconst (pc := 2) C dX10_nextWords_2 ci_0 ?_
  refine g_istore_n (pc := 3) C [(2, .int 0), (1, .int 0), (0, .ref (a0 0))] dX10_nextWords_3 rfl (by decide) rfl ?_
  refine g_lv [2, 1, 0] rfl ?_
  exact j_X10_nextWords_4 C E    FU 0 0 h
noncomputable def f_X10_newsOf (m_bed : Nat → Int32) (m_letter : Nat → Int32) (m_letters : Int32) (m_s : Nat → Int32) (n1 : Int32) (n2 : Int32) : Option (Int32) := if ixb (90 + n1) 165 then if ixb (m_s (90 + n1).toNatClampNeg) 6 then if n2 < (m_bed (m_s (90 + n1).toNatClampNeg).toNatClampNeg) then some 0 else b1 (f_X10_nextWords m_letter m_letters m_s) (fun v1 => if ixb (95 + n1) 165 then some (v1 &&& ((m_s (95 + n1).toNatClampNeg) ^^^ (-1))) else none) else none else none
def rm_X10_newsOf : Room := { frames := 2, cells := 0, slots := 0, locals := 44 }
set_option maxRecDepth 100000 in
set_option maxHeartbeats 4000000 in
theorem t_X10_newsOf {J : Jt} {a0 : Nat → Nat} {m_thrown : Int32} {m_refused : Nat → Int32} {m_taped : Int32} {m_size : Int32} {m_at : Int32} {m_bad : Int32} {m_badKind : Int32} {m_opens : Int32} {m_faultAt : Int32} {m_tape : Nat → Int32} {m_newBed : Nat → Int32} {m_newLetter : Nat → Int32} {m_newReader : Nat → Int32} {m_bed : Nat → Int32} {m_letter : Nat → Int32} {m_reader : Nat → Int32} {m_newBeds : Int32} {m_newLetters : Int32} {m_newReaders : Int32} {m_beds : Int32} {m_letters : Int32} {m_readers : Int32} {m_newCode : Nat → Int32} {m_newOf : Nat → Int32} {m_code : Nat → Int32} {m_ofCode : Nat → Int32} {m_stack : Nat → Int32} {m_newCodes : Int32} {m_codes : Int32} {m_facts : Nat → Int32} {m_newStep : Nat → Int32} {m_step : Nat → Int32} {m_newSteps : Int32} {m_works : Int32} {m_refusedSteps : Int32} {m_begun : Int32} {m_done : Int32} {m_refusedNow : Int32} {m_now : Nat → Int32} {m_s : Nat → Int32} {m_past : Nat → Int32} {m_newBook : Nat → Int32} {m_book : Nat → Int32} {m_written : Int32} {m_mostBy : Nat → Int32} {m_stuffing : Nat → Int32} {m_stuffedMany : Int32} {m_lastBy : Nat → Int32} {m_leftBy : Nat → Int32} {m_splitBy : Nat → Int64} {m_seedNow : Int32} {m_image : Nat → Int32} {m_images : Int32} {n1 : Int32} {n2 : Int32} {r : Int32} (h : f_X10_newsOf m_bed m_letter m_letters m_s n1 n2 = some r) : Mt J yX10_newsOf cX10_newsOf 3 (some .int) rm_X10_newsOf [.ref (a0 0), .int n1, .int n2] (cs_X10 J.2.2.1 a0 m_thrown m_refused m_taped m_size m_at m_bad m_badKind m_opens m_faultAt m_tape m_newBed m_newLetter m_newReader m_bed m_letter m_reader m_newBeds m_newLetters m_newReaders m_beds m_letters m_readers m_newCode m_newOf m_code m_ofCode m_stack m_newCodes m_codes m_facts m_newStep m_step m_newSteps m_works m_refusedSteps m_begun m_done m_refusedNow m_now m_s m_past m_newBook m_book m_written m_mostBy m_stuffing m_stuffedMany m_lastBy m_leftBy m_splitBy m_seedNow m_image m_images) (some (.int r)) (cs_X10 J.2.2.1 a0 m_thrown m_refused m_taped m_size m_at m_bad m_badKind m_opens m_faultAt m_tape m_newBed m_newLetter m_newReader m_bed m_letter m_reader m_newBeds m_newLetters m_newReaders m_beds m_letters m_readers m_newCode m_newOf m_code m_ofCode m_stack m_newCodes m_codes m_facts m_newStep m_step m_newSteps m_works m_refusedSteps m_begun m_done m_refusedNow m_now m_s m_past m_newBook m_book m_written m_mostBy m_stuffing m_stuffedMany m_lastBy m_leftBy m_splitBy m_seedNow m_image m_images) := by
  refine Mt_of (own := RX10) (by decide) rfl (Nat.le_of_ble_eq_true rfl) rfl (fun Z C E => ?_)
  unfold f_X10_newsOf at h
  show G J Z 0 0 (cs_X10 J.2.2.1 a0 m_thrown m_refused m_taped m_size m_at m_bad m_badKind m_opens m_faultAt m_tape m_newBed m_newLetter m_newReader m_bed m_letter m_reader m_newBeds m_newLetters m_newReaders m_beds m_letters m_readers m_newCode m_newOf m_code m_ofCode m_stack m_newCodes m_codes m_facts m_newStep m_step m_newSteps m_works m_refusedSteps m_begun m_done m_refusedNow m_now m_s m_past m_newBook m_book m_written m_mostBy m_stuffing m_stuffedMany m_lastBy m_leftBy m_splitBy m_seedNow m_image m_images) 3 [(0, .ref (a0 0)), (1, .int n1), (2, .int n2)] 0 []
  refine g_aload_n (pc := 0) C 0 rfl dX10_newsOf_0 ?_
  refine g_get (pc := 1) C FOK_X10 0 rfl rfl 13 (by decide) kw_1290 rfl dX10_newsOf_1 ?_
  refine g_aload_n (pc := 4) C 0 rfl dX10_newsOf_4 ?_
  refine g_get (pc := 5) C FOK_X10 0 rfl rfl 39 (by decide) kw_1316 rfl dX10_newsOf_5 ?_
  refine g_bipush (pc := 8) C dX10_newsOf_8 cb_90 ?_
  refine g_iload_n (pc := 10) C 1 rfl dX10_newsOf_10 ?_
  refine g_iadd (pc := 11) C dX10_newsOf_11 ?_
  obtain ⟨hi, h⟩ := ix_of h
  refine g_iald (pc := 12) C 18 rfl hi dX10_newsOf_12 ?_
  obtain ⟨hi, h⟩ := ix_of h
  refine g_iald (pc := 13) C 6 rfl hi dX10_newsOf_13 ?_
  refine g_iload_n (pc := 14) C 2 rfl dX10_newsOf_14 ?_
  refine g_icmp_gt (pc := 15) C (tgt := 37) dX10_newsOf_15 rfl h (fun h => ?_) (fun h => ?_)
  · refine g_iconst (pc := 37) C dX10_newsOf_37 ci_0 ?_
    cases h
    exact g_iret C E dX10_newsOf_38
  · refine g_aload_n (pc := 18) C 0 rfl dX10_newsOf_18 ?_
    obtain ⟨v1, hc, h⟩ := b1_of h
    refine g_callV (pc := 19) C (w' := cs_X10 J.2.2.1 a0 m_thrown m_refused m_taped m_size m_at m_bad m_badKind m_opens m_faultAt m_tape m_newBed m_newLetter m_newReader m_bed m_letter m_reader m_newBeds m_newLetters m_newReaders m_beds m_letters m_readers m_newCode m_newOf m_code m_ofCode m_stack m_newCodes m_codes m_facts m_newStep m_step m_newSteps m_works m_refusedSteps m_begun m_done m_refusedNow m_now m_s m_past m_newBook m_book m_written m_mostBy m_stuffing m_stuffedMany m_lastBy m_leftBy m_splitBy m_seedNow m_image m_images) (As := []) (st := []) (ci := 10) (q0 := 0) rfl rfl (t_X10_nextWords (a0 := a0) hc) Sub.same kw_1615 kw_1617 kw_51 kw_95 hy_X10_nextWords kw_1618 rfl (Nat.le_of_ble_eq_true rfl) (Nat.le_of_ble_eq_true rfl) (Nat.le_of_ble_eq_true rfl) (Nat.le_of_ble_eq_true rfl) (Nat.le_of_ble_eq_true rfl) dX10_newsOf_19 ?_
    refine g_aload_n (pc := 22) C 0 rfl dX10_newsOf_22 ?_
    refine g_get (pc := 23) C FOK_X10 0 rfl rfl 39 (by decide) kw_1316 rfl dX10_newsOf_23 ?_
    refine g_bipush (pc := 26) C dX10_newsOf_26 cb_95 ?_
    refine g_iload_n (pc := 28) C 1 rfl dX10_newsOf_28 ?_
    refine g_iadd (pc := 29) C dX10_newsOf_29 ?_
    obtain ⟨hi, h⟩ := ix_of h
    refine g_iald (pc := 30) C 18 rfl hi dX10_newsOf_30 ?_
    refine g_iconst (pc := 31) C dX10_newsOf_31 ci_m1 ?_
    refine g_ixor (pc := 32) C dX10_newsOf_32 ?_
    refine g_iand (pc := 33) C dX10_newsOf_33 ?_
    refine g_goto (pc := 34) C (tgt := 38) dX10_newsOf_34 rfl ?_
    cases h
    exact g_iret C E dX10_newsOf_38
noncomputable def f_X10_isBlown_34  (m_bed : Nat → Int32) (m_letter : Nat → Int32) (m_letters : Int32) (m_readers : Int32) (n1 : Int32) (k4 : Int32 → Int32 → (Nat → Int32) → Option (Int32 × (Nat → Int32))) (x3 : Int32) (x4 : Int32) (y0 : Int32) (m_s : Nat → Int32) : Option (Int32 × (Nat → Int32)) := if ixb (95 + x3) 165 then if ixb (95 + x3) 165 then k4 y0 (x3 + 1) (upd m_s (95 + x3).toNatClampNeg ((m_s (95 + x3).toNatClampNeg) ||| x4)) else none else none
noncomputable def f_X10_isBlown_4  (m_bed : Nat → Int32) (m_letter : Nat → Int32) (m_letters : Int32) (m_readers : Int32) (n1 : Int32) : Nat → Int32 → Int32 → (Nat → Int32) → Option (Int32 × (Nat → Int32))
  | 0, _, _, _ => none
  | n + 1, x2, x3, m_s => if m_readers ≤ x3 then if zok x2 then some (x2, m_s) else none else b1 (f_X10_newsOf m_bed m_letter m_letters m_s x3 n1) (fun v1 => if v1 = 0 then if x2 = 0 then f_X10_isBlown_34 m_bed m_letter m_letters m_readers n1 (f_X10_isBlown_4 m_bed m_letter m_letters m_readers n1 n) x3 v1 0 m_s else f_X10_isBlown_34 m_bed m_letter m_letters m_readers n1 (f_X10_isBlown_4 m_bed m_letter m_letters m_readers n1 n) x3 v1 1 m_s else f_X10_isBlown_34 m_bed m_letter m_letters m_readers n1 (f_X10_isBlown_4 m_bed m_letter m_letters m_readers n1 n) x3 v1 1 m_s)
noncomputable def f_X10_isBlown (m_bed : Nat → Int32) (m_letter : Nat → Int32) (m_letters : Int32) (m_readers : Int32) (m_s : Nat → Int32) (n1 : Int32) : Option (Int32 × (Nat → Int32)) := f_X10_isBlown_4 m_bed m_letter m_letters m_readers n1 FU 0 0 m_s
def rm_X10_isBlown : Room := { frames := 3, cells := 0, slots := 0, locals := 66 }
set_option maxRecDepth 100000 in
set_option maxHeartbeats 4000000 in
theorem j_X10_isBlown_34 {J : Jt} {Z : Zt} {a0 : Nat → Nat} {m_thrown : Int32} {m_refused : Nat → Int32} {m_taped : Int32} {m_size : Int32} {m_at : Int32} {m_bad : Int32} {m_badKind : Int32} {m_opens : Int32} {m_faultAt : Int32} {m_tape : Nat → Int32} {m_newBed : Nat → Int32} {m_newLetter : Nat → Int32} {m_newReader : Nat → Int32} {m_bed : Nat → Int32} {m_letter : Nat → Int32} {m_reader : Nat → Int32} {m_newBeds : Int32} {m_newLetters : Int32} {m_newReaders : Int32} {m_beds : Int32} {m_letters : Int32} {m_readers : Int32} {m_newCode : Nat → Int32} {m_newOf : Nat → Int32} {m_code : Nat → Int32} {m_ofCode : Nat → Int32} {m_stack : Nat → Int32} {m_newCodes : Int32} {m_codes : Int32} {m_facts : Nat → Int32} {m_newStep : Nat → Int32} {m_step : Nat → Int32} {m_newSteps : Int32} {m_works : Int32} {m_refusedSteps : Int32} {m_begun : Int32} {m_done : Int32} {m_refusedNow : Int32} {m_now : Nat → Int32} {m_past : Nat → Int32} {m_newBook : Nat → Int32} {m_book : Nat → Int32} {m_written : Int32} {m_mostBy : Nat → Int32} {m_stuffing : Nat → Int32} {m_stuffedMany : Int32} {m_lastBy : Nat → Int32} {m_leftBy : Nat → Int32} {m_splitBy : Nat → Int64} {m_seedNow : Int32} {m_image : Nat → Int32} {m_images : Int32} {n1 : Int32} {r : Int32} {o_m_s : Nat → Int32} {k4 : Int32 → Int32 → (Nat → Int32) → Option (Int32 × (Nat → Int32))} (C : Cx J Z cX10_isBlown 5 RX10 (some .boolean) rm_X10_isBlown) (E : Ez J Z 0 0 (some (.int r)) (cs_X10 J.2.2.1 a0 m_thrown m_refused m_taped m_size m_at m_bad m_badKind m_opens m_faultAt m_tape m_newBed m_newLetter m_newReader m_bed m_letter m_reader m_newBeds m_newLetters m_newReaders m_beds m_letters m_readers m_newCode m_newOf m_code m_ofCode m_stack m_newCodes m_codes m_facts m_newStep m_step m_newSteps m_works m_refusedSteps m_begun m_done m_refusedNow m_now o_m_s m_past m_newBook m_book m_written m_mostBy m_stuffing m_stuffedMany m_lastBy m_leftBy m_splitBy m_seedNow m_image m_images)) (hk4 : ∀ (x2 : Int32) (x3 : Int32) (m_s : Nat → Int32), k4 x2 x3 m_s = some (r, o_m_s) → G J Z 0 0 (cs_X10 J.2.2.1 a0 m_thrown m_refused m_taped m_size m_at m_bad m_badKind m_opens m_faultAt m_tape m_newBed m_newLetter m_newReader m_bed m_letter m_reader m_newBeds m_newLetters m_newReaders m_beds m_letters m_readers m_newCode m_newOf m_code m_ofCode m_stack m_newCodes m_codes m_facts m_newStep m_step m_newSteps m_works m_refusedSteps m_begun m_done m_refusedNow m_now m_s m_past m_newBook m_book m_written m_mostBy m_stuffing m_stuffedMany m_lastBy m_leftBy m_splitBy m_seedNow m_image m_images) 5 [(0, .ref (a0 0)), (1, .int n1), (2, .int x2), (3, .int x3)] 4 []) : ∀ (x3 : Int32) (x4 : Int32) (y0 : Int32) (m_s : Nat → Int32), f_X10_isBlown_34 m_bed m_letter m_letters m_readers n1 k4 x3 x4 y0 m_s = some (r, o_m_s) → G J Z 0 0 (cs_X10 J.2.2.1 a0 m_thrown m_refused m_taped m_size m_at m_bad m_badKind m_opens m_faultAt m_tape m_newBed m_newLetter m_newReader m_bed m_letter m_reader m_newBeds m_newLetters m_newReaders m_beds m_letters m_readers m_newCode m_newOf m_code m_ofCode m_stack m_newCodes m_codes m_facts m_newStep m_step m_newSteps m_works m_refusedSteps m_begun m_done m_refusedNow m_now m_s m_past m_newBook m_book m_written m_mostBy m_stuffing m_stuffedMany m_lastBy m_leftBy m_splitBy m_seedNow m_image m_images) 5 [(0, .ref (a0 0)), (1, .int n1), (3, .int x3), (4, .int x4)] 34 [.int y0] := by
  intro x3 x4 y0 m_s h
  unfold f_X10_isBlown_34 at h
  refine g_istore_n (pc := 34) C [(2, .int y0), (0, .ref (a0 0)), (1, .int n1), (3, .int x3), (4, .int x4)] dX10_isBlown_34 rfl (by decide) rfl ?_
  refine g_aload_n (pc := 35) C 1 rfl dX10_isBlown_35 ?_
  refine g_get (pc := 36) C FOK_X10 0 rfl rfl 39 (by decide) kw_1316 rfl dX10_isBlown_36 ?_
  refine g_bipush (pc := 39) C dX10_isBlown_39 cb_95 ?_
  refine g_iload_n (pc := 41) C 3 rfl dX10_isBlown_41 ?_
  refine g_iadd (pc := 42) C dX10_isBlown_42 ?_
  refine g_dup2 (pc := 43) C dX10_isBlown_43 rfl rfl ?_
  obtain ⟨hi, h⟩ := ix_of h
  refine g_iald (pc := 44) C 18 rfl hi dX10_isBlown_44 ?_
  refine g_iload (pc := 45) C 4 rfl dX10_isBlown_45 ?_
  refine g_ior (pc := 47) C dX10_isBlown_47 ?_
  obtain ⟨hi, h⟩ := ix_of h
  refine g_iast (pc := 48) C (w' := cs_X10 J.2.2.1 a0 m_thrown m_refused m_taped m_size m_at m_bad m_badKind m_opens m_faultAt m_tape m_newBed m_newLetter m_newReader m_bed m_letter m_reader m_newBeds m_newLetters m_newReaders m_beds m_letters m_readers m_newCode m_newOf m_code m_ofCode m_stack m_newCodes m_codes m_facts m_newStep m_step m_newSteps m_works m_refusedSteps m_begun m_done m_refusedNow m_now (upd m_s (95 + x3).toNatClampNeg ((m_s (95 + x3).toNatClampNeg) ||| x4)) m_past m_newBook m_book m_written m_mostBy m_stuffing m_stuffedMany m_lastBy m_leftBy m_splitBy m_seedNow m_image m_images) 18 rfl hi dX10_isBlown_48 rfl ?_
  refine g_iinc (pc := 49) C (j := 3) [(3, .int (x3 + 1)), (2, .int y0), (0, .ref (a0 0)), (1, .int n1), (4, .int x4)] dX10_isBlown_49 rfl (ii_1 _) (by decide) rfl ?_
  refine g_goto (pc := 52) C (tgt := 4) dX10_isBlown_52 rfl ?_
  refine g_lv [2, 3, 1, 0] rfl ?_
  exact hk4 y0 (x3 + 1) (upd m_s (95 + x3).toNatClampNeg ((m_s (95 + x3).toNatClampNeg) ||| x4)) h
set_option maxRecDepth 100000 in
set_option maxHeartbeats 4000000 in
theorem j_X10_isBlown_4 {J : Jt} {Z : Zt} {a0 : Nat → Nat} {m_thrown : Int32} {m_refused : Nat → Int32} {m_taped : Int32} {m_size : Int32} {m_at : Int32} {m_bad : Int32} {m_badKind : Int32} {m_opens : Int32} {m_faultAt : Int32} {m_tape : Nat → Int32} {m_newBed : Nat → Int32} {m_newLetter : Nat → Int32} {m_newReader : Nat → Int32} {m_bed : Nat → Int32} {m_letter : Nat → Int32} {m_reader : Nat → Int32} {m_newBeds : Int32} {m_newLetters : Int32} {m_newReaders : Int32} {m_beds : Int32} {m_letters : Int32} {m_readers : Int32} {m_newCode : Nat → Int32} {m_newOf : Nat → Int32} {m_code : Nat → Int32} {m_ofCode : Nat → Int32} {m_stack : Nat → Int32} {m_newCodes : Int32} {m_codes : Int32} {m_facts : Nat → Int32} {m_newStep : Nat → Int32} {m_step : Nat → Int32} {m_newSteps : Int32} {m_works : Int32} {m_refusedSteps : Int32} {m_begun : Int32} {m_done : Int32} {m_refusedNow : Int32} {m_now : Nat → Int32} {m_past : Nat → Int32} {m_newBook : Nat → Int32} {m_book : Nat → Int32} {m_written : Int32} {m_mostBy : Nat → Int32} {m_stuffing : Nat → Int32} {m_stuffedMany : Int32} {m_lastBy : Nat → Int32} {m_leftBy : Nat → Int32} {m_splitBy : Nat → Int64} {m_seedNow : Int32} {m_image : Nat → Int32} {m_images : Int32} {n1 : Int32} {r : Int32} {o_m_s : Nat → Int32} (C : Cx J Z cX10_isBlown 5 RX10 (some .boolean) rm_X10_isBlown) (E : Ez J Z 0 0 (some (.int r)) (cs_X10 J.2.2.1 a0 m_thrown m_refused m_taped m_size m_at m_bad m_badKind m_opens m_faultAt m_tape m_newBed m_newLetter m_newReader m_bed m_letter m_reader m_newBeds m_newLetters m_newReaders m_beds m_letters m_readers m_newCode m_newOf m_code m_ofCode m_stack m_newCodes m_codes m_facts m_newStep m_step m_newSteps m_works m_refusedSteps m_begun m_done m_refusedNow m_now o_m_s m_past m_newBook m_book m_written m_mostBy m_stuffing m_stuffedMany m_lastBy m_leftBy m_splitBy m_seedNow m_image m_images)) : ∀ (n : Nat) (x2 : Int32) (x3 : Int32) (m_s : Nat → Int32), f_X10_isBlown_4 m_bed m_letter m_letters m_readers n1 n x2 x3 m_s = some (r, o_m_s) → G J Z 0 0 (cs_X10 J.2.2.1 a0 m_thrown m_refused m_taped m_size m_at m_bad m_badKind m_opens m_faultAt m_tape m_newBed m_newLetter m_newReader m_bed m_letter m_reader m_newBeds m_newLetters m_newReaders m_beds m_letters m_readers m_newCode m_newOf m_code m_ofCode m_stack m_newCodes m_codes m_facts m_newStep m_step m_newSteps m_works m_refusedSteps m_begun m_done m_refusedNow m_now m_s m_past m_newBook m_book m_written m_mostBy m_stuffing m_stuffedMany m_lastBy m_leftBy m_splitBy m_seedNow m_image m_images) 5 [(0, .ref (a0 0)), (1, .int n1), (2, .int x2), (3, .int x3)] 4 [] := by
  intro n
  induction n with
  | zero =>
    intro x2 x3 m_s h
    rw [f_X10_isBlown_4] at h
    cases h
  | succ n ih =>
    intro x2 x3 m_s h
    rw [f_X10_isBlown_4] at h
    refine g_iload_n (pc := 4) C 3 rfl dX10_isBlown_4 ?_
    refine g_aload_n (pc := 5) C 0 rfl dX10_isBlown_5 ?_
    refine g_get (pc := 6) C FOK_X10 0 rfl rfl 21 (by decide) kw_1298 rfl dX10_isBlown_6 ?_
    refine g_icmp_ge (pc := 9) C (tgt := 55) dX10_isBlown_9 rfl h (fun h => ?_) (fun h => ?_)
    · refine g_iload_n (pc := 55) C 2 rfl dX10_isBlown_55 ?_
      obtain ⟨hz, h⟩ := zok_of h
      cases h
      exact g_zret C hz E dX10_isBlown_56
    · refine g_aload_n (pc := 12) C 0 rfl dX10_isBlown_12 ?_
      refine g_iload_n (pc := 13) C 3 rfl dX10_isBlown_13 ?_
      refine g_iload_n (pc := 14) C 1 rfl dX10_isBlown_14 ?_
      obtain ⟨v1, hc, h⟩ := b1_of h
      refine g_callV (pc := 15) C (w' := cs_X10 J.2.2.1 a0 m_thrown m_refused m_taped m_size m_at m_bad m_badKind m_opens m_faultAt m_tape m_newBed m_newLetter m_newReader m_bed m_letter m_reader m_newBeds m_newLetters m_newReaders m_beds m_letters m_readers m_newCode m_newOf m_code m_ofCode m_stack m_newCodes m_codes m_facts m_newStep m_step m_newSteps m_works m_refusedSteps m_begun m_done m_refusedNow m_now m_s m_past m_newBook m_book m_written m_mostBy m_stuffing m_stuffedMany m_lastBy m_leftBy m_splitBy m_seedNow m_image m_images) (As := [.int x3, .int n1]) (st := []) (ci := 10) (q0 := 0) rfl rfl (t_X10_newsOf (a0 := a0) hc) Sub.same kw_1611 kw_1613 kw_50 kw_95 hy_X10_newsOf kw_1614 rfl (Nat.le_of_ble_eq_true rfl) (Nat.le_of_ble_eq_true rfl) (Nat.le_of_ble_eq_true rfl) (Nat.le_of_ble_eq_true rfl) (Nat.le_of_ble_eq_true rfl) dX10_isBlown_15 ?_
      refine g_istore (pc := 18) C [(4, .int v1), (0, .ref (a0 0)), (1, .int n1), (2, .int x2), (3, .int x3)] dX10_isBlown_18 (by decide) rfl ?_
      refine g_iload (pc := 20) C 0 rfl dX10_isBlown_20 ?_
      refine g_if_ne (pc := 22) C (tgt := 29) dX10_isBlown_22 rfl h (fun h => ?_) (fun h => ?_)
      · refine g_iconst (pc := 29) C dX10_isBlown_29 ci_1 ?_
        refine g_goto (pc := 30) C (tgt := 34) dX10_isBlown_30 rfl ?_
        refine g_lv [1, 2, 4, 0] rfl ?_
        exact j_X10_isBlown_34 C E   ih x3 v1 1 m_s h
      · refine g_iload_n (pc := 25) C 3 rfl dX10_isBlown_25 ?_
        refine g_if_eq (pc := 26) C (tgt := 33) dX10_isBlown_26 rfl h (fun h => ?_) (fun h => ?_)
        · refine g_iconst (pc := 33) C dX10_isBlown_33 ci_0 ?_
          refine g_lv [1, 2, 4, 0] rfl ?_
          exact j_X10_isBlown_34 C E   ih x3 v1 0 m_s h
        · refine g_iconst (pc := 29) C dX10_isBlown_29 ci_1 ?_
          refine g_goto (pc := 30) C (tgt := 34) dX10_isBlown_30 rfl ?_
          refine g_lv [1, 2, 4, 0] rfl ?_
          exact j_X10_isBlown_34 C E   ih x3 v1 1 m_s h
set_option maxRecDepth 100000 in
set_option maxHeartbeats 4000000 in
theorem t_X10_isBlown {J : Jt} {a0 : Nat → Nat} {m_thrown : Int32} {m_refused : Nat → Int32} {m_taped : Int32} {m_size : Int32} {m_at : Int32} {m_bad : Int32} {m_badKind : Int32} {m_opens : Int32} {m_faultAt : Int32} {m_tape : Nat → Int32} {m_newBed : Nat → Int32} {m_newLetter : Nat → Int32} {m_newReader : Nat → Int32} {m_bed : Nat → Int32} {m_letter : Nat → Int32} {m_reader : Nat → Int32} {m_newBeds : Int32} {m_newLetters : Int32} {m_newReaders : Int32} {m_beds : Int32} {m_letters : Int32} {m_readers : Int32} {m_newCode : Nat → Int32} {m_newOf : Nat → Int32} {m_code : Nat → Int32} {m_ofCode : Nat → Int32} {m_stack : Nat → Int32} {m_newCodes : Int32} {m_codes : Int32} {m_facts : Nat → Int32} {m_newStep : Nat → Int32} {m_step : Nat → Int32} {m_newSteps : Int32} {m_works : Int32} {m_refusedSteps : Int32} {m_begun : Int32} {m_done : Int32} {m_refusedNow : Int32} {m_now : Nat → Int32} {m_s : Nat → Int32} {m_past : Nat → Int32} {m_newBook : Nat → Int32} {m_book : Nat → Int32} {m_written : Int32} {m_mostBy : Nat → Int32} {m_stuffing : Nat → Int32} {m_stuffedMany : Int32} {m_lastBy : Nat → Int32} {m_leftBy : Nat → Int32} {m_splitBy : Nat → Int64} {m_seedNow : Int32} {m_image : Nat → Int32} {m_images : Int32} {n1 : Int32} {r : Int32} {o_m_s : Nat → Int32} (h : f_X10_isBlown m_bed m_letter m_letters m_readers m_s n1 = some (r, o_m_s)) : Mt J yX10_isBlown cX10_isBlown 5 (some .boolean) rm_X10_isBlown [.ref (a0 0), .int n1] (cs_X10 J.2.2.1 a0 m_thrown m_refused m_taped m_size m_at m_bad m_badKind m_opens m_faultAt m_tape m_newBed m_newLetter m_newReader m_bed m_letter m_reader m_newBeds m_newLetters m_newReaders m_beds m_letters m_readers m_newCode m_newOf m_code m_ofCode m_stack m_newCodes m_codes m_facts m_newStep m_step m_newSteps m_works m_refusedSteps m_begun m_done m_refusedNow m_now m_s m_past m_newBook m_book m_written m_mostBy m_stuffing m_stuffedMany m_lastBy m_leftBy m_splitBy m_seedNow m_image m_images) (some (.int r)) (cs_X10 J.2.2.1 a0 m_thrown m_refused m_taped m_size m_at m_bad m_badKind m_opens m_faultAt m_tape m_newBed m_newLetter m_newReader m_bed m_letter m_reader m_newBeds m_newLetters m_newReaders m_beds m_letters m_readers m_newCode m_newOf m_code m_ofCode m_stack m_newCodes m_codes m_facts m_newStep m_step m_newSteps m_works m_refusedSteps m_begun m_done m_refusedNow m_now o_m_s m_past m_newBook m_book m_written m_mostBy m_stuffing m_stuffedMany m_lastBy m_leftBy m_splitBy m_seedNow m_image m_images) := by
  refine Mt_of (own := RX10) (by decide) rfl (Nat.le_of_ble_eq_true rfl) rfl (fun Z C E => ?_)
  unfold f_X10_isBlown at h
  show G J Z 0 0 (cs_X10 J.2.2.1 a0 m_thrown m_refused m_taped m_size m_at m_bad m_badKind m_opens m_faultAt m_tape m_newBed m_newLetter m_newReader m_bed m_letter m_reader m_newBeds m_newLetters m_newReaders m_beds m_letters m_readers m_newCode m_newOf m_code m_ofCode m_stack m_newCodes m_codes m_facts m_newStep m_step m_newSteps m_works m_refusedSteps m_begun m_done m_refusedNow m_now m_s m_past m_newBook m_book m_written m_mostBy m_stuffing m_stuffedMany m_lastBy m_leftBy m_splitBy m_seedNow m_image m_images) 5 [(0, .ref (a0 0)), (1, .int n1)] 0 []
  refine g_iconst (pc := 0) C dX10_isBlown_0 ci_0 ?_
  refine g_istore_n (pc := 1) C [(2, .int 0), (0, .ref (a0 0)), (1, .int n1)] dX10_isBlown_1 rfl (by decide) rfl ?_
  refine g_iconst (pc := 2) C dX10_isBlown_2 ci_0 ?_
  refine g_istore_n (pc := 3) C [(3, .int 0), (2, .int 0), (0, .ref (a0 0)), (1, .int n1)] dX10_isBlown_3 rfl (by decide) rfl ?_
  refine g_lv [2, 3, 1, 0] rfl ?_
  exact j_X10_isBlown_4 C E    FU 0 0 m_s h
noncomputable def f_X10_isEaten (m_s : Nat → Int32) (n1 : Int32) : Option (Int32 × (Nat → Int32)) := if ixb (84 + n1) 165 then if (m_s (84 + n1).toNatClampNeg) = 0 then some (0, m_s) else if ixb 163 165 then if ixb (84 + n1) 165 then if ixb 163 165 then if ixb (84 + n1) 165 then some (1, upd (upd m_s (163 : Int32).toNatClampNeg ((m_s (163 : Int32).toNatClampNeg) + (m_s (84 + n1).toNatClampNeg))) (84 + n1).toNatClampNeg 0) else none else none else none else none else none
def rm_X10_isEaten : Room := { frames := 0, cells := 0, slots := 0, locals := 0 }
set_option maxRecDepth 100000 in
set_option maxHeartbeats 4000000 in
theorem t_X10_isEaten {J : Jt} {a0 : Nat → Nat} {m_thrown : Int32} {m_refused : Nat → Int32} {m_taped : Int32} {m_size : Int32} {m_at : Int32} {m_bad : Int32} {m_badKind : Int32} {m_opens : Int32} {m_faultAt : Int32} {m_tape : Nat → Int32} {m_newBed : Nat → Int32} {m_newLetter : Nat → Int32} {m_newReader : Nat → Int32} {m_bed : Nat → Int32} {m_letter : Nat → Int32} {m_reader : Nat → Int32} {m_newBeds : Int32} {m_newLetters : Int32} {m_newReaders : Int32} {m_beds : Int32} {m_letters : Int32} {m_readers : Int32} {m_newCode : Nat → Int32} {m_newOf : Nat → Int32} {m_code : Nat → Int32} {m_ofCode : Nat → Int32} {m_stack : Nat → Int32} {m_newCodes : Int32} {m_codes : Int32} {m_facts : Nat → Int32} {m_newStep : Nat → Int32} {m_step : Nat → Int32} {m_newSteps : Int32} {m_works : Int32} {m_refusedSteps : Int32} {m_begun : Int32} {m_done : Int32} {m_refusedNow : Int32} {m_now : Nat → Int32} {m_s : Nat → Int32} {m_past : Nat → Int32} {m_newBook : Nat → Int32} {m_book : Nat → Int32} {m_written : Int32} {m_mostBy : Nat → Int32} {m_stuffing : Nat → Int32} {m_stuffedMany : Int32} {m_lastBy : Nat → Int32} {m_leftBy : Nat → Int32} {m_splitBy : Nat → Int64} {m_seedNow : Int32} {m_image : Nat → Int32} {m_images : Int32} {n1 : Int32} {r : Int32} {o_m_s : Nat → Int32} (h : f_X10_isEaten m_s n1 = some (r, o_m_s)) : Mt J yX10_isEaten cX10_isEaten 2 (some .boolean) rm_X10_isEaten [.ref (a0 0), .int n1] (cs_X10 J.2.2.1 a0 m_thrown m_refused m_taped m_size m_at m_bad m_badKind m_opens m_faultAt m_tape m_newBed m_newLetter m_newReader m_bed m_letter m_reader m_newBeds m_newLetters m_newReaders m_beds m_letters m_readers m_newCode m_newOf m_code m_ofCode m_stack m_newCodes m_codes m_facts m_newStep m_step m_newSteps m_works m_refusedSteps m_begun m_done m_refusedNow m_now m_s m_past m_newBook m_book m_written m_mostBy m_stuffing m_stuffedMany m_lastBy m_leftBy m_splitBy m_seedNow m_image m_images) (some (.int r)) (cs_X10 J.2.2.1 a0 m_thrown m_refused m_taped m_size m_at m_bad m_badKind m_opens m_faultAt m_tape m_newBed m_newLetter m_newReader m_bed m_letter m_reader m_newBeds m_newLetters m_newReaders m_beds m_letters m_readers m_newCode m_newOf m_code m_ofCode m_stack m_newCodes m_codes m_facts m_newStep m_step m_newSteps m_works m_refusedSteps m_begun m_done m_refusedNow m_now o_m_s m_past m_newBook m_book m_written m_mostBy m_stuffing m_stuffedMany m_lastBy m_leftBy m_splitBy m_seedNow m_image m_images) := by
  refine Mt_of (own := RX10) (by decide) rfl (Nat.le_of_ble_eq_true rfl) rfl (fun Z C E => ?_)
  unfold f_X10_isEaten at h
  show G J Z 0 0 (cs_X10 J.2.2.1 a0 m_thrown m_refused m_taped m_size m_at m_bad m_badKind m_opens m_faultAt m_tape m_newBed m_newLetter m_newReader m_bed m_letter m_reader m_newBeds m_newLetters m_newReaders m_beds m_letters m_readers m_newCode m_newOf m_code m_ofCode m_stack m_newCodes m_codes m_facts m_newStep m_step m_newSteps m_works m_refusedSteps m_begun m_done m_refusedNow m_now m_s m_past m_newBook m_book m_written m_mostBy m_stuffing m_stuffedMany m_lastBy m_leftBy m_splitBy m_seedNow m_image m_images) 2 [(0, .ref (a0 0)), (1, .int n1)] 0 []
  refine g_aload_n (pc := 0) C 0 rfl dX10_isEaten_0 ?_
  refine g_get (pc := 1) C FOK_X10 0 rfl rfl 39 (by decide) kw_1316 rfl dX10_isEaten_1 ?_
  refine g_bipush (pc := 4) C dX10_isEaten_4 cb_84 ?_
  refine g_iload_n (pc := 6) C 1 rfl dX10_isEaten_6 ?_
  refine g_iadd (pc := 7) C dX10_isEaten_7 ?_
  obtain ⟨hi, h⟩ := ix_of h
  refine g_iald (pc := 8) C 18 rfl hi dX10_isEaten_8 ?_
  refine g_if_ne (pc := 9) C (tgt := 14) dX10_isEaten_9 rfl h (fun h => ?_) (fun h => ?_)
  · refine g_aload_n (pc := 14) C 0 rfl dX10_isEaten_14 ?_
    refine g_get (pc := 15) C FOK_X10 0 rfl rfl 39 (by decide) kw_1316 rfl dX10_isEaten_15 ?_
    refine g_sipush (pc := 18) C dX10_isEaten_18 cs_163 ?_
    refine g_dup2 (pc := 21) C dX10_isEaten_21 rfl rfl ?_
    obtain ⟨hi, h⟩ := ix_of h
    refine g_iald (pc := 22) C 18 rfl hi dX10_isEaten_22 ?_
    refine g_aload_n (pc := 23) C 0 rfl dX10_isEaten_23 ?_
    refine g_get (pc := 24) C FOK_X10 0 rfl rfl 39 (by decide) kw_1316 rfl dX10_isEaten_24 ?_
    refine g_bipush (pc := 27) C dX10_isEaten_27 cb_84 ?_
    refine g_iload_n (pc := 29) C 1 rfl dX10_isEaten_29 ?_
    refine g_iadd (pc := 30) C dX10_isEaten_30 ?_
    obtain ⟨hi, h⟩ := ix_of h
    refine g_iald (pc := 31) C 18 rfl hi dX10_isEaten_31 ?_
    refine g_iadd (pc := 32) C dX10_isEaten_32 ?_
    obtain ⟨hi, h⟩ := ix_of h
    refine g_iast (pc := 33) C (w' := cs_X10 J.2.2.1 a0 m_thrown m_refused m_taped m_size m_at m_bad m_badKind m_opens m_faultAt m_tape m_newBed m_newLetter m_newReader m_bed m_letter m_reader m_newBeds m_newLetters m_newReaders m_beds m_letters m_readers m_newCode m_newOf m_code m_ofCode m_stack m_newCodes m_codes m_facts m_newStep m_step m_newSteps m_works m_refusedSteps m_begun m_done m_refusedNow m_now (upd m_s (163 : Int32).toNatClampNeg ((m_s (163 : Int32).toNatClampNeg) + (m_s (84 + n1).toNatClampNeg))) m_past m_newBook m_book m_written m_mostBy m_stuffing m_stuffedMany m_lastBy m_leftBy m_splitBy m_seedNow m_image m_images) 18 rfl hi dX10_isEaten_33 rfl ?_
    refine g_aload_n (pc := 34) C 0 rfl dX10_isEaten_34 ?_
    refine g_get (pc := 35) C FOK_X10 0 rfl rfl 39 (by decide) kw_1316 rfl dX10_isEaten_35 ?_
    refine g_bipush (pc := 38) C dX10_isEaten_38 cb_84 ?_
    refine g_iload_n (pc := 40) C 1 rfl dX10_isEaten_40 ?_
    refine g_iadd (pc := 41) C dX10_isEaten_41 ?_
    refine g_iconst (pc := 42) C dX10_isEaten_42 ci_0 ?_
    obtain ⟨hi, h⟩ := ix_of h
    refine g_iast (pc := 43) C (w' := cs_X10 J.2.2.1 a0 m_thrown m_refused m_taped m_size m_at m_bad m_badKind m_opens m_faultAt m_tape m_newBed m_newLetter m_newReader m_bed m_letter m_reader m_newBeds m_newLetters m_newReaders m_beds m_letters m_readers m_newCode m_newOf m_code m_ofCode m_stack m_newCodes m_codes m_facts m_newStep m_step m_newSteps m_works m_refusedSteps m_begun m_done m_refusedNow m_now (upd (upd m_s (163 : Int32).toNatClampNeg ((m_s (163 : Int32).toNatClampNeg) + (m_s (84 + n1).toNatClampNeg))) (84 + n1).toNatClampNeg 0) m_past m_newBook m_book m_written m_mostBy m_stuffing m_stuffedMany m_lastBy m_leftBy m_splitBy m_seedNow m_image m_images) 18 rfl hi dX10_isEaten_43 rfl ?_
    refine g_iconst (pc := 44) C dX10_isEaten_44 ci_1 ?_
    cases h
    exact g_zret C rfl E dX10_isEaten_45
  · refine g_iconst (pc := 12) C dX10_isEaten_12 ci_0 ?_
    cases h
    exact g_zret C rfl E dX10_isEaten_13
noncomputable def f_X10_wordsIn_4  (m_s : Nat → Int32) (n1 : Int32) : Nat → Int32 → Int32 → Option (Int32)
  | 0, _, _ => none
  | n + 1, x2, x3 => if ixb (84 + n1) 165 then if (m_s (84 + n1).toNatClampNeg) ≤ x3 then some x2 else if ixb ((12 + (12 * n1)) + x3) 165 then f_X10_wordsIn_4 m_s n1 n (x2 ||| ((1 : Int32) <<< ((m_s ((12 + (12 * n1)) + x3).toNatClampNeg) &&& 31))) (x3 + 1) else none else none
noncomputable def f_X10_wordsIn (m_s : Nat → Int32) (n1 : Int32) : Option (Int32) := f_X10_wordsIn_4 m_s n1 FU 0 0
def rm_X10_wordsIn : Room := { frames := 0, cells := 0, slots := 0, locals := 0 }
set_option maxRecDepth 100000 in
set_option maxHeartbeats 4000000 in
theorem j_X10_wordsIn_4 {J : Jt} {Z : Zt} {a0 : Nat → Nat} {m_thrown : Int32} {m_refused : Nat → Int32} {m_taped : Int32} {m_size : Int32} {m_at : Int32} {m_bad : Int32} {m_badKind : Int32} {m_opens : Int32} {m_faultAt : Int32} {m_tape : Nat → Int32} {m_newBed : Nat → Int32} {m_newLetter : Nat → Int32} {m_newReader : Nat → Int32} {m_bed : Nat → Int32} {m_letter : Nat → Int32} {m_reader : Nat → Int32} {m_newBeds : Int32} {m_newLetters : Int32} {m_newReaders : Int32} {m_beds : Int32} {m_letters : Int32} {m_readers : Int32} {m_newCode : Nat → Int32} {m_newOf : Nat → Int32} {m_code : Nat → Int32} {m_ofCode : Nat → Int32} {m_stack : Nat → Int32} {m_newCodes : Int32} {m_codes : Int32} {m_facts : Nat → Int32} {m_newStep : Nat → Int32} {m_step : Nat → Int32} {m_newSteps : Int32} {m_works : Int32} {m_refusedSteps : Int32} {m_begun : Int32} {m_done : Int32} {m_refusedNow : Int32} {m_now : Nat → Int32} {m_s : Nat → Int32} {m_past : Nat → Int32} {m_newBook : Nat → Int32} {m_book : Nat → Int32} {m_written : Int32} {m_mostBy : Nat → Int32} {m_stuffing : Nat → Int32} {m_stuffedMany : Int32} {m_lastBy : Nat → Int32} {m_leftBy : Nat → Int32} {m_splitBy : Nat → Int64} {m_seedNow : Int32} {m_image : Nat → Int32} {m_images : Int32} {n1 : Int32} {r : Int32} (C : Cx J Z cX10_wordsIn 4 RX10 (some .int) rm_X10_wordsIn) (E : Ez J Z 0 0 (some (.int r)) (cs_X10 J.2.2.1 a0 m_thrown m_refused m_taped m_size m_at m_bad m_badKind m_opens m_faultAt m_tape m_newBed m_newLetter m_newReader m_bed m_letter m_reader m_newBeds m_newLetters m_newReaders m_beds m_letters m_readers m_newCode m_newOf m_code m_ofCode m_stack m_newCodes m_codes m_facts m_newStep m_step m_newSteps m_works m_refusedSteps m_begun m_done m_refusedNow m_now m_s m_past m_newBook m_book m_written m_mostBy m_stuffing m_stuffedMany m_lastBy m_leftBy m_splitBy m_seedNow m_image m_images)) : ∀ (n : Nat) (x2 : Int32) (x3 : Int32), f_X10_wordsIn_4 m_s n1 n x2 x3 = some r → G J Z 0 0 (cs_X10 J.2.2.1 a0 m_thrown m_refused m_taped m_size m_at m_bad m_badKind m_opens m_faultAt m_tape m_newBed m_newLetter m_newReader m_bed m_letter m_reader m_newBeds m_newLetters m_newReaders m_beds m_letters m_readers m_newCode m_newOf m_code m_ofCode m_stack m_newCodes m_codes m_facts m_newStep m_step m_newSteps m_works m_refusedSteps m_begun m_done m_refusedNow m_now m_s m_past m_newBook m_book m_written m_mostBy m_stuffing m_stuffedMany m_lastBy m_leftBy m_splitBy m_seedNow m_image m_images) 4 [(0, .ref (a0 0)), (1, .int n1), (2, .int x2), (3, .int x3)] 4 [] := by
  intro n
  induction n with
  | zero =>
    intro x2 x3 h
    rw [f_X10_wordsIn_4] at h
    cases h
  | succ n ih =>
    intro x2 x3 h
    rw [f_X10_wordsIn_4] at h
    refine g_iload_n (pc := 4) C 3 rfl dX10_wordsIn_4 ?_
    refine g_aload_n (pc := 5) C 0 rfl dX10_wordsIn_5 ?_
    refine g_get (pc := 6) C FOK_X10 0 rfl rfl 39 (by decide) kw_1316 rfl dX10_wordsIn_6 ?_
    refine g_bipush (pc := 9) C dX10_wordsIn_9 cb_84 ?_
    refine g_iload_n (pc := 11) C 1 rfl dX10_wordsIn_11 ?_
    refine g_iadd (pc := 12) C dX10_wordsIn_12 ?_
    obtain ⟨hi, h⟩ := ix_of h
    refine g_iald (pc := 13) C 18 rfl hi dX10_wordsIn_13 ?_
    refine g_icmp_ge (pc := 14) C (tgt := 42) dX10_wordsIn_14 rfl h (fun h => ?_) (fun h => ?_)
    · refine g_iload_n (pc := 42) C 2 rfl dX10_wordsIn_42 ?_
      cases h
      exact g_iret C E dX10_wordsIn_43
    · refine g_iload_n (pc := 17) C 2 rfl dX10_wordsIn_17 ?_
      refine g_iconst (pc := 18) C dX10_wordsIn_18 ci_1 ?_
      refine g_aload_n (pc := 19) C 0 rfl dX10_wordsIn_19 ?_
      refine g_get (pc := 20) C FOK_X10 0 rfl rfl 39 (by decide) kw_1316 rfl dX10_wordsIn_20 ?_
      refine g_bipush (pc := 23) C dX10_wordsIn_23 cb_12 ?_
      refine g_bipush (pc := 25) C dX10_wordsIn_25 cb_12 ?_
      refine g_iload_n (pc := 27) C 1 rfl dX10_wordsIn_27 ?_
      refine g_imul (pc := 28) C dX10_wordsIn_28 ?_
      refine g_iadd (pc := 29) C dX10_wordsIn_29 ?_
      refine g_iload_n (pc := 30) C 3 rfl dX10_wordsIn_30 ?_
      refine g_iadd (pc := 31) C dX10_wordsIn_31 ?_
      obtain ⟨hi, h⟩ := ix_of h
      refine g_iald (pc := 32) C 18 rfl hi dX10_wordsIn_32 ?_
      refine g_ishl (pc := 33) C dX10_wordsIn_33 ?_
      refine g_ior (pc := 34) C dX10_wordsIn_34 ?_
      refine g_istore_n (pc := 35) C [(2, .int (x2 ||| ((1 : Int32) <<< ((m_s ((12 + (12 * n1)) + x3).toNatClampNeg) &&& 31)))), (0, .ref (a0 0)), (1, .int n1), (3, .int x3)] dX10_wordsIn_35 rfl (by decide) rfl ?_
      refine g_iinc (pc := 36) C (j := 3) [(3, .int (x3 + 1)), (2, .int (x2 ||| ((1 : Int32) <<< ((m_s ((12 + (12 * n1)) + x3).toNatClampNeg) &&& 31)))), (0, .ref (a0 0)), (1, .int n1)] dX10_wordsIn_36 rfl (ii_1 _) (by decide) rfl ?_
      refine g_goto (pc := 39) C (tgt := 4) dX10_wordsIn_39 rfl ?_
      refine g_lv [2, 3, 1, 0] rfl ?_
      exact ih (x2 ||| ((1 : Int32) <<< ((m_s ((12 + (12 * n1)) + x3).toNatClampNeg) &&& 31))) (x3 + 1) h
set_option maxRecDepth 100000 in
set_option maxHeartbeats 4000000 in
theorem t_X10_wordsIn {J : Jt} {a0 : Nat → Nat} {m_thrown : Int32} {m_refused : Nat → Int32} {m_taped : Int32} {m_size : Int32} {m_at : Int32} {m_bad : Int32} {m_badKind : Int32} {m_opens : Int32} {m_faultAt : Int32} {m_tape : Nat → Int32} {m_newBed : Nat → Int32} {m_newLetter : Nat → Int32} {m_newReader : Nat → Int32} {m_bed : Nat → Int32} {m_letter : Nat → Int32} {m_reader : Nat → Int32} {m_newBeds : Int32} {m_newLetters : Int32} {m_newReaders : Int32} {m_beds : Int32} {m_letters : Int32} {m_readers : Int32} {m_newCode : Nat → Int32} {m_newOf : Nat → Int32} {m_code : Nat → Int32} {m_ofCode : Nat → Int32} {m_stack : Nat → Int32} {m_newCodes : Int32} {m_codes : Int32} {m_facts : Nat → Int32} {m_newStep : Nat → Int32} {m_step : Nat → Int32} {m_newSteps : Int32} {m_works : Int32} {m_refusedSteps : Int32} {m_begun : Int32} {m_done : Int32} {m_refusedNow : Int32} {m_now : Nat → Int32} {m_s : Nat → Int32} {m_past : Nat → Int32} {m_newBook : Nat → Int32} {m_book : Nat → Int32} {m_written : Int32} {m_mostBy : Nat → Int32} {m_stuffing : Nat → Int32} {m_stuffedMany : Int32} {m_lastBy : Nat → Int32} {m_leftBy : Nat → Int32} {m_splitBy : Nat → Int64} {m_seedNow : Int32} {m_image : Nat → Int32} {m_images : Int32} {n1 : Int32} {r : Int32} (h : f_X10_wordsIn m_s n1 = some r) : Mt J yX10_wordsIn cX10_wordsIn 4 (some .int) rm_X10_wordsIn [.ref (a0 0), .int n1] (cs_X10 J.2.2.1 a0 m_thrown m_refused m_taped m_size m_at m_bad m_badKind m_opens m_faultAt m_tape m_newBed m_newLetter m_newReader m_bed m_letter m_reader m_newBeds m_newLetters m_newReaders m_beds m_letters m_readers m_newCode m_newOf m_code m_ofCode m_stack m_newCodes m_codes m_facts m_newStep m_step m_newSteps m_works m_refusedSteps m_begun m_done m_refusedNow m_now m_s m_past m_newBook m_book m_written m_mostBy m_stuffing m_stuffedMany m_lastBy m_leftBy m_splitBy m_seedNow m_image m_images) (some (.int r)) (cs_X10 J.2.2.1 a0 m_thrown m_refused m_taped m_size m_at m_bad m_badKind m_opens m_faultAt m_tape m_newBed m_newLetter m_newReader m_bed m_letter m_reader m_newBeds m_newLetters m_newReaders m_beds m_letters m_readers m_newCode m_newOf m_code m_ofCode m_stack m_newCodes m_codes m_facts m_newStep m_step m_newSteps m_works m_refusedSteps m_begun m_done m_refusedNow m_now m_s m_past m_newBook m_book m_written m_mostBy m_stuffing m_stuffedMany m_lastBy m_leftBy m_splitBy m_seedNow m_image m_images) := by
  refine Mt_of (own := RX10) (by decide) rfl (Nat.le_of_ble_eq_true rfl) rfl (fun Z C E => ?_)
  unfold f_X10_wordsIn at h
  show G J Z 0 0 (cs_X10 J.2.2.1 a0 m_thrown m_refused m_taped m_size m_at m_bad m_badKind m_opens m_faultAt m_tape m_newBed m_newLetter m_newReader m_bed m_letter m_reader m_newBeds m_newLetters m_newReaders m_beds m_letters m_readers m_newCode m_newOf m_code m_ofCode m_stack m_newCodes m_codes m_facts m_newStep m_step m_newSteps m_works m_refusedSteps m_begun m_done m_refusedNow m_now m_s m_past m_newBook m_book m_written m_mostBy m_stuffing m_stuffedMany m_lastBy m_leftBy m_splitBy m_seedNow m_image m_images) 4 [(0, .ref (a0 0)), (1, .int n1)] 0 []
  refine g_iconst (pc := 0) C dX10_wordsIn_0 ci_0 ?_
  refine g_istore_n (pc := 1) C [(2, .int 0), (0, .ref (a0 0)), (1, .int n1)] dX10_wordsIn_1 rfl (by decide) rfl ?_
  refine g_iconst (pc := 2) C dX10_wordsIn_2 ci_0 ?_
  refine g_istore_n (pc := 3) C [(3, .int 0), (2, .int 0), (0, .ref (a0 0)), (1, .int n1)] dX10_wordsIn_3 rfl (by decide) rfl ?_
  refine g_lv [2, 3, 1, 0] rfl ?_
  exact j_X10_wordsIn_4 C E    FU 0 0 h
noncomputable def f_X10_isWalked (m_s : Nat → Int32) (n1 : Int32) (n2 : Int32) : Option (Int32 × (Nat → Int32)) := if ixb (90 + n1) 165 then if (m_s (90 + n1).toNatClampNeg) = n2 then some (0, m_s) else if ixb (90 + n1) 165 then if ixb (95 + n1) 165 then b1 (f_X10_wordsIn (upd m_s (90 + n1).toNatClampNeg n2) n2) (fun v1 => if ixb (95 + n1) 165 then some (1, upd (upd m_s (90 + n1).toNatClampNeg n2) (95 + n1).toNatClampNeg (((upd m_s (90 + n1).toNatClampNeg n2) (95 + n1).toNatClampNeg) ||| v1)) else none) else none else none else none
def rm_X10_isWalked : Room := { frames := 1, cells := 0, slots := 0, locals := 23 }
set_option maxRecDepth 100000 in
set_option maxHeartbeats 4000000 in
theorem t_X10_isWalked {J : Jt} {a0 : Nat → Nat} {m_thrown : Int32} {m_refused : Nat → Int32} {m_taped : Int32} {m_size : Int32} {m_at : Int32} {m_bad : Int32} {m_badKind : Int32} {m_opens : Int32} {m_faultAt : Int32} {m_tape : Nat → Int32} {m_newBed : Nat → Int32} {m_newLetter : Nat → Int32} {m_newReader : Nat → Int32} {m_bed : Nat → Int32} {m_letter : Nat → Int32} {m_reader : Nat → Int32} {m_newBeds : Int32} {m_newLetters : Int32} {m_newReaders : Int32} {m_beds : Int32} {m_letters : Int32} {m_readers : Int32} {m_newCode : Nat → Int32} {m_newOf : Nat → Int32} {m_code : Nat → Int32} {m_ofCode : Nat → Int32} {m_stack : Nat → Int32} {m_newCodes : Int32} {m_codes : Int32} {m_facts : Nat → Int32} {m_newStep : Nat → Int32} {m_step : Nat → Int32} {m_newSteps : Int32} {m_works : Int32} {m_refusedSteps : Int32} {m_begun : Int32} {m_done : Int32} {m_refusedNow : Int32} {m_now : Nat → Int32} {m_s : Nat → Int32} {m_past : Nat → Int32} {m_newBook : Nat → Int32} {m_book : Nat → Int32} {m_written : Int32} {m_mostBy : Nat → Int32} {m_stuffing : Nat → Int32} {m_stuffedMany : Int32} {m_lastBy : Nat → Int32} {m_leftBy : Nat → Int32} {m_splitBy : Nat → Int64} {m_seedNow : Int32} {m_image : Nat → Int32} {m_images : Int32} {n1 : Int32} {n2 : Int32} {r : Int32} {o_m_s : Nat → Int32} (h : f_X10_isWalked m_s n1 n2 = some (r, o_m_s)) : Mt J yX10_isWalked cX10_isWalked 3 (some .boolean) rm_X10_isWalked [.ref (a0 0), .int n1, .int n2] (cs_X10 J.2.2.1 a0 m_thrown m_refused m_taped m_size m_at m_bad m_badKind m_opens m_faultAt m_tape m_newBed m_newLetter m_newReader m_bed m_letter m_reader m_newBeds m_newLetters m_newReaders m_beds m_letters m_readers m_newCode m_newOf m_code m_ofCode m_stack m_newCodes m_codes m_facts m_newStep m_step m_newSteps m_works m_refusedSteps m_begun m_done m_refusedNow m_now m_s m_past m_newBook m_book m_written m_mostBy m_stuffing m_stuffedMany m_lastBy m_leftBy m_splitBy m_seedNow m_image m_images) (some (.int r)) (cs_X10 J.2.2.1 a0 m_thrown m_refused m_taped m_size m_at m_bad m_badKind m_opens m_faultAt m_tape m_newBed m_newLetter m_newReader m_bed m_letter m_reader m_newBeds m_newLetters m_newReaders m_beds m_letters m_readers m_newCode m_newOf m_code m_ofCode m_stack m_newCodes m_codes m_facts m_newStep m_step m_newSteps m_works m_refusedSteps m_begun m_done m_refusedNow m_now o_m_s m_past m_newBook m_book m_written m_mostBy m_stuffing m_stuffedMany m_lastBy m_leftBy m_splitBy m_seedNow m_image m_images) := by
  refine Mt_of (own := RX10) (by decide) rfl (Nat.le_of_ble_eq_true rfl) rfl (fun Z C E => ?_)
  unfold f_X10_isWalked at h
  show G J Z 0 0 (cs_X10 J.2.2.1 a0 m_thrown m_refused m_taped m_size m_at m_bad m_badKind m_opens m_faultAt m_tape m_newBed m_newLetter m_newReader m_bed m_letter m_reader m_newBeds m_newLetters m_newReaders m_beds m_letters m_readers m_newCode m_newOf m_code m_ofCode m_stack m_newCodes m_codes m_facts m_newStep m_step m_newSteps m_works m_refusedSteps m_begun m_done m_refusedNow m_now m_s m_past m_newBook m_book m_written m_mostBy m_stuffing m_stuffedMany m_lastBy m_leftBy m_splitBy m_seedNow m_image m_images) 3 [(0, .ref (a0 0)), (1, .int n1), (2, .int n2)] 0 []
  refine g_aload_n (pc := 0) C 0 rfl dX10_isWalked_0 ?_
  refine g_get (pc := 1) C FOK_X10 0 rfl rfl 39 (by decide) kw_1316 rfl dX10_isWalked_1 ?_
  refine g_bipush (pc := 4) C dX10_isWalked_4 cb_90 ?_
  refine g_iload_n (pc := 6) C 1 rfl dX10_isWalked_6 ?_
  refine g_iadd (pc := 7) C dX10_isWalked_7 ?_
  obtain ⟨hi, h⟩ := ix_of h
  refine g_iald (pc := 8) C 18 rfl hi dX10_isWalked_8 ?_
  refine g_iload_n (pc := 9) C 2 rfl dX10_isWalked_9 ?_
  refine g_icmp_ne (pc := 10) C (tgt := 15) dX10_isWalked_10 rfl h (fun h => ?_) (fun h => ?_)
  · refine g_aload_n (pc := 15) C 0 rfl dX10_isWalked_15 ?_
    refine g_get (pc := 16) C FOK_X10 0 rfl rfl 39 (by decide) kw_1316 rfl dX10_isWalked_16 ?_
    refine g_bipush (pc := 19) C dX10_isWalked_19 cb_90 ?_
    refine g_iload_n (pc := 21) C 1 rfl dX10_isWalked_21 ?_
    refine g_iadd (pc := 22) C dX10_isWalked_22 ?_
    refine g_iload_n (pc := 23) C 2 rfl dX10_isWalked_23 ?_
    obtain ⟨hi, h⟩ := ix_of h
    refine g_iast (pc := 24) C (w' := cs_X10 J.2.2.1 a0 m_thrown m_refused m_taped m_size m_at m_bad m_badKind m_opens m_faultAt m_tape m_newBed m_newLetter m_newReader m_bed m_letter m_reader m_newBeds m_newLetters m_newReaders m_beds m_letters m_readers m_newCode m_newOf m_code m_ofCode m_stack m_newCodes m_codes m_facts m_newStep m_step m_newSteps m_works m_refusedSteps m_begun m_done m_refusedNow m_now (upd m_s (90 + n1).toNatClampNeg n2) m_past m_newBook m_book m_written m_mostBy m_stuffing m_stuffedMany m_lastBy m_leftBy m_splitBy m_seedNow m_image m_images) 18 rfl hi dX10_isWalked_24 rfl ?_
    refine g_aload_n (pc := 25) C 0 rfl dX10_isWalked_25 ?_
    refine g_get (pc := 26) C FOK_X10 0 rfl rfl 39 (by decide) kw_1316 rfl dX10_isWalked_26 ?_
    refine g_bipush (pc := 29) C dX10_isWalked_29 cb_95 ?_
    refine g_iload_n (pc := 31) C 1 rfl dX10_isWalked_31 ?_
    refine g_iadd (pc := 32) C dX10_isWalked_32 ?_
    refine g_dup2 (pc := 33) C dX10_isWalked_33 rfl rfl ?_
    obtain ⟨hi, h⟩ := ix_of h
    refine g_iald (pc := 34) C 18 rfl hi dX10_isWalked_34 ?_
    refine g_aload_n (pc := 35) C 0 rfl dX10_isWalked_35 ?_
    refine g_iload_n (pc := 36) C 2 rfl dX10_isWalked_36 ?_
    obtain ⟨v1, hc, h⟩ := b1_of h
    refine g_callV (pc := 37) C (w' := cs_X10 J.2.2.1 a0 m_thrown m_refused m_taped m_size m_at m_bad m_badKind m_opens m_faultAt m_tape m_newBed m_newLetter m_newReader m_bed m_letter m_reader m_newBeds m_newLetters m_newReaders m_beds m_letters m_readers m_newCode m_newOf m_code m_ofCode m_stack m_newCodes m_codes m_facts m_newStep m_step m_newSteps m_works m_refusedSteps m_begun m_done m_refusedNow m_now (upd m_s (90 + n1).toNatClampNeg n2) m_past m_newBook m_book m_written m_mostBy m_stuffing m_stuffedMany m_lastBy m_leftBy m_splitBy m_seedNow m_image m_images) (As := [.int n2]) (st := [.int ((upd m_s (90 + n1).toNatClampNeg n2) (95 + n1).toNatClampNeg), .int (95 + n1), .ref (a0 18)]) (ci := 10) (q0 := 0) rfl rfl (t_X10_wordsIn (a0 := a0) hc) Sub.same kw_1631 kw_1633 kw_55 kw_95 hy_X10_wordsIn kw_1634 rfl (Nat.le_of_ble_eq_true rfl) (Nat.le_of_ble_eq_true rfl) (Nat.le_of_ble_eq_true rfl) (Nat.le_of_ble_eq_true rfl) (Nat.le_of_ble_eq_true rfl) dX10_isWalked_37 ?_
    refine g_ior (pc := 40) C dX10_isWalked_40 ?_
    obtain ⟨hi, h⟩ := ix_of h
    refine g_iast (pc := 41) C (w' := cs_X10 J.2.2.1 a0 m_thrown m_refused m_taped m_size m_at m_bad m_badKind m_opens m_faultAt m_tape m_newBed m_newLetter m_newReader m_bed m_letter m_reader m_newBeds m_newLetters m_newReaders m_beds m_letters m_readers m_newCode m_newOf m_code m_ofCode m_stack m_newCodes m_codes m_facts m_newStep m_step m_newSteps m_works m_refusedSteps m_begun m_done m_refusedNow m_now (upd (upd m_s (90 + n1).toNatClampNeg n2) (95 + n1).toNatClampNeg (((upd m_s (90 + n1).toNatClampNeg n2) (95 + n1).toNatClampNeg) ||| v1)) m_past m_newBook m_book m_written m_mostBy m_stuffing m_stuffedMany m_lastBy m_leftBy m_splitBy m_seedNow m_image m_images) 18 rfl hi dX10_isWalked_41 rfl ?_
    refine g_iconst (pc := 42) C dX10_isWalked_42 ci_1 ?_
    cases h
    exact g_zret C rfl E dX10_isWalked_43
  · refine g_iconst (pc := 13) C dX10_isWalked_13 ci_0 ?_
    cases h
    exact g_zret C rfl E dX10_isWalked_14
noncomputable def f_X10_grows_59   (n1 : Int32) (m_s : Nat → Int32) : Option ((Nat → Int32)) := if ixb 160 165 then if ixb (100 + (m_s (160 : Int32).toNatClampNeg)) 165 then if ixb 160 165 then if ixb 160 165 then some (upd (upd m_s (100 + (m_s (160 : Int32).toNatClampNeg)).toNatClampNeg n1) (160 : Int32).toNatClampNeg (((upd m_s (100 + (m_s (160 : Int32).toNatClampNeg)).toNatClampNeg n1) (160 : Int32).toNatClampNeg) + 1)) else none else none else none else none
noncomputable def f_X10_grows_15   (n1 : Int32) : Nat → Int32 → (Nat → Int32) → Option ((Nat → Int32))
  | 0, _, _ => none
  | n + 1, x2, m_s => if 60 ≤ x2 then if ixb 160 165 then if ixb 160 165 then f_X10_grows_59 n1 (upd m_s (160 : Int32).toNatClampNeg ((m_s (160 : Int32).toNatClampNeg) - 1)) else none else none else if ixb (100 + x2) 165 then if ixb ((100 + x2) - 1) 165 then f_X10_grows_15 n1 n (x2 + 1) (upd m_s ((100 + x2) - 1).toNatClampNeg (m_s (100 + x2).toNatClampNeg)) else none else none
noncomputable def f_X10_grows (m_s : Nat → Int32) (n1 : Int32) : Option ((Nat → Int32)) := if ixb 160 165 then if (m_s (160 : Int32).toNatClampNeg) = 60 then f_X10_grows_15 n1 FU 1 m_s else f_X10_grows_59 n1 m_s else none
def rm_X10_grows : Room := { frames := 0, cells := 0, slots := 0, locals := 0 }
set_option maxRecDepth 100000 in
set_option maxHeartbeats 4000000 in
theorem j_X10_grows_59 {J : Jt} {Z : Zt} {a0 : Nat → Nat} {m_thrown : Int32} {m_refused : Nat → Int32} {m_taped : Int32} {m_size : Int32} {m_at : Int32} {m_bad : Int32} {m_badKind : Int32} {m_opens : Int32} {m_faultAt : Int32} {m_tape : Nat → Int32} {m_newBed : Nat → Int32} {m_newLetter : Nat → Int32} {m_newReader : Nat → Int32} {m_bed : Nat → Int32} {m_letter : Nat → Int32} {m_reader : Nat → Int32} {m_newBeds : Int32} {m_newLetters : Int32} {m_newReaders : Int32} {m_beds : Int32} {m_letters : Int32} {m_readers : Int32} {m_newCode : Nat → Int32} {m_newOf : Nat → Int32} {m_code : Nat → Int32} {m_ofCode : Nat → Int32} {m_stack : Nat → Int32} {m_newCodes : Int32} {m_codes : Int32} {m_facts : Nat → Int32} {m_newStep : Nat → Int32} {m_step : Nat → Int32} {m_newSteps : Int32} {m_works : Int32} {m_refusedSteps : Int32} {m_begun : Int32} {m_done : Int32} {m_refusedNow : Int32} {m_now : Nat → Int32} {m_past : Nat → Int32} {m_newBook : Nat → Int32} {m_book : Nat → Int32} {m_written : Int32} {m_mostBy : Nat → Int32} {m_stuffing : Nat → Int32} {m_stuffedMany : Int32} {m_lastBy : Nat → Int32} {m_leftBy : Nat → Int32} {m_splitBy : Nat → Int64} {m_seedNow : Int32} {m_image : Nat → Int32} {m_images : Int32} {n1 : Int32} {o_m_s : Nat → Int32} (C : Cx J Z cX10_grows 3 RX10 none rm_X10_grows) (E : Ez J Z 0 0 none (cs_X10 J.2.2.1 a0 m_thrown m_refused m_taped m_size m_at m_bad m_badKind m_opens m_faultAt m_tape m_newBed m_newLetter m_newReader m_bed m_letter m_reader m_newBeds m_newLetters m_newReaders m_beds m_letters m_readers m_newCode m_newOf m_code m_ofCode m_stack m_newCodes m_codes m_facts m_newStep m_step m_newSteps m_works m_refusedSteps m_begun m_done m_refusedNow m_now o_m_s m_past m_newBook m_book m_written m_mostBy m_stuffing m_stuffedMany m_lastBy m_leftBy m_splitBy m_seedNow m_image m_images)) : ∀ (m_s : Nat → Int32), f_X10_grows_59 n1 m_s = some o_m_s → G J Z 0 0 (cs_X10 J.2.2.1 a0 m_thrown m_refused m_taped m_size m_at m_bad m_badKind m_opens m_faultAt m_tape m_newBed m_newLetter m_newReader m_bed m_letter m_reader m_newBeds m_newLetters m_newReaders m_beds m_letters m_readers m_newCode m_newOf m_code m_ofCode m_stack m_newCodes m_codes m_facts m_newStep m_step m_newSteps m_works m_refusedSteps m_begun m_done m_refusedNow m_now m_s m_past m_newBook m_book m_written m_mostBy m_stuffing m_stuffedMany m_lastBy m_leftBy m_splitBy m_seedNow m_image m_images) 3 [(0, .ref (a0 0)), (1, .int n1)] 59 [] := by
  intro m_s h
  unfold f_X10_grows_59 at h
  refine g_aload_n (pc := 59) C 0 rfl dX10_grows_59 ?_
  refine g_get (pc := 60) C FOK_X10 0 rfl rfl 39 (by decide) kw_1316 rfl dX10_grows_60 ?_
  refine g_bipush (pc := 63) C dX10_grows_63 cb_100 ?_
  refine g_aload_n (pc := 65) C 0 rfl dX10_grows_65 ?_
  refine g_get (pc := 66) C FOK_X10 0 rfl rfl 39 (by decide) kw_1316 rfl dX10_grows_66 ?_
  refine g_sipush (pc := 69) C dX10_grows_69 cs_160 ?_
  obtain ⟨hi, h⟩ := ix_of h
  refine g_iald (pc := 72) C 18 rfl hi dX10_grows_72 ?_
  refine g_iadd (pc := 73) C dX10_grows_73 ?_
  refine g_iload_n (pc := 74) C 1 rfl dX10_grows_74 ?_
  obtain ⟨hi, h⟩ := ix_of h
  refine g_iast (pc := 75) C (w' := cs_X10 J.2.2.1 a0 m_thrown m_refused m_taped m_size m_at m_bad m_badKind m_opens m_faultAt m_tape m_newBed m_newLetter m_newReader m_bed m_letter m_reader m_newBeds m_newLetters m_newReaders m_beds m_letters m_readers m_newCode m_newOf m_code m_ofCode m_stack m_newCodes m_codes m_facts m_newStep m_step m_newSteps m_works m_refusedSteps m_begun m_done m_refusedNow m_now (upd m_s (100 + (m_s (160 : Int32).toNatClampNeg)).toNatClampNeg n1) m_past m_newBook m_book m_written m_mostBy m_stuffing m_stuffedMany m_lastBy m_leftBy m_splitBy m_seedNow m_image m_images) 18 rfl hi dX10_grows_75 rfl ?_
  refine g_aload_n (pc := 76) C 0 rfl dX10_grows_76 ?_
  refine g_get (pc := 77) C FOK_X10 0 rfl rfl 39 (by decide) kw_1316 rfl dX10_grows_77 ?_
  refine g_sipush (pc := 80) C dX10_grows_80 cs_160 ?_
  refine g_dup2 (pc := 83) C dX10_grows_83 rfl rfl ?_
  obtain ⟨hi, h⟩ := ix_of h
  refine g_iald (pc := 84) C 18 rfl hi dX10_grows_84 ?_
  refine g_iconst (pc := 85) C dX10_grows_85 ci_1 ?_
  refine g_iadd (pc := 86) C dX10_grows_86 ?_
  obtain ⟨hi, h⟩ := ix_of h
  refine g_iast (pc := 87) C (w' := cs_X10 J.2.2.1 a0 m_thrown m_refused m_taped m_size m_at m_bad m_badKind m_opens m_faultAt m_tape m_newBed m_newLetter m_newReader m_bed m_letter m_reader m_newBeds m_newLetters m_newReaders m_beds m_letters m_readers m_newCode m_newOf m_code m_ofCode m_stack m_newCodes m_codes m_facts m_newStep m_step m_newSteps m_works m_refusedSteps m_begun m_done m_refusedNow m_now (upd (upd m_s (100 + (m_s (160 : Int32).toNatClampNeg)).toNatClampNeg n1) (160 : Int32).toNatClampNeg (((upd m_s (100 + (m_s (160 : Int32).toNatClampNeg)).toNatClampNeg n1) (160 : Int32).toNatClampNeg) + 1)) m_past m_newBook m_book m_written m_mostBy m_stuffing m_stuffedMany m_lastBy m_leftBy m_splitBy m_seedNow m_image m_images) 18 rfl hi dX10_grows_87 rfl ?_
  cases h
  exact g_vret C E dX10_grows_88
set_option maxRecDepth 100000 in
set_option maxHeartbeats 4000000 in
theorem j_X10_grows_15 {J : Jt} {Z : Zt} {a0 : Nat → Nat} {m_thrown : Int32} {m_refused : Nat → Int32} {m_taped : Int32} {m_size : Int32} {m_at : Int32} {m_bad : Int32} {m_badKind : Int32} {m_opens : Int32} {m_faultAt : Int32} {m_tape : Nat → Int32} {m_newBed : Nat → Int32} {m_newLetter : Nat → Int32} {m_newReader : Nat → Int32} {m_bed : Nat → Int32} {m_letter : Nat → Int32} {m_reader : Nat → Int32} {m_newBeds : Int32} {m_newLetters : Int32} {m_newReaders : Int32} {m_beds : Int32} {m_letters : Int32} {m_readers : Int32} {m_newCode : Nat → Int32} {m_newOf : Nat → Int32} {m_code : Nat → Int32} {m_ofCode : Nat → Int32} {m_stack : Nat → Int32} {m_newCodes : Int32} {m_codes : Int32} {m_facts : Nat → Int32} {m_newStep : Nat → Int32} {m_step : Nat → Int32} {m_newSteps : Int32} {m_works : Int32} {m_refusedSteps : Int32} {m_begun : Int32} {m_done : Int32} {m_refusedNow : Int32} {m_now : Nat → Int32} {m_past : Nat → Int32} {m_newBook : Nat → Int32} {m_book : Nat → Int32} {m_written : Int32} {m_mostBy : Nat → Int32} {m_stuffing : Nat → Int32} {m_stuffedMany : Int32} {m_lastBy : Nat → Int32} {m_leftBy : Nat → Int32} {m_splitBy : Nat → Int64} {m_seedNow : Int32} {m_image : Nat → Int32} {m_images : Int32} {n1 : Int32} {o_m_s : Nat → Int32} (C : Cx J Z cX10_grows 3 RX10 none rm_X10_grows) (E : Ez J Z 0 0 none (cs_X10 J.2.2.1 a0 m_thrown m_refused m_taped m_size m_at m_bad m_badKind m_opens m_faultAt m_tape m_newBed m_newLetter m_newReader m_bed m_letter m_reader m_newBeds m_newLetters m_newReaders m_beds m_letters m_readers m_newCode m_newOf m_code m_ofCode m_stack m_newCodes m_codes m_facts m_newStep m_step m_newSteps m_works m_refusedSteps m_begun m_done m_refusedNow m_now o_m_s m_past m_newBook m_book m_written m_mostBy m_stuffing m_stuffedMany m_lastBy m_leftBy m_splitBy m_seedNow m_image m_images)) : ∀ (n : Nat) (x2 : Int32) (m_s : Nat → Int32), f_X10_grows_15 n1 n x2 m_s = some o_m_s → G J Z 0 0 (cs_X10 J.2.2.1 a0 m_thrown m_refused m_taped m_size m_at m_bad m_badKind m_opens m_faultAt m_tape m_newBed m_newLetter m_newReader m_bed m_letter m_reader m_newBeds m_newLetters m_newReaders m_beds m_letters m_readers m_newCode m_newOf m_code m_ofCode m_stack m_newCodes m_codes m_facts m_newStep m_step m_newSteps m_works m_refusedSteps m_begun m_done m_refusedNow m_now m_s m_past m_newBook m_book m_written m_mostBy m_stuffing m_stuffedMany m_lastBy m_leftBy m_splitBy m_seedNow m_image m_images) 3 [(0, .ref (a0 0)), (1, .int n1), (2, .int x2)] 15 [] := by
  intro n
  induction n with
  | zero =>
    intro x2 m_s h
    rw [f_X10_grows_15] at h
    cases h
  | succ n ih =>
    intro x2 m_s h
    rw [f_X10_grows_15] at h
    refine g_iload_n (pc := 15) C 2 rfl dX10_grows_15 ?_
    refine g_bipush (pc := 16) C dX10_grows_16 cb_60 ?_
    refine g_icmp_ge (pc := 18) C (tgt := 47) dX10_grows_18 rfl h (fun h => ?_) (fun h => ?_)
    · refine g_aload_n (pc := 47) C 0 rfl dX10_grows_47 ?_
      refine g_get (pc := 48) C FOK_X10 0 rfl rfl 39 (by decide) kw_1316 rfl dX10_grows_48 ?_
      refine g_sipush (pc := 51) C dX10_grows_51 cs_160 ?_
      refine g_dup2 (pc := 54) C dX10_grows_54 rfl rfl ?_
      obtain ⟨hi, h⟩ := ix_of h
      refine g_iald (pc := 55) C 18 rfl hi dX10_grows_55 ?_
      refine g_iconst (pc := 56) C dX10_grows_56 ci_1 ?_
      refine g_isub (pc := 57) C dX10_grows_57 ?_
      obtain ⟨hi, h⟩ := ix_of h
      refine g_iast (pc := 58) C (w' := cs_X10 J.2.2.1 a0 m_thrown m_refused m_taped m_size m_at m_bad m_badKind m_opens m_faultAt m_tape m_newBed m_newLetter m_newReader m_bed m_letter m_reader m_newBeds m_newLetters m_newReaders m_beds m_letters m_readers m_newCode m_newOf m_code m_ofCode m_stack m_newCodes m_codes m_facts m_newStep m_step m_newSteps m_works m_refusedSteps m_begun m_done m_refusedNow m_now (upd m_s (160 : Int32).toNatClampNeg ((m_s (160 : Int32).toNatClampNeg) - 1)) m_past m_newBook m_book m_written m_mostBy m_stuffing m_stuffedMany m_lastBy m_leftBy m_splitBy m_seedNow m_image m_images) 18 rfl hi dX10_grows_58 rfl ?_
      refine g_lv [0, 1] rfl ?_
      exact j_X10_grows_59 C E    (upd m_s (160 : Int32).toNatClampNeg ((m_s (160 : Int32).toNatClampNeg) - 1)) h
    · refine g_aload_n (pc := 21) C 0 rfl dX10_grows_21 ?_
      refine g_get (pc := 22) C FOK_X10 0 rfl rfl 39 (by decide) kw_1316 rfl dX10_grows_22 ?_
      refine g_bipush (pc := 25) C dX10_grows_25 cb_100 ?_
      refine g_iload_n (pc := 27) C 2 rfl dX10_grows_27 ?_
      refine g_iadd (pc := 28) C dX10_grows_28 ?_
      refine g_iconst (pc := 29) C dX10_grows_29 ci_1 ?_
      refine g_isub (pc := 30) C dX10_grows_30 ?_
      refine g_aload_n (pc := 31) C 0 rfl dX10_grows_31 ?_
      refine g_get (pc := 32) C FOK_X10 0 rfl rfl 39 (by decide) kw_1316 rfl dX10_grows_32 ?_
      refine g_bipush (pc := 35) C dX10_grows_35 cb_100 ?_
      refine g_iload_n (pc := 37) C 2 rfl dX10_grows_37 ?_
      refine g_iadd (pc := 38) C dX10_grows_38 ?_
      obtain ⟨hi, h⟩ := ix_of h
      refine g_iald (pc := 39) C 18 rfl hi dX10_grows_39 ?_
      obtain ⟨hi, h⟩ := ix_of h
      refine g_iast (pc := 40) C (w' := cs_X10 J.2.2.1 a0 m_thrown m_refused m_taped m_size m_at m_bad m_badKind m_opens m_faultAt m_tape m_newBed m_newLetter m_newReader m_bed m_letter m_reader m_newBeds m_newLetters m_newReaders m_beds m_letters m_readers m_newCode m_newOf m_code m_ofCode m_stack m_newCodes m_codes m_facts m_newStep m_step m_newSteps m_works m_refusedSteps m_begun m_done m_refusedNow m_now (upd m_s ((100 + x2) - 1).toNatClampNeg (m_s (100 + x2).toNatClampNeg)) m_past m_newBook m_book m_written m_mostBy m_stuffing m_stuffedMany m_lastBy m_leftBy m_splitBy m_seedNow m_image m_images) 18 rfl hi dX10_grows_40 rfl ?_
      refine g_iinc (pc := 41) C (j := 2) [(2, .int (x2 + 1)), (0, .ref (a0 0)), (1, .int n1)] dX10_grows_41 rfl (ii_1 _) (by decide) rfl ?_
      refine g_goto (pc := 44) C (tgt := 15) dX10_grows_44 rfl ?_
      refine g_lv [1, 2, 0] rfl ?_
      exact ih (x2 + 1) (upd m_s ((100 + x2) - 1).toNatClampNeg (m_s (100 + x2).toNatClampNeg)) h
set_option maxRecDepth 100000 in
set_option maxHeartbeats 4000000 in
theorem t_X10_grows {J : Jt} {a0 : Nat → Nat} {m_thrown : Int32} {m_refused : Nat → Int32} {m_taped : Int32} {m_size : Int32} {m_at : Int32} {m_bad : Int32} {m_badKind : Int32} {m_opens : Int32} {m_faultAt : Int32} {m_tape : Nat → Int32} {m_newBed : Nat → Int32} {m_newLetter : Nat → Int32} {m_newReader : Nat → Int32} {m_bed : Nat → Int32} {m_letter : Nat → Int32} {m_reader : Nat → Int32} {m_newBeds : Int32} {m_newLetters : Int32} {m_newReaders : Int32} {m_beds : Int32} {m_letters : Int32} {m_readers : Int32} {m_newCode : Nat → Int32} {m_newOf : Nat → Int32} {m_code : Nat → Int32} {m_ofCode : Nat → Int32} {m_stack : Nat → Int32} {m_newCodes : Int32} {m_codes : Int32} {m_facts : Nat → Int32} {m_newStep : Nat → Int32} {m_step : Nat → Int32} {m_newSteps : Int32} {m_works : Int32} {m_refusedSteps : Int32} {m_begun : Int32} {m_done : Int32} {m_refusedNow : Int32} {m_now : Nat → Int32} {m_s : Nat → Int32} {m_past : Nat → Int32} {m_newBook : Nat → Int32} {m_book : Nat → Int32} {m_written : Int32} {m_mostBy : Nat → Int32} {m_stuffing : Nat → Int32} {m_stuffedMany : Int32} {m_lastBy : Nat → Int32} {m_leftBy : Nat → Int32} {m_splitBy : Nat → Int64} {m_seedNow : Int32} {m_image : Nat → Int32} {m_images : Int32} {n1 : Int32} {o_m_s : Nat → Int32} (h : f_X10_grows m_s n1 = some o_m_s) : Mt J yX10_grows cX10_grows 3 none rm_X10_grows [.ref (a0 0), .int n1] (cs_X10 J.2.2.1 a0 m_thrown m_refused m_taped m_size m_at m_bad m_badKind m_opens m_faultAt m_tape m_newBed m_newLetter m_newReader m_bed m_letter m_reader m_newBeds m_newLetters m_newReaders m_beds m_letters m_readers m_newCode m_newOf m_code m_ofCode m_stack m_newCodes m_codes m_facts m_newStep m_step m_newSteps m_works m_refusedSteps m_begun m_done m_refusedNow m_now m_s m_past m_newBook m_book m_written m_mostBy m_stuffing m_stuffedMany m_lastBy m_leftBy m_splitBy m_seedNow m_image m_images) none (cs_X10 J.2.2.1 a0 m_thrown m_refused m_taped m_size m_at m_bad m_badKind m_opens m_faultAt m_tape m_newBed m_newLetter m_newReader m_bed m_letter m_reader m_newBeds m_newLetters m_newReaders m_beds m_letters m_readers m_newCode m_newOf m_code m_ofCode m_stack m_newCodes m_codes m_facts m_newStep m_step m_newSteps m_works m_refusedSteps m_begun m_done m_refusedNow m_now o_m_s m_past m_newBook m_book m_written m_mostBy m_stuffing m_stuffedMany m_lastBy m_leftBy m_splitBy m_seedNow m_image m_images) := by
  refine Mt_of (own := RX10) (by decide) rfl (Nat.le_of_ble_eq_true rfl) rfl (fun Z C E => ?_)
  unfold f_X10_grows at h
  show G J Z 0 0 (cs_X10 J.2.2.1 a0 m_thrown m_refused m_taped m_size m_at m_bad m_badKind m_opens m_faultAt m_tape m_newBed m_newLetter m_newReader m_bed m_letter m_reader m_newBeds m_newLetters m_newReaders m_beds m_letters m_readers m_newCode m_newOf m_code m_ofCode m_stack m_newCodes m_codes m_facts m_newStep m_step m_newSteps m_works m_refusedSteps m_begun m_done m_refusedNow m_now m_s m_past m_newBook m_book m_written m_mostBy m_stuffing m_stuffedMany m_lastBy m_leftBy m_splitBy m_seedNow m_image m_images) 3 [(0, .ref (a0 0)), (1, .int n1)] 0 []
  refine g_aload_n (pc := 0) C 0 rfl dX10_grows_0 ?_
  refine g_get (pc := 1) C FOK_X10 0 rfl rfl 39 (by decide) kw_1316 rfl dX10_grows_1 ?_
  refine g_sipush (pc := 4) C dX10_grows_4 cs_160 ?_
  obtain ⟨hi, h⟩ := ix_of h
  refine g_iald (pc := 7) C 18 rfl hi dX10_grows_7 ?_
  refine g_bipush (pc := 8) C dX10_grows_8 cb_60 ?_
  refine g_icmp_ne (pc := 10) C (tgt := 59) dX10_grows_10 rfl h (fun h => ?_) (fun h => ?_)
  · exact j_X10_grows_59 C E    m_s h
  · refine g_iconst (pc := 13) C dX10_grows_13 ci_1 ?_
    refine g_istore_n (pc := 14) C [(2, .int 1), (0, .ref (a0 0)), (1, .int n1)] dX10_grows_14 rfl (by decide) rfl ?_
    refine g_lv [1, 2, 0] rfl ?_
    exact j_X10_grows_15 C E    FU 1 m_s h
noncomputable def f_X10_passes_56  (m_beds : Int32) (k2 : Int32 → (Nat → Int32) → Option ((Nat → Int32))) : Nat → Int32 → Int32 → (Nat → Int32) → Option ((Nat → Int32))
  | 0, _, _, _ => none
  | n + 1, x1, x2, m_s => if ixb (84 + x1) 165 then if (m_s (84 + x1).toNatClampNeg) ≤ x2 then k2 (x1 + 1) m_s else if ixb (((12 + (12 * x1)) + x2) + 1) 165 then if ixb ((12 + (12 * x1)) + x2) 165 then f_X10_passes_56 m_beds k2 n x1 (x2 + 1) (upd m_s ((12 + (12 * x1)) + x2).toNatClampNeg (m_s (((12 + (12 * x1)) + x2) + 1).toNatClampNeg)) else none else none else none
noncomputable def f_X10_passes_2  (m_beds : Int32) : Nat → Int32 → (Nat → Int32) → Option ((Nat → Int32))
  | 0, _, _ => none
  | n + 1, x1, m_s => if m_beds ≤ x1 then if ixb 161 165 then if ixb 161 165 then if ixb 164 165 then if ixb 164 165 then some (upd (upd m_s (161 : Int32).toNatClampNeg ((m_s (161 : Int32).toNatClampNeg) / 2)) (164 : Int32).toNatClampNeg (((upd m_s (161 : Int32).toNatClampNeg ((m_s (161 : Int32).toNatClampNeg) / 2)) (164 : Int32).toNatClampNeg) + 1)) else none else none else none else none else if ixb (84 + x1) 165 then if (m_s (84 + x1).toNatClampNeg) = 0 then f_X10_passes_2 m_beds n (x1 + 1) m_s else if ixb (12 + (12 * x1)) 165 then b1 (f_X10_grows m_s (m_s (12 + (12 * x1)).toNatClampNeg)) (fun c1 => if ixb (84 + x1) 165 then if ixb (84 + x1) 165 then f_X10_passes_56 m_beds (f_X10_passes_2 m_beds n) FU x1 0 (upd c1 (84 + x1).toNatClampNeg ((c1 (84 + x1).toNatClampNeg) - 1)) else none else none) else none else none
noncomputable def f_X10_passes (m_beds : Int32) (m_s : Nat → Int32) : Option ((Nat → Int32)) := f_X10_passes_2 m_beds FU 0 m_s
def rm_X10_passes : Room := { frames := 1, cells := 0, slots := 0, locals := 22 }
set_option maxRecDepth 100000 in
set_option maxHeartbeats 4000000 in
theorem j_X10_passes_56 {J : Jt} {Z : Zt} {a0 : Nat → Nat} {m_thrown : Int32} {m_refused : Nat → Int32} {m_taped : Int32} {m_size : Int32} {m_at : Int32} {m_bad : Int32} {m_badKind : Int32} {m_opens : Int32} {m_faultAt : Int32} {m_tape : Nat → Int32} {m_newBed : Nat → Int32} {m_newLetter : Nat → Int32} {m_newReader : Nat → Int32} {m_bed : Nat → Int32} {m_letter : Nat → Int32} {m_reader : Nat → Int32} {m_newBeds : Int32} {m_newLetters : Int32} {m_newReaders : Int32} {m_beds : Int32} {m_letters : Int32} {m_readers : Int32} {m_newCode : Nat → Int32} {m_newOf : Nat → Int32} {m_code : Nat → Int32} {m_ofCode : Nat → Int32} {m_stack : Nat → Int32} {m_newCodes : Int32} {m_codes : Int32} {m_facts : Nat → Int32} {m_newStep : Nat → Int32} {m_step : Nat → Int32} {m_newSteps : Int32} {m_works : Int32} {m_refusedSteps : Int32} {m_begun : Int32} {m_done : Int32} {m_refusedNow : Int32} {m_now : Nat → Int32} {m_past : Nat → Int32} {m_newBook : Nat → Int32} {m_book : Nat → Int32} {m_written : Int32} {m_mostBy : Nat → Int32} {m_stuffing : Nat → Int32} {m_stuffedMany : Int32} {m_lastBy : Nat → Int32} {m_leftBy : Nat → Int32} {m_splitBy : Nat → Int64} {m_seedNow : Int32} {m_image : Nat → Int32} {m_images : Int32} {o_m_s : Nat → Int32} {k2 : Int32 → (Nat → Int32) → Option ((Nat → Int32))} (C : Cx J Z cX10_passes 3 RX10 none rm_X10_passes) (E : Ez J Z 0 0 none (cs_X10 J.2.2.1 a0 m_thrown m_refused m_taped m_size m_at m_bad m_badKind m_opens m_faultAt m_tape m_newBed m_newLetter m_newReader m_bed m_letter m_reader m_newBeds m_newLetters m_newReaders m_beds m_letters m_readers m_newCode m_newOf m_code m_ofCode m_stack m_newCodes m_codes m_facts m_newStep m_step m_newSteps m_works m_refusedSteps m_begun m_done m_refusedNow m_now o_m_s m_past m_newBook m_book m_written m_mostBy m_stuffing m_stuffedMany m_lastBy m_leftBy m_splitBy m_seedNow m_image m_images)) (hk2 : ∀ (x1 : Int32) (m_s : Nat → Int32), k2 x1 m_s = some o_m_s → G J Z 0 0 (cs_X10 J.2.2.1 a0 m_thrown m_refused m_taped m_size m_at m_bad m_badKind m_opens m_faultAt m_tape m_newBed m_newLetter m_newReader m_bed m_letter m_reader m_newBeds m_newLetters m_newReaders m_beds m_letters m_readers m_newCode m_newOf m_code m_ofCode m_stack m_newCodes m_codes m_facts m_newStep m_step m_newSteps m_works m_refusedSteps m_begun m_done m_refusedNow m_now m_s m_past m_newBook m_book m_written m_mostBy m_stuffing m_stuffedMany m_lastBy m_leftBy m_splitBy m_seedNow m_image m_images) 3 [(0, .ref (a0 0)), (1, .int x1)] 2 []) : ∀ (n : Nat) (x1 : Int32) (x2 : Int32) (m_s : Nat → Int32), f_X10_passes_56 m_beds k2 n x1 x2 m_s = some o_m_s → G J Z 0 0 (cs_X10 J.2.2.1 a0 m_thrown m_refused m_taped m_size m_at m_bad m_badKind m_opens m_faultAt m_tape m_newBed m_newLetter m_newReader m_bed m_letter m_reader m_newBeds m_newLetters m_newReaders m_beds m_letters m_readers m_newCode m_newOf m_code m_ofCode m_stack m_newCodes m_codes m_facts m_newStep m_step m_newSteps m_works m_refusedSteps m_begun m_done m_refusedNow m_now m_s m_past m_newBook m_book m_written m_mostBy m_stuffing m_stuffedMany m_lastBy m_leftBy m_splitBy m_seedNow m_image m_images) 3 [(0, .ref (a0 0)), (1, .int x1), (2, .int x2)] 56 [] := by
  intro n
  induction n with
  | zero =>
    intro x1 x2 m_s h
    rw [f_X10_passes_56] at h
    cases h
  | succ n ih =>
    intro x1 x2 m_s h
    rw [f_X10_passes_56] at h
    refine g_iload_n (pc := 56) C 2 rfl dX10_passes_56 ?_
    refine g_aload_n (pc := 57) C 0 rfl dX10_passes_57 ?_
    refine g_get (pc := 58) C FOK_X10 0 rfl rfl 39 (by decide) kw_1316 rfl dX10_passes_58 ?_
    refine g_bipush (pc := 61) C dX10_passes_61 cb_84 ?_
    refine g_iload_n (pc := 63) C 1 rfl dX10_passes_63 ?_
    refine g_iadd (pc := 64) C dX10_passes_64 ?_
    obtain ⟨hi, h⟩ := ix_of h
    refine g_iald (pc := 65) C 18 rfl hi dX10_passes_65 ?_
    refine g_icmp_ge (pc := 66) C (tgt := 105) dX10_passes_66 rfl h (fun h => ?_) (fun h => ?_)
    · refine g_iinc (pc := 105) C (j := 1) [(1, .int (x1 + 1)), (0, .ref (a0 0)), (2, .int x2)] dX10_passes_105 rfl (ii_1 _) (by decide) rfl ?_
      refine g_goto (pc := 108) C (tgt := 2) dX10_passes_108 rfl ?_
      refine g_lv [1, 0] rfl ?_
      exact hk2 (x1 + 1) m_s h
    · refine g_aload_n (pc := 69) C 0 rfl dX10_passes_69 ?_
      refine g_get (pc := 70) C FOK_X10 0 rfl rfl 39 (by decide) kw_1316 rfl dX10_passes_70 ?_
      refine g_bipush (pc := 73) C dX10_passes_73 cb_12 ?_
      refine g_bipush (pc := 75) C dX10_passes_75 cb_12 ?_
      refine g_iload_n (pc := 77) C 1 rfl dX10_passes_77 ?_
      refine g_imul (pc := 78) C dX10_passes_78 ?_
      refine g_iadd (pc := 79) C dX10_passes_79 ?_
      refine g_iload_n (pc := 80) C 2 rfl dX10_passes_80 ?_
      refine g_iadd (pc := 81) C dX10_passes_81 ?_
      refine g_aload_n (pc := 82) C 0 rfl dX10_passes_82 ?_
      refine g_get (pc := 83) C FOK_X10 0 rfl rfl 39 (by decide) kw_1316 rfl dX10_passes_83 ?_
      refine g_bipush (pc := 86) C dX10_passes_86 cb_12 ?_
      refine g_bipush (pc := 88) C dX10_passes_88 cb_12 ?_
      refine g_iload_n (pc := 90) C 1 rfl dX10_passes_90 ?_
      refine g_imul (pc := 91) C dX10_passes_91 ?_
      refine g_iadd (pc := 92) C dX10_passes_92 ?_
      refine g_iload_n (pc := 93) C 2 rfl dX10_passes_93 ?_
      refine g_iadd (pc := 94) C dX10_passes_94 ?_
      refine g_iconst (pc := 95) C dX10_passes_95 ci_1 ?_
      refine g_iadd (pc := 96) C dX10_passes_96 ?_
      obtain ⟨hi, h⟩ := ix_of h
      refine g_iald (pc := 97) C 18 rfl hi dX10_passes_97 ?_
      obtain ⟨hi, h⟩ := ix_of h
      refine g_iast (pc := 98) C (w' := cs_X10 J.2.2.1 a0 m_thrown m_refused m_taped m_size m_at m_bad m_badKind m_opens m_faultAt m_tape m_newBed m_newLetter m_newReader m_bed m_letter m_reader m_newBeds m_newLetters m_newReaders m_beds m_letters m_readers m_newCode m_newOf m_code m_ofCode m_stack m_newCodes m_codes m_facts m_newStep m_step m_newSteps m_works m_refusedSteps m_begun m_done m_refusedNow m_now (upd m_s ((12 + (12 * x1)) + x2).toNatClampNeg (m_s (((12 + (12 * x1)) + x2) + 1).toNatClampNeg)) m_past m_newBook m_book m_written m_mostBy m_stuffing m_stuffedMany m_lastBy m_leftBy m_splitBy m_seedNow m_image m_images) 18 rfl hi dX10_passes_98 rfl ?_
      refine g_iinc (pc := 99) C (j := 2) [(2, .int (x2 + 1)), (0, .ref (a0 0)), (1, .int x1)] dX10_passes_99 rfl (ii_1 _) (by decide) rfl ?_
      refine g_goto (pc := 102) C (tgt := 56) dX10_passes_102 rfl ?_
      refine g_lv [1, 2, 0] rfl ?_
      exact ih x1 (x2 + 1) (upd m_s ((12 + (12 * x1)) + x2).toNatClampNeg (m_s (((12 + (12 * x1)) + x2) + 1).toNatClampNeg)) h
set_option maxRecDepth 100000 in
set_option maxHeartbeats 4000000 in
theorem j_X10_passes_2 {J : Jt} {Z : Zt} {a0 : Nat → Nat} {m_thrown : Int32} {m_refused : Nat → Int32} {m_taped : Int32} {m_size : Int32} {m_at : Int32} {m_bad : Int32} {m_badKind : Int32} {m_opens : Int32} {m_faultAt : Int32} {m_tape : Nat → Int32} {m_newBed : Nat → Int32} {m_newLetter : Nat → Int32} {m_newReader : Nat → Int32} {m_bed : Nat → Int32} {m_letter : Nat → Int32} {m_reader : Nat → Int32} {m_newBeds : Int32} {m_newLetters : Int32} {m_newReaders : Int32} {m_beds : Int32} {m_letters : Int32} {m_readers : Int32} {m_newCode : Nat → Int32} {m_newOf : Nat → Int32} {m_code : Nat → Int32} {m_ofCode : Nat → Int32} {m_stack : Nat → Int32} {m_newCodes : Int32} {m_codes : Int32} {m_facts : Nat → Int32} {m_newStep : Nat → Int32} {m_step : Nat → Int32} {m_newSteps : Int32} {m_works : Int32} {m_refusedSteps : Int32} {m_begun : Int32} {m_done : Int32} {m_refusedNow : Int32} {m_now : Nat → Int32} {m_past : Nat → Int32} {m_newBook : Nat → Int32} {m_book : Nat → Int32} {m_written : Int32} {m_mostBy : Nat → Int32} {m_stuffing : Nat → Int32} {m_stuffedMany : Int32} {m_lastBy : Nat → Int32} {m_leftBy : Nat → Int32} {m_splitBy : Nat → Int64} {m_seedNow : Int32} {m_image : Nat → Int32} {m_images : Int32} {o_m_s : Nat → Int32} (C : Cx J Z cX10_passes 3 RX10 none rm_X10_passes) (E : Ez J Z 0 0 none (cs_X10 J.2.2.1 a0 m_thrown m_refused m_taped m_size m_at m_bad m_badKind m_opens m_faultAt m_tape m_newBed m_newLetter m_newReader m_bed m_letter m_reader m_newBeds m_newLetters m_newReaders m_beds m_letters m_readers m_newCode m_newOf m_code m_ofCode m_stack m_newCodes m_codes m_facts m_newStep m_step m_newSteps m_works m_refusedSteps m_begun m_done m_refusedNow m_now o_m_s m_past m_newBook m_book m_written m_mostBy m_stuffing m_stuffedMany m_lastBy m_leftBy m_splitBy m_seedNow m_image m_images)) : ∀ (n : Nat) (x1 : Int32) (m_s : Nat → Int32), f_X10_passes_2 m_beds n x1 m_s = some o_m_s → G J Z 0 0 (cs_X10 J.2.2.1 a0 m_thrown m_refused m_taped m_size m_at m_bad m_badKind m_opens m_faultAt m_tape m_newBed m_newLetter m_newReader m_bed m_letter m_reader m_newBeds m_newLetters m_newReaders m_beds m_letters m_readers m_newCode m_newOf m_code m_ofCode m_stack m_newCodes m_codes m_facts m_newStep m_step m_newSteps m_works m_refusedSteps m_begun m_done m_refusedNow m_now m_s m_past m_newBook m_book m_written m_mostBy m_stuffing m_stuffedMany m_lastBy m_leftBy m_splitBy m_seedNow m_image m_images) 3 [(0, .ref (a0 0)), (1, .int x1)] 2 [] := by
  intro n
  induction n with
  | zero =>
    intro x1 m_s h
    rw [f_X10_passes_2] at h
    cases h
  | succ n ih =>
    intro x1 m_s h
    rw [f_X10_passes_2] at h
    refine g_iload_n (pc := 2) C 1 rfl dX10_passes_2 ?_
    refine g_aload_n (pc := 3) C 0 rfl dX10_passes_3 ?_
    refine g_get (pc := 4) C FOK_X10 0 rfl rfl 19 (by decide) kw_1296 rfl dX10_passes_4 ?_
    refine g_icmp_ge (pc := 7) C (tgt := 111) dX10_passes_7 rfl h (fun h => ?_) (fun h => ?_)
    · refine g_aload_n (pc := 111) C 0 rfl dX10_passes_111 ?_
      refine g_get (pc := 112) C FOK_X10 0 rfl rfl 39 (by decide) kw_1316 rfl dX10_passes_112 ?_
      refine g_sipush (pc := 115) C dX10_passes_115 cs_161 ?_
      refine g_dup2 (pc := 118) C dX10_passes_118 rfl rfl ?_
      obtain ⟨hi, h⟩ := ix_of h
      refine g_iald (pc := 119) C 18 rfl hi dX10_passes_119 ?_
      refine g_iconst (pc := 120) C dX10_passes_120 ci_2 ?_
      refine g_idiv (pc := 121) C dX10_passes_121 (by decide) ?_
      obtain ⟨hi, h⟩ := ix_of h
      refine g_iast (pc := 122) C (w' := cs_X10 J.2.2.1 a0 m_thrown m_refused m_taped m_size m_at m_bad m_badKind m_opens m_faultAt m_tape m_newBed m_newLetter m_newReader m_bed m_letter m_reader m_newBeds m_newLetters m_newReaders m_beds m_letters m_readers m_newCode m_newOf m_code m_ofCode m_stack m_newCodes m_codes m_facts m_newStep m_step m_newSteps m_works m_refusedSteps m_begun m_done m_refusedNow m_now (upd m_s (161 : Int32).toNatClampNeg ((m_s (161 : Int32).toNatClampNeg) / 2)) m_past m_newBook m_book m_written m_mostBy m_stuffing m_stuffedMany m_lastBy m_leftBy m_splitBy m_seedNow m_image m_images) 18 rfl hi dX10_passes_122 rfl ?_
      refine g_aload_n (pc := 123) C 0 rfl dX10_passes_123 ?_
      refine g_get (pc := 124) C FOK_X10 0 rfl rfl 39 (by decide) kw_1316 rfl dX10_passes_124 ?_
      refine g_sipush (pc := 127) C dX10_passes_127 cs_164 ?_
      refine g_dup2 (pc := 130) C dX10_passes_130 rfl rfl ?_
      obtain ⟨hi, h⟩ := ix_of h
      refine g_iald (pc := 131) C 18 rfl hi dX10_passes_131 ?_
      refine g_iconst (pc := 132) C dX10_passes_132 ci_1 ?_
      refine g_iadd (pc := 133) C dX10_passes_133 ?_
      obtain ⟨hi, h⟩ := ix_of h
      refine g_iast (pc := 134) C (w' := cs_X10 J.2.2.1 a0 m_thrown m_refused m_taped m_size m_at m_bad m_badKind m_opens m_faultAt m_tape m_newBed m_newLetter m_newReader m_bed m_letter m_reader m_newBeds m_newLetters m_newReaders m_beds m_letters m_readers m_newCode m_newOf m_code m_ofCode m_stack m_newCodes m_codes m_facts m_newStep m_step m_newSteps m_works m_refusedSteps m_begun m_done m_refusedNow m_now (upd (upd m_s (161 : Int32).toNatClampNeg ((m_s (161 : Int32).toNatClampNeg) / 2)) (164 : Int32).toNatClampNeg (((upd m_s (161 : Int32).toNatClampNeg ((m_s (161 : Int32).toNatClampNeg) / 2)) (164 : Int32).toNatClampNeg) + 1)) m_past m_newBook m_book m_written m_mostBy m_stuffing m_stuffedMany m_lastBy m_leftBy m_splitBy m_seedNow m_image m_images) 18 rfl hi dX10_passes_134 rfl ?_
      cases h
      exact g_vret C E dX10_passes_135
    · refine g_aload_n (pc := 10) C 0 rfl dX10_passes_10 ?_
      refine g_get (pc := 11) C FOK_X10 0 rfl rfl 39 (by decide) kw_1316 rfl dX10_passes_11 ?_
      refine g_bipush (pc := 14) C dX10_passes_14 cb_84 ?_
      refine g_iload_n (pc := 16) C 1 rfl dX10_passes_16 ?_
      refine g_iadd (pc := 17) C dX10_passes_17 ?_
      obtain ⟨hi, h⟩ := ix_of h
      refine g_iald (pc := 18) C 18 rfl hi dX10_passes_18 ?_
      refine g_if_ne (pc := 19) C (tgt := 25) dX10_passes_19 rfl h (fun h => ?_) (fun h => ?_)
      · refine g_aload_n (pc := 25) C 0 rfl dX10_passes_25 ?_
        refine g_aload_n (pc := 26) C 0 rfl dX10_passes_26 ?_
        refine g_get (pc := 27) C FOK_X10 0 rfl rfl 39 (by decide) kw_1316 rfl dX10_passes_27 ?_
        refine g_bipush (pc := 30) C dX10_passes_30 cb_12 ?_
        refine g_bipush (pc := 32) C dX10_passes_32 cb_12 ?_
        refine g_iload_n (pc := 34) C 1 rfl dX10_passes_34 ?_
        refine g_imul (pc := 35) C dX10_passes_35 ?_
        refine g_iadd (pc := 36) C dX10_passes_36 ?_
        obtain ⟨hi, h⟩ := ix_of h
        refine g_iald (pc := 37) C 18 rfl hi dX10_passes_37 ?_
        obtain ⟨c1, hc, h⟩ := b1_of h
        refine g_callV (pc := 38) C (w' := cs_X10 J.2.2.1 a0 m_thrown m_refused m_taped m_size m_at m_bad m_badKind m_opens m_faultAt m_tape m_newBed m_newLetter m_newReader m_bed m_letter m_reader m_newBeds m_newLetters m_newReaders m_beds m_letters m_readers m_newCode m_newOf m_code m_ofCode m_stack m_newCodes m_codes m_facts m_newStep m_step m_newSteps m_works m_refusedSteps m_begun m_done m_refusedNow m_now c1 m_past m_newBook m_book m_written m_mostBy m_stuffing m_stuffedMany m_lastBy m_leftBy m_splitBy m_seedNow m_image m_images) (As := [.int (m_s (12 + (12 * x1)).toNatClampNeg)]) (st := []) (ci := 10) (q0 := 0) rfl rfl (t_X10_grows (a0 := a0) hc) Sub.same kw_1673 kw_1675 kw_64 kw_95 hy_X10_grows kw_1676 rfl (Nat.le_of_ble_eq_true rfl) (Nat.le_of_ble_eq_true rfl) (Nat.le_of_ble_eq_true rfl) (Nat.le_of_ble_eq_true rfl) (Nat.le_of_ble_eq_true rfl) dX10_passes_38 ?_
        refine g_aload_n (pc := 41) C 0 rfl dX10_passes_41 ?_
        refine g_get (pc := 42) C FOK_X10 0 rfl rfl 39 (by decide) kw_1316 rfl dX10_passes_42 ?_
        refine g_bipush (pc := 45) C dX10_passes_45 cb_84 ?_
        refine g_iload_n (pc := 47) C 1 rfl dX10_passes_47 ?_
        refine g_iadd (pc := 48) C dX10_passes_48 ?_
        refine g_dup2 (pc := 49) C dX10_passes_49 rfl rfl ?_
        obtain ⟨hi, h⟩ := ix_of h
        refine g_iald (pc := 50) C 18 rfl hi dX10_passes_50 ?_
        refine g_iconst (pc := 51) C dX10_passes_51 ci_1 ?_
        refine g_isub (pc := 52) C dX10_passes_52 ?_
        obtain ⟨hi, h⟩ := ix_of h
        refine g_iast (pc := 53) C (w' := cs_X10 J.2.2.1 a0 m_thrown m_refused m_taped m_size m_at m_bad m_badKind m_opens m_faultAt m_tape m_newBed m_newLetter m_newReader m_bed m_letter m_reader m_newBeds m_newLetters m_newReaders m_beds m_letters m_readers m_newCode m_newOf m_code m_ofCode m_stack m_newCodes m_codes m_facts m_newStep m_step m_newSteps m_works m_refusedSteps m_begun m_done m_refusedNow m_now (upd c1 (84 + x1).toNatClampNeg ((c1 (84 + x1).toNatClampNeg) - 1)) m_past m_newBook m_book m_written m_mostBy m_stuffing m_stuffedMany m_lastBy m_leftBy m_splitBy m_seedNow m_image m_images) 18 rfl hi dX10_passes_53 rfl ?_
        refine g_iconst (pc := 54) C dX10_passes_54 ci_0 ?_
        refine g_istore_n (pc := 55) C [(2, .int 0), (0, .ref (a0 0)), (1, .int x1)] dX10_passes_55 rfl (by decide) rfl ?_
        refine g_lv [1, 2, 0] rfl ?_
        exact j_X10_passes_56 C E   ih FU x1 0 (upd c1 (84 + x1).toNatClampNeg ((c1 (84 + x1).toNatClampNeg) - 1)) h
      · refine g_goto (pc := 22) C (tgt := 105) dX10_passes_22 rfl ?_
        refine g_iinc (pc := 105) C (j := 1) [(1, .int (x1 + 1)), (0, .ref (a0 0))] dX10_passes_105 rfl (ii_1 _) (by decide) rfl ?_
        refine g_goto (pc := 108) C (tgt := 2) dX10_passes_108 rfl ?_
        refine g_lv [1, 0] rfl ?_
        exact ih (x1 + 1) m_s h
set_option maxRecDepth 100000 in
set_option maxHeartbeats 4000000 in
theorem t_X10_passes {J : Jt} {a0 : Nat → Nat} {m_thrown : Int32} {m_refused : Nat → Int32} {m_taped : Int32} {m_size : Int32} {m_at : Int32} {m_bad : Int32} {m_badKind : Int32} {m_opens : Int32} {m_faultAt : Int32} {m_tape : Nat → Int32} {m_newBed : Nat → Int32} {m_newLetter : Nat → Int32} {m_newReader : Nat → Int32} {m_bed : Nat → Int32} {m_letter : Nat → Int32} {m_reader : Nat → Int32} {m_newBeds : Int32} {m_newLetters : Int32} {m_newReaders : Int32} {m_beds : Int32} {m_letters : Int32} {m_readers : Int32} {m_newCode : Nat → Int32} {m_newOf : Nat → Int32} {m_code : Nat → Int32} {m_ofCode : Nat → Int32} {m_stack : Nat → Int32} {m_newCodes : Int32} {m_codes : Int32} {m_facts : Nat → Int32} {m_newStep : Nat → Int32} {m_step : Nat → Int32} {m_newSteps : Int32} {m_works : Int32} {m_refusedSteps : Int32} {m_begun : Int32} {m_done : Int32} {m_refusedNow : Int32} {m_now : Nat → Int32} {m_s : Nat → Int32} {m_past : Nat → Int32} {m_newBook : Nat → Int32} {m_book : Nat → Int32} {m_written : Int32} {m_mostBy : Nat → Int32} {m_stuffing : Nat → Int32} {m_stuffedMany : Int32} {m_lastBy : Nat → Int32} {m_leftBy : Nat → Int32} {m_splitBy : Nat → Int64} {m_seedNow : Int32} {m_image : Nat → Int32} {m_images : Int32} {o_m_s : Nat → Int32} (h : f_X10_passes m_beds m_s = some o_m_s) : Mt J yX10_passes cX10_passes 3 none rm_X10_passes [.ref (a0 0)] (cs_X10 J.2.2.1 a0 m_thrown m_refused m_taped m_size m_at m_bad m_badKind m_opens m_faultAt m_tape m_newBed m_newLetter m_newReader m_bed m_letter m_reader m_newBeds m_newLetters m_newReaders m_beds m_letters m_readers m_newCode m_newOf m_code m_ofCode m_stack m_newCodes m_codes m_facts m_newStep m_step m_newSteps m_works m_refusedSteps m_begun m_done m_refusedNow m_now m_s m_past m_newBook m_book m_written m_mostBy m_stuffing m_stuffedMany m_lastBy m_leftBy m_splitBy m_seedNow m_image m_images) none (cs_X10 J.2.2.1 a0 m_thrown m_refused m_taped m_size m_at m_bad m_badKind m_opens m_faultAt m_tape m_newBed m_newLetter m_newReader m_bed m_letter m_reader m_newBeds m_newLetters m_newReaders m_beds m_letters m_readers m_newCode m_newOf m_code m_ofCode m_stack m_newCodes m_codes m_facts m_newStep m_step m_newSteps m_works m_refusedSteps m_begun m_done m_refusedNow m_now o_m_s m_past m_newBook m_book m_written m_mostBy m_stuffing m_stuffedMany m_lastBy m_leftBy m_splitBy m_seedNow m_image m_images) := by
  refine Mt_of (own := RX10) (by decide) rfl (Nat.le_of_ble_eq_true rfl) rfl (fun Z C E => ?_)
  unfold f_X10_passes at h
  show G J Z 0 0 (cs_X10 J.2.2.1 a0 m_thrown m_refused m_taped m_size m_at m_bad m_badKind m_opens m_faultAt m_tape m_newBed m_newLetter m_newReader m_bed m_letter m_reader m_newBeds m_newLetters m_newReaders m_beds m_letters m_readers m_newCode m_newOf m_code m_ofCode m_stack m_newCodes m_codes m_facts m_newStep m_step m_newSteps m_works m_refusedSteps m_begun m_done m_refusedNow m_now m_s m_past m_newBook m_book m_written m_mostBy m_stuffing m_stuffedMany m_lastBy m_leftBy m_splitBy m_seedNow m_image m_images) 3 [(0, .ref (a0 0))] 0 []
  refine g_iconst (pc := 0) C dX10_passes_0 ci_0 ?_
  refine g_istore_n (pc := 1) C [(1, .int 0), (0, .ref (a0 0))] dX10_passes_1 rfl (by decide) rfl ?_
  refine g_lv [1, 0] rfl ?_
  exact j_X10_passes_2 C E    FU 0 m_s h
noncomputable def f_X10_held  (n1 : Int32) (n2 : Int32) : Option (Int32) := if n1 ≤ n2 then some n1 else some n2
def rm_X10_held : Room := { frames := 0, cells := 0, slots := 0, locals := 0 }
set_option maxRecDepth 100000 in
set_option maxHeartbeats 4000000 in
theorem t_X10_held {J : Jt}  {n1 : Int32} {n2 : Int32} {r : Int32} (h : f_X10_held n1 n2 = some r) : Mt J yX10_held cX10_held 2 (some .int) rm_X10_held [.int n1, .int n2] ([]) (some (.int r)) ([]) := by
  refine Mt_of (own := RX10) (by decide) rfl (Nat.le_of_ble_eq_true rfl) rfl (fun Z C E => ?_)
  unfold f_X10_held at h
  show G J Z 0 0 ([]) 2 [(0, .int n1), (1, .int n2)] 0 []
  refine g_iload_n (pc := 0) C 0 rfl dX10_held_0 ?_
  refine g_iload_n (pc := 1) C 1 rfl dX10_held_1 ?_
  refine g_icmp_le (pc := 2) C (tgt := 9) dX10_held_2 rfl h (fun h => ?_) (fun h => ?_)
  · refine g_iload_n (pc := 9) C 0 rfl dX10_held_9 ?_
    cases h
    exact g_iret C E dX10_held_10
  · refine g_iload_n (pc := 5) C 1 rfl dX10_held_5 ?_
    refine g_goto (pc := 6) C (tgt := 10) dX10_held_6 rfl ?_
    cases h
    exact g_iret C E dX10_held_10
noncomputable def f_X10_runOf (m_code : Nat → Int32) (m_ofCode : Nat → Int32) (m_stack : Nat → Int32) (m_codes : Int32) (m_facts : Nat → Int32) (n1 : Int32) (n2 : Int32) (n3 : Int32) (n4 : Int32) (n5 : Int32) (n6 : Int32) (n7 : Int32) : Option (Int32 × (Nat → Int32) × (Nat → Int32)) := if ixb 0 7 then if ixb 1 7 then if ixb 2 7 then if ixb 3 7 then if ixb 4 7 then if ixb 5 7 then if ixb 6 7 then b2 (f_X10_runNow m_code m_ofCode m_stack m_codes (upd (upd (upd (upd (upd (upd (upd m_facts (0 : Int32).toNatClampNeg n1) (1 : Int32).toNatClampNeg n2) (2 : Int32).toNatClampNeg n3) (3 : Int32).toNatClampNeg n4) (4 : Int32).toNatClampNeg n5) (5 : Int32).toNatClampNeg n6) (6 : Int32).toNatClampNeg n7)) (fun v1 c2 => some (v1, c2, upd (upd (upd (upd (upd (upd (upd m_facts (0 : Int32).toNatClampNeg n1) (1 : Int32).toNatClampNeg n2) (2 : Int32).toNatClampNeg n3) (3 : Int32).toNatClampNeg n4) (4 : Int32).toNatClampNeg n5) (5 : Int32).toNatClampNeg n6) (6 : Int32).toNatClampNeg n7)) else none else none else none else none else none else none else none
def rm_X10_runOf : Room := { frames := 3, cells := 0, slots := 0, locals := 66 }
set_option maxRecDepth 100000 in
set_option maxHeartbeats 4000000 in
theorem t_X10_runOf {J : Jt} {a0 : Nat → Nat} {m_thrown : Int32} {m_refused : Nat → Int32} {m_taped : Int32} {m_size : Int32} {m_at : Int32} {m_bad : Int32} {m_badKind : Int32} {m_opens : Int32} {m_faultAt : Int32} {m_tape : Nat → Int32} {m_newBed : Nat → Int32} {m_newLetter : Nat → Int32} {m_newReader : Nat → Int32} {m_bed : Nat → Int32} {m_letter : Nat → Int32} {m_reader : Nat → Int32} {m_newBeds : Int32} {m_newLetters : Int32} {m_newReaders : Int32} {m_beds : Int32} {m_letters : Int32} {m_readers : Int32} {m_newCode : Nat → Int32} {m_newOf : Nat → Int32} {m_code : Nat → Int32} {m_ofCode : Nat → Int32} {m_stack : Nat → Int32} {m_newCodes : Int32} {m_codes : Int32} {m_facts : Nat → Int32} {m_newStep : Nat → Int32} {m_step : Nat → Int32} {m_newSteps : Int32} {m_works : Int32} {m_refusedSteps : Int32} {m_begun : Int32} {m_done : Int32} {m_refusedNow : Int32} {m_now : Nat → Int32} {m_s : Nat → Int32} {m_past : Nat → Int32} {m_newBook : Nat → Int32} {m_book : Nat → Int32} {m_written : Int32} {m_mostBy : Nat → Int32} {m_stuffing : Nat → Int32} {m_stuffedMany : Int32} {m_lastBy : Nat → Int32} {m_leftBy : Nat → Int32} {m_splitBy : Nat → Int64} {m_seedNow : Int32} {m_image : Nat → Int32} {m_images : Int32} {n1 : Int32} {n2 : Int32} {n3 : Int32} {n4 : Int32} {n5 : Int32} {n6 : Int32} {n7 : Int32} {r : Int32} {o_m_stack : Nat → Int32} {o_m_facts : Nat → Int32} (h : f_X10_runOf m_code m_ofCode m_stack m_codes m_facts n1 n2 n3 n4 n5 n6 n7 = some (r, o_m_stack, o_m_facts)) : Mt J yX10_runOf cX10_runOf 8 (some .int) rm_X10_runOf [.ref (a0 0), .int n1, .int n2, .int n3, .int n4, .int n5, .int n6, .int n7] (cs_X10 J.2.2.1 a0 m_thrown m_refused m_taped m_size m_at m_bad m_badKind m_opens m_faultAt m_tape m_newBed m_newLetter m_newReader m_bed m_letter m_reader m_newBeds m_newLetters m_newReaders m_beds m_letters m_readers m_newCode m_newOf m_code m_ofCode m_stack m_newCodes m_codes m_facts m_newStep m_step m_newSteps m_works m_refusedSteps m_begun m_done m_refusedNow m_now m_s m_past m_newBook m_book m_written m_mostBy m_stuffing m_stuffedMany m_lastBy m_leftBy m_splitBy m_seedNow m_image m_images) (some (.int r)) (cs_X10 J.2.2.1 a0 m_thrown m_refused m_taped m_size m_at m_bad m_badKind m_opens m_faultAt m_tape m_newBed m_newLetter m_newReader m_bed m_letter m_reader m_newBeds m_newLetters m_newReaders m_beds m_letters m_readers m_newCode m_newOf m_code m_ofCode o_m_stack m_newCodes m_codes o_m_facts m_newStep m_step m_newSteps m_works m_refusedSteps m_begun m_done m_refusedNow m_now m_s m_past m_newBook m_book m_written m_mostBy m_stuffing m_stuffedMany m_lastBy m_leftBy m_splitBy m_seedNow m_image m_images) := by
  refine Mt_of (own := RX10) (by decide) rfl (Nat.le_of_ble_eq_true rfl) rfl (fun Z C E => ?_)
  unfold f_X10_runOf at h
  show G J Z 0 0 (cs_X10 J.2.2.1 a0 m_thrown m_refused m_taped m_size m_at m_bad m_badKind m_opens m_faultAt m_tape m_newBed m_newLetter m_newReader m_bed m_letter m_reader m_newBeds m_newLetters m_newReaders m_beds m_letters m_readers m_newCode m_newOf m_code m_ofCode m_stack m_newCodes m_codes m_facts m_newStep m_step m_newSteps m_works m_refusedSteps m_begun m_done m_refusedNow m_now m_s m_past m_newBook m_book m_written m_mostBy m_stuffing m_stuffedMany m_lastBy m_leftBy m_splitBy m_seedNow m_image m_images) 8 [(0, .ref (a0 0)), (1, .int n1), (2, .int n2), (3, .int n3), (4, .int n4), (5, .int n5), (6, .int n6), (7, .int n7)] 0 []
  refine g_aload_n (pc := 0) C 0 rfl dX10_runOf_0 ?_
  refine g_get (pc := 1) C FOK_X10 0 rfl rfl 29 (by decide) kw_1306 rfl dX10_runOf_1 ?_
  refine g_iconst (pc := 4) C dX10_runOf_4 ci_0 ?_
  refine g_iload_n (pc := 5) C 1 rfl dX10_runOf_5 ?_
  obtain ⟨hi, h⟩ := ix_of h
  refine g_iast (pc := 6) C (w' := cs_X10 J.2.2.1 a0 m_thrown m_refused m_taped m_size m_at m_bad m_badKind m_opens m_faultAt m_tape m_newBed m_newLetter m_newReader m_bed m_letter m_reader m_newBeds m_newLetters m_newReaders m_beds m_letters m_readers m_newCode m_newOf m_code m_ofCode m_stack m_newCodes m_codes (upd m_facts (0 : Int32).toNatClampNeg n1) m_newStep m_step m_newSteps m_works m_refusedSteps m_begun m_done m_refusedNow m_now m_s m_past m_newBook m_book m_written m_mostBy m_stuffing m_stuffedMany m_lastBy m_leftBy m_splitBy m_seedNow m_image m_images) 14 rfl hi dX10_runOf_6 rfl ?_
  refine g_aload_n (pc := 7) C 0 rfl dX10_runOf_7 ?_
  refine g_get (pc := 8) C FOK_X10 0 rfl rfl 29 (by decide) kw_1306 rfl dX10_runOf_8 ?_
  refine g_iconst (pc := 11) C dX10_runOf_11 ci_1 ?_
  refine g_iload_n (pc := 12) C 2 rfl dX10_runOf_12 ?_
  obtain ⟨hi, h⟩ := ix_of h
  refine g_iast (pc := 13) C (w' := cs_X10 J.2.2.1 a0 m_thrown m_refused m_taped m_size m_at m_bad m_badKind m_opens m_faultAt m_tape m_newBed m_newLetter m_newReader m_bed m_letter m_reader m_newBeds m_newLetters m_newReaders m_beds m_letters m_readers m_newCode m_newOf m_code m_ofCode m_stack m_newCodes m_codes (upd (upd m_facts (0 : Int32).toNatClampNeg n1) (1 : Int32).toNatClampNeg n2) m_newStep m_step m_newSteps m_works m_refusedSteps m_begun m_done m_refusedNow m_now m_s m_past m_newBook m_book m_written m_mostBy m_stuffing m_stuffedMany m_lastBy m_leftBy m_splitBy m_seedNow m_image m_images) 14 rfl hi dX10_runOf_13 rfl ?_
  refine g_aload_n (pc := 14) C 0 rfl dX10_runOf_14 ?_
  refine g_get (pc := 15) C FOK_X10 0 rfl rfl 29 (by decide) kw_1306 rfl dX10_runOf_15 ?_
  refine g_iconst (pc := 18) C dX10_runOf_18 ci_2 ?_
  refine g_iload_n (pc := 19) C 3 rfl dX10_runOf_19 ?_
  obtain ⟨hi, h⟩ := ix_of h
  refine g_iast (pc := 20) C (w' := cs_X10 J.2.2.1 a0 m_thrown m_refused m_taped m_size m_at m_bad m_badKind m_opens m_faultAt m_tape m_newBed m_newLetter m_newReader m_bed m_letter m_reader m_newBeds m_newLetters m_newReaders m_beds m_letters m_readers m_newCode m_newOf m_code m_ofCode m_stack m_newCodes m_codes (upd (upd (upd m_facts (0 : Int32).toNatClampNeg n1) (1 : Int32).toNatClampNeg n2) (2 : Int32).toNatClampNeg n3) m_newStep m_step m_newSteps m_works m_refusedSteps m_begun m_done m_refusedNow m_now m_s m_past m_newBook m_book m_written m_mostBy m_stuffing m_stuffedMany m_lastBy m_leftBy m_splitBy m_seedNow m_image m_images) 14 rfl hi dX10_runOf_20 rfl ?_
  refine g_aload_n (pc := 21) C 0 rfl dX10_runOf_21 ?_
  refine g_get (pc := 22) C FOK_X10 0 rfl rfl 29 (by decide) kw_1306 rfl dX10_runOf_22 ?_
  refine g_iconst (pc := 25) C dX10_runOf_25 ci_3 ?_
  refine g_iload (pc := 26) C 4 rfl dX10_runOf_26 ?_
  obtain ⟨hi, h⟩ := ix_of h
  refine g_iast (pc := 28) C (w' := cs_X10 J.2.2.1 a0 m_thrown m_refused m_taped m_size m_at m_bad m_badKind m_opens m_faultAt m_tape m_newBed m_newLetter m_newReader m_bed m_letter m_reader m_newBeds m_newLetters m_newReaders m_beds m_letters m_readers m_newCode m_newOf m_code m_ofCode m_stack m_newCodes m_codes (upd (upd (upd (upd m_facts (0 : Int32).toNatClampNeg n1) (1 : Int32).toNatClampNeg n2) (2 : Int32).toNatClampNeg n3) (3 : Int32).toNatClampNeg n4) m_newStep m_step m_newSteps m_works m_refusedSteps m_begun m_done m_refusedNow m_now m_s m_past m_newBook m_book m_written m_mostBy m_stuffing m_stuffedMany m_lastBy m_leftBy m_splitBy m_seedNow m_image m_images) 14 rfl hi dX10_runOf_28 rfl ?_
  refine g_aload_n (pc := 29) C 0 rfl dX10_runOf_29 ?_
  refine g_get (pc := 30) C FOK_X10 0 rfl rfl 29 (by decide) kw_1306 rfl dX10_runOf_30 ?_
  refine g_iconst (pc := 33) C dX10_runOf_33 ci_4 ?_
  refine g_iload (pc := 34) C 5 rfl dX10_runOf_34 ?_
  obtain ⟨hi, h⟩ := ix_of h
  refine g_iast (pc := 36) C (w' := cs_X10 J.2.2.1 a0 m_thrown m_refused m_taped m_size m_at m_bad m_badKind m_opens m_faultAt m_tape m_newBed m_newLetter m_newReader m_bed m_letter m_reader m_newBeds m_newLetters m_newReaders m_beds m_letters m_readers m_newCode m_newOf m_code m_ofCode m_stack m_newCodes m_codes (upd (upd (upd (upd (upd m_facts (0 : Int32).toNatClampNeg n1) (1 : Int32).toNatClampNeg n2) (2 : Int32).toNatClampNeg n3) (3 : Int32).toNatClampNeg n4) (4 : Int32).toNatClampNeg n5) m_newStep m_step m_newSteps m_works m_refusedSteps m_begun m_done m_refusedNow m_now m_s m_past m_newBook m_book m_written m_mostBy m_stuffing m_stuffedMany m_lastBy m_leftBy m_splitBy m_seedNow m_image m_images) 14 rfl hi dX10_runOf_36 rfl ?_
  refine g_aload_n (pc := 37) C 0 rfl dX10_runOf_37 ?_
  refine g_get (pc := 38) C FOK_X10 0 rfl rfl 29 (by decide) kw_1306 rfl dX10_runOf_38 ?_
  refine g_iconst (pc := 41) C dX10_runOf_41 ci_5 ?_
  refine g_iload (pc := 42) C 6 rfl dX10_runOf_42 ?_
  obtain ⟨hi, h⟩ := ix_of h
  refine g_iast (pc := 44) C (w' := cs_X10 J.2.2.1 a0 m_thrown m_refused m_taped m_size m_at m_bad m_badKind m_opens m_faultAt m_tape m_newBed m_newLetter m_newReader m_bed m_letter m_reader m_newBeds m_newLetters m_newReaders m_beds m_letters m_readers m_newCode m_newOf m_code m_ofCode m_stack m_newCodes m_codes (upd (upd (upd (upd (upd (upd m_facts (0 : Int32).toNatClampNeg n1) (1 : Int32).toNatClampNeg n2) (2 : Int32).toNatClampNeg n3) (3 : Int32).toNatClampNeg n4) (4 : Int32).toNatClampNeg n5) (5 : Int32).toNatClampNeg n6) m_newStep m_step m_newSteps m_works m_refusedSteps m_begun m_done m_refusedNow m_now m_s m_past m_newBook m_book m_written m_mostBy m_stuffing m_stuffedMany m_lastBy m_leftBy m_splitBy m_seedNow m_image m_images) 14 rfl hi dX10_runOf_44 rfl ?_
  refine g_aload_n (pc := 45) C 0 rfl dX10_runOf_45 ?_
  refine g_get (pc := 46) C FOK_X10 0 rfl rfl 29 (by decide) kw_1306 rfl dX10_runOf_46 ?_
  refine g_bipush (pc := 49) C dX10_runOf_49 cb_6 ?_
  refine g_iload (pc := 51) C 7 rfl dX10_runOf_51 ?_
  obtain ⟨hi, h⟩ := ix_of h
  refine g_iast (pc := 53) C (w' := cs_X10 J.2.2.1 a0 m_thrown m_refused m_taped m_size m_at m_bad m_badKind m_opens m_faultAt m_tape m_newBed m_newLetter m_newReader m_bed m_letter m_reader m_newBeds m_newLetters m_newReaders m_beds m_letters m_readers m_newCode m_newOf m_code m_ofCode m_stack m_newCodes m_codes (upd (upd (upd (upd (upd (upd (upd m_facts (0 : Int32).toNatClampNeg n1) (1 : Int32).toNatClampNeg n2) (2 : Int32).toNatClampNeg n3) (3 : Int32).toNatClampNeg n4) (4 : Int32).toNatClampNeg n5) (5 : Int32).toNatClampNeg n6) (6 : Int32).toNatClampNeg n7) m_newStep m_step m_newSteps m_works m_refusedSteps m_begun m_done m_refusedNow m_now m_s m_past m_newBook m_book m_written m_mostBy m_stuffing m_stuffedMany m_lastBy m_leftBy m_splitBy m_seedNow m_image m_images) 14 rfl hi dX10_runOf_53 rfl ?_
  refine g_aload_n (pc := 54) C 0 rfl dX10_runOf_54 ?_
  obtain ⟨v1, c2, hc, h⟩ := b2_of h
  refine g_callV (pc := 55) C (w' := cs_X10 J.2.2.1 a0 m_thrown m_refused m_taped m_size m_at m_bad m_badKind m_opens m_faultAt m_tape m_newBed m_newLetter m_newReader m_bed m_letter m_reader m_newBeds m_newLetters m_newReaders m_beds m_letters m_readers m_newCode m_newOf m_code m_ofCode c2 m_newCodes m_codes (upd (upd (upd (upd (upd (upd (upd m_facts (0 : Int32).toNatClampNeg n1) (1 : Int32).toNatClampNeg n2) (2 : Int32).toNatClampNeg n3) (3 : Int32).toNatClampNeg n4) (4 : Int32).toNatClampNeg n5) (5 : Int32).toNatClampNeg n6) (6 : Int32).toNatClampNeg n7) m_newStep m_step m_newSteps m_works m_refusedSteps m_begun m_done m_refusedNow m_now m_s m_past m_newBook m_book m_written m_mostBy m_stuffing m_stuffedMany m_lastBy m_leftBy m_splitBy m_seedNow m_image m_images) (As := []) (st := []) (ci := 10) (q0 := 0) rfl rfl (t_X10_runNow (a0 := a0) hc) Sub.same kw_1654 kw_1656 kw_60 kw_95 hy_X10_runNow kw_1657 rfl (Nat.le_of_ble_eq_true rfl) (Nat.le_of_ble_eq_true rfl) (Nat.le_of_ble_eq_true rfl) (Nat.le_of_ble_eq_true rfl) (Nat.le_of_ble_eq_true rfl) dX10_runOf_55 ?_
  cases h
  exact g_iret C E dX10_runOf_58
noncomputable def f_X10_runBy (m_bed : Nat → Int32) (m_letter : Nat → Int32) (m_code : Nat → Int32) (m_ofCode : Nat → Int32) (m_stack : Nat → Int32) (m_codes : Int32) (m_facts : Nat → Int32) (m_s : Nat → Int32) (n1 : Int32) (n2 : Int32) (n3 : Int32) : Option (Int32 × (Nat → Int32) × (Nat → Int32)) := if ixb (10 * n1) 60 then b1 (f_X10_leftOf m_letter m_s n1) (fun v1 => if ixb (m_letter (10 * n1).toNatClampNeg) 6 then if ixb (84 + (m_letter (10 * n1).toNatClampNeg)) 165 then if ixb 164 165 then b3 (f_X10_runOf m_code m_ofCode m_stack m_codes m_facts n2 n3 v1 (m_bed (m_letter (10 * n1).toNatClampNeg).toNatClampNeg) (m_s (84 + (m_letter (10 * n1).toNatClampNeg)).toNatClampNeg) (m_s (164 : Int32).toNatClampNeg) n1) (fun v2 c3 c4 => b1 (f_X10_leftOf m_letter m_s n1) (fun v5 => b1 (f_X10_held v2 v5) (fun v6 => some (v6, c3, c4)))) else none else none else none) else none
def rm_X10_runBy : Room := { frames := 4, cells := 0, slots := 0, locals := 93 }
set_option maxRecDepth 100000 in
set_option maxHeartbeats 4000000 in
theorem t_X10_runBy {J : Jt} {a0 : Nat → Nat} {m_thrown : Int32} {m_refused : Nat → Int32} {m_taped : Int32} {m_size : Int32} {m_at : Int32} {m_bad : Int32} {m_badKind : Int32} {m_opens : Int32} {m_faultAt : Int32} {m_tape : Nat → Int32} {m_newBed : Nat → Int32} {m_newLetter : Nat → Int32} {m_newReader : Nat → Int32} {m_bed : Nat → Int32} {m_letter : Nat → Int32} {m_reader : Nat → Int32} {m_newBeds : Int32} {m_newLetters : Int32} {m_newReaders : Int32} {m_beds : Int32} {m_letters : Int32} {m_readers : Int32} {m_newCode : Nat → Int32} {m_newOf : Nat → Int32} {m_code : Nat → Int32} {m_ofCode : Nat → Int32} {m_stack : Nat → Int32} {m_newCodes : Int32} {m_codes : Int32} {m_facts : Nat → Int32} {m_newStep : Nat → Int32} {m_step : Nat → Int32} {m_newSteps : Int32} {m_works : Int32} {m_refusedSteps : Int32} {m_begun : Int32} {m_done : Int32} {m_refusedNow : Int32} {m_now : Nat → Int32} {m_s : Nat → Int32} {m_past : Nat → Int32} {m_newBook : Nat → Int32} {m_book : Nat → Int32} {m_written : Int32} {m_mostBy : Nat → Int32} {m_stuffing : Nat → Int32} {m_stuffedMany : Int32} {m_lastBy : Nat → Int32} {m_leftBy : Nat → Int32} {m_splitBy : Nat → Int64} {m_seedNow : Int32} {m_image : Nat → Int32} {m_images : Int32} {n1 : Int32} {n2 : Int32} {n3 : Int32} {r : Int32} {o_m_stack : Nat → Int32} {o_m_facts : Nat → Int32} (h : f_X10_runBy m_bed m_letter m_code m_ofCode m_stack m_codes m_facts m_s n1 n2 n3 = some (r, o_m_stack, o_m_facts)) : Mt J yX10_runBy cX10_runBy 5 (some .int) rm_X10_runBy [.ref (a0 0), .int n1, .int n2, .int n3] (cs_X10 J.2.2.1 a0 m_thrown m_refused m_taped m_size m_at m_bad m_badKind m_opens m_faultAt m_tape m_newBed m_newLetter m_newReader m_bed m_letter m_reader m_newBeds m_newLetters m_newReaders m_beds m_letters m_readers m_newCode m_newOf m_code m_ofCode m_stack m_newCodes m_codes m_facts m_newStep m_step m_newSteps m_works m_refusedSteps m_begun m_done m_refusedNow m_now m_s m_past m_newBook m_book m_written m_mostBy m_stuffing m_stuffedMany m_lastBy m_leftBy m_splitBy m_seedNow m_image m_images) (some (.int r)) (cs_X10 J.2.2.1 a0 m_thrown m_refused m_taped m_size m_at m_bad m_badKind m_opens m_faultAt m_tape m_newBed m_newLetter m_newReader m_bed m_letter m_reader m_newBeds m_newLetters m_newReaders m_beds m_letters m_readers m_newCode m_newOf m_code m_ofCode o_m_stack m_newCodes m_codes o_m_facts m_newStep m_step m_newSteps m_works m_refusedSteps m_begun m_done m_refusedNow m_now m_s m_past m_newBook m_book m_written m_mostBy m_stuffing m_stuffedMany m_lastBy m_leftBy m_splitBy m_seedNow m_image m_images) := by
  refine Mt_of (own := RX10) (by decide) rfl (Nat.le_of_ble_eq_true rfl) rfl (fun Z C E => ?_)
  unfold f_X10_runBy at h
  show G J Z 0 0 (cs_X10 J.2.2.1 a0 m_thrown m_refused m_taped m_size m_at m_bad m_badKind m_opens m_faultAt m_tape m_newBed m_newLetter m_newReader m_bed m_letter m_reader m_newBeds m_newLetters m_newReaders m_beds m_letters m_readers m_newCode m_newOf m_code m_ofCode m_stack m_newCodes m_codes m_facts m_newStep m_step m_newSteps m_works m_refusedSteps m_begun m_done m_refusedNow m_now m_s m_past m_newBook m_book m_written m_mostBy m_stuffing m_stuffedMany m_lastBy m_leftBy m_splitBy m_seedNow m_image m_images) 5 [(0, .ref (a0 0)), (1, .int n1), (2, .int n2), (3, .int n3)] 0 []
  refine g_aload_n (pc := 0) C 0 rfl dX10_runBy_0 ?_
  refine g_get (pc := 1) C FOK_X10 0 rfl rfl 14 (by decide) kw_1291 rfl dX10_runBy_1 ?_
  refine g_bipush (pc := 4) C dX10_runBy_4 cb_10 ?_
  refine g_iload_n (pc := 6) C 1 rfl dX10_runBy_6 ?_
  refine g_imul (pc := 7) C dX10_runBy_7 ?_
  obtain ⟨hi, h⟩ := ix_of h
  refine g_iald (pc := 8) C 7 rfl hi dX10_runBy_8 ?_
  refine g_istore (pc := 9) C [(4, .int (m_letter (10 * n1).toNatClampNeg)), (0, .ref (a0 0)), (1, .int n1), (2, .int n2), (3, .int n3)] dX10_runBy_9 (by decide) rfl ?_
  refine g_aload_n (pc := 11) C 1 rfl dX10_runBy_11 ?_
  refine g_iload_n (pc := 12) C 3 rfl dX10_runBy_12 ?_
  refine g_iload_n (pc := 13) C 4 rfl dX10_runBy_13 ?_
  refine g_aload_n (pc := 14) C 1 rfl dX10_runBy_14 ?_
  refine g_iload_n (pc := 15) C 2 rfl dX10_runBy_15 ?_
  obtain ⟨v1, hc, h⟩ := b1_of h
  refine g_callV (pc := 16) C (w' := cs_X10 J.2.2.1 a0 m_thrown m_refused m_taped m_size m_at m_bad m_badKind m_opens m_faultAt m_tape m_newBed m_newLetter m_newReader m_bed m_letter m_reader m_newBeds m_newLetters m_newReaders m_beds m_letters m_readers m_newCode m_newOf m_code m_ofCode m_stack m_newCodes m_codes m_facts m_newStep m_step m_newSteps m_works m_refusedSteps m_begun m_done m_refusedNow m_now m_s m_past m_newBook m_book m_written m_mostBy m_stuffing m_stuffedMany m_lastBy m_leftBy m_splitBy m_seedNow m_image m_images) (As := [.int n1]) (st := [.int n3, .int n2, .ref (a0 0)]) (ci := 10) (q0 := 0) rfl rfl (t_X10_leftOf (a0 := a0) hc) Sub.same kw_1619 kw_1621 kw_52 kw_95 hy_X10_leftOf kw_1622 rfl (Nat.le_of_ble_eq_true rfl) (Nat.le_of_ble_eq_true rfl) (Nat.le_of_ble_eq_true rfl) (Nat.le_of_ble_eq_true rfl) (Nat.le_of_ble_eq_true rfl) dX10_runBy_16 ?_
  refine g_aload_n (pc := 19) C 1 rfl dX10_runBy_19 ?_
  refine g_get (pc := 20) C FOK_X10 0 rfl rfl 13 (by decide) kw_1290 rfl dX10_runBy_20 ?_
  refine g_iload (pc := 23) C 0 rfl dX10_runBy_23 ?_
  obtain ⟨hi, h⟩ := ix_of h
  refine g_iald (pc := 25) C 6 rfl hi dX10_runBy_25 ?_
  refine g_aload_n (pc := 26) C 1 rfl dX10_runBy_26 ?_
  refine g_get (pc := 27) C FOK_X10 0 rfl rfl 39 (by decide) kw_1316 rfl dX10_runBy_27 ?_
  refine g_bipush (pc := 30) C dX10_runBy_30 cb_84 ?_
  refine g_iload (pc := 32) C 0 rfl dX10_runBy_32 ?_
  refine g_iadd (pc := 34) C dX10_runBy_34 ?_
  obtain ⟨hi, h⟩ := ix_of h
  refine g_iald (pc := 35) C 18 rfl hi dX10_runBy_35 ?_
  refine g_aload_n (pc := 36) C 1 rfl dX10_runBy_36 ?_
  refine g_get (pc := 37) C FOK_X10 0 rfl rfl 39 (by decide) kw_1316 rfl dX10_runBy_37 ?_
  refine g_sipush (pc := 40) C dX10_runBy_40 cs_164 ?_
  obtain ⟨hi, h⟩ := ix_of h
  refine g_iald (pc := 43) C 18 rfl hi dX10_runBy_43 ?_
  refine g_iload_n (pc := 44) C 2 rfl dX10_runBy_44 ?_
  obtain ⟨v2, c3, c4, hc, h⟩ := b3_of h
  refine g_callV (pc := 45) C (w' := cs_X10 J.2.2.1 a0 m_thrown m_refused m_taped m_size m_at m_bad m_badKind m_opens m_faultAt m_tape m_newBed m_newLetter m_newReader m_bed m_letter m_reader m_newBeds m_newLetters m_newReaders m_beds m_letters m_readers m_newCode m_newOf m_code m_ofCode c3 m_newCodes m_codes c4 m_newStep m_step m_newSteps m_works m_refusedSteps m_begun m_done m_refusedNow m_now m_s m_past m_newBook m_book m_written m_mostBy m_stuffing m_stuffedMany m_lastBy m_leftBy m_splitBy m_seedNow m_image m_images) (As := [.int n2, .int n3, .int v1, .int (m_bed (m_letter (10 * n1).toNatClampNeg).toNatClampNeg), .int (m_s (84 + (m_letter (10 * n1).toNatClampNeg)).toNatClampNeg), .int (m_s (164 : Int32).toNatClampNeg), .int n1]) (st := []) (ci := 10) (q0 := 0) rfl rfl (t_X10_runOf (a0 := a0) hc) Sub.same kw_1650 kw_1652 kw_59 kw_95 hy_X10_runOf kw_1653 rfl (Nat.le_of_ble_eq_true rfl) (Nat.le_of_ble_eq_true rfl) (Nat.le_of_ble_eq_true rfl) (Nat.le_of_ble_eq_true rfl) (Nat.le_of_ble_eq_true rfl) dX10_runBy_45 ?_
  refine g_aload_n (pc := 48) C 1 rfl dX10_runBy_48 ?_
  refine g_iload_n (pc := 49) C 2 rfl dX10_runBy_49 ?_
  obtain ⟨v5, hc, h⟩ := b1_of h
  refine g_callV (pc := 50) C (w' := cs_X10 J.2.2.1 a0 m_thrown m_refused m_taped m_size m_at m_bad m_badKind m_opens m_faultAt m_tape m_newBed m_newLetter m_newReader m_bed m_letter m_reader m_newBeds m_newLetters m_newReaders m_beds m_letters m_readers m_newCode m_newOf m_code m_ofCode c3 m_newCodes m_codes c4 m_newStep m_step m_newSteps m_works m_refusedSteps m_begun m_done m_refusedNow m_now m_s m_past m_newBook m_book m_written m_mostBy m_stuffing m_stuffedMany m_lastBy m_leftBy m_splitBy m_seedNow m_image m_images) (As := [.int n1]) (st := [.int v2]) (ci := 10) (q0 := 0) rfl rfl (t_X10_leftOf (a0 := a0) hc) Sub.same kw_1619 kw_1621 kw_52 kw_95 hy_X10_leftOf kw_1622 rfl (Nat.le_of_ble_eq_true rfl) (Nat.le_of_ble_eq_true rfl) (Nat.le_of_ble_eq_true rfl) (Nat.le_of_ble_eq_true rfl) (Nat.le_of_ble_eq_true rfl) dX10_runBy_50 ?_
  obtain ⟨v6, hc, h⟩ := b1_of h
  refine g_callS (pc := 53) C (w' := cs_X10 J.2.2.1 a0 m_thrown m_refused m_taped m_size m_at m_bad m_badKind m_opens m_faultAt m_tape m_newBed m_newLetter m_newReader m_bed m_letter m_reader m_newBeds m_newLetters m_newReaders m_beds m_letters m_readers m_newCode m_newOf m_code m_ofCode c3 m_newCodes m_codes c4 m_newStep m_step m_newSteps m_works m_refusedSteps m_begun m_done m_refusedNow m_now m_s m_past m_newBook m_book m_written m_mostBy m_stuffing m_stuffedMany m_lastBy m_leftBy m_splitBy m_seedNow m_image m_images) (As := [.int v2, .int v5]) (st := []) (t_X10_held hc) Sub.nil kw_1643 kw_1644 kw_95 hy_X10_held kw_1645 rfl (Nat.le_of_ble_eq_true rfl) (Nat.le_of_ble_eq_true rfl) (Nat.le_of_ble_eq_true rfl) (Nat.le_of_ble_eq_true rfl) (Nat.le_of_ble_eq_true rfl) dX10_runBy_53 ?_
  cases h
  exact g_iret C E dX10_runBy_56
noncomputable def f_X10_runsOut_89  (m_letter : Nat → Int32) (n1 : Int32) (n2 : Int32) (k13 : Int32 → Int32 → (Nat → Int32) → Option ((Nat → Int32))) (x3 : Int32) (x4 : Int32) (m_s : Nat → Int32) : Option ((Nat → Int32)) := if ixb (0 + n1) 165 then if ixb (0 + n1) 165 then k13 x3 (x4 + 1) (upd m_s (0 + n1).toNatClampNeg ((m_s (0 + n1).toNatClampNeg) + 1)) else none else none
noncomputable def f_X10_runsOut_13  (m_letter : Nat → Int32) (n1 : Int32) (n2 : Int32) : Nat → Int32 → Int32 → (Nat → Int32) → Option ((Nat → Int32))
  | 0, _, _, _ => none
  | n + 1, x3, x4, m_s => if n2 ≤ x4 then some m_s else if ixb (84 + x3) 165 then if (m_s (84 + x3).toNatClampNeg) = 12 then if ixb 162 165 then if ixb 162 165 then f_X10_runsOut_89 m_letter n1 n2 (f_X10_runsOut_13 m_letter n1 n2 n) x3 x4 (upd m_s (162 : Int32).toNatClampNeg ((m_s (162 : Int32).toNatClampNeg) + 1)) else none else none else if ixb (84 + x3) 165 then b1 (f_X10_wordOf m_letter m_s n1 0) (fun v1 => if ixb ((12 + (12 * x3)) + (m_s (84 + x3).toNatClampNeg)) 165 then if ixb (84 + x3) 165 then if ixb (84 + x3) 165 then f_X10_runsOut_89 m_letter n1 n2 (f_X10_runsOut_13 m_letter n1 n2 n) x3 x4 (upd (upd m_s ((12 + (12 * x3)) + (m_s (84 + x3).toNatClampNeg)).toNatClampNeg v1) (84 + x3).toNatClampNeg (((upd m_s ((12 + (12 * x3)) + (m_s (84 + x3).toNatClampNeg)).toNatClampNeg v1) (84 + x3).toNatClampNeg) + 1)) else none else none else none) else none else none
noncomputable def f_X10_runsOut (m_letter : Nat → Int32) (m_s : Nat → Int32) (n1 : Int32) (n2 : Int32) : Option ((Nat → Int32)) := if ixb (10 * n1) 60 then f_X10_runsOut_13 m_letter n1 n2 FU (m_letter (10 * n1).toNatClampNeg) 0 m_s else none
def rm_X10_runsOut : Room := { frames := 1, cells := 0, slots := 0, locals := 22 }
set_option maxRecDepth 100000 in
set_option maxHeartbeats 4000000 in
theorem j_X10_runsOut_89 {J : Jt} {Z : Zt} {a0 : Nat → Nat} {m_thrown : Int32} {m_refused : Nat → Int32} {m_taped : Int32} {m_size : Int32} {m_at : Int32} {m_bad : Int32} {m_badKind : Int32} {m_opens : Int32} {m_faultAt : Int32} {m_tape : Nat → Int32} {m_newBed : Nat → Int32} {m_newLetter : Nat → Int32} {m_newReader : Nat → Int32} {m_bed : Nat → Int32} {m_letter : Nat → Int32} {m_reader : Nat → Int32} {m_newBeds : Int32} {m_newLetters : Int32} {m_newReaders : Int32} {m_beds : Int32} {m_letters : Int32} {m_readers : Int32} {m_newCode : Nat → Int32} {m_newOf : Nat → Int32} {m_code : Nat → Int32} {m_ofCode : Nat → Int32} {m_stack : Nat → Int32} {m_newCodes : Int32} {m_codes : Int32} {m_facts : Nat → Int32} {m_newStep : Nat → Int32} {m_step : Nat → Int32} {m_newSteps : Int32} {m_works : Int32} {m_refusedSteps : Int32} {m_begun : Int32} {m_done : Int32} {m_refusedNow : Int32} {m_now : Nat → Int32} {m_past : Nat → Int32} {m_newBook : Nat → Int32} {m_book : Nat → Int32} {m_written : Int32} {m_mostBy : Nat → Int32} {m_stuffing : Nat → Int32} {m_stuffedMany : Int32} {m_lastBy : Nat → Int32} {m_leftBy : Nat → Int32} {m_splitBy : Nat → Int64} {m_seedNow : Int32} {m_image : Nat → Int32} {m_images : Int32} {n1 : Int32} {n2 : Int32} {o_m_s : Nat → Int32} {k13 : Int32 → Int32 → (Nat → Int32) → Option ((Nat → Int32))} (C : Cx J Z cX10_runsOut 5 RX10 none rm_X10_runsOut) (E : Ez J Z 0 0 none (cs_X10 J.2.2.1 a0 m_thrown m_refused m_taped m_size m_at m_bad m_badKind m_opens m_faultAt m_tape m_newBed m_newLetter m_newReader m_bed m_letter m_reader m_newBeds m_newLetters m_newReaders m_beds m_letters m_readers m_newCode m_newOf m_code m_ofCode m_stack m_newCodes m_codes m_facts m_newStep m_step m_newSteps m_works m_refusedSteps m_begun m_done m_refusedNow m_now o_m_s m_past m_newBook m_book m_written m_mostBy m_stuffing m_stuffedMany m_lastBy m_leftBy m_splitBy m_seedNow m_image m_images)) (hk13 : ∀ (x3 : Int32) (x4 : Int32) (m_s : Nat → Int32), k13 x3 x4 m_s = some o_m_s → G J Z 0 0 (cs_X10 J.2.2.1 a0 m_thrown m_refused m_taped m_size m_at m_bad m_badKind m_opens m_faultAt m_tape m_newBed m_newLetter m_newReader m_bed m_letter m_reader m_newBeds m_newLetters m_newReaders m_beds m_letters m_readers m_newCode m_newOf m_code m_ofCode m_stack m_newCodes m_codes m_facts m_newStep m_step m_newSteps m_works m_refusedSteps m_begun m_done m_refusedNow m_now m_s m_past m_newBook m_book m_written m_mostBy m_stuffing m_stuffedMany m_lastBy m_leftBy m_splitBy m_seedNow m_image m_images) 5 [(0, .ref (a0 0)), (1, .int n1), (2, .int n2), (3, .int x3), (4, .int x4)] 13 []) : ∀ (x3 : Int32) (x4 : Int32) (m_s : Nat → Int32), f_X10_runsOut_89 m_letter n1 n2 k13 x3 x4 m_s = some o_m_s → G J Z 0 0 (cs_X10 J.2.2.1 a0 m_thrown m_refused m_taped m_size m_at m_bad m_badKind m_opens m_faultAt m_tape m_newBed m_newLetter m_newReader m_bed m_letter m_reader m_newBeds m_newLetters m_newReaders m_beds m_letters m_readers m_newCode m_newOf m_code m_ofCode m_stack m_newCodes m_codes m_facts m_newStep m_step m_newSteps m_works m_refusedSteps m_begun m_done m_refusedNow m_now m_s m_past m_newBook m_book m_written m_mostBy m_stuffing m_stuffedMany m_lastBy m_leftBy m_splitBy m_seedNow m_image m_images) 5 [(0, .ref (a0 0)), (1, .int n1), (2, .int n2), (3, .int x3), (4, .int x4)] 89 [] := by
  intro x3 x4 m_s h
  unfold f_X10_runsOut_89 at h
  refine g_aload_n (pc := 89) C 0 rfl dX10_runsOut_89 ?_
  refine g_get (pc := 90) C FOK_X10 0 rfl rfl 39 (by decide) kw_1316 rfl dX10_runsOut_90 ?_
  refine g_iconst (pc := 93) C dX10_runsOut_93 ci_0 ?_
  refine g_iload_n (pc := 94) C 1 rfl dX10_runsOut_94 ?_
  refine g_iadd (pc := 95) C dX10_runsOut_95 ?_
  refine g_dup2 (pc := 96) C dX10_runsOut_96 rfl rfl ?_
  obtain ⟨hi, h⟩ := ix_of h
  refine g_iald (pc := 97) C 18 rfl hi dX10_runsOut_97 ?_
  refine g_iconst (pc := 98) C dX10_runsOut_98 ci_1 ?_
  refine g_iadd (pc := 99) C dX10_runsOut_99 ?_
  obtain ⟨hi, h⟩ := ix_of h
  refine g_iast (pc := 100) C (w' := cs_X10 J.2.2.1 a0 m_thrown m_refused m_taped m_size m_at m_bad m_badKind m_opens m_faultAt m_tape m_newBed m_newLetter m_newReader m_bed m_letter m_reader m_newBeds m_newLetters m_newReaders m_beds m_letters m_readers m_newCode m_newOf m_code m_ofCode m_stack m_newCodes m_codes m_facts m_newStep m_step m_newSteps m_works m_refusedSteps m_begun m_done m_refusedNow m_now (upd m_s (0 + n1).toNatClampNeg ((m_s (0 + n1).toNatClampNeg) + 1)) m_past m_newBook m_book m_written m_mostBy m_stuffing m_stuffedMany m_lastBy m_leftBy m_splitBy m_seedNow m_image m_images) 18 rfl hi dX10_runsOut_100 rfl ?_
  refine g_iinc (pc := 101) C (j := 4) [(4, .int (x4 + 1)), (0, .ref (a0 0)), (1, .int n1), (2, .int n2), (3, .int x3)] dX10_runsOut_101 rfl (ii_1 _) (by decide) rfl ?_
  refine g_goto (pc := 104) C (tgt := 13) dX10_runsOut_104 rfl ?_
  refine g_lv [1, 2, 3, 4, 0] rfl ?_
  exact hk13 x3 (x4 + 1) (upd m_s (0 + n1).toNatClampNeg ((m_s (0 + n1).toNatClampNeg) + 1)) h
set_option maxRecDepth 100000 in
set_option maxHeartbeats 4000000 in
theorem j_X10_runsOut_13 {J : Jt} {Z : Zt} {a0 : Nat → Nat} {m_thrown : Int32} {m_refused : Nat → Int32} {m_taped : Int32} {m_size : Int32} {m_at : Int32} {m_bad : Int32} {m_badKind : Int32} {m_opens : Int32} {m_faultAt : Int32} {m_tape : Nat → Int32} {m_newBed : Nat → Int32} {m_newLetter : Nat → Int32} {m_newReader : Nat → Int32} {m_bed : Nat → Int32} {m_letter : Nat → Int32} {m_reader : Nat → Int32} {m_newBeds : Int32} {m_newLetters : Int32} {m_newReaders : Int32} {m_beds : Int32} {m_letters : Int32} {m_readers : Int32} {m_newCode : Nat → Int32} {m_newOf : Nat → Int32} {m_code : Nat → Int32} {m_ofCode : Nat → Int32} {m_stack : Nat → Int32} {m_newCodes : Int32} {m_codes : Int32} {m_facts : Nat → Int32} {m_newStep : Nat → Int32} {m_step : Nat → Int32} {m_newSteps : Int32} {m_works : Int32} {m_refusedSteps : Int32} {m_begun : Int32} {m_done : Int32} {m_refusedNow : Int32} {m_now : Nat → Int32} {m_past : Nat → Int32} {m_newBook : Nat → Int32} {m_book : Nat → Int32} {m_written : Int32} {m_mostBy : Nat → Int32} {m_stuffing : Nat → Int32} {m_stuffedMany : Int32} {m_lastBy : Nat → Int32} {m_leftBy : Nat → Int32} {m_splitBy : Nat → Int64} {m_seedNow : Int32} {m_image : Nat → Int32} {m_images : Int32} {n1 : Int32} {n2 : Int32} {o_m_s : Nat → Int32} (C : Cx J Z cX10_runsOut 5 RX10 none rm_X10_runsOut) (E : Ez J Z 0 0 none (cs_X10 J.2.2.1 a0 m_thrown m_refused m_taped m_size m_at m_bad m_badKind m_opens m_faultAt m_tape m_newBed m_newLetter m_newReader m_bed m_letter m_reader m_newBeds m_newLetters m_newReaders m_beds m_letters m_readers m_newCode m_newOf m_code m_ofCode m_stack m_newCodes m_codes m_facts m_newStep m_step m_newSteps m_works m_refusedSteps m_begun m_done m_refusedNow m_now o_m_s m_past m_newBook m_book m_written m_mostBy m_stuffing m_stuffedMany m_lastBy m_leftBy m_splitBy m_seedNow m_image m_images)) : ∀ (n : Nat) (x3 : Int32) (x4 : Int32) (m_s : Nat → Int32), f_X10_runsOut_13 m_letter n1 n2 n x3 x4 m_s = some o_m_s → G J Z 0 0 (cs_X10 J.2.2.1 a0 m_thrown m_refused m_taped m_size m_at m_bad m_badKind m_opens m_faultAt m_tape m_newBed m_newLetter m_newReader m_bed m_letter m_reader m_newBeds m_newLetters m_newReaders m_beds m_letters m_readers m_newCode m_newOf m_code m_ofCode m_stack m_newCodes m_codes m_facts m_newStep m_step m_newSteps m_works m_refusedSteps m_begun m_done m_refusedNow m_now m_s m_past m_newBook m_book m_written m_mostBy m_stuffing m_stuffedMany m_lastBy m_leftBy m_splitBy m_seedNow m_image m_images) 5 [(0, .ref (a0 0)), (1, .int n1), (2, .int n2), (3, .int x3), (4, .int x4)] 13 [] := by
  intro n
  induction n with
  | zero =>
    intro x3 x4 m_s h
    rw [f_X10_runsOut_13] at h
    cases h
  | succ n ih =>
    intro x3 x4 m_s h
    rw [f_X10_runsOut_13] at h
    refine g_iload (pc := 13) C 4 rfl dX10_runsOut_13 ?_
    refine g_iload_n (pc := 15) C 2 rfl dX10_runsOut_15 ?_
    refine g_icmp_ge (pc := 16) C (tgt := 107) dX10_runsOut_16 rfl h (fun h => ?_) (fun h => ?_)
    · cases h
      exact g_vret C E dX10_runsOut_107
    · refine g_aload_n (pc := 19) C 0 rfl dX10_runsOut_19 ?_
      refine g_get (pc := 20) C FOK_X10 0 rfl rfl 39 (by decide) kw_1316 rfl dX10_runsOut_20 ?_
      refine g_bipush (pc := 23) C dX10_runsOut_23 cb_84 ?_
      refine g_iload_n (pc := 25) C 3 rfl dX10_runsOut_25 ?_
      refine g_iadd (pc := 26) C dX10_runsOut_26 ?_
      obtain ⟨hi, h⟩ := ix_of h
      refine g_iald (pc := 27) C 18 rfl hi dX10_runsOut_27 ?_
      refine g_bipush (pc := 28) C dX10_runsOut_28 cb_12 ?_
      refine g_icmp_ne (pc := 30) C (tgt := 48) dX10_runsOut_30 rfl h (fun h => ?_) (fun h => ?_)
      · refine g_aload_n (pc := 48) C 0 rfl dX10_runsOut_48 ?_
        refine g_get (pc := 49) C FOK_X10 0 rfl rfl 39 (by decide) kw_1316 rfl dX10_runsOut_49 ?_
        refine g_bipush (pc := 52) C dX10_runsOut_52 cb_12 ?_
        refine g_bipush (pc := 54) C dX10_runsOut_54 cb_12 ?_
        refine g_iload_n (pc := 56) C 3 rfl dX10_runsOut_56 ?_
        refine g_imul (pc := 57) C dX10_runsOut_57 ?_
        refine g_iadd (pc := 58) C dX10_runsOut_58 ?_
        refine g_aload_n (pc := 59) C 0 rfl dX10_runsOut_59 ?_
        refine g_get (pc := 60) C FOK_X10 0 rfl rfl 39 (by decide) kw_1316 rfl dX10_runsOut_60 ?_
        refine g_bipush (pc := 63) C dX10_runsOut_63 cb_84 ?_
        refine g_iload_n (pc := 65) C 3 rfl dX10_runsOut_65 ?_
        refine g_iadd (pc := 66) C dX10_runsOut_66 ?_
        obtain ⟨hi, h⟩ := ix_of h
        refine g_iald (pc := 67) C 18 rfl hi dX10_runsOut_67 ?_
        refine g_iadd (pc := 68) C dX10_runsOut_68 ?_
        refine g_aload_n (pc := 69) C 0 rfl dX10_runsOut_69 ?_
        refine g_iload_n (pc := 70) C 1 rfl dX10_runsOut_70 ?_
        refine g_iconst (pc := 71) C dX10_runsOut_71 ci_0 ?_
        obtain ⟨v1, hc, h⟩ := b1_of h
        refine g_callV (pc := 72) C (w' := cs_X10 J.2.2.1 a0 m_thrown m_refused m_taped m_size m_at m_bad m_badKind m_opens m_faultAt m_tape m_newBed m_newLetter m_newReader m_bed m_letter m_reader m_newBeds m_newLetters m_newReaders m_beds m_letters m_readers m_newCode m_newOf m_code m_ofCode m_stack m_newCodes m_codes m_facts m_newStep m_step m_newSteps m_works m_refusedSteps m_begun m_done m_refusedNow m_now m_s m_past m_newBook m_book m_written m_mostBy m_stuffing m_stuffedMany m_lastBy m_leftBy m_splitBy m_seedNow m_image m_images) (As := [.int n1, .int 0]) (st := [.int ((12 + (12 * x3)) + (m_s (84 + x3).toNatClampNeg)), .ref (a0 18)]) (ci := 10) (q0 := 0) rfl rfl (t_X10_wordOf (a0 := a0) hc) Sub.same kw_1623 kw_1625 kw_53 kw_95 hy_X10_wordOf kw_1626 rfl (Nat.le_of_ble_eq_true rfl) (Nat.le_of_ble_eq_true rfl) (Nat.le_of_ble_eq_true rfl) (Nat.le_of_ble_eq_true rfl) (Nat.le_of_ble_eq_true rfl) dX10_runsOut_72 ?_
        obtain ⟨hi, h⟩ := ix_of h
        refine g_iast (pc := 75) C (w' := cs_X10 J.2.2.1 a0 m_thrown m_refused m_taped m_size m_at m_bad m_badKind m_opens m_faultAt m_tape m_newBed m_newLetter m_newReader m_bed m_letter m_reader m_newBeds m_newLetters m_newReaders m_beds m_letters m_readers m_newCode m_newOf m_code m_ofCode m_stack m_newCodes m_codes m_facts m_newStep m_step m_newSteps m_works m_refusedSteps m_begun m_done m_refusedNow m_now (upd m_s ((12 + (12 * x3)) + (m_s (84 + x3).toNatClampNeg)).toNatClampNeg v1) m_past m_newBook m_book m_written m_mostBy m_stuffing m_stuffedMany m_lastBy m_leftBy m_splitBy m_seedNow m_image m_images) 18 rfl hi dX10_runsOut_75 rfl ?_
        refine g_aload_n (pc := 76) C 0 rfl dX10_runsOut_76 ?_
        refine g_get (pc := 77) C FOK_X10 0 rfl rfl 39 (by decide) kw_1316 rfl dX10_runsOut_77 ?_
        refine g_bipush (pc := 80) C dX10_runsOut_80 cb_84 ?_
        refine g_iload_n (pc := 82) C 3 rfl dX10_runsOut_82 ?_
        refine g_iadd (pc := 83) C dX10_runsOut_83 ?_
        refine g_dup2 (pc := 84) C dX10_runsOut_84 rfl rfl ?_
        obtain ⟨hi, h⟩ := ix_of h
        refine g_iald (pc := 85) C 18 rfl hi dX10_runsOut_85 ?_
        refine g_iconst (pc := 86) C dX10_runsOut_86 ci_1 ?_
        refine g_iadd (pc := 87) C dX10_runsOut_87 ?_
        obtain ⟨hi, h⟩ := ix_of h
        refine g_iast (pc := 88) C (w' := cs_X10 J.2.2.1 a0 m_thrown m_refused m_taped m_size m_at m_bad m_badKind m_opens m_faultAt m_tape m_newBed m_newLetter m_newReader m_bed m_letter m_reader m_newBeds m_newLetters m_newReaders m_beds m_letters m_readers m_newCode m_newOf m_code m_ofCode m_stack m_newCodes m_codes m_facts m_newStep m_step m_newSteps m_works m_refusedSteps m_begun m_done m_refusedNow m_now (upd (upd m_s ((12 + (12 * x3)) + (m_s (84 + x3).toNatClampNeg)).toNatClampNeg v1) (84 + x3).toNatClampNeg (((upd m_s ((12 + (12 * x3)) + (m_s (84 + x3).toNatClampNeg)).toNatClampNeg v1) (84 + x3).toNatClampNeg) + 1)) m_past m_newBook m_book m_written m_mostBy m_stuffing m_stuffedMany m_lastBy m_leftBy m_splitBy m_seedNow m_image m_images) 18 rfl hi dX10_runsOut_88 rfl ?_
        exact j_X10_runsOut_89 C E   ih x3 x4 (upd (upd m_s ((12 + (12 * x3)) + (m_s (84 + x3).toNatClampNeg)).toNatClampNeg v1) (84 + x3).toNatClampNeg (((upd m_s ((12 + (12 * x3)) + (m_s (84 + x3).toNatClampNeg)).toNatClampNeg v1) (84 + x3).toNatClampNeg) + 1)) h
      · refine g_aload_n (pc := 33) C 0 rfl dX10_runsOut_33 ?_
        refine g_get (pc := 34) C FOK_X10 0 rfl rfl 39 (by decide) kw_1316 rfl dX10_runsOut_34 ?_
        refine g_sipush (pc := 37) C dX10_runsOut_37 cs_162 ?_
        refine g_dup2 (pc := 40) C dX10_runsOut_40 rfl rfl ?_
        obtain ⟨hi, h⟩ := ix_of h
        refine g_iald (pc := 41) C 18 rfl hi dX10_runsOut_41 ?_
        refine g_iconst (pc := 42) C dX10_runsOut_42 ci_1 ?_
        refine g_iadd (pc := 43) C dX10_runsOut_43 ?_
        obtain ⟨hi, h⟩ := ix_of h
        refine g_iast (pc := 44) C (w' := cs_X10 J.2.2.1 a0 m_thrown m_refused m_taped m_size m_at m_bad m_badKind m_opens m_faultAt m_tape m_newBed m_newLetter m_newReader m_bed m_letter m_reader m_newBeds m_newLetters m_newReaders m_beds m_letters m_readers m_newCode m_newOf m_code m_ofCode m_stack m_newCodes m_codes m_facts m_newStep m_step m_newSteps m_works m_refusedSteps m_begun m_done m_refusedNow m_now (upd m_s (162 : Int32).toNatClampNeg ((m_s (162 : Int32).toNatClampNeg) + 1)) m_past m_newBook m_book m_written m_mostBy m_stuffing m_stuffedMany m_lastBy m_leftBy m_splitBy m_seedNow m_image m_images) 18 rfl hi dX10_runsOut_44 rfl ?_
        refine g_goto (pc := 45) C (tgt := 89) dX10_runsOut_45 rfl ?_
        exact j_X10_runsOut_89 C E   ih x3 x4 (upd m_s (162 : Int32).toNatClampNeg ((m_s (162 : Int32).toNatClampNeg) + 1)) h
set_option maxRecDepth 100000 in
set_option maxHeartbeats 4000000 in
theorem t_X10_runsOut {J : Jt} {a0 : Nat → Nat} {m_thrown : Int32} {m_refused : Nat → Int32} {m_taped : Int32} {m_size : Int32} {m_at : Int32} {m_bad : Int32} {m_badKind : Int32} {m_opens : Int32} {m_faultAt : Int32} {m_tape : Nat → Int32} {m_newBed : Nat → Int32} {m_newLetter : Nat → Int32} {m_newReader : Nat → Int32} {m_bed : Nat → Int32} {m_letter : Nat → Int32} {m_reader : Nat → Int32} {m_newBeds : Int32} {m_newLetters : Int32} {m_newReaders : Int32} {m_beds : Int32} {m_letters : Int32} {m_readers : Int32} {m_newCode : Nat → Int32} {m_newOf : Nat → Int32} {m_code : Nat → Int32} {m_ofCode : Nat → Int32} {m_stack : Nat → Int32} {m_newCodes : Int32} {m_codes : Int32} {m_facts : Nat → Int32} {m_newStep : Nat → Int32} {m_step : Nat → Int32} {m_newSteps : Int32} {m_works : Int32} {m_refusedSteps : Int32} {m_begun : Int32} {m_done : Int32} {m_refusedNow : Int32} {m_now : Nat → Int32} {m_s : Nat → Int32} {m_past : Nat → Int32} {m_newBook : Nat → Int32} {m_book : Nat → Int32} {m_written : Int32} {m_mostBy : Nat → Int32} {m_stuffing : Nat → Int32} {m_stuffedMany : Int32} {m_lastBy : Nat → Int32} {m_leftBy : Nat → Int32} {m_splitBy : Nat → Int64} {m_seedNow : Int32} {m_image : Nat → Int32} {m_images : Int32} {n1 : Int32} {n2 : Int32} {o_m_s : Nat → Int32} (h : f_X10_runsOut m_letter m_s n1 n2 = some o_m_s) : Mt J yX10_runsOut cX10_runsOut 5 none rm_X10_runsOut [.ref (a0 0), .int n1, .int n2] (cs_X10 J.2.2.1 a0 m_thrown m_refused m_taped m_size m_at m_bad m_badKind m_opens m_faultAt m_tape m_newBed m_newLetter m_newReader m_bed m_letter m_reader m_newBeds m_newLetters m_newReaders m_beds m_letters m_readers m_newCode m_newOf m_code m_ofCode m_stack m_newCodes m_codes m_facts m_newStep m_step m_newSteps m_works m_refusedSteps m_begun m_done m_refusedNow m_now m_s m_past m_newBook m_book m_written m_mostBy m_stuffing m_stuffedMany m_lastBy m_leftBy m_splitBy m_seedNow m_image m_images) none (cs_X10 J.2.2.1 a0 m_thrown m_refused m_taped m_size m_at m_bad m_badKind m_opens m_faultAt m_tape m_newBed m_newLetter m_newReader m_bed m_letter m_reader m_newBeds m_newLetters m_newReaders m_beds m_letters m_readers m_newCode m_newOf m_code m_ofCode m_stack m_newCodes m_codes m_facts m_newStep m_step m_newSteps m_works m_refusedSteps m_begun m_done m_refusedNow m_now o_m_s m_past m_newBook m_book m_written m_mostBy m_stuffing m_stuffedMany m_lastBy m_leftBy m_splitBy m_seedNow m_image m_images) := by
  refine Mt_of (own := RX10) (by decide) rfl (Nat.le_of_ble_eq_true rfl) rfl (fun Z C E => ?_)
  unfold f_X10_runsOut at h
  show G J Z 0 0 (cs_X10 J.2.2.1 a0 m_thrown m_refused m_taped m_size m_at m_bad m_badKind m_opens m_faultAt m_tape m_newBed m_newLetter m_newReader m_bed m_letter m_reader m_newBeds m_newLetters m_newReaders m_beds m_letters m_readers m_newCode m_newOf m_code m_ofCode m_stack m_newCodes m_codes m_facts m_newStep m_step m_newSteps m_works m_refusedSteps m_begun m_done m_refusedNow m_now m_s m_past m_newBook m_book m_written m_mostBy m_stuffing m_stuffedMany m_lastBy m_leftBy m_splitBy m_seedNow m_image m_images) 5 [(0, .ref (a0 0)), (1, .int n1), (2, .int n2)] 0 []
  refine g_aload_n (pc := 0) C 0 rfl dX10_runsOut_0 ?_
  refine g_get (pc := 1) C FOK_X10 0 rfl rfl 14 (by decide) kw_1291 rfl dX10_runsOut_1 ?_
  refine g_bipush (pc := 4) C dX10_runsOut_4 cb_10 ?_
  refine g_iload_n (pc := 6) C 1 rfl dX10_runsOut_6 ?_
  refine g_imul (pc := 7) C dX10_runsOut_7 ?_
  obtain ⟨hi, h⟩ := ix_of h
  refine g_iald (pc := 8) C 7 rfl hi dX10_runsOut_8 ?_
  refine g_istore_n (pc := 9) C [(3, .int (m_letter (10 * n1).toNatClampNeg)), (0, .ref (a0 0)), (1, .int n1), (2, .int n2)] dX10_runsOut_9 rfl (by decide) rfl ?_
  refine g_iconst (pc := 10) C dX10_runsOut_10 ci_0 ?_
  refine g_istore (pc := 11) C [(4, .int 0), (3, .int (m_letter (10 * n1).toNatClampNeg)), (0, .ref (a0 0)), (1, .int n1), (2, .int n2)] dX10_runsOut_11 (by decide) rfl ?_
  refine g_lv [2, 3, 4, 1, 0] rfl ?_
  exact j_X10_runsOut_13 C E    FU (m_letter (10 * n1).toNatClampNeg) 0 m_s h
noncomputable def f_X10_pours_25  (m_bed : Nat → Int32) (m_letter : Nat → Int32) (m_letters : Int32) (m_code : Nat → Int32) (m_ofCode : Nat → Int32) (m_codes : Int32) (n1 : Int32) : Nat → Int32 → (Nat → Int32) → (Nat → Int32) → (Nat → Int32) → Option ((Nat → Int32) × (Nat → Int32) × (Nat → Int32))
  | 0, _, _, _, _ => none
  | n + 1, x2, m_stack, m_facts, m_s => if m_letters ≤ x2 then some (m_stack, m_facts, m_s) else if ixb (6 + x2) 165 then if (m_s (6 + x2).toNatClampNeg) = 0 then if ixb 161 165 then b3 (f_X10_runBy m_bed m_letter m_code m_ofCode m_stack m_codes m_facts m_s x2 n1 (m_s (161 : Int32).toNatClampNeg)) (fun v1 c2 c3 => b1 (f_X10_runsOut m_letter m_s x2 v1) (fun c4 => f_X10_pours_25 m_bed m_letter m_letters m_code m_ofCode m_codes n1 n (x2 + 1) c2 c3 c4)) else none else f_X10_pours_25 m_bed m_letter m_letters m_code m_ofCode m_codes n1 n (x2 + 1) m_stack m_facts m_s else none
noncomputable def f_X10_pours (m_bed : Nat → Int32) (m_letter : Nat → Int32) (m_letters : Int32) (m_code : Nat → Int32) (m_ofCode : Nat → Int32) (m_stack : Nat → Int32) (m_codes : Int32) (m_facts : Nat → Int32) (m_s : Nat → Int32) (n1 : Int32) : Option ((Nat → Int32) × (Nat → Int32) × (Nat → Int32)) := if ixb 161 165 then b1 (f_X10_held ((m_s (161 : Int32).toNatClampNeg) + n1) 99) (fun v5 => if ixb 161 165 then f_X10_pours_25 m_bed m_letter m_letters m_code m_ofCode m_codes n1 FU 0 m_stack m_facts (upd m_s (161 : Int32).toNatClampNeg v5) else none) else none
def rm_X10_pours : Room := { frames := 5, cells := 0, slots := 0, locals := 117 }
set_option maxRecDepth 100000 in
set_option maxHeartbeats 4000000 in
theorem j_X10_pours_25 {J : Jt} {Z : Zt} {a0 : Nat → Nat} {m_thrown : Int32} {m_refused : Nat → Int32} {m_taped : Int32} {m_size : Int32} {m_at : Int32} {m_bad : Int32} {m_badKind : Int32} {m_opens : Int32} {m_faultAt : Int32} {m_tape : Nat → Int32} {m_newBed : Nat → Int32} {m_newLetter : Nat → Int32} {m_newReader : Nat → Int32} {m_bed : Nat → Int32} {m_letter : Nat → Int32} {m_reader : Nat → Int32} {m_newBeds : Int32} {m_newLetters : Int32} {m_newReaders : Int32} {m_beds : Int32} {m_letters : Int32} {m_readers : Int32} {m_newCode : Nat → Int32} {m_newOf : Nat → Int32} {m_code : Nat → Int32} {m_ofCode : Nat → Int32} {m_newCodes : Int32} {m_codes : Int32} {m_newStep : Nat → Int32} {m_step : Nat → Int32} {m_newSteps : Int32} {m_works : Int32} {m_refusedSteps : Int32} {m_begun : Int32} {m_done : Int32} {m_refusedNow : Int32} {m_now : Nat → Int32} {m_past : Nat → Int32} {m_newBook : Nat → Int32} {m_book : Nat → Int32} {m_written : Int32} {m_mostBy : Nat → Int32} {m_stuffing : Nat → Int32} {m_stuffedMany : Int32} {m_lastBy : Nat → Int32} {m_leftBy : Nat → Int32} {m_splitBy : Nat → Int64} {m_seedNow : Int32} {m_image : Nat → Int32} {m_images : Int32} {n1 : Int32} {o_m_stack : Nat → Int32} {o_m_facts : Nat → Int32} {o_m_s : Nat → Int32} (C : Cx J Z cX10_pours 3 RX10 none rm_X10_pours) (E : Ez J Z 0 0 none (cs_X10 J.2.2.1 a0 m_thrown m_refused m_taped m_size m_at m_bad m_badKind m_opens m_faultAt m_tape m_newBed m_newLetter m_newReader m_bed m_letter m_reader m_newBeds m_newLetters m_newReaders m_beds m_letters m_readers m_newCode m_newOf m_code m_ofCode o_m_stack m_newCodes m_codes o_m_facts m_newStep m_step m_newSteps m_works m_refusedSteps m_begun m_done m_refusedNow m_now o_m_s m_past m_newBook m_book m_written m_mostBy m_stuffing m_stuffedMany m_lastBy m_leftBy m_splitBy m_seedNow m_image m_images)) : ∀ (n : Nat) (x2 : Int32) (m_stack : Nat → Int32) (m_facts : Nat → Int32) (m_s : Nat → Int32), f_X10_pours_25 m_bed m_letter m_letters m_code m_ofCode m_codes n1 n x2 m_stack m_facts m_s = some (o_m_stack, o_m_facts, o_m_s) → G J Z 0 0 (cs_X10 J.2.2.1 a0 m_thrown m_refused m_taped m_size m_at m_bad m_badKind m_opens m_faultAt m_tape m_newBed m_newLetter m_newReader m_bed m_letter m_reader m_newBeds m_newLetters m_newReaders m_beds m_letters m_readers m_newCode m_newOf m_code m_ofCode m_stack m_newCodes m_codes m_facts m_newStep m_step m_newSteps m_works m_refusedSteps m_begun m_done m_refusedNow m_now m_s m_past m_newBook m_book m_written m_mostBy m_stuffing m_stuffedMany m_lastBy m_leftBy m_splitBy m_seedNow m_image m_images) 3 [(0, .ref (a0 0)), (1, .int n1), (2, .int x2)] 25 [] := by
  intro n
  induction n with
  | zero =>
    intro x2 m_stack m_facts m_s h
    rw [f_X10_pours_25] at h
    cases h
  | succ n ih =>
    intro x2 m_stack m_facts m_s h
    rw [f_X10_pours_25] at h
    refine g_iload_n (pc := 25) C 2 rfl dX10_pours_25 ?_
    refine g_aload_n (pc := 26) C 0 rfl dX10_pours_26 ?_
    refine g_get (pc := 27) C FOK_X10 0 rfl rfl 20 (by decide) kw_1297 rfl dX10_pours_27 ?_
    refine g_icmp_ge (pc := 30) C (tgt := 70) dX10_pours_30 rfl h (fun h => ?_) (fun h => ?_)
    · cases h
      exact g_vret C E dX10_pours_70
    · refine g_aload_n (pc := 33) C 0 rfl dX10_pours_33 ?_
      refine g_get (pc := 34) C FOK_X10 0 rfl rfl 39 (by decide) kw_1316 rfl dX10_pours_34 ?_
      refine g_bipush (pc := 37) C dX10_pours_37 cb_6 ?_
      refine g_iload_n (pc := 39) C 2 rfl dX10_pours_39 ?_
      refine g_iadd (pc := 40) C dX10_pours_40 ?_
      obtain ⟨hi, h⟩ := ix_of h
      refine g_iald (pc := 41) C 18 rfl hi dX10_pours_41 ?_
      refine g_if_ne (pc := 42) C (tgt := 64) dX10_pours_42 rfl h (fun h => ?_) (fun h => ?_)
      · refine g_iinc (pc := 64) C (j := 2) [(2, .int (x2 + 1)), (0, .ref (a0 0)), (1, .int n1)] dX10_pours_64 rfl (ii_1 _) (by decide) rfl ?_
        refine g_goto (pc := 67) C (tgt := 25) dX10_pours_67 rfl ?_
        refine g_lv [1, 2, 0] rfl ?_
        exact ih (x2 + 1) m_stack m_facts m_s h
      · refine g_aload_n (pc := 45) C 0 rfl dX10_pours_45 ?_
        refine g_iload_n (pc := 46) C 2 rfl dX10_pours_46 ?_
        refine g_aload_n (pc := 47) C 0 rfl dX10_pours_47 ?_
        refine g_iload_n (pc := 48) C 2 rfl dX10_pours_48 ?_
        refine g_iload_n (pc := 49) C 1 rfl dX10_pours_49 ?_
        refine g_aload_n (pc := 50) C 0 rfl dX10_pours_50 ?_
        refine g_get (pc := 51) C FOK_X10 0 rfl rfl 39 (by decide) kw_1316 rfl dX10_pours_51 ?_
        refine g_sipush (pc := 54) C dX10_pours_54 cs_161 ?_
        obtain ⟨hi, h⟩ := ix_of h
        refine g_iald (pc := 57) C 18 rfl hi dX10_pours_57 ?_
        obtain ⟨v1, c2, c3, hc, h⟩ := b3_of h
        refine g_callV (pc := 58) C (w' := cs_X10 J.2.2.1 a0 m_thrown m_refused m_taped m_size m_at m_bad m_badKind m_opens m_faultAt m_tape m_newBed m_newLetter m_newReader m_bed m_letter m_reader m_newBeds m_newLetters m_newReaders m_beds m_letters m_readers m_newCode m_newOf m_code m_ofCode c2 m_newCodes m_codes c3 m_newStep m_step m_newSteps m_works m_refusedSteps m_begun m_done m_refusedNow m_now m_s m_past m_newBook m_book m_written m_mostBy m_stuffing m_stuffedMany m_lastBy m_leftBy m_splitBy m_seedNow m_image m_images) (As := [.int x2, .int n1, .int (m_s (161 : Int32).toNatClampNeg)]) (st := [.int x2, .ref (a0 0)]) (ci := 10) (q0 := 0) rfl rfl (t_X10_runBy (a0 := a0) hc) Sub.same kw_1646 kw_1648 kw_58 kw_95 hy_X10_runBy kw_1649 rfl (Nat.le_of_ble_eq_true rfl) (Nat.le_of_ble_eq_true rfl) (Nat.le_of_ble_eq_true rfl) (Nat.le_of_ble_eq_true rfl) (Nat.le_of_ble_eq_true rfl) dX10_pours_58 ?_
        obtain ⟨c4, hc, h⟩ := b1_of h
        refine g_callV (pc := 61) C (w' := cs_X10 J.2.2.1 a0 m_thrown m_refused m_taped m_size m_at m_bad m_badKind m_opens m_faultAt m_tape m_newBed m_newLetter m_newReader m_bed m_letter m_reader m_newBeds m_newLetters m_newReaders m_beds m_letters m_readers m_newCode m_newOf m_code m_ofCode c2 m_newCodes m_codes c3 m_newStep m_step m_newSteps m_works m_refusedSteps m_begun m_done m_refusedNow m_now c4 m_past m_newBook m_book m_written m_mostBy m_stuffing m_stuffedMany m_lastBy m_leftBy m_splitBy m_seedNow m_image m_images) (As := [.int x2, .int v1]) (st := []) (ci := 10) (q0 := 0) rfl rfl (t_X10_runsOut (a0 := a0) hc) Sub.same kw_1665 kw_1667 kw_62 kw_95 hy_X10_runsOut kw_1668 rfl (Nat.le_of_ble_eq_true rfl) (Nat.le_of_ble_eq_true rfl) (Nat.le_of_ble_eq_true rfl) (Nat.le_of_ble_eq_true rfl) (Nat.le_of_ble_eq_true rfl) dX10_pours_61 ?_
        refine g_iinc (pc := 64) C (j := 2) [(2, .int (x2 + 1)), (0, .ref (a0 0)), (1, .int n1)] dX10_pours_64 rfl (ii_1 _) (by decide) rfl ?_
        refine g_goto (pc := 67) C (tgt := 25) dX10_pours_67 rfl ?_
        refine g_lv [1, 2, 0] rfl ?_
        exact ih (x2 + 1) c2 c3 c4 h
set_option maxRecDepth 100000 in
set_option maxHeartbeats 4000000 in
theorem t_X10_pours {J : Jt} {a0 : Nat → Nat} {m_thrown : Int32} {m_refused : Nat → Int32} {m_taped : Int32} {m_size : Int32} {m_at : Int32} {m_bad : Int32} {m_badKind : Int32} {m_opens : Int32} {m_faultAt : Int32} {m_tape : Nat → Int32} {m_newBed : Nat → Int32} {m_newLetter : Nat → Int32} {m_newReader : Nat → Int32} {m_bed : Nat → Int32} {m_letter : Nat → Int32} {m_reader : Nat → Int32} {m_newBeds : Int32} {m_newLetters : Int32} {m_newReaders : Int32} {m_beds : Int32} {m_letters : Int32} {m_readers : Int32} {m_newCode : Nat → Int32} {m_newOf : Nat → Int32} {m_code : Nat → Int32} {m_ofCode : Nat → Int32} {m_stack : Nat → Int32} {m_newCodes : Int32} {m_codes : Int32} {m_facts : Nat → Int32} {m_newStep : Nat → Int32} {m_step : Nat → Int32} {m_newSteps : Int32} {m_works : Int32} {m_refusedSteps : Int32} {m_begun : Int32} {m_done : Int32} {m_refusedNow : Int32} {m_now : Nat → Int32} {m_s : Nat → Int32} {m_past : Nat → Int32} {m_newBook : Nat → Int32} {m_book : Nat → Int32} {m_written : Int32} {m_mostBy : Nat → Int32} {m_stuffing : Nat → Int32} {m_stuffedMany : Int32} {m_lastBy : Nat → Int32} {m_leftBy : Nat → Int32} {m_splitBy : Nat → Int64} {m_seedNow : Int32} {m_image : Nat → Int32} {m_images : Int32} {n1 : Int32} {o_m_stack : Nat → Int32} {o_m_facts : Nat → Int32} {o_m_s : Nat → Int32} (h : f_X10_pours m_bed m_letter m_letters m_code m_ofCode m_stack m_codes m_facts m_s n1 = some (o_m_stack, o_m_facts, o_m_s)) : Mt J yX10_pours cX10_pours 3 none rm_X10_pours [.ref (a0 0), .int n1] (cs_X10 J.2.2.1 a0 m_thrown m_refused m_taped m_size m_at m_bad m_badKind m_opens m_faultAt m_tape m_newBed m_newLetter m_newReader m_bed m_letter m_reader m_newBeds m_newLetters m_newReaders m_beds m_letters m_readers m_newCode m_newOf m_code m_ofCode m_stack m_newCodes m_codes m_facts m_newStep m_step m_newSteps m_works m_refusedSteps m_begun m_done m_refusedNow m_now m_s m_past m_newBook m_book m_written m_mostBy m_stuffing m_stuffedMany m_lastBy m_leftBy m_splitBy m_seedNow m_image m_images) none (cs_X10 J.2.2.1 a0 m_thrown m_refused m_taped m_size m_at m_bad m_badKind m_opens m_faultAt m_tape m_newBed m_newLetter m_newReader m_bed m_letter m_reader m_newBeds m_newLetters m_newReaders m_beds m_letters m_readers m_newCode m_newOf m_code m_ofCode o_m_stack m_newCodes m_codes o_m_facts m_newStep m_step m_newSteps m_works m_refusedSteps m_begun m_done m_refusedNow m_now o_m_s m_past m_newBook m_book m_written m_mostBy m_stuffing m_stuffedMany m_lastBy m_leftBy m_splitBy m_seedNow m_image m_images) := by
  refine Mt_of (own := RX10) (by decide) rfl (Nat.le_of_ble_eq_true rfl) rfl (fun Z C E => ?_)
  unfold f_X10_pours at h
  show G J Z 0 0 (cs_X10 J.2.2.1 a0 m_thrown m_refused m_taped m_size m_at m_bad m_badKind m_opens m_faultAt m_tape m_newBed m_newLetter m_newReader m_bed m_letter m_reader m_newBeds m_newLetters m_newReaders m_beds m_letters m_readers m_newCode m_newOf m_code m_ofCode m_stack m_newCodes m_codes m_facts m_newStep m_step m_newSteps m_works m_refusedSteps m_begun m_done m_refusedNow m_now m_s m_past m_newBook m_book m_written m_mostBy m_stuffing m_stuffedMany m_lastBy m_leftBy m_splitBy m_seedNow m_image m_images) 3 [(0, .ref (a0 0)), (1, .int n1)] 0 []
  refine g_aload_n (pc := 0) C 0 rfl dX10_pours_0 ?_
  refine g_get (pc := 1) C FOK_X10 0 rfl rfl 39 (by decide) kw_1316 rfl dX10_pours_1 ?_
  refine g_sipush (pc := 4) C dX10_pours_4 cs_161 ?_
  refine g_aload_n (pc := 7) C 0 rfl dX10_pours_7 ?_
  refine g_get (pc := 8) C FOK_X10 0 rfl rfl 39 (by decide) kw_1316 rfl dX10_pours_8 ?_
  refine g_sipush (pc := 11) C dX10_pours_11 cs_161 ?_
  obtain ⟨hi, h⟩ := ix_of h
  refine g_iald (pc := 14) C 18 rfl hi dX10_pours_14 ?_
  refine g_iload_n (pc := 15) C 1 rfl dX10_pours_15 ?_
  refine g_iadd (pc := 16) C dX10_pours_16 ?_
  refine g_bipush (pc := 17) C dX10_pours_17 cb_99 ?_
  obtain ⟨v5, hc, h⟩ := b1_of h
  refine g_callS (pc := 19) C (w' := cs_X10 J.2.2.1 a0 m_thrown m_refused m_taped m_size m_at m_bad m_badKind m_opens m_faultAt m_tape m_newBed m_newLetter m_newReader m_bed m_letter m_reader m_newBeds m_newLetters m_newReaders m_beds m_letters m_readers m_newCode m_newOf m_code m_ofCode m_stack m_newCodes m_codes m_facts m_newStep m_step m_newSteps m_works m_refusedSteps m_begun m_done m_refusedNow m_now m_s m_past m_newBook m_book m_written m_mostBy m_stuffing m_stuffedMany m_lastBy m_leftBy m_splitBy m_seedNow m_image m_images) (As := [.int ((m_s (161 : Int32).toNatClampNeg) + n1), .int 99]) (st := [.int 161, .ref (a0 18)]) (t_X10_held hc) Sub.nil kw_1643 kw_1644 kw_95 hy_X10_held kw_1645 rfl (Nat.le_of_ble_eq_true rfl) (Nat.le_of_ble_eq_true rfl) (Nat.le_of_ble_eq_true rfl) (Nat.le_of_ble_eq_true rfl) (Nat.le_of_ble_eq_true rfl) dX10_pours_19 ?_
  obtain ⟨hi, h⟩ := ix_of h
  refine g_iast (pc := 22) C (w' := cs_X10 J.2.2.1 a0 m_thrown m_refused m_taped m_size m_at m_bad m_badKind m_opens m_faultAt m_tape m_newBed m_newLetter m_newReader m_bed m_letter m_reader m_newBeds m_newLetters m_newReaders m_beds m_letters m_readers m_newCode m_newOf m_code m_ofCode m_stack m_newCodes m_codes m_facts m_newStep m_step m_newSteps m_works m_refusedSteps m_begun m_done m_refusedNow m_now (upd m_s (161 : Int32).toNatClampNeg v5) m_past m_newBook m_book m_written m_mostBy m_stuffing m_stuffedMany m_lastBy m_leftBy m_splitBy m_seedNow m_image m_images) 18 rfl hi dX10_pours_22 rfl ?_
  refine g_iconst (pc := 23) C dX10_pours_23 ci_0 ?_
  refine g_istore_n (pc := 24) C [(2, .int 0), (0, .ref (a0 0)), (1, .int n1)] dX10_pours_24 rfl (by decide) rfl ?_
  refine g_lv [1, 2, 0] rfl ?_
  exact j_X10_pours_25 C E    FU 0 m_stack m_facts (upd m_s (161 : Int32).toNatClampNeg v5) h
noncomputable def f_X10_isDone_54  (m_bed : Nat → Int32) (m_letter : Nat → Int32) (m_beds : Int32) (m_letters : Int32) (m_readers : Int32) (m_code : Nat → Int32) (m_ofCode : Nat → Int32) (m_codes : Int32) (n1 : Int32) (n2 : Int32) (n3 : Int32) (m_stack : Nat → Int32) (m_facts : Nat → Int32) (m_s : Nat → Int32) : Option (Int32 × (Nat → Int32) × (Nat → Int32) × (Nat → Int32)) := if n1 = 1 then b3 (f_X10_pours m_bed m_letter m_letters m_code m_ofCode m_stack m_codes m_facts m_s n2) (fun c2 c3 c4 => some (1, c2, c3, c4)) else if n1 = 2 then if ixb (6 + n2) 165 then if ixb (6 + n2) 165 then some (1, m_stack, m_facts, upd m_s (6 + n2).toNatClampNeg (1 - (m_s (6 + n2).toNatClampNeg))) else none else none else b1 (f_X10_passes m_beds m_s) (fun c1 => some (1, m_stack, m_facts, c1))
noncomputable def f_X10_isDone (m_bed : Nat → Int32) (m_letter : Nat → Int32) (m_beds : Int32) (m_letters : Int32) (m_readers : Int32) (m_code : Nat → Int32) (m_ofCode : Nat → Int32) (m_stack : Nat → Int32) (m_codes : Int32) (m_facts : Nat → Int32) (m_s : Nat → Int32) (n1 : Int32) (n2 : Int32) (n3 : Int32) : Option (Int32 × (Nat → Int32) × (Nat → Int32) × (Nat → Int32)) := if n1 = 0 then b2 (f_X10_isBlown m_bed m_letter m_letters m_readers m_s n2) (fun v9 c10 => if zok v9 then some (v9, m_stack, m_facts, c10) else none) else if n1 = 3 then b2 (f_X10_isWalked m_s n2 n3) (fun v7 c8 => if zok v7 then some (v7, m_stack, m_facts, c8) else none) else if n1 = 4 then b2 (f_X10_isEaten m_s n2) (fun v5 c6 => if zok v5 then some (v5, m_stack, m_facts, c6) else none) else if n1 = 5 then if ixb 164 165 then if (m_s (164 : Int32).toNatClampNeg) < 400 then f_X10_isDone_54 m_bed m_letter m_beds m_letters m_readers m_code m_ofCode m_codes n1 n2 n3 m_stack m_facts m_s else some (0, m_stack, m_facts, m_s) else none else f_X10_isDone_54 m_bed m_letter m_beds m_letters m_readers m_code m_ofCode m_codes n1 n2 n3 m_stack m_facts m_s
def rm_X10_isDone : Room := { frames := 6, cells := 0, slots := 0, locals := 139 }
set_option maxRecDepth 100000 in
set_option maxHeartbeats 4000000 in
theorem j_X10_isDone_54 {J : Jt} {Z : Zt} {a0 : Nat → Nat} {m_thrown : Int32} {m_refused : Nat → Int32} {m_taped : Int32} {m_size : Int32} {m_at : Int32} {m_bad : Int32} {m_badKind : Int32} {m_opens : Int32} {m_faultAt : Int32} {m_tape : Nat → Int32} {m_newBed : Nat → Int32} {m_newLetter : Nat → Int32} {m_newReader : Nat → Int32} {m_bed : Nat → Int32} {m_letter : Nat → Int32} {m_reader : Nat → Int32} {m_newBeds : Int32} {m_newLetters : Int32} {m_newReaders : Int32} {m_beds : Int32} {m_letters : Int32} {m_readers : Int32} {m_newCode : Nat → Int32} {m_newOf : Nat → Int32} {m_code : Nat → Int32} {m_ofCode : Nat → Int32} {m_newCodes : Int32} {m_codes : Int32} {m_newStep : Nat → Int32} {m_step : Nat → Int32} {m_newSteps : Int32} {m_works : Int32} {m_refusedSteps : Int32} {m_begun : Int32} {m_done : Int32} {m_refusedNow : Int32} {m_now : Nat → Int32} {m_past : Nat → Int32} {m_newBook : Nat → Int32} {m_book : Nat → Int32} {m_written : Int32} {m_mostBy : Nat → Int32} {m_stuffing : Nat → Int32} {m_stuffedMany : Int32} {m_lastBy : Nat → Int32} {m_leftBy : Nat → Int32} {m_splitBy : Nat → Int64} {m_seedNow : Int32} {m_image : Nat → Int32} {m_images : Int32} {n1 : Int32} {n2 : Int32} {n3 : Int32} {r : Int32} {o_m_stack : Nat → Int32} {o_m_facts : Nat → Int32} {o_m_s : Nat → Int32} (C : Cx J Z cX10_isDone 4 RX10 (some .boolean) rm_X10_isDone) (E : Ez J Z 0 0 (some (.int r)) (cs_X10 J.2.2.1 a0 m_thrown m_refused m_taped m_size m_at m_bad m_badKind m_opens m_faultAt m_tape m_newBed m_newLetter m_newReader m_bed m_letter m_reader m_newBeds m_newLetters m_newReaders m_beds m_letters m_readers m_newCode m_newOf m_code m_ofCode o_m_stack m_newCodes m_codes o_m_facts m_newStep m_step m_newSteps m_works m_refusedSteps m_begun m_done m_refusedNow m_now o_m_s m_past m_newBook m_book m_written m_mostBy m_stuffing m_stuffedMany m_lastBy m_leftBy m_splitBy m_seedNow m_image m_images)) : ∀ (m_stack : Nat → Int32) (m_facts : Nat → Int32) (m_s : Nat → Int32), f_X10_isDone_54 m_bed m_letter m_beds m_letters m_readers m_code m_ofCode m_codes n1 n2 n3 m_stack m_facts m_s = some (r, o_m_stack, o_m_facts, o_m_s) → G J Z 0 0 (cs_X10 J.2.2.1 a0 m_thrown m_refused m_taped m_size m_at m_bad m_badKind m_opens m_faultAt m_tape m_newBed m_newLetter m_newReader m_bed m_letter m_reader m_newBeds m_newLetters m_newReaders m_beds m_letters m_readers m_newCode m_newOf m_code m_ofCode m_stack m_newCodes m_codes m_facts m_newStep m_step m_newSteps m_works m_refusedSteps m_begun m_done m_refusedNow m_now m_s m_past m_newBook m_book m_written m_mostBy m_stuffing m_stuffedMany m_lastBy m_leftBy m_splitBy m_seedNow m_image m_images) 4 [(0, .ref (a0 0)), (1, .int n1), (2, .int n2)] 54 [] := by
  intro m_stack m_facts m_s h
  unfold f_X10_isDone_54 at h
  refine g_iload_n (pc := 54) C 1 rfl dX10_isDone_54 ?_
  refine g_iconst (pc := 55) C dX10_isDone_55 ci_1 ?_
  refine g_icmp_ne (pc := 56) C (tgt := 67) dX10_isDone_56 rfl h (fun h => ?_) (fun h => ?_)
  · refine g_iload_n (pc := 67) C 1 rfl dX10_isDone_67 ?_
    refine g_iconst (pc := 68) C dX10_isDone_68 ci_2 ?_
    refine g_icmp_ne (pc := 69) C (tgt := 95) dX10_isDone_69 rfl h (fun h => ?_) (fun h => ?_)
    · refine g_aload_n (pc := 95) C 0 rfl dX10_isDone_95 ?_
      obtain ⟨c1, hc, h⟩ := b1_of h
      refine g_callV (pc := 96) C (w' := cs_X10 J.2.2.1 a0 m_thrown m_refused m_taped m_size m_at m_bad m_badKind m_opens m_faultAt m_tape m_newBed m_newLetter m_newReader m_bed m_letter m_reader m_newBeds m_newLetters m_newReaders m_beds m_letters m_readers m_newCode m_newOf m_code m_ofCode m_stack m_newCodes m_codes m_facts m_newStep m_step m_newSteps m_works m_refusedSteps m_begun m_done m_refusedNow m_now c1 m_past m_newBook m_book m_written m_mostBy m_stuffing m_stuffedMany m_lastBy m_leftBy m_splitBy m_seedNow m_image m_images) (As := []) (st := []) (ci := 10) (q0 := 0) rfl rfl (t_X10_passes (a0 := a0) hc) Sub.same kw_1669 kw_1671 kw_63 kw_95 hy_X10_passes kw_1672 rfl (Nat.le_of_ble_eq_true rfl) (Nat.le_of_ble_eq_true rfl) (Nat.le_of_ble_eq_true rfl) (Nat.le_of_ble_eq_true rfl) (Nat.le_of_ble_eq_true rfl) dX10_isDone_96 ?_
      refine g_iconst (pc := 99) C dX10_isDone_99 ci_1 ?_
      cases h
      exact g_zret C rfl E dX10_isDone_100
    · refine g_aload_n (pc := 72) C 0 rfl dX10_isDone_72 ?_
      refine g_get (pc := 73) C FOK_X10 0 rfl rfl 39 (by decide) kw_1316 rfl dX10_isDone_73 ?_
      refine g_bipush (pc := 76) C dX10_isDone_76 cb_6 ?_
      refine g_iload_n (pc := 78) C 2 rfl dX10_isDone_78 ?_
      refine g_iadd (pc := 79) C dX10_isDone_79 ?_
      refine g_iconst (pc := 80) C dX10_isDone_80 ci_1 ?_
      refine g_aload_n (pc := 81) C 0 rfl dX10_isDone_81 ?_
      refine g_get (pc := 82) C FOK_X10 0 rfl rfl 39 (by decide) kw_1316 rfl dX10_isDone_82 ?_
      refine g_bipush (pc := 85) C dX10_isDone_85 cb_6 ?_
      refine g_iload_n (pc := 87) C 2 rfl dX10_isDone_87 ?_
      refine g_iadd (pc := 88) C dX10_isDone_88 ?_
      obtain ⟨hi, h⟩ := ix_of h
      refine g_iald (pc := 89) C 18 rfl hi dX10_isDone_89 ?_
      refine g_isub (pc := 90) C dX10_isDone_90 ?_
      obtain ⟨hi, h⟩ := ix_of h
      refine g_iast (pc := 91) C (w' := cs_X10 J.2.2.1 a0 m_thrown m_refused m_taped m_size m_at m_bad m_badKind m_opens m_faultAt m_tape m_newBed m_newLetter m_newReader m_bed m_letter m_reader m_newBeds m_newLetters m_newReaders m_beds m_letters m_readers m_newCode m_newOf m_code m_ofCode m_stack m_newCodes m_codes m_facts m_newStep m_step m_newSteps m_works m_refusedSteps m_begun m_done m_refusedNow m_now (upd m_s (6 + n2).toNatClampNeg (1 - (m_s (6 + n2).toNatClampNeg))) m_past m_newBook m_book m_written m_mostBy m_stuffing m_stuffedMany m_lastBy m_leftBy m_splitBy m_seedNow m_image m_images) 18 rfl hi dX10_isDone_91 rfl ?_
      refine g_goto (pc := 92) C (tgt := 99) dX10_isDone_92 rfl ?_
      refine g_iconst (pc := 99) C dX10_isDone_99 ci_1 ?_
      cases h
      exact g_zret C rfl E dX10_isDone_100
  · refine g_aload_n (pc := 59) C 0 rfl dX10_isDone_59 ?_
    refine g_iload_n (pc := 60) C 2 rfl dX10_isDone_60 ?_
    obtain ⟨c2, c3, c4, hc, h⟩ := b3_of h
    refine g_callV (pc := 61) C (w' := cs_X10 J.2.2.1 a0 m_thrown m_refused m_taped m_size m_at m_bad m_badKind m_opens m_faultAt m_tape m_newBed m_newLetter m_newReader m_bed m_letter m_reader m_newBeds m_newLetters m_newReaders m_beds m_letters m_readers m_newCode m_newOf m_code m_ofCode c2 m_newCodes m_codes c3 m_newStep m_step m_newSteps m_works m_refusedSteps m_begun m_done m_refusedNow m_now c4 m_past m_newBook m_book m_written m_mostBy m_stuffing m_stuffedMany m_lastBy m_leftBy m_splitBy m_seedNow m_image m_images) (As := [.int n2]) (st := []) (ci := 10) (q0 := 0) rfl rfl (t_X10_pours (a0 := a0) hc) Sub.same kw_1639 kw_1641 kw_57 kw_95 hy_X10_pours kw_1642 rfl (Nat.le_of_ble_eq_true rfl) (Nat.le_of_ble_eq_true rfl) (Nat.le_of_ble_eq_true rfl) (Nat.le_of_ble_eq_true rfl) (Nat.le_of_ble_eq_true rfl) dX10_isDone_61 ?_
    refine g_goto (pc := 64) C (tgt := 99) dX10_isDone_64 rfl ?_
    refine g_iconst (pc := 99) C dX10_isDone_99 ci_1 ?_
    cases h
    exact g_zret C rfl E dX10_isDone_100
set_option maxRecDepth 100000 in
set_option maxHeartbeats 4000000 in
theorem t_X10_isDone {J : Jt} {a0 : Nat → Nat} {m_thrown : Int32} {m_refused : Nat → Int32} {m_taped : Int32} {m_size : Int32} {m_at : Int32} {m_bad : Int32} {m_badKind : Int32} {m_opens : Int32} {m_faultAt : Int32} {m_tape : Nat → Int32} {m_newBed : Nat → Int32} {m_newLetter : Nat → Int32} {m_newReader : Nat → Int32} {m_bed : Nat → Int32} {m_letter : Nat → Int32} {m_reader : Nat → Int32} {m_newBeds : Int32} {m_newLetters : Int32} {m_newReaders : Int32} {m_beds : Int32} {m_letters : Int32} {m_readers : Int32} {m_newCode : Nat → Int32} {m_newOf : Nat → Int32} {m_code : Nat → Int32} {m_ofCode : Nat → Int32} {m_stack : Nat → Int32} {m_newCodes : Int32} {m_codes : Int32} {m_facts : Nat → Int32} {m_newStep : Nat → Int32} {m_step : Nat → Int32} {m_newSteps : Int32} {m_works : Int32} {m_refusedSteps : Int32} {m_begun : Int32} {m_done : Int32} {m_refusedNow : Int32} {m_now : Nat → Int32} {m_s : Nat → Int32} {m_past : Nat → Int32} {m_newBook : Nat → Int32} {m_book : Nat → Int32} {m_written : Int32} {m_mostBy : Nat → Int32} {m_stuffing : Nat → Int32} {m_stuffedMany : Int32} {m_lastBy : Nat → Int32} {m_leftBy : Nat → Int32} {m_splitBy : Nat → Int64} {m_seedNow : Int32} {m_image : Nat → Int32} {m_images : Int32} {n1 : Int32} {n2 : Int32} {n3 : Int32} {r : Int32} {o_m_stack : Nat → Int32} {o_m_facts : Nat → Int32} {o_m_s : Nat → Int32} (h : f_X10_isDone m_bed m_letter m_beds m_letters m_readers m_code m_ofCode m_stack m_codes m_facts m_s n1 n2 n3 = some (r, o_m_stack, o_m_facts, o_m_s)) : Mt J yX10_isDone cX10_isDone 4 (some .boolean) rm_X10_isDone [.ref (a0 0), .int n1, .int n2, .int n3] (cs_X10 J.2.2.1 a0 m_thrown m_refused m_taped m_size m_at m_bad m_badKind m_opens m_faultAt m_tape m_newBed m_newLetter m_newReader m_bed m_letter m_reader m_newBeds m_newLetters m_newReaders m_beds m_letters m_readers m_newCode m_newOf m_code m_ofCode m_stack m_newCodes m_codes m_facts m_newStep m_step m_newSteps m_works m_refusedSteps m_begun m_done m_refusedNow m_now m_s m_past m_newBook m_book m_written m_mostBy m_stuffing m_stuffedMany m_lastBy m_leftBy m_splitBy m_seedNow m_image m_images) (some (.int r)) (cs_X10 J.2.2.1 a0 m_thrown m_refused m_taped m_size m_at m_bad m_badKind m_opens m_faultAt m_tape m_newBed m_newLetter m_newReader m_bed m_letter m_reader m_newBeds m_newLetters m_newReaders m_beds m_letters m_readers m_newCode m_newOf m_code m_ofCode o_m_stack m_newCodes m_codes o_m_facts m_newStep m_step m_newSteps m_works m_refusedSteps m_begun m_done m_refusedNow m_now o_m_s m_past m_newBook m_book m_written m_mostBy m_stuffing m_stuffedMany m_lastBy m_leftBy m_splitBy m_seedNow m_image m_images) := by
  refine Mt_of (own := RX10) (by decide) rfl (Nat.le_of_ble_eq_true rfl) rfl (fun Z C E => ?_)
  unfold f_X10_isDone at h
  show G J Z 0 0 (cs_X10 J.2.2.1 a0 m_thrown m_refused m_taped m_size m_at m_bad m_badKind m_opens m_faultAt m_tape m_newBed m_newLetter m_newReader m_bed m_letter m_reader m_newBeds m_newLetters m_newReaders m_beds m_letters m_readers m_newCode m_newOf m_code m_ofCode m_stack m_newCodes m_codes m_facts m_newStep m_step m_newSteps m_works m_refusedSteps m_begun m_done m_refusedNow m_now m_s m_past m_newBook m_book m_written m_mostBy m_stuffing m_stuffedMany m_lastBy m_leftBy m_splitBy m_seedNow m_image m_images) 4 [(0, .ref (a0 0)), (1, .int n1), (2, .int n2), (3, .int n3)] 0 []
  refine g_iload_n (pc := 0) C 1 rfl dX10_isDone_0 ?_
  refine g_if_ne (pc := 1) C (tgt := 10) dX10_isDone_1 rfl h (fun h => ?_) (fun h => ?_)
  · refine g_iload_n (pc := 10) C 1 rfl dX10_isDone_10 ?_
    refine g_iconst (pc := 11) C dX10_isDone_11 ci_3 ?_
    refine g_icmp_ne (pc := 12) C (tgt := 22) dX10_isDone_12 rfl h (fun h => ?_) (fun h => ?_)
    · refine g_iload_n (pc := 22) C 1 rfl dX10_isDone_22 ?_
      refine g_iconst (pc := 23) C dX10_isDone_23 ci_4 ?_
      refine g_icmp_ne (pc := 24) C (tgt := 33) dX10_isDone_24 rfl h (fun h => ?_) (fun h => ?_)
      · refine g_iload_n (pc := 33) C 1 rfl dX10_isDone_33 ?_
        refine g_iconst (pc := 34) C dX10_isDone_34 ci_5 ?_
        refine g_icmp_ne (pc := 35) C (tgt := 54) dX10_isDone_35 rfl h (fun h => ?_) (fun h => ?_)
        · refine g_lv [0, 1, 2] rfl ?_
          exact j_X10_isDone_54 C E    m_stack m_facts m_s h
        · refine g_aload_n (pc := 38) C 0 rfl dX10_isDone_38 ?_
          refine g_get (pc := 39) C FOK_X10 0 rfl rfl 39 (by decide) kw_1316 rfl dX10_isDone_39 ?_
          refine g_sipush (pc := 42) C dX10_isDone_42 cs_164 ?_
          obtain ⟨hi, h⟩ := ix_of h
          refine g_iald (pc := 45) C 18 rfl hi dX10_isDone_45 ?_
          refine g_sipush (pc := 46) C dX10_isDone_46 cs_400 ?_
          refine g_icmp_lt (pc := 49) C (tgt := 54) dX10_isDone_49 rfl h (fun h => ?_) (fun h => ?_)
          · refine g_lv [0, 1, 2] rfl ?_
            exact j_X10_isDone_54 C E    m_stack m_facts m_s h
          · refine g_iconst (pc := 52) C dX10_isDone_52 ci_0 ?_
            cases h
            exact g_zret C rfl E dX10_isDone_53
      · refine g_aload_n (pc := 27) C 0 rfl dX10_isDone_27 ?_
        refine g_iload_n (pc := 28) C 2 rfl dX10_isDone_28 ?_
        obtain ⟨v5, c6, hc, h⟩ := b2_of h
        refine g_callV (pc := 29) C (w' := cs_X10 J.2.2.1 a0 m_thrown m_refused m_taped m_size m_at m_bad m_badKind m_opens m_faultAt m_tape m_newBed m_newLetter m_newReader m_bed m_letter m_reader m_newBeds m_newLetters m_newReaders m_beds m_letters m_readers m_newCode m_newOf m_code m_ofCode m_stack m_newCodes m_codes m_facts m_newStep m_step m_newSteps m_works m_refusedSteps m_begun m_done m_refusedNow m_now c6 m_past m_newBook m_book m_written m_mostBy m_stuffing m_stuffedMany m_lastBy m_leftBy m_splitBy m_seedNow m_image m_images) (As := [.int n2]) (st := []) (ci := 10) (q0 := 0) rfl rfl (t_X10_isEaten (a0 := a0) hc) Sub.same kw_1635 kw_1637 kw_56 kw_95 hy_X10_isEaten kw_1638 rfl (Nat.le_of_ble_eq_true rfl) (Nat.le_of_ble_eq_true rfl) (Nat.le_of_ble_eq_true rfl) (Nat.le_of_ble_eq_true rfl) (Nat.le_of_ble_eq_true rfl) dX10_isDone_29 ?_
        obtain ⟨hz, h⟩ := zok_of h
        cases h
        exact g_zret C hz E dX10_isDone_32
    · refine g_aload_n (pc := 15) C 0 rfl dX10_isDone_15 ?_
      refine g_iload_n (pc := 16) C 2 rfl dX10_isDone_16 ?_
      refine g_iload_n (pc := 17) C 3 rfl dX10_isDone_17 ?_
      obtain ⟨v7, c8, hc, h⟩ := b2_of h
      refine g_callV (pc := 18) C (w' := cs_X10 J.2.2.1 a0 m_thrown m_refused m_taped m_size m_at m_bad m_badKind m_opens m_faultAt m_tape m_newBed m_newLetter m_newReader m_bed m_letter m_reader m_newBeds m_newLetters m_newReaders m_beds m_letters m_readers m_newCode m_newOf m_code m_ofCode m_stack m_newCodes m_codes m_facts m_newStep m_step m_newSteps m_works m_refusedSteps m_begun m_done m_refusedNow m_now c8 m_past m_newBook m_book m_written m_mostBy m_stuffing m_stuffedMany m_lastBy m_leftBy m_splitBy m_seedNow m_image m_images) (As := [.int n2, .int n3]) (st := []) (ci := 10) (q0 := 0) rfl rfl (t_X10_isWalked (a0 := a0) hc) Sub.same kw_1627 kw_1629 kw_54 kw_95 hy_X10_isWalked kw_1630 rfl (Nat.le_of_ble_eq_true rfl) (Nat.le_of_ble_eq_true rfl) (Nat.le_of_ble_eq_true rfl) (Nat.le_of_ble_eq_true rfl) (Nat.le_of_ble_eq_true rfl) dX10_isDone_18 ?_
      obtain ⟨hz, h⟩ := zok_of h
      cases h
      exact g_zret C hz E dX10_isDone_21
  · refine g_aload_n (pc := 4) C 0 rfl dX10_isDone_4 ?_
    refine g_iload_n (pc := 5) C 2 rfl dX10_isDone_5 ?_
    obtain ⟨v9, c10, hc, h⟩ := b2_of h
    refine g_callV (pc := 6) C (w' := cs_X10 J.2.2.1 a0 m_thrown m_refused m_taped m_size m_at m_bad m_badKind m_opens m_faultAt m_tape m_newBed m_newLetter m_newReader m_bed m_letter m_reader m_newBeds m_newLetters m_newReaders m_beds m_letters m_readers m_newCode m_newOf m_code m_ofCode m_stack m_newCodes m_codes m_facts m_newStep m_step m_newSteps m_works m_refusedSteps m_begun m_done m_refusedNow m_now c10 m_past m_newBook m_book m_written m_mostBy m_stuffing m_stuffedMany m_lastBy m_leftBy m_splitBy m_seedNow m_image m_images) (As := [.int n2]) (st := []) (ci := 10) (q0 := 0) rfl rfl (t_X10_isBlown (a0 := a0) hc) Sub.same kw_1607 kw_1609 kw_49 kw_95 hy_X10_isBlown kw_1610 rfl (Nat.le_of_ble_eq_true rfl) (Nat.le_of_ble_eq_true rfl) (Nat.le_of_ble_eq_true rfl) (Nat.le_of_ble_eq_true rfl) (Nat.le_of_ble_eq_true rfl) dX10_isDone_6 ?_
    obtain ⟨hz, h⟩ := zok_of h
    cases h
    exact g_zret C hz E dX10_isDone_9
noncomputable def f_X10_goesSteps_51  (q_X10_goesSteps : (Nat → Int32) → (Nat → Int32) → Int32 → Int32 → Int32 → (Nat → Int32) → (Nat → Int32) → (Nat → Int32) → Int32 → (Nat → Int32) → (Nat → Int32) → Int32 → Int32 → Int32 → (Nat → Int32) → Int32 → Int32 → Option ((Nat → Int32) × (Nat → Int32) × Int32 × Int32 × Int32 × (Nat → Int32))) (m_bed : Nat → Int32) (m_letter : Nat → Int32) (m_beds : Int32) (m_letters : Int32) (m_readers : Int32) (m_code : Nat → Int32) (m_ofCode : Nat → Int32) (m_codes : Int32) (m_step : Nat → Int32) (n1 : Int32) (n2 : Int32) (k2 : Int32 → (Nat → Int32) → (Nat → Int32) → Int32 → Int32 → Int32 → (Nat → Int32) → Option ((Nat → Int32) × (Nat → Int32) × Int32 × Int32 × Int32 × (Nat → Int32))) : Nat → Int32 → Int32 → Int32 → (Nat → Int32) → (Nat → Int32) → Int32 → Int32 → Int32 → (Nat → Int32) → Option ((Nat → Int32) × (Nat → Int32) × Int32 × Int32 × Int32 × (Nat → Int32))
  | 0, _, _, _, _, _, _, _, _, _ => none
  | n + 1, x3, x4, x5, m_stack, m_facts, m_begun, m_done, m_refusedNow, m_s => if ixb (x3 + 1) 150 then if (m_step (x3 + 1).toNatClampNeg) ≤ x5 then k2 x4 m_stack m_facts m_begun m_done m_refusedNow m_s else if 200 ≤ m_begun then k2 x4 m_stack m_facts m_begun m_done m_refusedNow m_s else b6 (q_X10_goesSteps m_bed m_letter m_beds m_letters m_readers m_code m_ofCode m_stack m_codes m_facts m_step m_begun m_done m_refusedNow m_s (x3 + 3) x4) (fun c1 c2 c3 c4 c5 c6 => f_X10_goesSteps_51 q_X10_goesSteps m_bed m_letter m_beds m_letters m_readers m_code m_ofCode m_codes m_step n1 n2 k2 n x3 x4 (x5 + 1) c1 c2 c3 c4 c5 c6) else none
noncomputable def f_X10_goesSteps_2  (q_X10_goesSteps : (Nat → Int32) → (Nat → Int32) → Int32 → Int32 → Int32 → (Nat → Int32) → (Nat → Int32) → (Nat → Int32) → Int32 → (Nat → Int32) → (Nat → Int32) → Int32 → Int32 → Int32 → (Nat → Int32) → Int32 → Int32 → Option ((Nat → Int32) × (Nat → Int32) × Int32 × Int32 × Int32 × (Nat → Int32))) (m_bed : Nat → Int32) (m_letter : Nat → Int32) (m_beds : Int32) (m_letters : Int32) (m_readers : Int32) (m_code : Nat → Int32) (m_ofCode : Nat → Int32) (m_codes : Int32) (m_step : Nat → Int32) (n1 : Int32) (n2 : Int32) : Nat → Int32 → (Nat → Int32) → (Nat → Int32) → Int32 → Int32 → Int32 → (Nat → Int32) → Option ((Nat → Int32) × (Nat → Int32) × Int32 × Int32 × Int32 × (Nat → Int32))
  | 0, _, _, _, _, _, _, _ => none
  | n + 1, x3, m_stack, m_facts, m_begun, m_done, m_refusedNow, m_s => if n2 ≤ x3 then some (m_stack, m_facts, m_begun, m_done, m_refusedNow, m_s) else if 200 ≤ m_begun then some (m_stack, m_facts, m_begun, m_done, m_refusedNow, m_s) else if ixb x3 150 then if (m_step x3.toNatClampNeg) = 6 then if ixb (x3 + 2) 150 then f_X10_goesSteps_51 q_X10_goesSteps m_bed m_letter m_beds m_letters m_readers m_code m_ofCode m_codes m_step n1 n2 (f_X10_goesSteps_2 q_X10_goesSteps m_bed m_letter m_beds m_letters m_readers m_code m_ofCode m_codes m_step n1 n2 n) FU x3 (m_step (x3 + 2).toNatClampNeg) 0 m_stack m_facts (m_begun + 1) m_done m_refusedNow m_s else none else if ixb x3 150 then if ixb (x3 + 1) 150 then if ixb (x3 + 2) 150 then b4 (f_X10_isDone m_bed m_letter m_beds m_letters m_readers m_code m_ofCode m_stack m_codes m_facts m_s (m_step x3.toNatClampNeg) (m_step (x3 + 1).toNatClampNeg) (m_step (x3 + 2).toNatClampNeg)) (fun v7 c8 c9 c10 => if v7 = 0 then f_X10_goesSteps_2 q_X10_goesSteps m_bed m_letter m_beds m_letters m_readers m_code m_ofCode m_codes m_step n1 n2 n (x3 + 3) c8 c9 (m_begun + 1) m_done (m_refusedNow + 1) c10 else f_X10_goesSteps_2 q_X10_goesSteps m_bed m_letter m_beds m_letters m_readers m_code m_ofCode m_codes m_step n1 n2 n (x3 + 3) c8 c9 (m_begun + 1) (m_done + 1) m_refusedNow c10) else none else none else none else none
noncomputable def f_X10_goesSteps_b (q_X10_goesSteps : (Nat → Int32) → (Nat → Int32) → Int32 → Int32 → Int32 → (Nat → Int32) → (Nat → Int32) → (Nat → Int32) → Int32 → (Nat → Int32) → (Nat → Int32) → Int32 → Int32 → Int32 → (Nat → Int32) → Int32 → Int32 → Option ((Nat → Int32) × (Nat → Int32) × Int32 × Int32 × Int32 × (Nat → Int32))) (m_bed : Nat → Int32) (m_letter : Nat → Int32) (m_beds : Int32) (m_letters : Int32) (m_readers : Int32) (m_code : Nat → Int32) (m_ofCode : Nat → Int32) (m_stack : Nat → Int32) (m_codes : Int32) (m_facts : Nat → Int32) (m_step : Nat → Int32) (m_begun : Int32) (m_done : Int32) (m_refusedNow : Int32) (m_s : Nat → Int32) (n1 : Int32) (n2 : Int32) : Option ((Nat → Int32) × (Nat → Int32) × Int32 × Int32 × Int32 × (Nat → Int32)) := f_X10_goesSteps_2 q_X10_goesSteps m_bed m_letter m_beds m_letters m_readers m_code m_ofCode m_codes m_step n1 n2 FU n1 m_stack m_facts m_begun m_done m_refusedNow m_s
noncomputable def F_mg : Nat → ((Nat → Int32) → (Nat → Int32) → Int32 → Int32 → Int32 → (Nat → Int32) → (Nat → Int32) → (Nat → Int32) → Int32 → (Nat → Int32) → (Nat → Int32) → Int32 → Int32 → Int32 → (Nat → Int32) → Int32 → Int32 → Option ((Nat → Int32) × (Nat → Int32) × Int32 × Int32 × Int32 × (Nat → Int32)))
  | 0 => fun _ _ _ _ _ _ _ _ _ _ _ _ _ _ _ _ _ => none
  | d + 1 => f_X10_goesSteps_b (F_mg d)
noncomputable def f_X10_goesSteps (d : Nat) : (Nat → Int32) → (Nat → Int32) → Int32 → Int32 → Int32 → (Nat → Int32) → (Nat → Int32) → (Nat → Int32) → Int32 → (Nat → Int32) → (Nat → Int32) → Int32 → Int32 → Int32 → (Nat → Int32) → Int32 → Int32 → Option ((Nat → Int32) × (Nat → Int32) × Int32 × Int32 × Int32 × (Nat → Int32)) := (F_mg d)
theorem f_X10_goesSteps_s (d : Nat) : f_X10_goesSteps (d + 1) = f_X10_goesSteps_b (f_X10_goesSteps d) := rfl
def rm_mg (d : Nat) : Room := { frames := 7 + d, cells := 0, slots := 0, locals := 162 + 25 * d }
theorem rm_mg_f (d : Nat) : (rm_mg d).frames + 1 ≤ (rm_mg (d + 1)).frames := Nat.le_refl _
theorem rm_mg_l (d : Nat) {n : Nat} (h : 8 + (n + 11) ≤ 25) : 8 + (n + 11) + (rm_mg d).locals ≤ (rm_mg (d + 1)).locals := by simp only [rm_mg]; omega
theorem rm_mg_f0 (d : Nat) {n : Nat} (h : n ≤ 7) : n ≤ (rm_mg (d + 1)).frames := Nat.le_trans h (Nat.le_add_right _ _)
theorem rm_mg_l0 (d : Nat) {n : Nat} (h : n ≤ 162) : n ≤ (rm_mg (d + 1)).locals := Nat.le_trans h (Nat.le_add_right _ _)
def K_X10_goesSteps (J : Jt) (q : (Nat → Int32) → (Nat → Int32) → Int32 → Int32 → Int32 → (Nat → Int32) → (Nat → Int32) → (Nat → Int32) → Int32 → (Nat → Int32) → (Nat → Int32) → Int32 → Int32 → Int32 → (Nat → Int32) → Int32 → Int32 → Option ((Nat → Int32) × (Nat → Int32) × Int32 × Int32 × Int32 × (Nat → Int32))) (R : Room) : Prop := ∀ (a0 : Nat → Nat) (m_thrown : Int32) (m_refused : Nat → Int32) (m_taped : Int32) (m_size : Int32) (m_at : Int32) (m_bad : Int32) (m_badKind : Int32) (m_opens : Int32) (m_faultAt : Int32) (m_tape : Nat → Int32) (m_newBed : Nat → Int32) (m_newLetter : Nat → Int32) (m_newReader : Nat → Int32) (m_bed : Nat → Int32) (m_letter : Nat → Int32) (m_reader : Nat → Int32) (m_newBeds : Int32) (m_newLetters : Int32) (m_newReaders : Int32) (m_beds : Int32) (m_letters : Int32) (m_readers : Int32) (m_newCode : Nat → Int32) (m_newOf : Nat → Int32) (m_code : Nat → Int32) (m_ofCode : Nat → Int32) (m_stack : Nat → Int32) (m_newCodes : Int32) (m_codes : Int32) (m_facts : Nat → Int32) (m_newStep : Nat → Int32) (m_step : Nat → Int32) (m_newSteps : Int32) (m_works : Int32) (m_refusedSteps : Int32) (m_begun : Int32) (m_done : Int32) (m_refusedNow : Int32) (m_now : Nat → Int32) (m_s : Nat → Int32) (m_past : Nat → Int32) (m_newBook : Nat → Int32) (m_book : Nat → Int32) (m_written : Int32) (m_mostBy : Nat → Int32) (m_stuffing : Nat → Int32) (m_stuffedMany : Int32) (m_lastBy : Nat → Int32) (m_leftBy : Nat → Int32) (m_splitBy : Nat → Int64) (m_seedNow : Int32) (m_image : Nat → Int32) (m_images : Int32) (n1 : Int32) (n2 : Int32) (o_m_stack : Nat → Int32) (o_m_facts : Nat → Int32) (o_m_begun : Int32) (o_m_done : Int32) (o_m_refusedNow : Int32) (o_m_s : Nat → Int32), q m_bed m_letter m_beds m_letters m_readers m_code m_ofCode m_stack m_codes m_facts m_step m_begun m_done m_refusedNow m_s n1 n2 = some (o_m_stack, o_m_facts, o_m_begun, o_m_done, o_m_refusedNow, o_m_s) → Mt J yX10_goesSteps cX10_goesSteps 6 none R [.ref (a0 0), .int n1, .int n2] (cs_X10 J.2.2.1 a0 m_thrown m_refused m_taped m_size m_at m_bad m_badKind m_opens m_faultAt m_tape m_newBed m_newLetter m_newReader m_bed m_letter m_reader m_newBeds m_newLetters m_newReaders m_beds m_letters m_readers m_newCode m_newOf m_code m_ofCode m_stack m_newCodes m_codes m_facts m_newStep m_step m_newSteps m_works m_refusedSteps m_begun m_done m_refusedNow m_now m_s m_past m_newBook m_book m_written m_mostBy m_stuffing m_stuffedMany m_lastBy m_leftBy m_splitBy m_seedNow m_image m_images) none (cs_X10 J.2.2.1 a0 m_thrown m_refused m_taped m_size m_at m_bad m_badKind m_opens m_faultAt m_tape m_newBed m_newLetter m_newReader m_bed m_letter m_reader m_newBeds m_newLetters m_newReaders m_beds m_letters m_readers m_newCode m_newOf m_code m_ofCode o_m_stack m_newCodes m_codes o_m_facts m_newStep m_step m_newSteps m_works m_refusedSteps o_m_begun o_m_done o_m_refusedNow m_now o_m_s m_past m_newBook m_book m_written m_mostBy m_stuffing m_stuffedMany m_lastBy m_leftBy m_splitBy m_seedNow m_image m_images)

set_option maxRecDepth 100000 in
set_option maxHeartbeats 4000000 in
theorem j_X10_goesSteps_51 {J : Jt} {Z : Zt} {d : Nat} {q_X10_goesSteps : (Nat → Int32) → (Nat → Int32) → Int32 → Int32 → Int32 → (Nat → Int32) → (Nat → Int32) → (Nat → Int32) → Int32 → (Nat → Int32) → (Nat → Int32) → Int32 → Int32 → Int32 → (Nat → Int32) → Int32 → Int32 → Option ((Nat → Int32) × (Nat → Int32) × Int32 × Int32 × Int32 × (Nat → Int32))} {a0 : Nat → Nat} {m_thrown : Int32} {m_refused : Nat → Int32} {m_taped : Int32} {m_size : Int32} {m_at : Int32} {m_bad : Int32} {m_badKind : Int32} {m_opens : Int32} {m_faultAt : Int32} {m_tape : Nat → Int32} {m_newBed : Nat → Int32} {m_newLetter : Nat → Int32} {m_newReader : Nat → Int32} {m_bed : Nat → Int32} {m_letter : Nat → Int32} {m_reader : Nat → Int32} {m_newBeds : Int32} {m_newLetters : Int32} {m_newReaders : Int32} {m_beds : Int32} {m_letters : Int32} {m_readers : Int32} {m_newCode : Nat → Int32} {m_newOf : Nat → Int32} {m_code : Nat → Int32} {m_ofCode : Nat → Int32} {m_newCodes : Int32} {m_codes : Int32} {m_newStep : Nat → Int32} {m_step : Nat → Int32} {m_newSteps : Int32} {m_works : Int32} {m_refusedSteps : Int32} {m_now : Nat → Int32} {m_past : Nat → Int32} {m_newBook : Nat → Int32} {m_book : Nat → Int32} {m_written : Int32} {m_mostBy : Nat → Int32} {m_stuffing : Nat → Int32} {m_stuffedMany : Int32} {m_lastBy : Nat → Int32} {m_leftBy : Nat → Int32} {m_splitBy : Nat → Int64} {m_seedNow : Int32} {m_image : Nat → Int32} {m_images : Int32} {n1 : Int32} {n2 : Int32} {o_m_stack : Nat → Int32} {o_m_facts : Nat → Int32} {o_m_begun : Int32} {o_m_done : Int32} {o_m_refusedNow : Int32} {o_m_s : Nat → Int32} {k2 : Int32 → (Nat → Int32) → (Nat → Int32) → Int32 → Int32 → Int32 → (Nat → Int32) → Option ((Nat → Int32) × (Nat → Int32) × Int32 × Int32 × Int32 × (Nat → Int32))} (C : Cx J Z cX10_goesSteps 6 RX10 none (rm_mg (d + 1))) (E : Ez J Z 0 0 none (cs_X10 J.2.2.1 a0 m_thrown m_refused m_taped m_size m_at m_bad m_badKind m_opens m_faultAt m_tape m_newBed m_newLetter m_newReader m_bed m_letter m_reader m_newBeds m_newLetters m_newReaders m_beds m_letters m_readers m_newCode m_newOf m_code m_ofCode o_m_stack m_newCodes m_codes o_m_facts m_newStep m_step m_newSteps m_works m_refusedSteps o_m_begun o_m_done o_m_refusedNow m_now o_m_s m_past m_newBook m_book m_written m_mostBy m_stuffing m_stuffedMany m_lastBy m_leftBy m_splitBy m_seedNow m_image m_images)) (hq_X10_goesSteps : K_X10_goesSteps J q_X10_goesSteps (rm_mg d)) (hk2 : ∀ (x3 : Int32) (m_stack : Nat → Int32) (m_facts : Nat → Int32) (m_begun : Int32) (m_done : Int32) (m_refusedNow : Int32) (m_s : Nat → Int32), k2 x3 m_stack m_facts m_begun m_done m_refusedNow m_s = some (o_m_stack, o_m_facts, o_m_begun, o_m_done, o_m_refusedNow, o_m_s) → G J Z 0 0 (cs_X10 J.2.2.1 a0 m_thrown m_refused m_taped m_size m_at m_bad m_badKind m_opens m_faultAt m_tape m_newBed m_newLetter m_newReader m_bed m_letter m_reader m_newBeds m_newLetters m_newReaders m_beds m_letters m_readers m_newCode m_newOf m_code m_ofCode m_stack m_newCodes m_codes m_facts m_newStep m_step m_newSteps m_works m_refusedSteps m_begun m_done m_refusedNow m_now m_s m_past m_newBook m_book m_written m_mostBy m_stuffing m_stuffedMany m_lastBy m_leftBy m_splitBy m_seedNow m_image m_images) 6 [(0, .ref (a0 0)), (2, .int n2), (3, .int x3)] 2 []) : ∀ (n : Nat) (x3 : Int32) (x4 : Int32) (x5 : Int32) (m_stack : Nat → Int32) (m_facts : Nat → Int32) (m_begun : Int32) (m_done : Int32) (m_refusedNow : Int32) (m_s : Nat → Int32), f_X10_goesSteps_51 q_X10_goesSteps m_bed m_letter m_beds m_letters m_readers m_code m_ofCode m_codes m_step n1 n2 k2 n x3 x4 x5 m_stack m_facts m_begun m_done m_refusedNow m_s = some (o_m_stack, o_m_facts, o_m_begun, o_m_done, o_m_refusedNow, o_m_s) → G J Z 0 0 (cs_X10 J.2.2.1 a0 m_thrown m_refused m_taped m_size m_at m_bad m_badKind m_opens m_faultAt m_tape m_newBed m_newLetter m_newReader m_bed m_letter m_reader m_newBeds m_newLetters m_newReaders m_beds m_letters m_readers m_newCode m_newOf m_code m_ofCode m_stack m_newCodes m_codes m_facts m_newStep m_step m_newSteps m_works m_refusedSteps m_begun m_done m_refusedNow m_now m_s m_past m_newBook m_book m_written m_mostBy m_stuffing m_stuffedMany m_lastBy m_leftBy m_splitBy m_seedNow m_image m_images) 6 [(0, .ref (a0 0)), (2, .int n2), (3, .int x3), (4, .int x4), (5, .int x5)] 51 [] := by
  intro n
  induction n with
  | zero =>
    intro x3 x4 x5 m_stack m_facts m_begun m_done m_refusedNow m_s h
    rw [f_X10_goesSteps_51] at h
    cases h
  | succ n ih =>
    intro x3 x4 x5 m_stack m_facts m_begun m_done m_refusedNow m_s h
    rw [f_X10_goesSteps_51] at h
    refine g_iload (pc := 51) C 4 rfl dX10_goesSteps_51 ?_
    refine g_aload_n (pc := 53) C 0 rfl dX10_goesSteps_53 ?_
    refine g_get (pc := 54) C FOK_X10 0 rfl rfl 31 (by decide) kw_1308 rfl dX10_goesSteps_54 ?_
    refine g_iload_n (pc := 57) C 2 rfl dX10_goesSteps_57 ?_
    refine g_iconst (pc := 58) C dX10_goesSteps_58 ci_1 ?_
    refine g_iadd (pc := 59) C dX10_goesSteps_59 ?_
    obtain ⟨hi, h⟩ := ix_of h
    refine g_iald (pc := 60) C 16 rfl hi dX10_goesSteps_60 ?_
    refine g_icmp_ge (pc := 61) C (tgt := 89) dX10_goesSteps_61 rfl h (fun h => ?_) (fun h => ?_)
    · refine g_iload (pc := 89) C 3 rfl dX10_goesSteps_89 ?_
      refine g_istore_n (pc := 91) C [(3, .int x4), (0, .ref (a0 0)), (2, .int n2), (4, .int x4), (5, .int x5)] dX10_goesSteps_91 rfl (by decide) rfl ?_
      refine g_goto (pc := 92) C (tgt := 2) dX10_goesSteps_92 rfl ?_
      refine g_lv [1, 2, 0] rfl ?_
      exact hk2 x4 m_stack m_facts m_begun m_done m_refusedNow m_s h
    · refine g_aload_n (pc := 64) C 0 rfl dX10_goesSteps_64 ?_
      refine g_get (pc := 65) C FOK_X10 0 rfl rfl 35 (by decide) kw_1312 rfl dX10_goesSteps_65 ?_
      refine g_sipush (pc := 68) C dX10_goesSteps_68 cs_200 ?_
      refine g_icmp_ge (pc := 71) C (tgt := 89) dX10_goesSteps_71 rfl h (fun h => ?_) (fun h => ?_)
      · refine g_iload (pc := 89) C 3 rfl dX10_goesSteps_89 ?_
        refine g_istore_n (pc := 91) C [(3, .int x4), (0, .ref (a0 0)), (2, .int n2), (4, .int x4), (5, .int x5)] dX10_goesSteps_91 rfl (by decide) rfl ?_
        refine g_goto (pc := 92) C (tgt := 2) dX10_goesSteps_92 rfl ?_
        refine g_lv [1, 2, 0] rfl ?_
        exact hk2 x4 m_stack m_facts m_begun m_done m_refusedNow m_s h
      · refine g_aload_n (pc := 74) C 0 rfl dX10_goesSteps_74 ?_
        refine g_iload_n (pc := 75) C 2 rfl dX10_goesSteps_75 ?_
        refine g_iconst (pc := 76) C dX10_goesSteps_76 ci_3 ?_
        refine g_iadd (pc := 77) C dX10_goesSteps_77 ?_
        refine g_iload (pc := 78) C 3 rfl dX10_goesSteps_78 ?_
        obtain ⟨c1, c2, c3, c4, c5, c6, hc, h⟩ := b6_of h
        refine g_callV (pc := 80) C (w' := cs_X10 J.2.2.1 a0 m_thrown m_refused m_taped m_size m_at m_bad m_badKind m_opens m_faultAt m_tape m_newBed m_newLetter m_newReader m_bed m_letter m_reader m_newBeds m_newLetters m_newReaders m_beds m_letters m_readers m_newCode m_newOf m_code m_ofCode c1 m_newCodes m_codes c2 m_newStep m_step m_newSteps m_works m_refusedSteps c3 c4 c5 m_now c6 m_past m_newBook m_book m_written m_mostBy m_stuffing m_stuffedMany m_lastBy m_leftBy m_splitBy m_seedNow m_image m_images) (As := [.int (x3 + 3), .int x4]) (st := []) (ci := 10) (q0 := 0) rfl rfl (hq_X10_goesSteps a0 _ _ _ _ _ _ _ _ _ _ _ _ _ _ _ _ _ _ _ _ _ _ _ _ _ _ _ _ _ _ _ _ _ _ _ _ _ _ _ _ _ _ _ _ _ _ _ _ _ _ _ _ _ _ _ _ _ _ _ _ _ hc) Sub.same kw_1599 kw_1601 kw_47 kw_95 hy_X10_goesSteps kw_1602 rfl (rm_mg_f d) (rm_mg_l d (Nat.le_of_ble_eq_true rfl)) (Nat.le_of_ble_eq_true rfl) (Nat.le_of_ble_eq_true rfl) (Nat.le_of_ble_eq_true rfl) dX10_goesSteps_80 ?_
        refine g_iinc (pc := 83) C (j := 4) [(5, .int (x5 + 1)), (0, .ref (a0 0)), (2, .int n2), (3, .int x3), (4, .int x4)] dX10_goesSteps_83 rfl (ii_1 _) (by decide) rfl ?_
        refine g_goto (pc := 86) C (tgt := 51) dX10_goesSteps_86 rfl ?_
        refine g_lv [1, 2, 3, 4, 0] rfl ?_
        exact ih x3 x4 (x5 + 1) c1 c2 c3 c4 c5 c6 h
set_option maxRecDepth 100000 in
set_option maxHeartbeats 4000000 in
theorem j_X10_goesSteps_2 {J : Jt} {Z : Zt} {d : Nat} {q_X10_goesSteps : (Nat → Int32) → (Nat → Int32) → Int32 → Int32 → Int32 → (Nat → Int32) → (Nat → Int32) → (Nat → Int32) → Int32 → (Nat → Int32) → (Nat → Int32) → Int32 → Int32 → Int32 → (Nat → Int32) → Int32 → Int32 → Option ((Nat → Int32) × (Nat → Int32) × Int32 × Int32 × Int32 × (Nat → Int32))} {a0 : Nat → Nat} {m_thrown : Int32} {m_refused : Nat → Int32} {m_taped : Int32} {m_size : Int32} {m_at : Int32} {m_bad : Int32} {m_badKind : Int32} {m_opens : Int32} {m_faultAt : Int32} {m_tape : Nat → Int32} {m_newBed : Nat → Int32} {m_newLetter : Nat → Int32} {m_newReader : Nat → Int32} {m_bed : Nat → Int32} {m_letter : Nat → Int32} {m_reader : Nat → Int32} {m_newBeds : Int32} {m_newLetters : Int32} {m_newReaders : Int32} {m_beds : Int32} {m_letters : Int32} {m_readers : Int32} {m_newCode : Nat → Int32} {m_newOf : Nat → Int32} {m_code : Nat → Int32} {m_ofCode : Nat → Int32} {m_newCodes : Int32} {m_codes : Int32} {m_newStep : Nat → Int32} {m_step : Nat → Int32} {m_newSteps : Int32} {m_works : Int32} {m_refusedSteps : Int32} {m_now : Nat → Int32} {m_past : Nat → Int32} {m_newBook : Nat → Int32} {m_book : Nat → Int32} {m_written : Int32} {m_mostBy : Nat → Int32} {m_stuffing : Nat → Int32} {m_stuffedMany : Int32} {m_lastBy : Nat → Int32} {m_leftBy : Nat → Int32} {m_splitBy : Nat → Int64} {m_seedNow : Int32} {m_image : Nat → Int32} {m_images : Int32} {n1 : Int32} {n2 : Int32} {o_m_stack : Nat → Int32} {o_m_facts : Nat → Int32} {o_m_begun : Int32} {o_m_done : Int32} {o_m_refusedNow : Int32} {o_m_s : Nat → Int32} (C : Cx J Z cX10_goesSteps 6 RX10 none (rm_mg (d + 1))) (E : Ez J Z 0 0 none (cs_X10 J.2.2.1 a0 m_thrown m_refused m_taped m_size m_at m_bad m_badKind m_opens m_faultAt m_tape m_newBed m_newLetter m_newReader m_bed m_letter m_reader m_newBeds m_newLetters m_newReaders m_beds m_letters m_readers m_newCode m_newOf m_code m_ofCode o_m_stack m_newCodes m_codes o_m_facts m_newStep m_step m_newSteps m_works m_refusedSteps o_m_begun o_m_done o_m_refusedNow m_now o_m_s m_past m_newBook m_book m_written m_mostBy m_stuffing m_stuffedMany m_lastBy m_leftBy m_splitBy m_seedNow m_image m_images)) (hq_X10_goesSteps : K_X10_goesSteps J q_X10_goesSteps (rm_mg d)) : ∀ (n : Nat) (x3 : Int32) (m_stack : Nat → Int32) (m_facts : Nat → Int32) (m_begun : Int32) (m_done : Int32) (m_refusedNow : Int32) (m_s : Nat → Int32), f_X10_goesSteps_2 q_X10_goesSteps m_bed m_letter m_beds m_letters m_readers m_code m_ofCode m_codes m_step n1 n2 n x3 m_stack m_facts m_begun m_done m_refusedNow m_s = some (o_m_stack, o_m_facts, o_m_begun, o_m_done, o_m_refusedNow, o_m_s) → G J Z 0 0 (cs_X10 J.2.2.1 a0 m_thrown m_refused m_taped m_size m_at m_bad m_badKind m_opens m_faultAt m_tape m_newBed m_newLetter m_newReader m_bed m_letter m_reader m_newBeds m_newLetters m_newReaders m_beds m_letters m_readers m_newCode m_newOf m_code m_ofCode m_stack m_newCodes m_codes m_facts m_newStep m_step m_newSteps m_works m_refusedSteps m_begun m_done m_refusedNow m_now m_s m_past m_newBook m_book m_written m_mostBy m_stuffing m_stuffedMany m_lastBy m_leftBy m_splitBy m_seedNow m_image m_images) 6 [(0, .ref (a0 0)), (2, .int n2), (3, .int x3)] 2 [] := by
  intro n
  induction n with
  | zero =>
    intro x3 m_stack m_facts m_begun m_done m_refusedNow m_s h
    rw [f_X10_goesSteps_2] at h
    cases h
  | succ n ih =>
    intro x3 m_stack m_facts m_begun m_done m_refusedNow m_s h
    rw [f_X10_goesSteps_2] at h
    refine g_iload_n (pc := 2) C 2 rfl dX10_goesSteps_2 ?_
    refine g_iload_n (pc := 3) C 1 rfl dX10_goesSteps_3 ?_
    refine g_icmp_ge (pc := 4) C (tgt := 153) dX10_goesSteps_4 rfl h (fun h => ?_) (fun h => ?_)
    · cases h
      exact g_vret C E dX10_goesSteps_153
    · refine g_aload_n (pc := 7) C 0 rfl dX10_goesSteps_7 ?_
      refine g_get (pc := 8) C FOK_X10 0 rfl rfl 35 (by decide) kw_1312 rfl dX10_goesSteps_8 ?_
      refine g_sipush (pc := 11) C dX10_goesSteps_11 cs_200 ?_
      refine g_icmp_ge (pc := 14) C (tgt := 153) dX10_goesSteps_14 rfl h (fun h => ?_) (fun h => ?_)
      · cases h
        exact g_vret C E dX10_goesSteps_153
      · refine g_aload_n (pc := 17) C 0 rfl dX10_goesSteps_17 ?_
        refine g_dup (pc := 18) C dX10_goesSteps_18 rfl ?_
        refine g_get (pc := 19) C FOK_X10 0 rfl rfl 35 (by decide) kw_1312 rfl dX10_goesSteps_19 ?_
        refine g_iconst (pc := 22) C dX10_goesSteps_22 ci_1 ?_
        refine g_iadd (pc := 23) C dX10_goesSteps_23 ?_
        refine g_put (pc := 24) C (w' := cs_X10 J.2.2.1 a0 m_thrown m_refused m_taped m_size m_at m_bad m_badKind m_opens m_faultAt m_tape m_newBed m_newLetter m_newReader m_bed m_letter m_reader m_newBeds m_newLetters m_newReaders m_beds m_letters m_readers m_newCode m_newOf m_code m_ofCode m_stack m_newCodes m_codes m_facts m_newStep m_step m_newSteps m_works m_refusedSteps (m_begun + 1) m_done m_refusedNow m_now m_s m_past m_newBook m_book m_written m_mostBy m_stuffing m_stuffedMany m_lastBy m_leftBy m_splitBy m_seedNow m_image m_images) FOK_X10 0 rfl rfl 35 (by decide) kw_1312 rfl rfl rfl (Nat.le_of_ble_eq_true rfl) dX10_goesSteps_24 rfl ?_
        refine g_aload_n (pc := 27) C 0 rfl dX10_goesSteps_27 ?_
        refine g_get (pc := 28) C FOK_X10 0 rfl rfl 31 (by decide) kw_1308 rfl dX10_goesSteps_28 ?_
        refine g_iload_n (pc := 31) C 2 rfl dX10_goesSteps_31 ?_
        obtain ⟨hi, h⟩ := ix_of h
        refine g_iald (pc := 32) C 16 rfl hi dX10_goesSteps_32 ?_
        refine g_bipush (pc := 33) C dX10_goesSteps_33 cb_6 ?_
        refine g_icmp_ne (pc := 35) C (tgt := 95) dX10_goesSteps_35 rfl h (fun h => ?_) (fun h => ?_)
        · refine g_aload_n (pc := 95) C 0 rfl dX10_goesSteps_95 ?_
          refine g_aload_n (pc := 96) C 0 rfl dX10_goesSteps_96 ?_
          refine g_get (pc := 97) C FOK_X10 0 rfl rfl 31 (by decide) kw_1308 rfl dX10_goesSteps_97 ?_
          refine g_iload_n (pc := 100) C 2 rfl dX10_goesSteps_100 ?_
          obtain ⟨hi, h⟩ := ix_of h
          refine g_iald (pc := 101) C 16 rfl hi dX10_goesSteps_101 ?_
          refine g_aload_n (pc := 102) C 0 rfl dX10_goesSteps_102 ?_
          refine g_get (pc := 103) C FOK_X10 0 rfl rfl 31 (by decide) kw_1308 rfl dX10_goesSteps_103 ?_
          refine g_iload_n (pc := 106) C 2 rfl dX10_goesSteps_106 ?_
          refine g_iconst (pc := 107) C dX10_goesSteps_107 ci_1 ?_
          refine g_iadd (pc := 108) C dX10_goesSteps_108 ?_
          obtain ⟨hi, h⟩ := ix_of h
          refine g_iald (pc := 109) C 16 rfl hi dX10_goesSteps_109 ?_
          refine g_aload_n (pc := 110) C 0 rfl dX10_goesSteps_110 ?_
          refine g_get (pc := 111) C FOK_X10 0 rfl rfl 31 (by decide) kw_1308 rfl dX10_goesSteps_111 ?_
          refine g_iload_n (pc := 114) C 2 rfl dX10_goesSteps_114 ?_
          refine g_iconst (pc := 115) C dX10_goesSteps_115 ci_2 ?_
          refine g_iadd (pc := 116) C dX10_goesSteps_116 ?_
          obtain ⟨hi, h⟩ := ix_of h
          refine g_iald (pc := 117) C 16 rfl hi dX10_goesSteps_117 ?_
          obtain ⟨v7, c8, c9, c10, hc, h⟩ := b4_of h
          refine g_callV (pc := 118) C (w' := cs_X10 J.2.2.1 a0 m_thrown m_refused m_taped m_size m_at m_bad m_badKind m_opens m_faultAt m_tape m_newBed m_newLetter m_newReader m_bed m_letter m_reader m_newBeds m_newLetters m_newReaders m_beds m_letters m_readers m_newCode m_newOf m_code m_ofCode c8 m_newCodes m_codes c9 m_newStep m_step m_newSteps m_works m_refusedSteps (m_begun + 1) m_done m_refusedNow m_now c10 m_past m_newBook m_book m_written m_mostBy m_stuffing m_stuffedMany m_lastBy m_leftBy m_splitBy m_seedNow m_image m_images) (As := [.int (m_step x3.toNatClampNeg), .int (m_step (x3 + 1).toNatClampNeg), .int (m_step (x3 + 2).toNatClampNeg)]) (st := []) (ci := 10) (q0 := 0) rfl rfl (t_X10_isDone (a0 := a0) hc) Sub.same kw_1603 kw_1605 kw_48 kw_95 hy_X10_isDone kw_1606 rfl (rm_mg_f0 d (Nat.le_of_ble_eq_true rfl)) (rm_mg_l0 d (Nat.le_of_ble_eq_true rfl)) (Nat.le_of_ble_eq_true rfl) (Nat.le_of_ble_eq_true rfl) (Nat.le_of_ble_eq_true rfl) dX10_goesSteps_118 ?_
          refine g_if_eq (pc := 121) C (tgt := 137) dX10_goesSteps_121 rfl h (fun h => ?_) (fun h => ?_)
          · refine g_aload_n (pc := 137) C 0 rfl dX10_goesSteps_137 ?_
            refine g_dup (pc := 138) C dX10_goesSteps_138 rfl ?_
            refine g_get (pc := 139) C FOK_X10 0 rfl rfl 37 (by decide) kw_1314 rfl dX10_goesSteps_139 ?_
            refine g_iconst (pc := 142) C dX10_goesSteps_142 ci_1 ?_
            refine g_iadd (pc := 143) C dX10_goesSteps_143 ?_
            refine g_put (pc := 144) C (w' := cs_X10 J.2.2.1 a0 m_thrown m_refused m_taped m_size m_at m_bad m_badKind m_opens m_faultAt m_tape m_newBed m_newLetter m_newReader m_bed m_letter m_reader m_newBeds m_newLetters m_newReaders m_beds m_letters m_readers m_newCode m_newOf m_code m_ofCode c8 m_newCodes m_codes c9 m_newStep m_step m_newSteps m_works m_refusedSteps (m_begun + 1) m_done (m_refusedNow + 1) m_now c10 m_past m_newBook m_book m_written m_mostBy m_stuffing m_stuffedMany m_lastBy m_leftBy m_splitBy m_seedNow m_image m_images) FOK_X10 0 rfl rfl 37 (by decide) kw_1314 rfl rfl rfl (Nat.le_of_ble_eq_true rfl) dX10_goesSteps_144 rfl ?_
            refine g_iinc (pc := 147) C (j := 2) [(3, .int (x3 + 3)), (0, .ref (a0 0)), (2, .int n2)] dX10_goesSteps_147 rfl (ii_3 _) (by decide) rfl ?_
            refine g_goto (pc := 150) C (tgt := 2) dX10_goesSteps_150 rfl ?_
            refine g_lv [1, 2, 0] rfl ?_
            exact ih (x3 + 3) c8 c9 (m_begun + 1) m_done (m_refusedNow + 1) c10 h
          · refine g_aload_n (pc := 124) C 0 rfl dX10_goesSteps_124 ?_
            refine g_dup (pc := 125) C dX10_goesSteps_125 rfl ?_
            refine g_get (pc := 126) C FOK_X10 0 rfl rfl 36 (by decide) kw_1313 rfl dX10_goesSteps_126 ?_
            refine g_iconst (pc := 129) C dX10_goesSteps_129 ci_1 ?_
            refine g_iadd (pc := 130) C dX10_goesSteps_130 ?_
            refine g_put (pc := 131) C (w' := cs_X10 J.2.2.1 a0 m_thrown m_refused m_taped m_size m_at m_bad m_badKind m_opens m_faultAt m_tape m_newBed m_newLetter m_newReader m_bed m_letter m_reader m_newBeds m_newLetters m_newReaders m_beds m_letters m_readers m_newCode m_newOf m_code m_ofCode c8 m_newCodes m_codes c9 m_newStep m_step m_newSteps m_works m_refusedSteps (m_begun + 1) (m_done + 1) m_refusedNow m_now c10 m_past m_newBook m_book m_written m_mostBy m_stuffing m_stuffedMany m_lastBy m_leftBy m_splitBy m_seedNow m_image m_images) FOK_X10 0 rfl rfl 36 (by decide) kw_1313 rfl rfl rfl (Nat.le_of_ble_eq_true rfl) dX10_goesSteps_131 rfl ?_
            refine g_goto (pc := 134) C (tgt := 147) dX10_goesSteps_134 rfl ?_
            refine g_iinc (pc := 147) C (j := 2) [(3, .int (x3 + 3)), (0, .ref (a0 0)), (2, .int n2)] dX10_goesSteps_147 rfl (ii_3 _) (by decide) rfl ?_
            refine g_goto (pc := 150) C (tgt := 2) dX10_goesSteps_150 rfl ?_
            refine g_lv [1, 2, 0] rfl ?_
            exact ih (x3 + 3) c8 c9 (m_begun + 1) (m_done + 1) m_refusedNow c10 h
        · refine g_aload_n (pc := 38) C 0 rfl dX10_goesSteps_38 ?_
          refine g_get (pc := 39) C FOK_X10 0 rfl rfl 31 (by decide) kw_1308 rfl dX10_goesSteps_39 ?_
          refine g_iload_n (pc := 42) C 2 rfl dX10_goesSteps_42 ?_
          refine g_iconst (pc := 43) C dX10_goesSteps_43 ci_2 ?_
          refine g_iadd (pc := 44) C dX10_goesSteps_44 ?_
          obtain ⟨hi, h⟩ := ix_of h
          refine g_iald (pc := 45) C 16 rfl hi dX10_goesSteps_45 ?_
          refine g_istore (pc := 46) C [(4, .int (m_step (x3 + 2).toNatClampNeg)), (0, .ref (a0 0)), (2, .int n2), (3, .int x3)] dX10_goesSteps_46 (by decide) rfl ?_
          refine g_iconst (pc := 48) C dX10_goesSteps_48 ci_0 ?_
          refine g_istore (pc := 49) C [(5, .int 0), (4, .int (m_step (x3 + 2).toNatClampNeg)), (0, .ref (a0 0)), (2, .int n2), (3, .int x3)] dX10_goesSteps_49 (by decide) rfl ?_
          refine g_lv [2, 3, 4, 1, 0] rfl ?_
          exact j_X10_goesSteps_51 C E hq_X10_goesSteps  ih FU x3 (m_step (x3 + 2).toNatClampNeg) 0 m_stack m_facts (m_begun + 1) m_done m_refusedNow m_s h
set_option maxRecDepth 100000 in
set_option maxHeartbeats 4000000 in
theorem t_X10_goesSteps_b {J : Jt} {d : Nat} {q_X10_goesSteps : (Nat → Int32) → (Nat → Int32) → Int32 → Int32 → Int32 → (Nat → Int32) → (Nat → Int32) → (Nat → Int32) → Int32 → (Nat → Int32) → (Nat → Int32) → Int32 → Int32 → Int32 → (Nat → Int32) → Int32 → Int32 → Option ((Nat → Int32) × (Nat → Int32) × Int32 × Int32 × Int32 × (Nat → Int32))} {a0 : Nat → Nat} {m_thrown : Int32} {m_refused : Nat → Int32} {m_taped : Int32} {m_size : Int32} {m_at : Int32} {m_bad : Int32} {m_badKind : Int32} {m_opens : Int32} {m_faultAt : Int32} {m_tape : Nat → Int32} {m_newBed : Nat → Int32} {m_newLetter : Nat → Int32} {m_newReader : Nat → Int32} {m_bed : Nat → Int32} {m_letter : Nat → Int32} {m_reader : Nat → Int32} {m_newBeds : Int32} {m_newLetters : Int32} {m_newReaders : Int32} {m_beds : Int32} {m_letters : Int32} {m_readers : Int32} {m_newCode : Nat → Int32} {m_newOf : Nat → Int32} {m_code : Nat → Int32} {m_ofCode : Nat → Int32} {m_stack : Nat → Int32} {m_newCodes : Int32} {m_codes : Int32} {m_facts : Nat → Int32} {m_newStep : Nat → Int32} {m_step : Nat → Int32} {m_newSteps : Int32} {m_works : Int32} {m_refusedSteps : Int32} {m_begun : Int32} {m_done : Int32} {m_refusedNow : Int32} {m_now : Nat → Int32} {m_s : Nat → Int32} {m_past : Nat → Int32} {m_newBook : Nat → Int32} {m_book : Nat → Int32} {m_written : Int32} {m_mostBy : Nat → Int32} {m_stuffing : Nat → Int32} {m_stuffedMany : Int32} {m_lastBy : Nat → Int32} {m_leftBy : Nat → Int32} {m_splitBy : Nat → Int64} {m_seedNow : Int32} {m_image : Nat → Int32} {m_images : Int32} {n1 : Int32} {n2 : Int32} {o_m_stack : Nat → Int32} {o_m_facts : Nat → Int32} {o_m_begun : Int32} {o_m_done : Int32} {o_m_refusedNow : Int32} {o_m_s : Nat → Int32} (hq_X10_goesSteps : K_X10_goesSteps J q_X10_goesSteps (rm_mg d)) (h : f_X10_goesSteps_b q_X10_goesSteps m_bed m_letter m_beds m_letters m_readers m_code m_ofCode m_stack m_codes m_facts m_step m_begun m_done m_refusedNow m_s n1 n2 = some (o_m_stack, o_m_facts, o_m_begun, o_m_done, o_m_refusedNow, o_m_s)) : Mt J yX10_goesSteps cX10_goesSteps 6 none (rm_mg (d + 1)) [.ref (a0 0), .int n1, .int n2] (cs_X10 J.2.2.1 a0 m_thrown m_refused m_taped m_size m_at m_bad m_badKind m_opens m_faultAt m_tape m_newBed m_newLetter m_newReader m_bed m_letter m_reader m_newBeds m_newLetters m_newReaders m_beds m_letters m_readers m_newCode m_newOf m_code m_ofCode m_stack m_newCodes m_codes m_facts m_newStep m_step m_newSteps m_works m_refusedSteps m_begun m_done m_refusedNow m_now m_s m_past m_newBook m_book m_written m_mostBy m_stuffing m_stuffedMany m_lastBy m_leftBy m_splitBy m_seedNow m_image m_images) none (cs_X10 J.2.2.1 a0 m_thrown m_refused m_taped m_size m_at m_bad m_badKind m_opens m_faultAt m_tape m_newBed m_newLetter m_newReader m_bed m_letter m_reader m_newBeds m_newLetters m_newReaders m_beds m_letters m_readers m_newCode m_newOf m_code m_ofCode o_m_stack m_newCodes m_codes o_m_facts m_newStep m_step m_newSteps m_works m_refusedSteps o_m_begun o_m_done o_m_refusedNow m_now o_m_s m_past m_newBook m_book m_written m_mostBy m_stuffing m_stuffedMany m_lastBy m_leftBy m_splitBy m_seedNow m_image m_images) := by
  refine Mt_of (own := RX10) (by decide) rfl (Nat.le_of_ble_eq_true rfl) rfl (fun Z C E => ?_)
  unfold f_X10_goesSteps_b at h
  show G J Z 0 0 (cs_X10 J.2.2.1 a0 m_thrown m_refused m_taped m_size m_at m_bad m_badKind m_opens m_faultAt m_tape m_newBed m_newLetter m_newReader m_bed m_letter m_reader m_newBeds m_newLetters m_newReaders m_beds m_letters m_readers m_newCode m_newOf m_code m_ofCode m_stack m_newCodes m_codes m_facts m_newStep m_step m_newSteps m_works m_refusedSteps m_begun m_done m_refusedNow m_now m_s m_past m_newBook m_book m_written m_mostBy m_stuffing m_stuffedMany m_lastBy m_leftBy m_splitBy m_seedNow m_image m_images) 6 [(0, .ref (a0 0)), (1, .int n1), (2, .int n2)] 0 []
  refine g_iload_n (pc := 0) C 1 rfl dX10_goesSteps_0 ?_
  refine g_istore_n (pc := 1) C [(3, .int n1), (0, .ref (a0 0)), (1, .int n1), (2, .int n2)] dX10_goesSteps_1 rfl (by decide) rfl ?_
  refine g_lv [1, 3, 0] rfl ?_
  exact j_X10_goesSteps_2 C E hq_X10_goesSteps   FU n1 m_stack m_facts m_begun m_done m_refusedNow m_s h
theorem T_mg {J : Jt} : ∀ d, K_X10_goesSteps J (f_X10_goesSteps d) (rm_mg d) := by
  intro d
  induction d with
  | zero => exact (fun _ _ _ _ _ _ _ _ _ _ _ _ _ _ _ _ _ _ _ _ _ _ _ _ _ _ _ _ _ _ _ _ _ _ _ _ _ _ _ _ _ _ _ _ _ _ _ _ _ _ _ _ _ _ _ _ _ _ _ _ _ _ h => nomatch (show none = some _ from h))
  | succ d ih => exact (fun _ _ _ _ _ _ _ _ _ _ _ _ _ _ _ _ _ _ _ _ _ _ _ _ _ _ _ _ _ _ _ _ _ _ _ _ _ _ _ _ _ _ _ _ _ _ _ _ _ _ _ _ _ _ _ _ _ _ _ _ _ _ h => t_X10_goesSteps_b ih h)
theorem t_X10_goesSteps {J : Jt} (d : Nat) : K_X10_goesSteps J (f_X10_goesSteps d) (rm_mg d) := (T_mg d)
noncomputable def f_X10_take (m_now : Nat → Int32) (m_s : Nat → Int32) : Option ((Nat → Int32)) := b1 (f_X10_copies 165 m_now 165 m_s 165) (fun c1 => some c1)
def rm_X10_take : Room := { frames := 1, cells := 0, slots := 0, locals := 24 }
set_option maxRecDepth 100000 in
set_option maxHeartbeats 4000000 in
theorem t_X10_take {J : Jt} {a0 : Nat → Nat} {m_thrown : Int32} {m_refused : Nat → Int32} {m_taped : Int32} {m_size : Int32} {m_at : Int32} {m_bad : Int32} {m_badKind : Int32} {m_opens : Int32} {m_faultAt : Int32} {m_tape : Nat → Int32} {m_newBed : Nat → Int32} {m_newLetter : Nat → Int32} {m_newReader : Nat → Int32} {m_bed : Nat → Int32} {m_letter : Nat → Int32} {m_reader : Nat → Int32} {m_newBeds : Int32} {m_newLetters : Int32} {m_newReaders : Int32} {m_beds : Int32} {m_letters : Int32} {m_readers : Int32} {m_newCode : Nat → Int32} {m_newOf : Nat → Int32} {m_code : Nat → Int32} {m_ofCode : Nat → Int32} {m_stack : Nat → Int32} {m_newCodes : Int32} {m_codes : Int32} {m_facts : Nat → Int32} {m_newStep : Nat → Int32} {m_step : Nat → Int32} {m_newSteps : Int32} {m_works : Int32} {m_refusedSteps : Int32} {m_begun : Int32} {m_done : Int32} {m_refusedNow : Int32} {m_now : Nat → Int32} {m_s : Nat → Int32} {m_past : Nat → Int32} {m_newBook : Nat → Int32} {m_book : Nat → Int32} {m_written : Int32} {m_mostBy : Nat → Int32} {m_stuffing : Nat → Int32} {m_stuffedMany : Int32} {m_lastBy : Nat → Int32} {m_leftBy : Nat → Int32} {m_splitBy : Nat → Int64} {m_seedNow : Int32} {m_image : Nat → Int32} {m_images : Int32} {o_m_s : Nat → Int32} (h : f_X10_take m_now m_s = some o_m_s) : Mt J yX10_take cX10_take 1 none rm_X10_take [.ref (a0 0)] (cs_X10 J.2.2.1 a0 m_thrown m_refused m_taped m_size m_at m_bad m_badKind m_opens m_faultAt m_tape m_newBed m_newLetter m_newReader m_bed m_letter m_reader m_newBeds m_newLetters m_newReaders m_beds m_letters m_readers m_newCode m_newOf m_code m_ofCode m_stack m_newCodes m_codes m_facts m_newStep m_step m_newSteps m_works m_refusedSteps m_begun m_done m_refusedNow m_now m_s m_past m_newBook m_book m_written m_mostBy m_stuffing m_stuffedMany m_lastBy m_leftBy m_splitBy m_seedNow m_image m_images) none (cs_X10 J.2.2.1 a0 m_thrown m_refused m_taped m_size m_at m_bad m_badKind m_opens m_faultAt m_tape m_newBed m_newLetter m_newReader m_bed m_letter m_reader m_newBeds m_newLetters m_newReaders m_beds m_letters m_readers m_newCode m_newOf m_code m_ofCode m_stack m_newCodes m_codes m_facts m_newStep m_step m_newSteps m_works m_refusedSteps m_begun m_done m_refusedNow m_now o_m_s m_past m_newBook m_book m_written m_mostBy m_stuffing m_stuffedMany m_lastBy m_leftBy m_splitBy m_seedNow m_image m_images) := by
  refine Mt_of (own := RX10) (by decide) rfl (Nat.le_of_ble_eq_true rfl) rfl (fun Z C E => ?_)
  unfold f_X10_take at h
  show G J Z 0 0 (cs_X10 J.2.2.1 a0 m_thrown m_refused m_taped m_size m_at m_bad m_badKind m_opens m_faultAt m_tape m_newBed m_newLetter m_newReader m_bed m_letter m_reader m_newBeds m_newLetters m_newReaders m_beds m_letters m_readers m_newCode m_newOf m_code m_ofCode m_stack m_newCodes m_codes m_facts m_newStep m_step m_newSteps m_works m_refusedSteps m_begun m_done m_refusedNow m_now m_s m_past m_newBook m_book m_written m_mostBy m_stuffing m_stuffedMany m_lastBy m_leftBy m_splitBy m_seedNow m_image m_images) 1 [(0, .ref (a0 0))] 0 []
  refine g_aload_n (pc := 0) C 0 rfl dX10_take_0 ?_
  refine g_aload_n (pc := 1) C 0 rfl dX10_take_1 ?_
  refine g_get (pc := 2) C FOK_X10 0 rfl rfl 38 (by decide) kw_1315 rfl dX10_take_2 ?_
  refine g_aload_n (pc := 5) C 0 rfl dX10_take_5 ?_
  refine g_get (pc := 6) C FOK_X10 0 rfl rfl 39 (by decide) kw_1316 rfl dX10_take_6 ?_
  refine g_sipush (pc := 9) C dX10_take_9 cs_165 ?_
  obtain ⟨c1, hc, h⟩ := b1_of h
  refine g_callV (pc := 12) C (w' := cs_X10 J.2.2.1 a0 m_thrown m_refused m_taped m_size m_at m_bad m_badKind m_opens m_faultAt m_tape m_newBed m_newLetter m_newReader m_bed m_letter m_reader m_newBeds m_newLetters m_newReaders m_beds m_letters m_readers m_newCode m_newOf m_code m_ofCode m_stack m_newCodes m_codes m_facts m_newStep m_step m_newSteps m_works m_refusedSteps m_begun m_done m_refusedNow m_now c1 m_past m_newBook m_book m_written m_mostBy m_stuffing m_stuffedMany m_lastBy m_leftBy m_splitBy m_seedNow m_image m_images) (As := [.ref (a0 17), .ref (a0 18), .int 165]) (st := []) (ci := 10) (q0 := 0) rfl rfl (t_X10_copies (rv := a0 0) (a0 := (fun _ => a0 17)) (a1 := (fun _ => a0 18)) hc) (Sub.gen [17, 18] [0, 1, 2, 3, 4, 5, 6, 7, 8, 9, 10, 11, 12, 13, 14, 15, 16, 19, 20, 21, 22, 23, 24, 25, 26, 27] [0, 1, 2, 3, 4, 5, 6, 7, 8, 9, 10, 11, 12, 13, 14, 15, 16, 26, 27, 17, 18, 19, 20, 21, 22, 23, 24, 25] rfl (by decide) rfl (by decide) (by decide) rfl (by decide)) kw_1273 kw_1275 kw_19 kw_95 hy_X10_copies kw_1276 rfl (Nat.le_of_ble_eq_true rfl) (Nat.le_of_ble_eq_true rfl) (Nat.le_of_ble_eq_true rfl) (Nat.le_of_ble_eq_true rfl) (Nat.le_of_ble_eq_true rfl) dX10_take_12 ?_
  cases h
  exact g_vret C E dX10_take_15
noncomputable def f_X10_work_123  (m_tape : Nat → Int32) (m_bed : Nat → Int32) (m_letter : Nat → Int32) (m_beds : Int32) (m_letters : Int32) (m_readers : Int32) (m_code : Nat → Int32) (m_ofCode : Nat → Int32) (m_codes : Int32) (n1 : Int32) : Nat → Int32 → Int32 → (Nat → Int32) → Int32 → Int32 → Int32 → Int32 → Int32 → Int32 → Int32 → (Nat → Int32) → (Nat → Int32) → (Nat → Int32) → (Nat → Int32) → Int32 → Int32 → Int32 → Int32 → Int32 → Int32 → (Nat → Int32) → (Nat → Int32) → (Nat → Int32) → Option (Int32 × Int32 × (Nat → Int32) × Int32 × Int32 × Int32 × Int32 × Int32 × Int32 × Int32 × (Nat → Int32) × (Nat → Int32) × (Nat → Int32) × (Nat → Int32) × Int32 × Int32 × Int32 × Int32 × Int32 × Int32 × (Nat → Int32) × (Nat → Int32) × (Nat → Int32))
  | 0, _, _, _, _, _, _, _, _, _, _, _, _, _, _, _, _, _, _, _, _, _, _, _ => none
  | n + 1, x3, m_thrown, m_refused, m_taped, m_size, m_at, m_bad, m_badKind, m_opens, m_faultAt, m_stack, m_facts, m_newStep, m_step, m_newSteps, m_works, m_refusedSteps, m_begun, m_done, m_refusedNow, m_now, m_s, m_past => if 165 ≤ x3 then b1 (f_X10_take m_now m_s) (fun c1 => b6 (f_X10_goesSteps 12 m_bed m_letter m_beds m_letters m_readers m_code m_ofCode m_stack m_codes m_facts m_step 0 0 0 c1 0 m_newSteps) (fun c2 c3 c4 c5 c6 c7 => b1 (f_X10_copies 165 c7 165 m_now 165) (fun c8 => some (c5, m_thrown, m_refused, m_taped, m_size, m_at, m_bad, m_badKind, m_opens, m_faultAt, c2, c3, m_newStep, m_step, m_newSteps, m_works + 1, c6, c4, c5, c6, c8, c7, m_past)))) else if ixb x3 165 then if ixb ((165 * m_works) + x3) 2640 then f_X10_work_123 m_tape m_bed m_letter m_beds m_letters m_readers m_code m_ofCode m_codes n1 n (x3 + 1) m_thrown m_refused m_taped m_size m_at m_bad m_badKind m_opens m_faultAt m_stack m_facts m_newStep m_step m_newSteps m_works m_refusedSteps m_begun m_done m_refusedNow m_now m_s (upd m_past ((165 * m_works) + x3).toNatClampNeg (m_now x3.toNatClampNeg)) else none else none
noncomputable def f_X10_work_89  (m_tape : Nat → Int32) (m_bed : Nat → Int32) (m_letter : Nat → Int32) (m_beds : Int32) (m_letters : Int32) (m_readers : Int32) (m_code : Nat → Int32) (m_ofCode : Nat → Int32) (m_codes : Int32) (n1 : Int32) (m_thrown : Int32) (m_refused : Nat → Int32) (m_taped : Int32) (m_size : Int32) (m_at : Int32) (m_bad : Int32) (m_badKind : Int32) (m_opens : Int32) (m_faultAt : Int32) (m_stack : Nat → Int32) (m_facts : Nat → Int32) (m_newStep : Nat → Int32) (m_step : Nat → Int32) (m_newSteps : Int32) (m_works : Int32) (m_refusedSteps : Int32) (m_begun : Int32) (m_done : Int32) (m_refusedNow : Int32) (m_now : Nat → Int32) (m_s : Nat → Int32) (m_past : Nat → Int32) : Option (Int32 × Int32 × (Nat → Int32) × Int32 × Int32 × Int32 × Int32 × Int32 × Int32 × Int32 × (Nat → Int32) × (Nat → Int32) × (Nat → Int32) × (Nat → Int32) × Int32 × Int32 × Int32 × Int32 × Int32 × Int32 × (Nat → Int32) × (Nat → Int32) × (Nat → Int32)) := b2 (f_X10_result m_bad m_badKind m_faultAt 0) (fun v9 c10 => if m_bad = (-1) then b1 (f_X10_copies 150 m_newStep 150 m_step m_newSteps) (fun c11 => f_X10_work_123 m_tape m_bed m_letter m_beds m_letters m_readers m_code m_ofCode m_codes n1 FU 0 m_thrown m_refused m_taped m_size m_at m_bad m_badKind m_opens c10 m_stack m_facts m_newStep c11 m_newSteps m_works m_refusedSteps m_begun m_done m_refusedNow m_now m_s m_past) else some (v9, m_thrown, m_refused, m_taped, m_size, m_at, m_bad, m_badKind, m_opens, c10, m_stack, m_facts, m_newStep, m_step, m_newSteps, m_works, m_refusedSteps, m_begun, m_done, m_refusedNow, m_now, m_s, m_past))
noncomputable def f_X10_work_68  (m_tape : Nat → Int32) (m_bed : Nat → Int32) (m_letter : Nat → Int32) (m_beds : Int32) (m_letters : Int32) (m_readers : Int32) (m_code : Nat → Int32) (m_ofCode : Nat → Int32) (m_codes : Int32) (n1 : Int32) : Nat → Int32 → (Nat → Int32) → Int32 → Int32 → Int32 → Int32 → Int32 → Int32 → Int32 → (Nat → Int32) → (Nat → Int32) → (Nat → Int32) → (Nat → Int32) → Int32 → Int32 → Int32 → Int32 → Int32 → Int32 → (Nat → Int32) → (Nat → Int32) → (Nat → Int32) → Option (Int32 × Int32 × (Nat → Int32) × Int32 × Int32 × Int32 × Int32 × Int32 × Int32 × Int32 × (Nat → Int32) × (Nat → Int32) × (Nat → Int32) × (Nat → Int32) × Int32 × Int32 × Int32 × Int32 × Int32 × Int32 × (Nat → Int32) × (Nat → Int32) × (Nat → Int32))
  | 0, _, _, _, _, _, _, _, _, _, _, _, _, _, _, _, _, _, _, _, _, _, _ => none
  | n + 1, m_thrown, m_refused, m_taped, m_size, m_at, m_bad, m_badKind, m_opens, m_faultAt, m_stack, m_facts, m_newStep, m_step, m_newSteps, m_works, m_refusedSteps, m_begun, m_done, m_refusedNow, m_now, m_s, m_past => b1 (f_X10_fine m_bad) (fun v12 => if v12 = 0 then f_X10_work_89 m_tape m_bed m_letter m_beds m_letters m_readers m_code m_ofCode m_codes n1 m_thrown m_refused m_taped m_size m_at m_bad m_badKind m_opens m_faultAt m_stack m_facts m_newStep m_step m_newSteps m_works m_refusedSteps m_begun m_done m_refusedNow m_now m_s m_past else b2 (f_X10_isMore m_size m_at m_tape) (fun v13 c14 => if v13 = 0 then f_X10_work_89 m_tape m_bed m_letter m_beds m_letters m_readers m_code m_ofCode m_codes n1 m_thrown m_refused m_taped m_size c14 m_bad m_badKind m_opens m_faultAt m_stack m_facts m_newStep m_step m_newSteps m_works m_refusedSteps m_begun m_done m_refusedNow m_now m_s m_past else b6 (f_X10_readStep 30 m_size c14 m_bad m_badKind m_opens m_tape m_beds m_letters m_readers m_newStep m_newSteps) (fun c15 c16 c17 c18 c19 c20 => f_X10_work_68 m_tape m_bed m_letter m_beds m_letters m_readers m_code m_ofCode m_codes n1 n m_thrown m_refused m_taped m_size c15 c16 c17 c18 m_faultAt m_stack m_facts c19 m_step c20 m_works m_refusedSteps m_begun m_done m_refusedNow m_now m_s m_past)))
noncomputable def f_X10_work_30  (m_tape : Nat → Int32) (m_bed : Nat → Int32) (m_letter : Nat → Int32) (m_beds : Int32) (m_letters : Int32) (m_readers : Int32) (m_code : Nat → Int32) (m_ofCode : Nat → Int32) (m_codes : Int32) (n1 : Int32) (y1 : Int32) (m_thrown : Int32) (m_refused : Nat → Int32) (m_taped : Int32) (m_size : Int32) (m_at : Int32) (m_bad : Int32) (m_badKind : Int32) (m_opens : Int32) (m_faultAt : Int32) (m_stack : Nat → Int32) (m_facts : Nat → Int32) (m_newStep : Nat → Int32) (m_step : Nat → Int32) (m_newSteps : Int32) (m_works : Int32) (m_refusedSteps : Int32) (m_begun : Int32) (m_done : Int32) (m_refusedNow : Int32) (m_now : Nat → Int32) (m_s : Nat → Int32) (m_past : Nat → Int32) : Option (Int32 × Int32 × (Nat → Int32) × Int32 × Int32 × Int32 × Int32 × Int32 × Int32 × Int32 × (Nat → Int32) × (Nat → Int32) × (Nat → Int32) × (Nat → Int32) × Int32 × Int32 × Int32 × Int32 × Int32 × Int32 × (Nat → Int32) × (Nat → Int32) × (Nat → Int32)) := b3 (f_X10_may m_thrown m_refused y1 1 1) (fun v21 c22 c23 => if v21 = 0 then some (0, c22, c23, m_taped, m_size, m_at, m_bad, m_badKind, m_opens, m_faultAt, m_stack, m_facts, m_newStep, m_step, m_newSteps, m_works, m_refusedSteps, m_begun, m_done, m_refusedNow, m_now, m_s, m_past) else b6 (f_X10_begins m_taped m_size m_at m_bad m_opens m_faultAt n1) (fun c24 c25 c26 c27 c28 c29 => if m_works = 16 then b2 (f_X10_result c27 m_badKind c29 0) (fun v30 c31 => some ((-20), c22, c23, c24, c25, c26, c27, m_badKind, c28, c31, m_stack, m_facts, m_newStep, m_step, m_newSteps, m_works, m_refusedSteps, m_begun, m_done, m_refusedNow, m_now, m_s, m_past)) else f_X10_work_68 m_tape m_bed m_letter m_beds m_letters m_readers m_code m_ofCode m_codes n1 FU c22 c23 c24 c25 c26 c27 m_badKind c28 c29 m_stack m_facts m_newStep m_step 0 m_works m_refusedSteps m_begun m_done m_refusedNow m_now m_s m_past))
noncomputable def f_X10_work (m_thrown : Int32) (m_refused : Nat → Int32) (m_taped : Int32) (m_size : Int32) (m_at : Int32) (m_bad : Int32) (m_badKind : Int32) (m_opens : Int32) (m_faultAt : Int32) (m_tape : Nat → Int32) (m_bed : Nat → Int32) (m_letter : Nat → Int32) (m_beds : Int32) (m_letters : Int32) (m_readers : Int32) (m_code : Nat → Int32) (m_ofCode : Nat → Int32) (m_stack : Nat → Int32) (m_codes : Int32) (m_facts : Nat → Int32) (m_newStep : Nat → Int32) (m_step : Nat → Int32) (m_newSteps : Int32) (m_works : Int32) (m_refusedSteps : Int32) (m_begun : Int32) (m_done : Int32) (m_refusedNow : Int32) (m_now : Nat → Int32) (m_s : Nat → Int32) (m_past : Nat → Int32) (n1 : Int32) : Option (Int32 × Int32 × (Nat → Int32) × Int32 × Int32 × Int32 × Int32 × Int32 × Int32 × Int32 × (Nat → Int32) × (Nat → Int32) × (Nat → Int32) × (Nat → Int32) × Int32 × Int32 × Int32 × Int32 × Int32 × Int32 × (Nat → Int32) × (Nat → Int32) × (Nat → Int32)) := if n1 < 0 then f_X10_work_30 m_tape m_bed m_letter m_beds m_letters m_readers m_code m_ofCode m_codes n1 0 0 m_refused m_taped m_size m_at m_bad m_badKind m_opens m_faultAt m_stack m_facts m_newStep m_step m_newSteps m_works m_refusedSteps m_begun m_done m_refusedNow m_now m_s m_past else if m_taped < n1 then f_X10_work_30 m_tape m_bed m_letter m_beds m_letters m_readers m_code m_ofCode m_codes n1 0 0 m_refused m_taped m_size m_at m_bad m_badKind m_opens m_faultAt m_stack m_facts m_newStep m_step m_newSteps m_works m_refusedSteps m_begun m_done m_refusedNow m_now m_s m_past else if 150 < n1 then f_X10_work_30 m_tape m_bed m_letter m_beds m_letters m_readers m_code m_ofCode m_codes n1 0 0 m_refused m_taped m_size m_at m_bad m_badKind m_opens m_faultAt m_stack m_facts m_newStep m_step m_newSteps m_works m_refusedSteps m_begun m_done m_refusedNow m_now m_s m_past else f_X10_work_30 m_tape m_bed m_letter m_beds m_letters m_readers m_code m_ofCode m_codes n1 1 0 m_refused m_taped m_size m_at m_bad m_badKind m_opens m_faultAt m_stack m_facts m_newStep m_step m_newSteps m_works m_refusedSteps m_begun m_done m_refusedNow m_now m_s m_past
def rm_X10_work : Room := { frames := 37, cells := 0, slots := 0, locals := 865 }
set_option maxRecDepth 100000 in
set_option maxHeartbeats 4000000 in
theorem j_X10_work_123 {J : Jt} {Z : Zt} {a0 : Nat → Nat} {m_tape : Nat → Int32} {m_newBed : Nat → Int32} {m_newLetter : Nat → Int32} {m_newReader : Nat → Int32} {m_bed : Nat → Int32} {m_letter : Nat → Int32} {m_reader : Nat → Int32} {m_newBeds : Int32} {m_newLetters : Int32} {m_newReaders : Int32} {m_beds : Int32} {m_letters : Int32} {m_readers : Int32} {m_newCode : Nat → Int32} {m_newOf : Nat → Int32} {m_code : Nat → Int32} {m_ofCode : Nat → Int32} {m_newCodes : Int32} {m_codes : Int32} {m_newBook : Nat → Int32} {m_book : Nat → Int32} {m_written : Int32} {m_mostBy : Nat → Int32} {m_stuffing : Nat → Int32} {m_stuffedMany : Int32} {m_lastBy : Nat → Int32} {m_leftBy : Nat → Int32} {m_splitBy : Nat → Int64} {m_seedNow : Int32} {m_image : Nat → Int32} {m_images : Int32} {n1 : Int32} {r : Int32} {o_m_thrown : Int32} {o_m_refused : Nat → Int32} {o_m_taped : Int32} {o_m_size : Int32} {o_m_at : Int32} {o_m_bad : Int32} {o_m_badKind : Int32} {o_m_opens : Int32} {o_m_faultAt : Int32} {o_m_stack : Nat → Int32} {o_m_facts : Nat → Int32} {o_m_newStep : Nat → Int32} {o_m_step : Nat → Int32} {o_m_newSteps : Int32} {o_m_works : Int32} {o_m_refusedSteps : Int32} {o_m_begun : Int32} {o_m_done : Int32} {o_m_refusedNow : Int32} {o_m_now : Nat → Int32} {o_m_s : Nat → Int32} {o_m_past : Nat → Int32} (C : Cx J Z cX10_work 4 RX10 (some .int) rm_X10_work) (E : Ez J Z 0 0 (some (.int r)) (cs_X10 J.2.2.1 a0 o_m_thrown o_m_refused o_m_taped o_m_size o_m_at o_m_bad o_m_badKind o_m_opens o_m_faultAt m_tape m_newBed m_newLetter m_newReader m_bed m_letter m_reader m_newBeds m_newLetters m_newReaders m_beds m_letters m_readers m_newCode m_newOf m_code m_ofCode o_m_stack m_newCodes m_codes o_m_facts o_m_newStep o_m_step o_m_newSteps o_m_works o_m_refusedSteps o_m_begun o_m_done o_m_refusedNow o_m_now o_m_s o_m_past m_newBook m_book m_written m_mostBy m_stuffing m_stuffedMany m_lastBy m_leftBy m_splitBy m_seedNow m_image m_images)) : ∀ (n : Nat) (x3 : Int32) (m_thrown : Int32) (m_refused : Nat → Int32) (m_taped : Int32) (m_size : Int32) (m_at : Int32) (m_bad : Int32) (m_badKind : Int32) (m_opens : Int32) (m_faultAt : Int32) (m_stack : Nat → Int32) (m_facts : Nat → Int32) (m_newStep : Nat → Int32) (m_step : Nat → Int32) (m_newSteps : Int32) (m_works : Int32) (m_refusedSteps : Int32) (m_begun : Int32) (m_done : Int32) (m_refusedNow : Int32) (m_now : Nat → Int32) (m_s : Nat → Int32) (m_past : Nat → Int32), f_X10_work_123 m_tape m_bed m_letter m_beds m_letters m_readers m_code m_ofCode m_codes n1 n x3 m_thrown m_refused m_taped m_size m_at m_bad m_badKind m_opens m_faultAt m_stack m_facts m_newStep m_step m_newSteps m_works m_refusedSteps m_begun m_done m_refusedNow m_now m_s m_past = some (r, o_m_thrown, o_m_refused, o_m_taped, o_m_size, o_m_at, o_m_bad, o_m_badKind, o_m_opens, o_m_faultAt, o_m_stack, o_m_facts, o_m_newStep, o_m_step, o_m_newSteps, o_m_works, o_m_refusedSteps, o_m_begun, o_m_done, o_m_refusedNow, o_m_now, o_m_s, o_m_past) → G J Z 0 0 (cs_X10 J.2.2.1 a0 m_thrown m_refused m_taped m_size m_at m_bad m_badKind m_opens m_faultAt m_tape m_newBed m_newLetter m_newReader m_bed m_letter m_reader m_newBeds m_newLetters m_newReaders m_beds m_letters m_readers m_newCode m_newOf m_code m_ofCode m_stack m_newCodes m_codes m_facts m_newStep m_step m_newSteps m_works m_refusedSteps m_begun m_done m_refusedNow m_now m_s m_past m_newBook m_book m_written m_mostBy m_stuffing m_stuffedMany m_lastBy m_leftBy m_splitBy m_seedNow m_image m_images) 4 [(0, .ref (a0 0)), (3, .int x3)] 123 [] := by
  intro n
  induction n with
  | zero =>
    intro x3 m_thrown m_refused m_taped m_size m_at m_bad m_badKind m_opens m_faultAt m_stack m_facts m_newStep m_step m_newSteps m_works m_refusedSteps m_begun m_done m_refusedNow m_now m_s m_past h
    rw [f_X10_work_123] at h
    cases h
  | succ n ih =>
    intro x3 m_thrown m_refused m_taped m_size m_at m_bad m_badKind m_opens m_faultAt m_stack m_facts m_newStep m_step m_newSteps m_works m_refusedSteps m_begun m_done m_refusedNow m_now m_s m_past h
    rw [f_X10_work_123] at h
    refine g_iload_n (pc := 123) C 1 rfl dX10_work_123 ?_
    refine g_sipush (pc := 124) C dX10_work_124 cs_165 ?_
    refine g_icmp_ge (pc := 127) C (tgt := 157) dX10_work_127 rfl h (fun h => ?_) (fun h => ?_)
    · refine g_aload_n (pc := 157) C 0 rfl dX10_work_157 ?_
      refine g_dup (pc := 158) C dX10_work_158 rfl ?_
      refine g_get (pc := 159) C FOK_X10 0 rfl rfl 33 (by decide) kw_1310 rfl dX10_work_159 ?_
      refine g_iconst (pc := 162) C dX10_work_162 ci_1 ?_
      refine g_iadd (pc := 163) C dX10_work_163 ?_
      refine g_put (pc := 164) C (w' := cs_X10 J.2.2.1 a0 m_thrown m_refused m_taped m_size m_at m_bad m_badKind m_opens m_faultAt m_tape m_newBed m_newLetter m_newReader m_bed m_letter m_reader m_newBeds m_newLetters m_newReaders m_beds m_letters m_readers m_newCode m_newOf m_code m_ofCode m_stack m_newCodes m_codes m_facts m_newStep m_step m_newSteps (m_works + 1) m_refusedSteps m_begun m_done m_refusedNow m_now m_s m_past m_newBook m_book m_written m_mostBy m_stuffing m_stuffedMany m_lastBy m_leftBy m_splitBy m_seedNow m_image m_images) FOK_X10 0 rfl rfl 33 (by decide) kw_1310 rfl rfl rfl (Nat.le_of_ble_eq_true rfl) dX10_work_164 rfl ?_
      refine g_aload_n (pc := 167) C 0 rfl dX10_work_167 ?_
      obtain ⟨c1, hc, h⟩ := b1_of h
      refine g_callV (pc := 168) C (w' := cs_X10 J.2.2.1 a0 m_thrown m_refused m_taped m_size m_at m_bad m_badKind m_opens m_faultAt m_tape m_newBed m_newLetter m_newReader m_bed m_letter m_reader m_newBeds m_newLetters m_newReaders m_beds m_letters m_readers m_newCode m_newOf m_code m_ofCode m_stack m_newCodes m_codes m_facts m_newStep m_step m_newSteps (m_works + 1) m_refusedSteps m_begun m_done m_refusedNow m_now c1 m_past m_newBook m_book m_written m_mostBy m_stuffing m_stuffedMany m_lastBy m_leftBy m_splitBy m_seedNow m_image m_images) (As := []) (st := []) (ci := 10) (q0 := 0) rfl rfl (t_X10_take (a0 := a0) hc) Sub.same kw_1595 kw_1597 kw_46 kw_95 hy_X10_take kw_1598 rfl (Nat.le_of_ble_eq_true rfl) (Nat.le_of_ble_eq_true rfl) (Nat.le_of_ble_eq_true rfl) (Nat.le_of_ble_eq_true rfl) (Nat.le_of_ble_eq_true rfl) dX10_work_168 ?_
      refine g_aload_n (pc := 171) C 0 rfl dX10_work_171 ?_
      refine g_iconst (pc := 172) C dX10_work_172 ci_0 ?_
      refine g_put (pc := 173) C (w' := cs_X10 J.2.2.1 a0 m_thrown m_refused m_taped m_size m_at m_bad m_badKind m_opens m_faultAt m_tape m_newBed m_newLetter m_newReader m_bed m_letter m_reader m_newBeds m_newLetters m_newReaders m_beds m_letters m_readers m_newCode m_newOf m_code m_ofCode m_stack m_newCodes m_codes m_facts m_newStep m_step m_newSteps (m_works + 1) m_refusedSteps 0 m_done m_refusedNow m_now c1 m_past m_newBook m_book m_written m_mostBy m_stuffing m_stuffedMany m_lastBy m_leftBy m_splitBy m_seedNow m_image m_images) FOK_X10 0 rfl rfl 35 (by decide) kw_1312 rfl rfl rfl (Nat.le_of_ble_eq_true rfl) dX10_work_173 rfl ?_
      refine g_aload_n (pc := 176) C 0 rfl dX10_work_176 ?_
      refine g_iconst (pc := 177) C dX10_work_177 ci_0 ?_
      refine g_put (pc := 178) C (w' := cs_X10 J.2.2.1 a0 m_thrown m_refused m_taped m_size m_at m_bad m_badKind m_opens m_faultAt m_tape m_newBed m_newLetter m_newReader m_bed m_letter m_reader m_newBeds m_newLetters m_newReaders m_beds m_letters m_readers m_newCode m_newOf m_code m_ofCode m_stack m_newCodes m_codes m_facts m_newStep m_step m_newSteps (m_works + 1) m_refusedSteps 0 0 m_refusedNow m_now c1 m_past m_newBook m_book m_written m_mostBy m_stuffing m_stuffedMany m_lastBy m_leftBy m_splitBy m_seedNow m_image m_images) FOK_X10 0 rfl rfl 36 (by decide) kw_1313 rfl rfl rfl (Nat.le_of_ble_eq_true rfl) dX10_work_178 rfl ?_
      refine g_aload_n (pc := 181) C 0 rfl dX10_work_181 ?_
      refine g_iconst (pc := 182) C dX10_work_182 ci_0 ?_
      refine g_put (pc := 183) C (w' := cs_X10 J.2.2.1 a0 m_thrown m_refused m_taped m_size m_at m_bad m_badKind m_opens m_faultAt m_tape m_newBed m_newLetter m_newReader m_bed m_letter m_reader m_newBeds m_newLetters m_newReaders m_beds m_letters m_readers m_newCode m_newOf m_code m_ofCode m_stack m_newCodes m_codes m_facts m_newStep m_step m_newSteps (m_works + 1) m_refusedSteps 0 0 0 m_now c1 m_past m_newBook m_book m_written m_mostBy m_stuffing m_stuffedMany m_lastBy m_leftBy m_splitBy m_seedNow m_image m_images) FOK_X10 0 rfl rfl 37 (by decide) kw_1314 rfl rfl rfl (Nat.le_of_ble_eq_true rfl) dX10_work_183 rfl ?_
      refine g_aload_n (pc := 186) C 0 rfl dX10_work_186 ?_
      refine g_iconst (pc := 187) C dX10_work_187 ci_0 ?_
      refine g_aload_n (pc := 188) C 0 rfl dX10_work_188 ?_
      refine g_get (pc := 189) C FOK_X10 0 rfl rfl 32 (by decide) kw_1309 rfl dX10_work_189 ?_
      obtain ⟨c2, c3, c4, c5, c6, c7, hc, h⟩ := b6_of h
      refine g_callV (pc := 192) C (w' := cs_X10 J.2.2.1 a0 m_thrown m_refused m_taped m_size m_at m_bad m_badKind m_opens m_faultAt m_tape m_newBed m_newLetter m_newReader m_bed m_letter m_reader m_newBeds m_newLetters m_newReaders m_beds m_letters m_readers m_newCode m_newOf m_code m_ofCode c2 m_newCodes m_codes c3 m_newStep m_step m_newSteps (m_works + 1) m_refusedSteps c4 c5 c6 m_now c7 m_past m_newBook m_book m_written m_mostBy m_stuffing m_stuffedMany m_lastBy m_leftBy m_splitBy m_seedNow m_image m_images) (As := [.int 0, .int m_newSteps]) (st := []) (ci := 10) (q0 := 0) rfl rfl (t_X10_goesSteps 12 a0 _ _ _ _ _ _ _ _ _ _ _ _ _ _ _ _ _ _ _ _ _ _ _ _ _ _ _ _ _ _ _ _ _ _ _ _ _ _ _ _ _ _ _ _ _ _ _ _ _ _ _ _ _ _ _ _ _ _ _ _ _ hc) Sub.same kw_1599 kw_1601 kw_47 kw_95 hy_X10_goesSteps kw_1602 rfl (Nat.le_of_ble_eq_true rfl) (Nat.le_of_ble_eq_true rfl) (Nat.le_of_ble_eq_true rfl) (Nat.le_of_ble_eq_true rfl) (Nat.le_of_ble_eq_true rfl) dX10_work_192 ?_
      refine g_aload_n (pc := 195) C 0 rfl dX10_work_195 ?_
      refine g_aload_n (pc := 196) C 0 rfl dX10_work_196 ?_
      refine g_get (pc := 197) C FOK_X10 0 rfl rfl 39 (by decide) kw_1316 rfl dX10_work_197 ?_
      refine g_aload_n (pc := 200) C 0 rfl dX10_work_200 ?_
      refine g_get (pc := 201) C FOK_X10 0 rfl rfl 38 (by decide) kw_1315 rfl dX10_work_201 ?_
      refine g_sipush (pc := 204) C dX10_work_204 cs_165 ?_
      obtain ⟨c8, hc, h⟩ := b1_of h
      refine g_callV (pc := 207) C (w' := cs_X10 J.2.2.1 a0 m_thrown m_refused m_taped m_size m_at m_bad m_badKind m_opens m_faultAt m_tape m_newBed m_newLetter m_newReader m_bed m_letter m_reader m_newBeds m_newLetters m_newReaders m_beds m_letters m_readers m_newCode m_newOf m_code m_ofCode c2 m_newCodes m_codes c3 m_newStep m_step m_newSteps (m_works + 1) m_refusedSteps c4 c5 c6 c8 c7 m_past m_newBook m_book m_written m_mostBy m_stuffing m_stuffedMany m_lastBy m_leftBy m_splitBy m_seedNow m_image m_images) (As := [.ref (a0 18), .ref (a0 17), .int 165]) (st := []) (ci := 10) (q0 := 0) rfl rfl (t_X10_copies (rv := a0 0) (a0 := (fun _ => a0 18)) (a1 := (fun _ => a0 17)) hc) (Sub.gen [18, 17] [0, 1, 2, 3, 4, 5, 6, 7, 8, 9, 10, 11, 12, 13, 14, 15, 16, 19, 20, 21, 22, 23, 24, 25, 26, 27] [0, 1, 2, 3, 4, 5, 6, 7, 8, 9, 10, 11, 12, 13, 14, 15, 16, 27, 26, 17, 18, 19, 20, 21, 22, 23, 24, 25] rfl (by decide) rfl (by decide) (by decide) rfl (by decide)) kw_1273 kw_1275 kw_19 kw_95 hy_X10_copies kw_1276 rfl (Nat.le_of_ble_eq_true rfl) (Nat.le_of_ble_eq_true rfl) (Nat.le_of_ble_eq_true rfl) (Nat.le_of_ble_eq_true rfl) (Nat.le_of_ble_eq_true rfl) dX10_work_207 ?_
      refine g_aload_n (pc := 210) C 0 rfl dX10_work_210 ?_
      refine g_aload_n (pc := 211) C 0 rfl dX10_work_211 ?_
      refine g_get (pc := 212) C FOK_X10 0 rfl rfl 37 (by decide) kw_1314 rfl dX10_work_212 ?_
      refine g_put (pc := 215) C (w' := cs_X10 J.2.2.1 a0 m_thrown m_refused m_taped m_size m_at m_bad m_badKind m_opens m_faultAt m_tape m_newBed m_newLetter m_newReader m_bed m_letter m_reader m_newBeds m_newLetters m_newReaders m_beds m_letters m_readers m_newCode m_newOf m_code m_ofCode c2 m_newCodes m_codes c3 m_newStep m_step m_newSteps (m_works + 1) c6 c4 c5 c6 c8 c7 m_past m_newBook m_book m_written m_mostBy m_stuffing m_stuffedMany m_lastBy m_leftBy m_splitBy m_seedNow m_image m_images) FOK_X10 0 rfl rfl 34 (by decide) kw_1311 rfl rfl rfl (Nat.le_of_ble_eq_true rfl) dX10_work_215 rfl ?_
      refine g_aload_n (pc := 218) C 0 rfl dX10_work_218 ?_
      refine g_get (pc := 219) C FOK_X10 0 rfl rfl 36 (by decide) kw_1313 rfl dX10_work_219 ?_
      cases h
      exact g_iret C E dX10_work_222
    · refine g_aload_n (pc := 130) C 0 rfl dX10_work_130 ?_
      refine g_get (pc := 131) C FOK_X10 0 rfl rfl 40 (by decide) kw_1317 rfl dX10_work_131 ?_
      refine g_sipush (pc := 134) C dX10_work_134 cs_165 ?_
      refine g_aload_n (pc := 137) C 0 rfl dX10_work_137 ?_
      refine g_get (pc := 138) C FOK_X10 0 rfl rfl 33 (by decide) kw_1310 rfl dX10_work_138 ?_
      refine g_imul (pc := 141) C dX10_work_141 ?_
      refine g_iload_n (pc := 142) C 1 rfl dX10_work_142 ?_
      refine g_iadd (pc := 143) C dX10_work_143 ?_
      refine g_aload_n (pc := 144) C 0 rfl dX10_work_144 ?_
      refine g_get (pc := 145) C FOK_X10 0 rfl rfl 38 (by decide) kw_1315 rfl dX10_work_145 ?_
      refine g_iload_n (pc := 148) C 1 rfl dX10_work_148 ?_
      obtain ⟨hi, h⟩ := ix_of h
      refine g_iald (pc := 149) C 17 rfl hi dX10_work_149 ?_
      obtain ⟨hi, h⟩ := ix_of h
      refine g_iast (pc := 150) C (w' := cs_X10 J.2.2.1 a0 m_thrown m_refused m_taped m_size m_at m_bad m_badKind m_opens m_faultAt m_tape m_newBed m_newLetter m_newReader m_bed m_letter m_reader m_newBeds m_newLetters m_newReaders m_beds m_letters m_readers m_newCode m_newOf m_code m_ofCode m_stack m_newCodes m_codes m_facts m_newStep m_step m_newSteps m_works m_refusedSteps m_begun m_done m_refusedNow m_now m_s (upd m_past ((165 * m_works) + x3).toNatClampNeg (m_now x3.toNatClampNeg)) m_newBook m_book m_written m_mostBy m_stuffing m_stuffedMany m_lastBy m_leftBy m_splitBy m_seedNow m_image m_images) 19 rfl hi dX10_work_150 rfl ?_
      refine g_iinc (pc := 151) C (j := 1) [(3, .int (x3 + 1)), (0, .ref (a0 0))] dX10_work_151 rfl (ii_1 _) (by decide) rfl ?_
      refine g_goto (pc := 154) C (tgt := 123) dX10_work_154 rfl ?_
      refine g_lv [1, 0] rfl ?_
      exact ih (x3 + 1) m_thrown m_refused m_taped m_size m_at m_bad m_badKind m_opens m_faultAt m_stack m_facts m_newStep m_step m_newSteps m_works m_refusedSteps m_begun m_done m_refusedNow m_now m_s (upd m_past ((165 * m_works) + x3).toNatClampNeg (m_now x3.toNatClampNeg)) h
set_option maxRecDepth 100000 in
set_option maxHeartbeats 4000000 in
theorem j_X10_work_89 {J : Jt} {Z : Zt} {a0 : Nat → Nat} {m_tape : Nat → Int32} {m_newBed : Nat → Int32} {m_newLetter : Nat → Int32} {m_newReader : Nat → Int32} {m_bed : Nat → Int32} {m_letter : Nat → Int32} {m_reader : Nat → Int32} {m_newBeds : Int32} {m_newLetters : Int32} {m_newReaders : Int32} {m_beds : Int32} {m_letters : Int32} {m_readers : Int32} {m_newCode : Nat → Int32} {m_newOf : Nat → Int32} {m_code : Nat → Int32} {m_ofCode : Nat → Int32} {m_newCodes : Int32} {m_codes : Int32} {m_newBook : Nat → Int32} {m_book : Nat → Int32} {m_written : Int32} {m_mostBy : Nat → Int32} {m_stuffing : Nat → Int32} {m_stuffedMany : Int32} {m_lastBy : Nat → Int32} {m_leftBy : Nat → Int32} {m_splitBy : Nat → Int64} {m_seedNow : Int32} {m_image : Nat → Int32} {m_images : Int32} {n1 : Int32} {r : Int32} {o_m_thrown : Int32} {o_m_refused : Nat → Int32} {o_m_taped : Int32} {o_m_size : Int32} {o_m_at : Int32} {o_m_bad : Int32} {o_m_badKind : Int32} {o_m_opens : Int32} {o_m_faultAt : Int32} {o_m_stack : Nat → Int32} {o_m_facts : Nat → Int32} {o_m_newStep : Nat → Int32} {o_m_step : Nat → Int32} {o_m_newSteps : Int32} {o_m_works : Int32} {o_m_refusedSteps : Int32} {o_m_begun : Int32} {o_m_done : Int32} {o_m_refusedNow : Int32} {o_m_now : Nat → Int32} {o_m_s : Nat → Int32} {o_m_past : Nat → Int32} (C : Cx J Z cX10_work 4 RX10 (some .int) rm_X10_work) (E : Ez J Z 0 0 (some (.int r)) (cs_X10 J.2.2.1 a0 o_m_thrown o_m_refused o_m_taped o_m_size o_m_at o_m_bad o_m_badKind o_m_opens o_m_faultAt m_tape m_newBed m_newLetter m_newReader m_bed m_letter m_reader m_newBeds m_newLetters m_newReaders m_beds m_letters m_readers m_newCode m_newOf m_code m_ofCode o_m_stack m_newCodes m_codes o_m_facts o_m_newStep o_m_step o_m_newSteps o_m_works o_m_refusedSteps o_m_begun o_m_done o_m_refusedNow o_m_now o_m_s o_m_past m_newBook m_book m_written m_mostBy m_stuffing m_stuffedMany m_lastBy m_leftBy m_splitBy m_seedNow m_image m_images)) : ∀ (m_thrown : Int32) (m_refused : Nat → Int32) (m_taped : Int32) (m_size : Int32) (m_at : Int32) (m_bad : Int32) (m_badKind : Int32) (m_opens : Int32) (m_faultAt : Int32) (m_stack : Nat → Int32) (m_facts : Nat → Int32) (m_newStep : Nat → Int32) (m_step : Nat → Int32) (m_newSteps : Int32) (m_works : Int32) (m_refusedSteps : Int32) (m_begun : Int32) (m_done : Int32) (m_refusedNow : Int32) (m_now : Nat → Int32) (m_s : Nat → Int32) (m_past : Nat → Int32), f_X10_work_89 m_tape m_bed m_letter m_beds m_letters m_readers m_code m_ofCode m_codes n1 m_thrown m_refused m_taped m_size m_at m_bad m_badKind m_opens m_faultAt m_stack m_facts m_newStep m_step m_newSteps m_works m_refusedSteps m_begun m_done m_refusedNow m_now m_s m_past = some (r, o_m_thrown, o_m_refused, o_m_taped, o_m_size, o_m_at, o_m_bad, o_m_badKind, o_m_opens, o_m_faultAt, o_m_stack, o_m_facts, o_m_newStep, o_m_step, o_m_newSteps, o_m_works, o_m_refusedSteps, o_m_begun, o_m_done, o_m_refusedNow, o_m_now, o_m_s, o_m_past) → G J Z 0 0 (cs_X10 J.2.2.1 a0 m_thrown m_refused m_taped m_size m_at m_bad m_badKind m_opens m_faultAt m_tape m_newBed m_newLetter m_newReader m_bed m_letter m_reader m_newBeds m_newLetters m_newReaders m_beds m_letters m_readers m_newCode m_newOf m_code m_ofCode m_stack m_newCodes m_codes m_facts m_newStep m_step m_newSteps m_works m_refusedSteps m_begun m_done m_refusedNow m_now m_s m_past m_newBook m_book m_written m_mostBy m_stuffing m_stuffedMany m_lastBy m_leftBy m_splitBy m_seedNow m_image m_images) 4 [(0, .ref (a0 0))] 89 [] := by
  intro m_thrown m_refused m_taped m_size m_at m_bad m_badKind m_opens m_faultAt m_stack m_facts m_newStep m_step m_newSteps m_works m_refusedSteps m_begun m_done m_refusedNow m_now m_s m_past h
  unfold f_X10_work_89 at h
  refine g_aload_n (pc := 89) C 0 rfl dX10_work_89 ?_
  refine g_iconst (pc := 90) C dX10_work_90 ci_0 ?_
  obtain ⟨v9, c10, hc, h⟩ := b2_of h
  refine g_callV (pc := 91) C (w' := cs_X10 J.2.2.1 a0 m_thrown m_refused m_taped m_size m_at m_bad m_badKind m_opens c10 m_tape m_newBed m_newLetter m_newReader m_bed m_letter m_reader m_newBeds m_newLetters m_newReaders m_beds m_letters m_readers m_newCode m_newOf m_code m_ofCode m_stack m_newCodes m_codes m_facts m_newStep m_step m_newSteps m_works m_refusedSteps m_begun m_done m_refusedNow m_now m_s m_past m_newBook m_book m_written m_mostBy m_stuffing m_stuffedMany m_lastBy m_leftBy m_splitBy m_seedNow m_image m_images) (As := [.int 0]) (st := []) (ci := 10) (q0 := 0) rfl rfl (t_X10_result (a0 := a0) hc) Sub.same kw_1523 kw_1525 kw_34 kw_95 hy_X10_result kw_1526 rfl (Nat.le_of_ble_eq_true rfl) (Nat.le_of_ble_eq_true rfl) (Nat.le_of_ble_eq_true rfl) (Nat.le_of_ble_eq_true rfl) (Nat.le_of_ble_eq_true rfl) dX10_work_91 ?_
  refine g_istore_n (pc := 94) C [(2, .int v9), (0, .ref (a0 0))] dX10_work_94 rfl (by decide) rfl ?_
  refine g_aload_n (pc := 95) C 1 rfl dX10_work_95 ?_
  refine g_get (pc := 96) C FOK_X10 0 rfl rfl 5 (by decide) kw_1282 rfl dX10_work_96 ?_
  refine g_iconst (pc := 99) C dX10_work_99 ci_m1 ?_
  refine g_icmp_eq (pc := 100) C (tgt := 105) dX10_work_100 rfl h (fun h => ?_) (fun h => ?_)
  · refine g_aload_n (pc := 105) C 1 rfl dX10_work_105 ?_
    refine g_aload_n (pc := 106) C 1 rfl dX10_work_106 ?_
    refine g_get (pc := 107) C FOK_X10 0 rfl rfl 30 (by decide) kw_1307 rfl dX10_work_107 ?_
    refine g_aload_n (pc := 110) C 1 rfl dX10_work_110 ?_
    refine g_get (pc := 111) C FOK_X10 0 rfl rfl 31 (by decide) kw_1308 rfl dX10_work_111 ?_
    refine g_aload_n (pc := 114) C 1 rfl dX10_work_114 ?_
    refine g_get (pc := 115) C FOK_X10 0 rfl rfl 32 (by decide) kw_1309 rfl dX10_work_115 ?_
    obtain ⟨c11, hc, h⟩ := b1_of h
    refine g_callV (pc := 118) C (w' := cs_X10 J.2.2.1 a0 m_thrown m_refused m_taped m_size m_at m_bad m_badKind m_opens c10 m_tape m_newBed m_newLetter m_newReader m_bed m_letter m_reader m_newBeds m_newLetters m_newReaders m_beds m_letters m_readers m_newCode m_newOf m_code m_ofCode m_stack m_newCodes m_codes m_facts m_newStep c11 m_newSteps m_works m_refusedSteps m_begun m_done m_refusedNow m_now m_s m_past m_newBook m_book m_written m_mostBy m_stuffing m_stuffedMany m_lastBy m_leftBy m_splitBy m_seedNow m_image m_images) (As := [.ref (a0 15), .ref (a0 16), .int m_newSteps]) (st := []) (ci := 10) (q0 := 0) rfl rfl (t_X10_copies (rv := a0 0) (a0 := (fun _ => a0 15)) (a1 := (fun _ => a0 16)) hc) (Sub.gen [15, 16] [0, 1, 2, 3, 4, 5, 6, 7, 8, 9, 10, 11, 12, 13, 14, 17, 18, 19, 20, 21, 22, 23, 24, 25, 26, 27] [0, 1, 2, 3, 4, 5, 6, 7, 8, 9, 10, 11, 12, 13, 14, 26, 27, 15, 16, 17, 18, 19, 20, 21, 22, 23, 24, 25] rfl (by decide) rfl (by decide) (by decide) rfl (by decide)) kw_1273 kw_1275 kw_19 kw_95 hy_X10_copies kw_1276 rfl (Nat.le_of_ble_eq_true rfl) (Nat.le_of_ble_eq_true rfl) (Nat.le_of_ble_eq_true rfl) (Nat.le_of_ble_eq_true rfl) (Nat.le_of_ble_eq_true rfl) dX10_work_118 ?_
    refine g_iconst (pc := 121) C dX10_work_121 ci_0 ?_
    refine g_istore_n (pc := 122) C [(3, .int 0), (2, .int v9), (0, .ref (a0 0))] dX10_work_122 rfl (by decide) rfl ?_
    refine g_lv [2, 0] rfl ?_
    exact j_X10_work_123 C E    FU 0 m_thrown m_refused m_taped m_size m_at m_bad m_badKind m_opens c10 m_stack m_facts m_newStep c11 m_newSteps m_works m_refusedSteps m_begun m_done m_refusedNow m_now m_s m_past h
  · refine g_iload_n (pc := 103) C 0 rfl dX10_work_103 ?_
    cases h
    exact g_iret C E dX10_work_104
set_option maxRecDepth 100000 in
set_option maxHeartbeats 4000000 in
theorem j_X10_work_68 {J : Jt} {Z : Zt} {a0 : Nat → Nat} {m_tape : Nat → Int32} {m_newBed : Nat → Int32} {m_newLetter : Nat → Int32} {m_newReader : Nat → Int32} {m_bed : Nat → Int32} {m_letter : Nat → Int32} {m_reader : Nat → Int32} {m_newBeds : Int32} {m_newLetters : Int32} {m_newReaders : Int32} {m_beds : Int32} {m_letters : Int32} {m_readers : Int32} {m_newCode : Nat → Int32} {m_newOf : Nat → Int32} {m_code : Nat → Int32} {m_ofCode : Nat → Int32} {m_newCodes : Int32} {m_codes : Int32} {m_newBook : Nat → Int32} {m_book : Nat → Int32} {m_written : Int32} {m_mostBy : Nat → Int32} {m_stuffing : Nat → Int32} {m_stuffedMany : Int32} {m_lastBy : Nat → Int32} {m_leftBy : Nat → Int32} {m_splitBy : Nat → Int64} {m_seedNow : Int32} {m_image : Nat → Int32} {m_images : Int32} {n1 : Int32} {r : Int32} {o_m_thrown : Int32} {o_m_refused : Nat → Int32} {o_m_taped : Int32} {o_m_size : Int32} {o_m_at : Int32} {o_m_bad : Int32} {o_m_badKind : Int32} {o_m_opens : Int32} {o_m_faultAt : Int32} {o_m_stack : Nat → Int32} {o_m_facts : Nat → Int32} {o_m_newStep : Nat → Int32} {o_m_step : Nat → Int32} {o_m_newSteps : Int32} {o_m_works : Int32} {o_m_refusedSteps : Int32} {o_m_begun : Int32} {o_m_done : Int32} {o_m_refusedNow : Int32} {o_m_now : Nat → Int32} {o_m_s : Nat → Int32} {o_m_past : Nat → Int32} (C : Cx J Z cX10_work 4 RX10 (some .int) rm_X10_work) (E : Ez J Z 0 0 (some (.int r)) (cs_X10 J.2.2.1 a0 o_m_thrown o_m_refused o_m_taped o_m_size o_m_at o_m_bad o_m_badKind o_m_opens o_m_faultAt m_tape m_newBed m_newLetter m_newReader m_bed m_letter m_reader m_newBeds m_newLetters m_newReaders m_beds m_letters m_readers m_newCode m_newOf m_code m_ofCode o_m_stack m_newCodes m_codes o_m_facts o_m_newStep o_m_step o_m_newSteps o_m_works o_m_refusedSteps o_m_begun o_m_done o_m_refusedNow o_m_now o_m_s o_m_past m_newBook m_book m_written m_mostBy m_stuffing m_stuffedMany m_lastBy m_leftBy m_splitBy m_seedNow m_image m_images)) : ∀ (n : Nat) (m_thrown : Int32) (m_refused : Nat → Int32) (m_taped : Int32) (m_size : Int32) (m_at : Int32) (m_bad : Int32) (m_badKind : Int32) (m_opens : Int32) (m_faultAt : Int32) (m_stack : Nat → Int32) (m_facts : Nat → Int32) (m_newStep : Nat → Int32) (m_step : Nat → Int32) (m_newSteps : Int32) (m_works : Int32) (m_refusedSteps : Int32) (m_begun : Int32) (m_done : Int32) (m_refusedNow : Int32) (m_now : Nat → Int32) (m_s : Nat → Int32) (m_past : Nat → Int32), f_X10_work_68 m_tape m_bed m_letter m_beds m_letters m_readers m_code m_ofCode m_codes n1 n m_thrown m_refused m_taped m_size m_at m_bad m_badKind m_opens m_faultAt m_stack m_facts m_newStep m_step m_newSteps m_works m_refusedSteps m_begun m_done m_refusedNow m_now m_s m_past = some (r, o_m_thrown, o_m_refused, o_m_taped, o_m_size, o_m_at, o_m_bad, o_m_badKind, o_m_opens, o_m_faultAt, o_m_stack, o_m_facts, o_m_newStep, o_m_step, o_m_newSteps, o_m_works, o_m_refusedSteps, o_m_begun, o_m_done, o_m_refusedNow, o_m_now, o_m_s, o_m_past) → G J Z 0 0 (cs_X10 J.2.2.1 a0 m_thrown m_refused m_taped m_size m_at m_bad m_badKind m_opens m_faultAt m_tape m_newBed m_newLetter m_newReader m_bed m_letter m_reader m_newBeds m_newLetters m_newReaders m_beds m_letters m_readers m_newCode m_newOf m_code m_ofCode m_stack m_newCodes m_codes m_facts m_newStep m_step m_newSteps m_works m_refusedSteps m_begun m_done m_refusedNow m_now m_s m_past m_newBook m_book m_written m_mostBy m_stuffing m_stuffedMany m_lastBy m_leftBy m_splitBy m_seedNow m_image m_images) 4 [(0, .ref (a0 0))] 68 [] := by
  intro n
  induction n with
  | zero =>
    intro m_thrown m_refused m_taped m_size m_at m_bad m_badKind m_opens m_faultAt m_stack m_facts m_newStep m_step m_newSteps m_works m_refusedSteps m_begun m_done m_refusedNow m_now m_s m_past h
    rw [f_X10_work_68] at h
    cases h
  | succ n ih =>
    intro m_thrown m_refused m_taped m_size m_at m_bad m_badKind m_opens m_faultAt m_stack m_facts m_newStep m_step m_newSteps m_works m_refusedSteps m_begun m_done m_refusedNow m_now m_s m_past h
    rw [f_X10_work_68] at h
    refine g_aload_n (pc := 68) C 0 rfl dX10_work_68 ?_
    obtain ⟨v12, hc, h⟩ := b1_of h
    refine g_callV (pc := 69) C (w' := cs_X10 J.2.2.1 a0 m_thrown m_refused m_taped m_size m_at m_bad m_badKind m_opens m_faultAt m_tape m_newBed m_newLetter m_newReader m_bed m_letter m_reader m_newBeds m_newLetters m_newReaders m_beds m_letters m_readers m_newCode m_newOf m_code m_ofCode m_stack m_newCodes m_codes m_facts m_newStep m_step m_newSteps m_works m_refusedSteps m_begun m_done m_refusedNow m_now m_s m_past m_newBook m_book m_written m_mostBy m_stuffing m_stuffedMany m_lastBy m_leftBy m_splitBy m_seedNow m_image m_images) (As := []) (st := []) (ci := 10) (q0 := 0) rfl rfl (t_X10_fine (a0 := a0) hc) Sub.same kw_1458 kw_1460 kw_22 kw_95 hy_X10_fine kw_1461 rfl (Nat.le_of_ble_eq_true rfl) (Nat.le_of_ble_eq_true rfl) (Nat.le_of_ble_eq_true rfl) (Nat.le_of_ble_eq_true rfl) (Nat.le_of_ble_eq_true rfl) dX10_work_69 ?_
    refine g_if_eq (pc := 72) C (tgt := 89) dX10_work_72 rfl h (fun h => ?_) (fun h => ?_)
    · exact j_X10_work_89 C E    m_thrown m_refused m_taped m_size m_at m_bad m_badKind m_opens m_faultAt m_stack m_facts m_newStep m_step m_newSteps m_works m_refusedSteps m_begun m_done m_refusedNow m_now m_s m_past h
    · refine g_aload_n (pc := 75) C 0 rfl dX10_work_75 ?_
      obtain ⟨v13, c14, hc, h⟩ := b2_of h
      refine g_callV (pc := 76) C (w' := cs_X10 J.2.2.1 a0 m_thrown m_refused m_taped m_size c14 m_bad m_badKind m_opens m_faultAt m_tape m_newBed m_newLetter m_newReader m_bed m_letter m_reader m_newBeds m_newLetters m_newReaders m_beds m_letters m_readers m_newCode m_newOf m_code m_ofCode m_stack m_newCodes m_codes m_facts m_newStep m_step m_newSteps m_works m_refusedSteps m_begun m_done m_refusedNow m_now m_s m_past m_newBook m_book m_written m_mostBy m_stuffing m_stuffedMany m_lastBy m_leftBy m_splitBy m_seedNow m_image m_images) (As := []) (st := []) (ci := 10) (q0 := 0) rfl rfl (t_X10_isMore (a0 := a0) hc) Sub.same kw_1462 kw_1464 kw_23 kw_95 hy_X10_isMore kw_1465 rfl (Nat.le_of_ble_eq_true rfl) (Nat.le_of_ble_eq_true rfl) (Nat.le_of_ble_eq_true rfl) (Nat.le_of_ble_eq_true rfl) (Nat.le_of_ble_eq_true rfl) dX10_work_76 ?_
      refine g_if_eq (pc := 79) C (tgt := 89) dX10_work_79 rfl h (fun h => ?_) (fun h => ?_)
      · exact j_X10_work_89 C E    m_thrown m_refused m_taped m_size c14 m_bad m_badKind m_opens m_faultAt m_stack m_facts m_newStep m_step m_newSteps m_works m_refusedSteps m_begun m_done m_refusedNow m_now m_s m_past h
      · refine g_aload_n (pc := 82) C 0 rfl dX10_work_82 ?_
        obtain ⟨c15, c16, c17, c18, c19, c20, hc, h⟩ := b6_of h
        refine g_callV (pc := 83) C (w' := cs_X10 J.2.2.1 a0 m_thrown m_refused m_taped m_size c15 c16 c17 c18 m_faultAt m_tape m_newBed m_newLetter m_newReader m_bed m_letter m_reader m_newBeds m_newLetters m_newReaders m_beds m_letters m_readers m_newCode m_newOf m_code m_ofCode m_stack m_newCodes m_codes m_facts c19 m_step c20 m_works m_refusedSteps m_begun m_done m_refusedNow m_now m_s m_past m_newBook m_book m_written m_mostBy m_stuffing m_stuffedMany m_lastBy m_leftBy m_splitBy m_seedNow m_image m_images) (As := []) (st := []) (ci := 10) (q0 := 0) rfl rfl (t_X10_readStep 30 a0 _ _ _ _ _ _ _ _ _ _ _ _ _ _ _ _ _ _ _ _ _ _ _ _ _ _ _ _ _ _ _ _ _ _ _ _ _ _ _ _ _ _ _ _ _ _ _ _ _ _ _ _ _ _ _ _ _ _ _ hc) Sub.same kw_1571 kw_1573 kw_42 kw_95 hy_X10_readStep kw_1574 rfl (Nat.le_of_ble_eq_true rfl) (Nat.le_of_ble_eq_true rfl) (Nat.le_of_ble_eq_true rfl) (Nat.le_of_ble_eq_true rfl) (Nat.le_of_ble_eq_true rfl) dX10_work_83 ?_
        refine g_goto (pc := 86) C (tgt := 68) dX10_work_86 rfl ?_
        exact ih m_thrown m_refused m_taped m_size c15 c16 c17 c18 m_faultAt m_stack m_facts c19 m_step c20 m_works m_refusedSteps m_begun m_done m_refusedNow m_now m_s m_past h
set_option maxRecDepth 100000 in
set_option maxHeartbeats 4000000 in
theorem j_X10_work_30 {J : Jt} {Z : Zt} {a0 : Nat → Nat} {m_tape : Nat → Int32} {m_newBed : Nat → Int32} {m_newLetter : Nat → Int32} {m_newReader : Nat → Int32} {m_bed : Nat → Int32} {m_letter : Nat → Int32} {m_reader : Nat → Int32} {m_newBeds : Int32} {m_newLetters : Int32} {m_newReaders : Int32} {m_beds : Int32} {m_letters : Int32} {m_readers : Int32} {m_newCode : Nat → Int32} {m_newOf : Nat → Int32} {m_code : Nat → Int32} {m_ofCode : Nat → Int32} {m_newCodes : Int32} {m_codes : Int32} {m_newBook : Nat → Int32} {m_book : Nat → Int32} {m_written : Int32} {m_mostBy : Nat → Int32} {m_stuffing : Nat → Int32} {m_stuffedMany : Int32} {m_lastBy : Nat → Int32} {m_leftBy : Nat → Int32} {m_splitBy : Nat → Int64} {m_seedNow : Int32} {m_image : Nat → Int32} {m_images : Int32} {n1 : Int32} {r : Int32} {o_m_thrown : Int32} {o_m_refused : Nat → Int32} {o_m_taped : Int32} {o_m_size : Int32} {o_m_at : Int32} {o_m_bad : Int32} {o_m_badKind : Int32} {o_m_opens : Int32} {o_m_faultAt : Int32} {o_m_stack : Nat → Int32} {o_m_facts : Nat → Int32} {o_m_newStep : Nat → Int32} {o_m_step : Nat → Int32} {o_m_newSteps : Int32} {o_m_works : Int32} {o_m_refusedSteps : Int32} {o_m_begun : Int32} {o_m_done : Int32} {o_m_refusedNow : Int32} {o_m_now : Nat → Int32} {o_m_s : Nat → Int32} {o_m_past : Nat → Int32} (C : Cx J Z cX10_work 4 RX10 (some .int) rm_X10_work) (E : Ez J Z 0 0 (some (.int r)) (cs_X10 J.2.2.1 a0 o_m_thrown o_m_refused o_m_taped o_m_size o_m_at o_m_bad o_m_badKind o_m_opens o_m_faultAt m_tape m_newBed m_newLetter m_newReader m_bed m_letter m_reader m_newBeds m_newLetters m_newReaders m_beds m_letters m_readers m_newCode m_newOf m_code m_ofCode o_m_stack m_newCodes m_codes o_m_facts o_m_newStep o_m_step o_m_newSteps o_m_works o_m_refusedSteps o_m_begun o_m_done o_m_refusedNow o_m_now o_m_s o_m_past m_newBook m_book m_written m_mostBy m_stuffing m_stuffedMany m_lastBy m_leftBy m_splitBy m_seedNow m_image m_images)) : ∀ (y1 : Int32) (m_thrown : Int32) (m_refused : Nat → Int32) (m_taped : Int32) (m_size : Int32) (m_at : Int32) (m_bad : Int32) (m_badKind : Int32) (m_opens : Int32) (m_faultAt : Int32) (m_stack : Nat → Int32) (m_facts : Nat → Int32) (m_newStep : Nat → Int32) (m_step : Nat → Int32) (m_newSteps : Int32) (m_works : Int32) (m_refusedSteps : Int32) (m_begun : Int32) (m_done : Int32) (m_refusedNow : Int32) (m_now : Nat → Int32) (m_s : Nat → Int32) (m_past : Nat → Int32), f_X10_work_30 m_tape m_bed m_letter m_beds m_letters m_readers m_code m_ofCode m_codes n1 y1 m_thrown m_refused m_taped m_size m_at m_bad m_badKind m_opens m_faultAt m_stack m_facts m_newStep m_step m_newSteps m_works m_refusedSteps m_begun m_done m_refusedNow m_now m_s m_past = some (r, o_m_thrown, o_m_refused, o_m_taped, o_m_size, o_m_at, o_m_bad, o_m_badKind, o_m_opens, o_m_faultAt, o_m_stack, o_m_facts, o_m_newStep, o_m_step, o_m_newSteps, o_m_works, o_m_refusedSteps, o_m_begun, o_m_done, o_m_refusedNow, o_m_now, o_m_s, o_m_past) → G J Z 0 0 (cs_X10 J.2.2.1 a0 m_thrown m_refused m_taped m_size m_at m_bad m_badKind m_opens m_faultAt m_tape m_newBed m_newLetter m_newReader m_bed m_letter m_reader m_newBeds m_newLetters m_newReaders m_beds m_letters m_readers m_newCode m_newOf m_code m_ofCode m_stack m_newCodes m_codes m_facts m_newStep m_step m_newSteps m_works m_refusedSteps m_begun m_done m_refusedNow m_now m_s m_past m_newBook m_book m_written m_mostBy m_stuffing m_stuffedMany m_lastBy m_leftBy m_splitBy m_seedNow m_image m_images) 4 [(0, .ref (a0 0)), (1, .int n1)] 30 [.int y1, .ref (a0 0)] := by
  intro y1 m_thrown m_refused m_taped m_size m_at m_bad m_badKind m_opens m_faultAt m_stack m_facts m_newStep m_step m_newSteps m_works m_refusedSteps m_begun m_done m_refusedNow m_now m_s m_past h
  unfold f_X10_work_30 at h
  refine g_iconst (pc := 30) C dX10_work_30 ci_1 ?_
  refine g_iconst (pc := 31) C dX10_work_31 ci_1 ?_
  obtain ⟨v21, c22, c23, hc, h⟩ := b3_of h
  refine g_callV (pc := 32) C (w' := cs_X10 J.2.2.1 a0 c22 c23 m_taped m_size m_at m_bad m_badKind m_opens m_faultAt m_tape m_newBed m_newLetter m_newReader m_bed m_letter m_reader m_newBeds m_newLetters m_newReaders m_beds m_letters m_readers m_newCode m_newOf m_code m_ofCode m_stack m_newCodes m_codes m_facts m_newStep m_step m_newSteps m_works m_refusedSteps m_begun m_done m_refusedNow m_now m_s m_past m_newBook m_book m_written m_mostBy m_stuffing m_stuffedMany m_lastBy m_leftBy m_splitBy m_seedNow m_image m_images) (As := [.int y1, .int 1, .int 1]) (st := []) (ci := 10) (q0 := 0) rfl rfl (t_X10_may (a0 := a0) hc) Sub.same kw_1450 kw_1452 kw_20 kw_95 hy_X10_may kw_1453 rfl (Nat.le_of_ble_eq_true rfl) (Nat.le_of_ble_eq_true rfl) (Nat.le_of_ble_eq_true rfl) (Nat.le_of_ble_eq_true rfl) (Nat.le_of_ble_eq_true rfl) dX10_work_32 ?_
  refine g_if_ne (pc := 35) C (tgt := 40) dX10_work_35 rfl h (fun h => ?_) (fun h => ?_)
  · refine g_aload_n (pc := 40) C 0 rfl dX10_work_40 ?_
    refine g_iload_n (pc := 41) C 1 rfl dX10_work_41 ?_
    obtain ⟨c24, c25, c26, c27, c28, c29, hc, h⟩ := b6_of h
    refine g_callV (pc := 42) C (w' := cs_X10 J.2.2.1 a0 c22 c23 c24 c25 c26 c27 m_badKind c28 c29 m_tape m_newBed m_newLetter m_newReader m_bed m_letter m_reader m_newBeds m_newLetters m_newReaders m_beds m_letters m_readers m_newCode m_newOf m_code m_ofCode m_stack m_newCodes m_codes m_facts m_newStep m_step m_newSteps m_works m_refusedSteps m_begun m_done m_refusedNow m_now m_s m_past m_newBook m_book m_written m_mostBy m_stuffing m_stuffedMany m_lastBy m_leftBy m_splitBy m_seedNow m_image m_images) (As := [.int n1]) (st := []) (ci := 10) (q0 := 0) rfl rfl (t_X10_begins (a0 := a0) hc) Sub.same kw_1454 kw_1456 kw_21 kw_95 hy_X10_begins kw_1457 rfl (Nat.le_of_ble_eq_true rfl) (Nat.le_of_ble_eq_true rfl) (Nat.le_of_ble_eq_true rfl) (Nat.le_of_ble_eq_true rfl) (Nat.le_of_ble_eq_true rfl) dX10_work_42 ?_
    refine g_aload_n (pc := 45) C 0 rfl dX10_work_45 ?_
    refine g_get (pc := 46) C FOK_X10 0 rfl rfl 33 (by decide) kw_1310 rfl dX10_work_46 ?_
    refine g_bipush (pc := 49) C dX10_work_49 cb_16 ?_
    refine g_icmp_ne (pc := 51) C (tgt := 63) dX10_work_51 rfl h (fun h => ?_) (fun h => ?_)
    · refine g_aload_n (pc := 63) C 0 rfl dX10_work_63 ?_
      refine g_iconst (pc := 64) C dX10_work_64 ci_0 ?_
      refine g_put (pc := 65) C (w' := cs_X10 J.2.2.1 a0 c22 c23 c24 c25 c26 c27 m_badKind c28 c29 m_tape m_newBed m_newLetter m_newReader m_bed m_letter m_reader m_newBeds m_newLetters m_newReaders m_beds m_letters m_readers m_newCode m_newOf m_code m_ofCode m_stack m_newCodes m_codes m_facts m_newStep m_step 0 m_works m_refusedSteps m_begun m_done m_refusedNow m_now m_s m_past m_newBook m_book m_written m_mostBy m_stuffing m_stuffedMany m_lastBy m_leftBy m_splitBy m_seedNow m_image m_images) FOK_X10 0 rfl rfl 32 (by decide) kw_1309 rfl rfl rfl (Nat.le_of_ble_eq_true rfl) dX10_work_65 rfl ?_
      refine g_lv [0] rfl ?_
      exact j_X10_work_68 C E    FU c22 c23 c24 c25 c26 c27 m_badKind c28 c29 m_stack m_facts m_newStep m_step 0 m_works m_refusedSteps m_begun m_done m_refusedNow m_now m_s m_past h
    · refine g_aload_n (pc := 54) C 0 rfl dX10_work_54 ?_
      refine g_iconst (pc := 55) C dX10_work_55 ci_0 ?_
      obtain ⟨v30, c31, hc, h⟩ := b2_of h
      refine g_callV (pc := 56) C (w' := cs_X10 J.2.2.1 a0 c22 c23 c24 c25 c26 c27 m_badKind c28 c31 m_tape m_newBed m_newLetter m_newReader m_bed m_letter m_reader m_newBeds m_newLetters m_newReaders m_beds m_letters m_readers m_newCode m_newOf m_code m_ofCode m_stack m_newCodes m_codes m_facts m_newStep m_step m_newSteps m_works m_refusedSteps m_begun m_done m_refusedNow m_now m_s m_past m_newBook m_book m_written m_mostBy m_stuffing m_stuffedMany m_lastBy m_leftBy m_splitBy m_seedNow m_image m_images) (As := [.int 0]) (st := []) (ci := 10) (q0 := 0) rfl rfl (t_X10_result (a0 := a0) hc) Sub.same kw_1523 kw_1525 kw_34 kw_95 hy_X10_result kw_1526 rfl (Nat.le_of_ble_eq_true rfl) (Nat.le_of_ble_eq_true rfl) (Nat.le_of_ble_eq_true rfl) (Nat.le_of_ble_eq_true rfl) (Nat.le_of_ble_eq_true rfl) dX10_work_56 ?_
      refine g_pop (pc := 59) C dX10_work_59 rfl ?_
      refine g_bipush (pc := 60) C dX10_work_60 cb_m20 ?_
      cases h
      exact g_iret C E dX10_work_62
  · refine g_iconst (pc := 38) C dX10_work_38 ci_0 ?_
    cases h
    exact g_iret C E dX10_work_39
set_option maxRecDepth 100000 in
set_option maxHeartbeats 4000000 in
theorem t_X10_work {J : Jt} {a0 : Nat → Nat} {m_thrown : Int32} {m_refused : Nat → Int32} {m_taped : Int32} {m_size : Int32} {m_at : Int32} {m_bad : Int32} {m_badKind : Int32} {m_opens : Int32} {m_faultAt : Int32} {m_tape : Nat → Int32} {m_newBed : Nat → Int32} {m_newLetter : Nat → Int32} {m_newReader : Nat → Int32} {m_bed : Nat → Int32} {m_letter : Nat → Int32} {m_reader : Nat → Int32} {m_newBeds : Int32} {m_newLetters : Int32} {m_newReaders : Int32} {m_beds : Int32} {m_letters : Int32} {m_readers : Int32} {m_newCode : Nat → Int32} {m_newOf : Nat → Int32} {m_code : Nat → Int32} {m_ofCode : Nat → Int32} {m_stack : Nat → Int32} {m_newCodes : Int32} {m_codes : Int32} {m_facts : Nat → Int32} {m_newStep : Nat → Int32} {m_step : Nat → Int32} {m_newSteps : Int32} {m_works : Int32} {m_refusedSteps : Int32} {m_begun : Int32} {m_done : Int32} {m_refusedNow : Int32} {m_now : Nat → Int32} {m_s : Nat → Int32} {m_past : Nat → Int32} {m_newBook : Nat → Int32} {m_book : Nat → Int32} {m_written : Int32} {m_mostBy : Nat → Int32} {m_stuffing : Nat → Int32} {m_stuffedMany : Int32} {m_lastBy : Nat → Int32} {m_leftBy : Nat → Int32} {m_splitBy : Nat → Int64} {m_seedNow : Int32} {m_image : Nat → Int32} {m_images : Int32} {n1 : Int32} {r : Int32} {o_m_thrown : Int32} {o_m_refused : Nat → Int32} {o_m_taped : Int32} {o_m_size : Int32} {o_m_at : Int32} {o_m_bad : Int32} {o_m_badKind : Int32} {o_m_opens : Int32} {o_m_faultAt : Int32} {o_m_stack : Nat → Int32} {o_m_facts : Nat → Int32} {o_m_newStep : Nat → Int32} {o_m_step : Nat → Int32} {o_m_newSteps : Int32} {o_m_works : Int32} {o_m_refusedSteps : Int32} {o_m_begun : Int32} {o_m_done : Int32} {o_m_refusedNow : Int32} {o_m_now : Nat → Int32} {o_m_s : Nat → Int32} {o_m_past : Nat → Int32} (h : f_X10_work m_thrown m_refused m_taped m_size m_at m_bad m_badKind m_opens m_faultAt m_tape m_bed m_letter m_beds m_letters m_readers m_code m_ofCode m_stack m_codes m_facts m_newStep m_step m_newSteps m_works m_refusedSteps m_begun m_done m_refusedNow m_now m_s m_past n1 = some (r, o_m_thrown, o_m_refused, o_m_taped, o_m_size, o_m_at, o_m_bad, o_m_badKind, o_m_opens, o_m_faultAt, o_m_stack, o_m_facts, o_m_newStep, o_m_step, o_m_newSteps, o_m_works, o_m_refusedSteps, o_m_begun, o_m_done, o_m_refusedNow, o_m_now, o_m_s, o_m_past)) : Mt J yX10_work cX10_work 4 (some .int) rm_X10_work [.ref (a0 0), .int n1] (cs_X10 J.2.2.1 a0 m_thrown m_refused m_taped m_size m_at m_bad m_badKind m_opens m_faultAt m_tape m_newBed m_newLetter m_newReader m_bed m_letter m_reader m_newBeds m_newLetters m_newReaders m_beds m_letters m_readers m_newCode m_newOf m_code m_ofCode m_stack m_newCodes m_codes m_facts m_newStep m_step m_newSteps m_works m_refusedSteps m_begun m_done m_refusedNow m_now m_s m_past m_newBook m_book m_written m_mostBy m_stuffing m_stuffedMany m_lastBy m_leftBy m_splitBy m_seedNow m_image m_images) (some (.int r)) (cs_X10 J.2.2.1 a0 o_m_thrown o_m_refused o_m_taped o_m_size o_m_at o_m_bad o_m_badKind o_m_opens o_m_faultAt m_tape m_newBed m_newLetter m_newReader m_bed m_letter m_reader m_newBeds m_newLetters m_newReaders m_beds m_letters m_readers m_newCode m_newOf m_code m_ofCode o_m_stack m_newCodes m_codes o_m_facts o_m_newStep o_m_step o_m_newSteps o_m_works o_m_refusedSteps o_m_begun o_m_done o_m_refusedNow o_m_now o_m_s o_m_past m_newBook m_book m_written m_mostBy m_stuffing m_stuffedMany m_lastBy m_leftBy m_splitBy m_seedNow m_image m_images) := by
  refine Mt_of (own := RX10) (by decide) rfl (Nat.le_of_ble_eq_true rfl) rfl (fun Z C E => ?_)
  unfold f_X10_work at h
  show G J Z 0 0 (cs_X10 J.2.2.1 a0 m_thrown m_refused m_taped m_size m_at m_bad m_badKind m_opens m_faultAt m_tape m_newBed m_newLetter m_newReader m_bed m_letter m_reader m_newBeds m_newLetters m_newReaders m_beds m_letters m_readers m_newCode m_newOf m_code m_ofCode m_stack m_newCodes m_codes m_facts m_newStep m_step m_newSteps m_works m_refusedSteps m_begun m_done m_refusedNow m_now m_s m_past m_newBook m_book m_written m_mostBy m_stuffing m_stuffedMany m_lastBy m_leftBy m_splitBy m_seedNow m_image m_images) 4 [(0, .ref (a0 0)), (1, .int n1)] 0 []
  refine g_aload_n (pc := 0) C 0 rfl dX10_work_0 ?_
  refine g_iconst (pc := 1) C dX10_work_1 ci_0 ?_
  refine g_put (pc := 2) C (w' := cs_X10 J.2.2.1 a0 0 m_refused m_taped m_size m_at m_bad m_badKind m_opens m_faultAt m_tape m_newBed m_newLetter m_newReader m_bed m_letter m_reader m_newBeds m_newLetters m_newReaders m_beds m_letters m_readers m_newCode m_newOf m_code m_ofCode m_stack m_newCodes m_codes m_facts m_newStep m_step m_newSteps m_works m_refusedSteps m_begun m_done m_refusedNow m_now m_s m_past m_newBook m_book m_written m_mostBy m_stuffing m_stuffedMany m_lastBy m_leftBy m_splitBy m_seedNow m_image m_images) FOK_X10 0 rfl rfl 0 (by decide) kw_1277 rfl rfl rfl (Nat.le_of_ble_eq_true rfl) dX10_work_2 rfl ?_
  refine g_aload_n (pc := 5) C 0 rfl dX10_work_5 ?_
  refine g_iload_n (pc := 6) C 1 rfl dX10_work_6 ?_
  refine g_if_lt (pc := 7) C (tgt := 29) dX10_work_7 rfl h (fun h => ?_) (fun h => ?_)
  · refine g_iconst (pc := 29) C dX10_work_29 ci_0 ?_
    exact j_X10_work_30 C E    0 0 m_refused m_taped m_size m_at m_bad m_badKind m_opens m_faultAt m_stack m_facts m_newStep m_step m_newSteps m_works m_refusedSteps m_begun m_done m_refusedNow m_now m_s m_past h
  · refine g_iload_n (pc := 10) C 1 rfl dX10_work_10 ?_
    refine g_aload_n (pc := 11) C 0 rfl dX10_work_11 ?_
    refine g_get (pc := 12) C FOK_X10 0 rfl rfl 2 (by decide) kw_1279 rfl dX10_work_12 ?_
    refine g_icmp_gt (pc := 15) C (tgt := 29) dX10_work_15 rfl h (fun h => ?_) (fun h => ?_)
    · refine g_iconst (pc := 29) C dX10_work_29 ci_0 ?_
      exact j_X10_work_30 C E    0 0 m_refused m_taped m_size m_at m_bad m_badKind m_opens m_faultAt m_stack m_facts m_newStep m_step m_newSteps m_works m_refusedSteps m_begun m_done m_refusedNow m_now m_s m_past h
    · refine g_iload_n (pc := 18) C 1 rfl dX10_work_18 ?_
      refine g_sipush (pc := 19) C dX10_work_19 cs_150 ?_
      refine g_icmp_gt (pc := 22) C (tgt := 29) dX10_work_22 rfl h (fun h => ?_) (fun h => ?_)
      · refine g_iconst (pc := 29) C dX10_work_29 ci_0 ?_
        exact j_X10_work_30 C E    0 0 m_refused m_taped m_size m_at m_bad m_badKind m_opens m_faultAt m_stack m_facts m_newStep m_step m_newSteps m_works m_refusedSteps m_begun m_done m_refusedNow m_now m_s m_past h
      · refine g_iconst (pc := 25) C dX10_work_25 ci_1 ?_
        refine g_goto (pc := 26) C (tgt := 30) dX10_work_26 rfl ?_
        exact j_X10_work_30 C E    1 0 m_refused m_taped m_size m_at m_bad m_badKind m_opens m_faultAt m_stack m_facts m_newStep m_step m_newSteps m_works m_refusedSteps m_begun m_done m_refusedNow m_now m_s m_past h
