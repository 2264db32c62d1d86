noncomputable def f_X10_tour_24  (m_beds : Int32) (m_readers : Int32) (m_now : Nat → Int32) (n1 : Int32) : Nat → Int32 → Int32 → Int32 → (Nat → Int32) → (Nat → Int32) → Option (Int32 × Int32 × (Nat → Int32) × (Nat → Int32))
  | 0, _, _, _, _, _ => none
  | n + 1, x2, x3, m_thrown, m_refused, m_s => if m_beds ≤ x3 then if ixb (95 + n1) 165 then b1 (f_X10_bedsWith m_beds m_s (x2 &&& ((m_s (95 + n1).toNatClampNeg) ^^^ (-1))) 0) (fun v1 => some (v1, m_thrown, m_refused, m_s)) else none else b1 (f_X10_wordsIn m_s x3) (fun v2 => f_X10_tour_24 m_beds m_readers m_now n1 n (x2 ||| v2) (x3 + 1) m_thrown m_refused m_s)
noncomputable def f_X10_tour (m_thrown : Int32) (m_refused : Nat → Int32) (m_beds : Int32) (m_readers : Int32) (m_now : Nat → Int32) (m_s : Nat → Int32) (n1 : Int32) : Option (Int32 × Int32 × (Nat → Int32) × (Nat → Int32)) := b3 (f_X10_isReader 0 m_refused m_readers n1 1) (fun v3 c4 c5 => if v3 = 0 then some (0, c4, c5, m_s) else b1 (f_X10_take m_now m_s) (fun c6 => f_X10_tour_24 m_beds m_readers m_now n1 FU 0 0 c4 c5 c6))
def rm_X10_tour : Room := { frames := 2, cells := 0, slots := 0, locals := 49 }
set_option maxRecDepth 100000 in
set_option maxHeartbeats 4000000 in
theorem j_X10_tour_24 {J : Jt} {Z : Zt} {a0 : Nat → Nat} {m_taped : Int32} {m_size : Int32} {m_at : Int32} {m_bad : Int32} {m_badKind : Int32} {m_opens : Int32} {m_faultAt : Int32} {m_tape : Nat → Int32} {m_newBed : Nat → Int32} {m_newLetter : Nat → Int32} {m_newReader : Nat → Int32} {m_bed : Nat → Int32} {m_letter : Nat → Int32} {m_reader : Nat → Int32} {m_newBeds : Int32} {m_newLetters : Int32} {m_newReaders : Int32} {m_beds : Int32} {m_letters : Int32} {m_readers : Int32} {m_newCode : Nat → Int32} {m_newOf : Nat → Int32} {m_code : Nat → Int32} {m_ofCode : Nat → Int32} {m_stack : Nat → Int32} {m_newCodes : Int32} {m_codes : Int32} {m_facts : Nat → Int32} {m_newStep : Nat → Int32} {m_step : Nat → Int32} {m_newSteps : Int32} {m_works : Int32} {m_refusedSteps : Int32} {m_begun : Int32} {m_done : Int32} {m_refusedNow : Int32} {m_now : Nat → Int32} {m_past : Nat → Int32} {m_newBook : Nat → Int32} {m_book : Nat → Int32} {m_written : Int32} {m_mostBy : Nat → Int32} {m_stuffing : Nat → Int32} {m_stuffedMany : Int32} {m_lastBy : Nat → Int32} {m_leftBy : Nat → Int32} {m_splitBy : Nat → Int64} {m_seedNow : Int32} {m_image : Nat → Int32} {m_images : Int32} {n1 : Int32} {r : Int32} {o_m_thrown : Int32} {o_m_refused : Nat → Int32} {o_m_s : Nat → Int32} (C : Cx J Z cX10_tour 4 RX10 (some .int) rm_X10_tour) (E : Ez J Z 0 0 (some (.int r)) (cs_X10 J.2.2.1 a0 o_m_thrown o_m_refused m_taped m_size m_at m_bad m_badKind m_opens m_faultAt m_tape m_newBed m_newLetter m_newReader m_bed m_letter m_reader m_newBeds m_newLetters m_newReaders m_beds m_letters m_readers m_newCode m_newOf m_code m_ofCode m_stack m_newCodes m_codes m_facts m_newStep m_step m_newSteps m_works m_refusedSteps m_begun m_done m_refusedNow m_now o_m_s m_past m_newBook m_book m_written m_mostBy m_stuffing m_stuffedMany m_lastBy m_leftBy m_splitBy m_seedNow m_image m_images)) : ∀ (n : Nat) (x2 : Int32) (x3 : Int32) (m_thrown : Int32) (m_refused : Nat → Int32) (m_s : Nat → Int32), f_X10_tour_24 m_beds m_readers m_now n1 n x2 x3 m_thrown m_refused m_s = some (r, o_m_thrown, o_m_refused, o_m_s) → G J Z 0 0 (cs_X10 J.2.2.1 a0 m_thrown m_refused m_taped m_size m_at m_bad m_badKind m_opens m_faultAt m_tape m_newBed m_newLetter m_newReader m_bed m_letter m_reader m_newBeds m_newLetters m_newReaders m_beds m_letters m_readers m_newCode m_newOf m_code m_ofCode m_stack m_newCodes m_codes m_facts m_newStep m_step m_newSteps m_works m_refusedSteps m_begun m_done m_refusedNow m_now m_s m_past m_newBook m_book m_written m_mostBy m_stuffing m_stuffedMany m_lastBy m_leftBy m_splitBy m_seedNow m_image m_images) 4 [(0, .ref (a0 0)), (1, .int n1), (2, .int x2), (3, .int x3)] 24 [] := by
  intro n
  induction n with
  | zero =>
    intro x2 x3 m_thrown m_refused m_s h
    rw [f_X10_tour_24] at h
    cases h
  | succ n ih =>
    intro x2 x3 m_thrown m_refused m_s h
    rw [f_X10_tour_24] at h
    refine g_iload_n (pc := 24) C 3 rfl dX10_tour_24 ?_
    refine g_aload_n (pc := 25) C 0 rfl dX10_tour_25 ?_
    refine g_get (pc := 26) C FOK_X10 0 rfl rfl 19 (by decide) kw_1296 rfl dX10_tour_26 ?_
    refine g_icmp_ge (pc := 29) C (tgt := 46) dX10_tour_29 rfl h (fun h => ?_) (fun h => ?_)
    · refine g_aload_n (pc := 46) C 0 rfl dX10_tour_46 ?_
      refine g_iload_n (pc := 47) C 2 rfl dX10_tour_47 ?_
      refine g_aload_n (pc := 48) C 0 rfl dX10_tour_48 ?_
      refine g_get (pc := 49) C FOK_X10 0 rfl rfl 39 (by decide) kw_1316 rfl dX10_tour_49 ?_
      refine g_bipush (pc := 52) C dX10_tour_52 cb_95 ?_
      refine g_iload_n (pc := 54) C 1 rfl dX10_tour_54 ?_
      refine g_iadd (pc := 55) C dX10_tour_55 ?_
      obtain ⟨hi, h⟩ := ix_of h
      refine g_iald (pc := 56) C 18 rfl hi dX10_tour_56 ?_
      refine g_iconst (pc := 57) C dX10_tour_57 ci_m1 ?_
      refine g_ixor (pc := 58) C dX10_tour_58 ?_
      refine g_iand (pc := 59) C dX10_tour_59 ?_
      refine g_iconst (pc := 60) C dX10_tour_60 ci_0 ?_
      obtain ⟨v1, hc, h⟩ := b1_of h
      refine g_callV (pc := 61) C (w' := cs_X10 J.2.2.1 a0 m_thrown m_refused m_taped m_size m_at m_bad m_badKind m_opens m_faultAt m_tape m_newBed m_newLetter m_newReader m_bed m_letter m_reader m_newBeds m_newLetters m_newReaders m_beds m_letters m_readers m_newCode m_newOf m_code m_ofCode m_stack m_newCodes m_codes m_facts m_newStep m_step m_newSteps m_works m_refusedSteps m_begun m_done m_refusedNow m_now m_s m_past m_newBook m_book m_written m_mostBy m_stuffing m_stuffedMany m_lastBy m_leftBy m_splitBy m_seedNow m_image m_images) (As := [.int (x2 &&& ((m_s (95 + n1).toNatClampNeg) ^^^ (-1))), .int 0]) (st := []) (ci := 10) (q0 := 0) rfl rfl (t_X10_bedsWith (a0 := a0) hc) Sub.same kw_1781 kw_1783 kw_74 kw_95 hy_X10_bedsWith kw_1784 rfl (Nat.le_of_ble_eq_true rfl) (Nat.le_of_ble_eq_true rfl) (Nat.le_of_ble_eq_true rfl) (Nat.le_of_ble_eq_true rfl) (Nat.le_of_ble_eq_true rfl) dX10_tour_61 ?_
      cases h
      exact g_iret C E dX10_tour_64
    · refine g_iload_n (pc := 32) C 2 rfl dX10_tour_32 ?_
      refine g_aload_n (pc := 33) C 0 rfl dX10_tour_33 ?_
      refine g_iload_n (pc := 34) C 3 rfl dX10_tour_34 ?_
      obtain ⟨v2, hc, h⟩ := b1_of h
      refine g_callV (pc := 35) C (w' := cs_X10 J.2.2.1 a0 m_thrown m_refused m_taped m_size m_at m_bad m_badKind m_opens m_faultAt m_tape m_newBed m_newLetter m_newReader m_bed m_letter m_reader m_newBeds m_newLetters m_newReaders m_beds m_letters m_readers m_newCode m_newOf m_code m_ofCode m_stack m_newCodes m_codes m_facts m_newStep m_step m_newSteps m_works m_refusedSteps m_begun m_done m_refusedNow m_now m_s m_past m_newBook m_book m_written m_mostBy m_stuffing m_stuffedMany m_lastBy m_leftBy m_splitBy m_seedNow m_image m_images) (As := [.int x3]) (st := [.int x2]) (ci := 10) (q0 := 0) rfl rfl (t_X10_wordsIn (a0 := a0) hc) Sub.same kw_1631 kw_1633 kw_55 kw_95 hy_X10_wordsIn kw_1634 rfl (Nat.le_of_ble_eq_true rfl) (Nat.le_of_ble_eq_true rfl) (Nat.le_of_ble_eq_true rfl) (Nat.le_of_ble_eq_true rfl) (Nat.le_of_ble_eq_true rfl) dX10_tour_35 ?_
      refine g_ior (pc := 38) C dX10_tour_38 ?_
      refine g_istore_n (pc := 39) C [(2, .int (x2 ||| v2)), (0, .ref (a0 0)), (1, .int n1), (3, .int x3)] dX10_tour_39 rfl (by decide) rfl ?_
      refine g_iinc (pc := 40) C (j := 3) [(3, .int (x3 + 1)), (2, .int (x2 ||| v2)), (0, .ref (a0 0)), (1, .int n1)] dX10_tour_40 rfl (ii_1 _) (by decide) rfl ?_
      refine g_goto (pc := 43) C (tgt := 24) dX10_tour_43 rfl ?_
      refine g_lv [2, 3, 1, 0] rfl ?_
      exact ih (x2 ||| v2) (x3 + 1) m_thrown m_refused m_s h
set_option maxRecDepth 100000 in
set_option maxHeartbeats 4000000 in
theorem t_X10_tour {J : Jt} {a0 : Nat → Nat} {m_thrown : Int32} {m_refused : Nat → Int32} {m_taped : Int32} {m_size : Int32} {m_at : Int32} {m_bad : Int32} {m_badKind : Int32} {m_opens : Int32} {m_faultAt : Int32} {m_tape : Nat → Int32} {m_newBed : Nat → Int32} {m_newLetter : Nat → Int32} {m_newReader : Nat → Int32} {m_bed : Nat → Int32} {m_letter : Nat → Int32} {m_reader : Nat → Int32} {m_newBeds : Int32} {m_newLetters : Int32} {m_newReaders : Int32} {m_beds : Int32} {m_letters : Int32} {m_readers : Int32} {m_newCode : Nat → Int32} {m_newOf : Nat → Int32} {m_code : Nat → Int32} {m_ofCode : Nat → Int32} {m_stack : Nat → Int32} {m_newCodes : Int32} {m_codes : Int32} {m_facts : Nat → Int32} {m_newStep : Nat → Int32} {m_step : Nat → Int32} {m_newSteps : Int32} {m_works : Int32} {m_refusedSteps : Int32} {m_begun : Int32} {m_done : Int32} {m_refusedNow : Int32} {m_now : Nat → Int32} {m_s : Nat → Int32} {m_past : Nat → Int32} {m_newBook : Nat → Int32} {m_book : Nat → Int32} {m_written : Int32} {m_mostBy : Nat → Int32} {m_stuffing : Nat → Int32} {m_stuffedMany : Int32} {m_lastBy : Nat → Int32} {m_leftBy : Nat → Int32} {m_splitBy : Nat → Int64} {m_seedNow : Int32} {m_image : Nat → Int32} {m_images : Int32} {n1 : Int32} {r : Int32} {o_m_thrown : Int32} {o_m_refused : Nat → Int32} {o_m_s : Nat → Int32} (h : f_X10_tour m_thrown m_refused m_beds m_readers m_now m_s n1 = some (r, o_m_thrown, o_m_refused, o_m_s)) : Mt J yX10_tour cX10_tour 4 (some .int) rm_X10_tour [.ref (a0 0), .int n1] (cs_X10 J.2.2.1 a0 m_thrown m_refused m_taped m_size m_at m_bad m_badKind m_opens m_faultAt m_tape m_newBed m_newLetter m_newReader m_bed m_letter m_reader m_newBeds m_newLetters m_newReaders m_beds m_letters m_readers m_newCode m_newOf m_code m_ofCode m_stack m_newCodes m_codes m_facts m_newStep m_step m_newSteps m_works m_refusedSteps m_begun m_done m_refusedNow m_now m_s m_past m_newBook m_book m_written m_mostBy m_stuffing m_stuffedMany m_lastBy m_leftBy m_splitBy m_seedNow m_image m_images) (some (.int r)) (cs_X10 J.2.2.1 a0 o_m_thrown o_m_refused m_taped m_size m_at m_bad m_badKind m_opens m_faultAt m_tape m_newBed m_newLetter m_newReader m_bed m_letter m_reader m_newBeds m_newLetters m_newReaders m_beds m_letters m_readers m_newCode m_newOf m_code m_ofCode m_stack m_newCodes m_codes m_facts m_newStep m_step m_newSteps m_works m_refusedSteps m_begun m_done m_refusedNow m_now o_m_s m_past m_newBook m_book m_written m_mostBy m_stuffing m_stuffedMany m_lastBy m_leftBy m_splitBy m_seedNow m_image m_images) := by
  refine Mt_of (own := RX10) (by decide) rfl (Nat.le_of_ble_eq_true rfl) rfl (fun Z C E => ?_)
  unfold f_X10_tour at h
  show G J Z 0 0 (cs_X10 J.2.2.1 a0 m_thrown m_refused m_taped m_size m_at m_bad m_badKind m_opens m_faultAt m_tape m_newBed m_newLetter m_newReader m_bed m_letter m_reader m_newBeds m_newLetters m_newReaders m_beds m_letters m_readers m_newCode m_newOf m_code m_ofCode m_stack m_newCodes m_codes m_facts m_newStep m_step m_newSteps m_works m_refusedSteps m_begun m_done m_refusedNow m_now m_s m_past m_newBook m_book m_written m_mostBy m_stuffing m_stuffedMany m_lastBy m_leftBy m_splitBy m_seedNow m_image m_images) 4 [(0, .ref (a0 0)), (1, .int n1)] 0 []
  refine g_aload_n (pc := 0) C 0 rfl dX10_tour_0 ?_
  refine g_iconst (pc := 1) C dX10_tour_1 ci_0 ?_
  refine g_put (pc := 2) C (w' := cs_X10 J.2.2.1 a0 0 m_refused m_taped m_size m_at m_bad m_badKind m_opens m_faultAt m_tape m_newBed m_newLetter m_newReader m_bed m_letter m_reader m_newBeds m_newLetters m_newReaders m_beds m_letters m_readers m_newCode m_newOf m_code m_ofCode m_stack m_newCodes m_codes m_facts m_newStep m_step m_newSteps m_works m_refusedSteps m_begun m_done m_refusedNow m_now m_s m_past m_newBook m_book m_written m_mostBy m_stuffing m_stuffedMany m_lastBy m_leftBy m_splitBy m_seedNow m_image m_images) FOK_X10 0 rfl rfl 0 (by decide) kw_1277 rfl rfl rfl (Nat.le_of_ble_eq_true rfl) dX10_tour_2 rfl ?_
  refine g_aload_n (pc := 5) C 0 rfl dX10_tour_5 ?_
  refine g_iload_n (pc := 6) C 1 rfl dX10_tour_6 ?_
  refine g_iconst (pc := 7) C dX10_tour_7 ci_1 ?_
  obtain ⟨v3, c4, c5, hc, h⟩ := b3_of h
  refine g_callV (pc := 8) C (w' := cs_X10 J.2.2.1 a0 c4 c5 m_taped m_size m_at m_bad m_badKind m_opens m_faultAt m_tape m_newBed m_newLetter m_newReader m_bed m_letter m_reader m_newBeds m_newLetters m_newReaders m_beds m_letters m_readers m_newCode m_newOf m_code m_ofCode m_stack m_newCodes m_codes m_facts m_newStep m_step m_newSteps m_works m_refusedSteps m_begun m_done m_refusedNow m_now m_s m_past m_newBook m_book m_written m_mostBy m_stuffing m_stuffedMany m_lastBy m_leftBy m_splitBy m_seedNow m_image m_images) (As := [.int n1, .int 1]) (st := []) (ci := 10) (q0 := 0) rfl rfl (t_X10_isReader (a0 := a0) hc) Sub.same kw_1732 kw_1734 kw_70 kw_95 hy_X10_isReader kw_1735 rfl (Nat.le_of_ble_eq_true rfl) (Nat.le_of_ble_eq_true rfl) (Nat.le_of_ble_eq_true rfl) (Nat.le_of_ble_eq_true rfl) (Nat.le_of_ble_eq_true rfl) dX10_tour_8 ?_
  refine g_if_ne (pc := 11) C (tgt := 16) dX10_tour_11 rfl h (fun h => ?_) (fun h => ?_)
  · refine g_aload_n (pc := 16) C 0 rfl dX10_tour_16 ?_
    obtain ⟨c6, hc, h⟩ := b1_of h
    refine g_callV (pc := 17) C (w' := cs_X10 J.2.2.1 a0 c4 c5 m_taped m_size m_at m_bad m_badKind m_opens m_faultAt m_tape m_newBed m_newLetter m_newReader m_bed m_letter m_reader m_newBeds m_newLetters m_newReaders m_beds m_letters m_readers m_newCode m_newOf m_code m_ofCode m_stack m_newCodes m_codes m_facts m_newStep m_step m_newSteps m_works m_refusedSteps m_begun m_done m_refusedNow m_now c6 m_past m_newBook m_book m_written m_mostBy m_stuffing m_stuffedMany m_lastBy m_leftBy m_splitBy m_seedNow m_image m_images) (As := []) (st := []) (ci := 10) (q0 := 0) rfl rfl (t_X10_take (a0 := a0) hc) Sub.same kw_1595 kw_1597 kw_46 kw_95 hy_X10_take kw_1598 rfl (Nat.le_of_ble_eq_true rfl) (Nat.le_of_ble_eq_true rfl) (Nat.le_of_ble_eq_true rfl) (Nat.le_of_ble_eq_true rfl) (Nat.le_of_ble_eq_true rfl) dX10_tour_17 ?_
    refine g_iconst (pc := 20) C dX10_tour_20 ci_0 ?_
    refine g_istore_n (pc := 21) C [(2, .int 0), (0, .ref (a0 0)), (1, .int n1)] dX10_tour_21 rfl (by decide) rfl ?_
    refine g_iconst (pc := 22) C dX10_tour_22 ci_0 ?_
    refine g_istore_n (pc := 23) C [(3, .int 0), (2, .int 0), (0, .ref (a0 0)), (1, .int n1)] dX10_tour_23 rfl (by decide) rfl ?_
    refine g_lv [2, 3, 1, 0] rfl ?_
    exact j_X10_tour_24 C E    FU 0 0 c4 c5 c6 h
  · refine g_iconst (pc := 14) C dX10_tour_14 ci_0 ?_
    cases h
    exact g_iret C E dX10_tour_15
noncomputable def f_X10_laysLasts_38  (m_letter : Nat → Int32) (m_beds : Int32) (m_letters : Int32) (m_now : Nat → Int32) (k2 : Int32 → (Nat → Int32) → (Nat → Int32) → Option ((Nat → Int32) × (Nat → Int32))) (k12 : Int32 → Int32 → (Nat → Int32) → (Nat → Int32) → Option ((Nat → Int32) × (Nat → Int32))) : Nat → Int32 → Int32 → Int32 → (Nat → Int32) → (Nat → Int32) → Option ((Nat → Int32) × (Nat → Int32))
  | 0, _, _, _, _, _ => none
  | n + 1, x1, x2, x3, m_s, m_lastBy => if m_beds ≤ x3 then k12 x1 (x2 + 1) m_s m_lastBy else if ixb (84 + x3) 165 then if (m_s (84 + x3).toNatClampNeg) = 0 then if ixb ((6 * (((9 * x1) + x2) - 1)) + x3) 324 then f_X10_laysLasts_38 m_letter m_beds m_letters m_now k2 k12 n x1 x2 (x3 + 1) m_s (upd m_lastBy ((6 * (((9 * x1) + x2) - 1)) + x3).toNatClampNeg 16) else none else if ixb (84 + x3) 165 then if ixb (((12 + (12 * x3)) + (m_s (84 + x3).toNatClampNeg)) - 1) 165 then if ixb ((6 * (((9 * x1) + x2) - 1)) + x3) 324 then f_X10_laysLasts_38 m_letter m_beds m_letters m_now k2 k12 n x1 x2 (x3 + 1) m_s (upd m_lastBy ((6 * (((9 * x1) + x2) - 1)) + x3).toNatClampNeg (m_s (((12 + (12 * x3)) + (m_s (84 + x3).toNatClampNeg)) - 1).toNatClampNeg)) else none else none else none else none
noncomputable def f_X10_laysLasts_12  (m_letter : Nat → Int32) (m_beds : Int32) (m_letters : Int32) (m_now : Nat → Int32) (k2 : Int32 → (Nat → Int32) → (Nat → Int32) → Option ((Nat → Int32) × (Nat → Int32))) : Nat → Int32 → Int32 → (Nat → Int32) → (Nat → Int32) → Option ((Nat → Int32) × (Nat → Int32))
  | 0, _, _, _, _ => none
  | n + 1, x1, x2, m_s, m_lastBy => if 9 < x2 then k2 (x1 + 1) m_s m_lastBy else b1 (f_X10_take m_now m_s) (fun c1 => b1 (f_X10_leftOf m_letter c1 x1) (fun v2 => b1 (f_X10_held x2 v2) (fun v3 => b1 (f_X10_runsOut m_letter c1 x1 v3) (fun c4 => f_X10_laysLasts_38 m_letter m_beds m_letters m_now k2 (f_X10_laysLasts_12 m_letter m_beds m_letters m_now k2 n) FU x1 x2 0 c4 m_lastBy))))
noncomputable def f_X10_laysLasts_2  (m_letter : Nat → Int32) (m_beds : Int32) (m_letters : Int32) (m_now : Nat → Int32) : Nat → Int32 → (Nat → Int32) → (Nat → Int32) → Option ((Nat → Int32) × (Nat → Int32))
  | 0, _, _, _ => none
  | n + 1, x1, m_s, m_lastBy => if m_letters ≤ x1 then some (m_s, m_lastBy) else f_X10_laysLasts_12 m_letter m_beds m_letters m_now (f_X10_laysLasts_2 m_letter m_beds m_letters m_now n) FU x1 1 m_s m_lastBy
noncomputable def f_X10_laysLasts (m_letter : Nat → Int32) (m_beds : Int32) (m_letters : Int32) (m_now : Nat → Int32) (m_s : Nat → Int32) (m_lastBy : Nat → Int32) : Option ((Nat → Int32) × (Nat → Int32)) := f_X10_laysLasts_2 m_letter m_beds m_letters m_now FU 0 m_s m_lastBy
def rm_X10_laysLasts : Room := { frames := 2, cells := 0, slots := 0, locals := 46 }
set_option maxRecDepth 100000 in
set_option maxHeartbeats 4000000 in
theorem j_X10_laysLasts_38 {J : Jt} {Z : Zt} {a0 : Nat → Nat} {m_thrown : Int32} {m_refused : Nat → Int32} {m_taped : Int32} {m_size : Int32} {m_at : Int32} {m_bad : Int32} {m_badKind : Int32} {m_opens : Int32} {m_faultAt : Int32} {m_tape : Nat → Int32} {m_newBed : Nat → Int32} {m_newLetter : Nat → Int32} {m_newReader : Nat → Int32} {m_bed : Nat → Int32} {m_letter : Nat → Int32} {m_reader : Nat → Int32} {m_newBeds : Int32} {m_newLetters : Int32} {m_newReaders : Int32} {m_beds : Int32} {m_letters : Int32} {m_readers : Int32} {m_newCode : Nat → Int32} {m_newOf : Nat → Int32} {m_code : Nat → Int32} {m_ofCode : Nat → Int32} {m_stack : Nat → Int32} {m_newCodes : Int32} {m_codes : Int32} {m_facts : Nat → Int32} {m_newStep : Nat → Int32} {m_step : Nat → Int32} {m_newSteps : Int32} {m_works : Int32} {m_refusedSteps : Int32} {m_begun : Int32} {m_done : Int32} {m_refusedNow : Int32} {m_now : Nat → Int32} {m_past : Nat → Int32} {m_newBook : Nat → Int32} {m_book : Nat → Int32} {m_written : Int32} {m_mostBy : Nat → Int32} {m_stuffing : Nat → Int32} {m_stuffedMany : Int32} {m_leftBy : Nat → Int32} {m_splitBy : Nat → Int64} {m_seedNow : Int32} {m_image : Nat → Int32} {m_images : Int32} {o_m_s : Nat → Int32} {o_m_lastBy : Nat → Int32} {k2 : Int32 → (Nat → Int32) → (Nat → Int32) → Option ((Nat → Int32) × (Nat → Int32))} {k12 : Int32 → Int32 → (Nat → Int32) → (Nat → Int32) → Option ((Nat → Int32) × (Nat → Int32))} (C : Cx J Z cX10_laysLasts 4 RX10 none rm_X10_laysLasts) (E : Ez J Z 0 0 none (cs_X10 J.2.2.1 a0 m_thrown m_refused m_taped m_size m_at m_bad m_badKind m_opens m_faultAt m_tape m_newBed m_newLetter m_newReader m_bed m_letter m_reader m_newBeds m_newLetters m_newReaders m_beds m_letters m_readers m_newCode m_newOf m_code m_ofCode m_stack m_newCodes m_codes m_facts m_newStep m_step m_newSteps m_works m_refusedSteps m_begun m_done m_refusedNow m_now o_m_s m_past m_newBook m_book m_written m_mostBy m_stuffing m_stuffedMany o_m_lastBy m_leftBy m_splitBy m_seedNow m_image m_images)) (hk2 : ∀ (x1 : Int32) (m_s : Nat → Int32) (m_lastBy : Nat → Int32), k2 x1 m_s m_lastBy = some (o_m_s, o_m_lastBy) → G J Z 0 0 (cs_X10 J.2.2.1 a0 m_thrown m_refused m_taped m_size m_at m_bad m_badKind m_opens m_faultAt m_tape m_newBed m_newLetter m_newReader m_bed m_letter m_reader m_newBeds m_newLetters m_newReaders m_beds m_letters m_readers m_newCode m_newOf m_code m_ofCode m_stack m_newCodes m_codes m_facts m_newStep m_step m_newSteps m_works m_refusedSteps m_begun m_done m_refusedNow m_now m_s m_past m_newBook m_book m_written m_mostBy m_stuffing m_stuffedMany m_lastBy m_leftBy m_splitBy m_seedNow m_image m_images) 4 [(0, .ref (a0 0)), (1, .int x1)] 2 []) (hk12 : ∀ (x1 : Int32) (x2 : Int32) (m_s : Nat → Int32) (m_lastBy : Nat → Int32), k12 x1 x2 m_s m_lastBy = some (o_m_s, o_m_lastBy) → G J Z 0 0 (cs_X10 J.2.2.1 a0 m_thrown m_refused m_taped m_size m_at m_bad m_badKind m_opens m_faultAt m_tape m_newBed m_newLetter m_newReader m_bed m_letter m_reader m_newBeds m_newLetters m_newReaders m_beds m_letters m_readers m_newCode m_newOf m_code m_ofCode m_stack m_newCodes m_codes m_facts m_newStep m_step m_newSteps m_works m_refusedSteps m_begun m_done m_refusedNow m_now m_s m_past m_newBook m_book m_written m_mostBy m_stuffing m_stuffedMany m_lastBy m_leftBy m_splitBy m_seedNow m_image m_images) 4 [(0, .ref (a0 0)), (1, .int x1), (2, .int x2)] 12 []) : ∀ (n : Nat) (x1 : Int32) (x2 : Int32) (x3 : Int32) (m_s : Nat → Int32) (m_lastBy : Nat → Int32), f_X10_laysLasts_38 m_letter m_beds m_letters m_now k2 k12 n x1 x2 x3 m_s m_lastBy = some (o_m_s, o_m_lastBy) → G J Z 0 0 (cs_X10 J.2.2.1 a0 m_thrown m_refused m_taped m_size m_at m_bad m_badKind m_opens m_faultAt m_tape m_newBed m_newLetter m_newReader m_bed m_letter m_reader m_newBeds m_newLetters m_newReaders m_beds m_letters m_readers m_newCode m_newOf m_code m_ofCode m_stack m_newCodes m_codes m_facts m_newStep m_step m_newSteps m_works m_refusedSteps m_begun m_done m_refusedNow m_now m_s m_past m_newBook m_book m_written m_mostBy m_stuffing m_stuffedMany m_lastBy m_leftBy m_splitBy m_seedNow m_image m_images) 4 [(0, .ref (a0 0)), (1, .int x1), (2, .int x2), (3, .int x3)] 38 [] := by
  intro n
  induction n with
  | zero =>
    intro x1 x2 x3 m_s m_lastBy h
    rw [f_X10_laysLasts_38] at h
    cases h
  | succ n ih =>
    intro x1 x2 x3 m_s m_lastBy h
    rw [f_X10_laysLasts_38] at h
    refine g_iload_n (pc := 38) C 3 rfl dX10_laysLasts_38 ?_
    refine g_aload_n (pc := 39) C 0 rfl dX10_laysLasts_39 ?_
    refine g_get (pc := 40) C FOK_X10 0 rfl rfl 19 (by decide) kw_1296 rfl dX10_laysLasts_40 ?_
    refine g_icmp_ge (pc := 43) C (tgt := 111) dX10_laysLasts_43 rfl h (fun h => ?_) (fun h => ?_)
    · refine g_iinc (pc := 111) C (j := 2) [(2, .int (x2 + 1)), (0, .ref (a0 0)), (1, .int x1), (3, .int x3)] dX10_laysLasts_111 rfl (ii_1 _) (by decide) rfl ?_
      refine g_goto (pc := 114) C (tgt := 12) dX10_laysLasts_114 rfl ?_
      refine g_lv [1, 2, 0] rfl ?_
      exact hk12 x1 (x2 + 1) m_s m_lastBy h
    · refine g_aload_n (pc := 46) C 0 rfl dX10_laysLasts_46 ?_
      refine g_get (pc := 47) C FOK_X10 0 rfl rfl 47 (by decide) kw_1324 rfl dX10_laysLasts_47 ?_
      refine g_bipush (pc := 50) C dX10_laysLasts_50 cb_6 ?_
      refine g_bipush (pc := 52) C dX10_laysLasts_52 cb_9 ?_
      refine g_iload_n (pc := 54) C 1 rfl dX10_laysLasts_54 ?_
      refine g_imul (pc := 55) C dX10_laysLasts_55 ?_
      refine g_iload_n (pc := 56) C 2 rfl dX10_laysLasts_56 ?_
      refine g_iadd (pc := 57) C dX10_laysLasts_57 ?_
      refine g_iconst (pc := 58) C dX10_laysLasts_58 ci_1 ?_
      refine g_isub (pc := 59) C dX10_laysLasts_59 ?_
      refine g_imul (pc := 60) C dX10_laysLasts_60 ?_
      refine g_iload_n (pc := 61) C 3 rfl dX10_laysLasts_61 ?_
      refine g_iadd (pc := 62) C dX10_laysLasts_62 ?_
      refine g_aload_n (pc := 63) C 0 rfl dX10_laysLasts_63 ?_
      refine g_get (pc := 64) C FOK_X10 0 rfl rfl 39 (by decide) kw_1316 rfl dX10_laysLasts_64 ?_
      refine g_bipush (pc := 67) C dX10_laysLasts_67 cb_84 ?_
      refine g_iload_n (pc := 69) C 3 rfl dX10_laysLasts_69 ?_
      refine g_iadd (pc := 70) C dX10_laysLasts_70 ?_
      obtain ⟨hi, h⟩ := ix_of h
      refine g_iald (pc := 71) C 18 rfl hi dX10_laysLasts_71 ?_
      refine g_if_ne (pc := 72) C (tgt := 80) dX10_laysLasts_72 rfl h (fun h => ?_) (fun h => ?_)
      · refine g_aload_n (pc := 80) C 0 rfl dX10_laysLasts_80 ?_
        refine g_get (pc := 81) C FOK_X10 0 rfl rfl 39 (by decide) kw_1316 rfl dX10_laysLasts_81 ?_
        refine g_bipush (pc := 84) C dX10_laysLasts_84 cb_12 ?_
        refine g_bipush (pc := 86) C dX10_laysLasts_86 cb_12 ?_
        refine g_iload_n (pc := 88) C 3 rfl dX10_laysLasts_88 ?_
        refine g_imul (pc := 89) C dX10_laysLasts_89 ?_
        refine g_iadd (pc := 90) C dX10_laysLasts_90 ?_
        refine g_aload_n (pc := 91) C 0 rfl dX10_laysLasts_91 ?_
        refine g_get (pc := 92) C FOK_X10 0 rfl rfl 39 (by decide) kw_1316 rfl dX10_laysLasts_92 ?_
        refine g_bipush (pc := 95) C dX10_laysLasts_95 cb_84 ?_
        refine g_iload_n (pc := 97) C 3 rfl dX10_laysLasts_97 ?_
        refine g_iadd (pc := 98) C dX10_laysLasts_98 ?_
        obtain ⟨hi, h⟩ := ix_of h
        refine g_iald (pc := 99) C 18 rfl hi dX10_laysLasts_99 ?_
        refine g_iadd (pc := 100) C dX10_laysLasts_100 ?_
        refine g_iconst (pc := 101) C dX10_laysLasts_101 ci_1 ?_
        refine g_isub (pc := 102) C dX10_laysLasts_102 ?_
        obtain ⟨hi, h⟩ := ix_of h
        refine g_iald (pc := 103) C 18 rfl hi dX10_laysLasts_103 ?_
        obtain ⟨hi, h⟩ := ix_of h
        refine g_iast (pc := 104) C (w' := cs_X10 J.2.2.1 a0 m_thrown m_refused m_taped m_size m_at m_bad m_badKind m_opens m_faultAt m_tape m_newBed m_newLetter m_newReader m_bed m_letter m_reader m_newBeds m_newLetters m_newReaders m_beds m_letters m_readers m_newCode m_newOf m_code m_ofCode m_stack m_newCodes m_codes m_facts m_newStep m_step m_newSteps m_works m_refusedSteps m_begun m_done m_refusedNow m_now m_s m_past m_newBook m_book m_written m_mostBy m_stuffing m_stuffedMany (upd m_lastBy ((6 * (((9 * x1) + x2) - 1)) + x3).toNatClampNeg (m_s (((12 + (12 * x3)) + (m_s (84 + x3).toNatClampNeg)) - 1).toNatClampNeg)) m_leftBy m_splitBy m_seedNow m_image m_images) 24 rfl hi dX10_laysLasts_104 rfl ?_
        refine g_iinc (pc := 105) C (j := 3) [(3, .int (x3 + 1)), (0, .ref (a0 0)), (1, .int x1), (2, .int x2)] dX10_laysLasts_105 rfl (ii_1 _) (by decide) rfl ?_
        refine g_goto (pc := 108) C (tgt := 38) dX10_laysLasts_108 rfl ?_
        refine g_lv [1, 2, 3, 0] rfl ?_
        exact ih x1 x2 (x3 + 1) m_s (upd m_lastBy ((6 * (((9 * x1) + x2) - 1)) + x3).toNatClampNeg (m_s (((12 + (12 * x3)) + (m_s (84 + x3).toNatClampNeg)) - 1).toNatClampNeg)) h
      · refine g_bipush (pc := 75) C dX10_laysLasts_75 cb_16 ?_
        refine g_goto (pc := 77) C (tgt := 104) dX10_laysLasts_77 rfl ?_
        obtain ⟨hi, h⟩ := ix_of h
        refine g_iast (pc := 104) C (w' := cs_X10 J.2.2.1 a0 m_thrown m_refused m_taped m_size m_at m_bad m_badKind m_opens m_faultAt m_tape m_newBed m_newLetter m_newReader m_bed m_letter m_reader m_newBeds m_newLetters m_newReaders m_beds m_letters m_readers m_newCode m_newOf m_code m_ofCode m_stack m_newCodes m_codes m_facts m_newStep m_step m_newSteps m_works m_refusedSteps m_begun m_done m_refusedNow m_now m_s m_past m_newBook m_book m_written m_mostBy m_stuffing m_stuffedMany (upd m_lastBy ((6 * (((9 * x1) + x2) - 1)) + x3).toNatClampNeg 16) m_leftBy m_splitBy m_seedNow m_image m_images) 24 rfl hi dX10_laysLasts_104 rfl ?_
        refine g_iinc (pc := 105) C (j := 3) [(3, .int (x3 + 1)), (0, .ref (a0 0)), (1, .int x1), (2, .int x2)] dX10_laysLasts_105 rfl (ii_1 _) (by decide) rfl ?_
        refine g_goto (pc := 108) C (tgt := 38) dX10_laysLasts_108 rfl ?_
        refine g_lv [1, 2, 3, 0] rfl ?_
        exact ih x1 x2 (x3 + 1) m_s (upd m_lastBy ((6 * (((9 * x1) + x2) - 1)) + x3).toNatClampNeg 16) h
set_option maxRecDepth 100000 in
set_option maxHeartbeats 4000000 in
theorem j_X10_laysLasts_12 {J : Jt} {Z : Zt} {a0 : Nat → Nat} {m_thrown : Int32} {m_refused : Nat → Int32} {m_taped : Int32} {m_size : Int32} {m_at : Int32} {m_bad : Int32} {m_badKind : Int32} {m_opens : Int32} {m_faultAt : Int32} {m_tape : Nat → Int32} {m_newBed : Nat → Int32} {m_newLetter : Nat → Int32} {m_newReader : Nat → Int32} {m_bed : Nat → Int32} {m_letter : Nat → Int32} {m_reader : Nat → Int32} {m_newBeds : Int32} {m_newLetters : Int32} {m_newReaders : Int32} {m_beds : Int32} {m_letters : Int32} {m_readers : Int32} {m_newCode : Nat → Int32} {m_newOf : Nat → Int32} {m_code : Nat → Int32} {m_ofCode : Nat → Int32} {m_stack : Nat → Int32} {m_newCodes : Int32} {m_codes : Int32} {m_facts : Nat → Int32} {m_newStep : Nat → Int32} {m_step : Nat → Int32} {m_newSteps : Int32} {m_works : Int32} {m_refusedSteps : Int32} {m_begun : Int32} {m_done : Int32} {m_refusedNow : Int32} {m_now : Nat → Int32} {m_past : Nat → Int32} {m_newBook : Nat → Int32} {m_book : Nat → Int32} {m_written : Int32} {m_mostBy : Nat → Int32} {m_stuffing : Nat → Int32} {m_stuffedMany : Int32} {m_leftBy : Nat → Int32} {m_splitBy : Nat → Int64} {m_seedNow : Int32} {m_image : Nat → Int32} {m_images : Int32} {o_m_s : Nat → Int32} {o_m_lastBy : Nat → Int32} {k2 : Int32 → (Nat → Int32) → (Nat → Int32) → Option ((Nat → Int32) × (Nat → Int32))} (C : Cx J Z cX10_laysLasts 4 RX10 none rm_X10_laysLasts) (E : Ez J Z 0 0 none (cs_X10 J.2.2.1 a0 m_thrown m_refused m_taped m_size m_at m_bad m_badKind m_opens m_faultAt m_tape m_newBed m_newLetter m_newReader m_bed m_letter m_reader m_newBeds m_newLetters m_newReaders m_beds m_letters m_readers m_newCode m_newOf m_code m_ofCode m_stack m_newCodes m_codes m_facts m_newStep m_step m_newSteps m_works m_refusedSteps m_begun m_done m_refusedNow m_now o_m_s m_past m_newBook m_book m_written m_mostBy m_stuffing m_stuffedMany o_m_lastBy m_leftBy m_splitBy m_seedNow m_image m_images)) (hk2 : ∀ (x1 : Int32) (m_s : Nat → Int32) (m_lastBy : Nat → Int32), k2 x1 m_s m_lastBy = some (o_m_s, o_m_lastBy) → G J Z 0 0 (cs_X10 J.2.2.1 a0 m_thrown m_refused m_taped m_size m_at m_bad m_badKind m_opens m_faultAt m_tape m_newBed m_newLetter m_newReader m_bed m_letter m_reader m_newBeds m_newLetters m_newReaders m_beds m_letters m_readers m_newCode m_newOf m_code m_ofCode m_stack m_newCodes m_codes m_facts m_newStep m_step m_newSteps m_works m_refusedSteps m_begun m_done m_refusedNow m_now m_s m_past m_newBook m_book m_written m_mostBy m_stuffing m_stuffedMany m_lastBy m_leftBy m_splitBy m_seedNow m_image m_images) 4 [(0, .ref (a0 0)), (1, .int x1)] 2 []) : ∀ (n : Nat) (x1 : Int32) (x2 : Int32) (m_s : Nat → Int32) (m_lastBy : Nat → Int32), f_X10_laysLasts_12 m_letter m_beds m_letters m_now k2 n x1 x2 m_s m_lastBy = some (o_m_s, o_m_lastBy) → G J Z 0 0 (cs_X10 J.2.2.1 a0 m_thrown m_refused m_taped m_size m_at m_bad m_badKind m_opens m_faultAt m_tape m_newBed m_newLetter m_newReader m_bed m_letter m_reader m_newBeds m_newLetters m_newReaders m_beds m_letters m_readers m_newCode m_newOf m_code m_ofCode m_stack m_newCodes m_codes m_facts m_newStep m_step m_newSteps m_works m_refusedSteps m_begun m_done m_refusedNow m_now m_s m_past m_newBook m_book m_written m_mostBy m_stuffing m_stuffedMany m_lastBy m_leftBy m_splitBy m_seedNow m_image m_images) 4 [(0, .ref (a0 0)), (1, .int x1), (2, .int x2)] 12 [] := by
  intro n
  induction n with
  | zero =>
    intro x1 x2 m_s m_lastBy h
    rw [f_X10_laysLasts_12] at h
    cases h
  | succ n ih =>
    intro x1 x2 m_s m_lastBy h
    rw [f_X10_laysLasts_12] at h
    refine g_iload_n (pc := 12) C 2 rfl dX10_laysLasts_12 ?_
    refine g_bipush (pc := 13) C dX10_laysLasts_13 cb_9 ?_
    refine g_icmp_gt (pc := 15) C (tgt := 117) dX10_laysLasts_15 rfl h (fun h => ?_) (fun h => ?_)
    · refine g_iinc (pc := 117) C (j := 1) [(1, .int (x1 + 1)), (0, .ref (a0 0)), (2, .int x2)] dX10_laysLasts_117 rfl (ii_1 _) (by decide) rfl ?_
      refine g_goto (pc := 120) C (tgt := 2) dX10_laysLasts_120 rfl ?_
      refine g_lv [1, 0] rfl ?_
      exact hk2 (x1 + 1) m_s m_lastBy h
    · refine g_aload_n (pc := 18) C 0 rfl dX10_laysLasts_18 ?_
      obtain ⟨c1, hc, h⟩ := b1_of h
      refine g_callV (pc := 19) C (w' := cs_X10 J.2.2.1 a0 m_thrown m_refused m_taped m_size m_at m_bad m_badKind m_opens m_faultAt m_tape m_newBed m_newLetter m_newReader m_bed m_letter m_reader m_newBeds m_newLetters m_newReaders m_beds m_letters m_readers m_newCode m_newOf m_code m_ofCode m_stack m_newCodes m_codes m_facts m_newStep m_step m_newSteps m_works m_refusedSteps m_begun m_done m_refusedNow m_now c1 m_past m_newBook m_book m_written m_mostBy m_stuffing m_stuffedMany m_lastBy m_leftBy m_splitBy m_seedNow m_image m_images) (As := []) (st := []) (ci := 10) (q0 := 0) rfl rfl (t_X10_take (a0 := a0) hc) Sub.same kw_1595 kw_1597 kw_46 kw_95 hy_X10_take kw_1598 rfl (Nat.le_of_ble_eq_true rfl) (Nat.le_of_ble_eq_true rfl) (Nat.le_of_ble_eq_true rfl) (Nat.le_of_ble_eq_true rfl) (Nat.le_of_ble_eq_true rfl) dX10_laysLasts_19 ?_
      refine g_aload_n (pc := 22) C 0 rfl dX10_laysLasts_22 ?_
      refine g_iload_n (pc := 23) C 1 rfl dX10_laysLasts_23 ?_
      refine g_iload_n (pc := 24) C 2 rfl dX10_laysLasts_24 ?_
      refine g_aload_n (pc := 25) C 0 rfl dX10_laysLasts_25 ?_
      refine g_iload_n (pc := 26) C 1 rfl dX10_laysLasts_26 ?_
      obtain ⟨v2, hc, h⟩ := b1_of h
      refine g_callV (pc := 27) C (w' := cs_X10 J.2.2.1 a0 m_thrown m_refused m_taped m_size m_at m_bad m_badKind m_opens m_faultAt m_tape m_newBed m_newLetter m_newReader m_bed m_letter m_reader m_newBeds m_newLetters m_newReaders m_beds m_letters m_readers m_newCode m_newOf m_code m_ofCode m_stack m_newCodes m_codes m_facts m_newStep m_step m_newSteps m_works m_refusedSteps m_begun m_done m_refusedNow m_now c1 m_past m_newBook m_book m_written m_mostBy m_stuffing m_stuffedMany m_lastBy m_leftBy m_splitBy m_seedNow m_image m_images) (As := [.int x1]) (st := [.int x2, .int x1, .ref (a0 0)]) (ci := 10) (q0 := 0) rfl rfl (t_X10_leftOf (a0 := a0) hc) Sub.same kw_1619 kw_1621 kw_52 kw_95 hy_X10_leftOf kw_1622 rfl (Nat.le_of_ble_eq_true rfl) (Nat.le_of_ble_eq_true rfl) (Nat.le_of_ble_eq_true rfl) (Nat.le_of_ble_eq_true rfl) (Nat.le_of_ble_eq_true rfl) dX10_laysLasts_27 ?_
      obtain ⟨v3, hc, h⟩ := b1_of h
      refine g_callS (pc := 30) C (w' := cs_X10 J.2.2.1 a0 m_thrown m_refused m_taped m_size m_at m_bad m_badKind m_opens m_faultAt m_tape m_newBed m_newLetter m_newReader m_bed m_letter m_reader m_newBeds m_newLetters m_newReaders m_beds m_letters m_readers m_newCode m_newOf m_code m_ofCode m_stack m_newCodes m_codes m_facts m_newStep m_step m_newSteps m_works m_refusedSteps m_begun m_done m_refusedNow m_now c1 m_past m_newBook m_book m_written m_mostBy m_stuffing m_stuffedMany m_lastBy m_leftBy m_splitBy m_seedNow m_image m_images) (As := [.int x2, .int v2]) (st := [.int x1, .ref (a0 0)]) (t_X10_held hc) Sub.nil kw_1643 kw_1644 kw_95 hy_X10_held kw_1645 rfl (Nat.le_of_ble_eq_true rfl) (Nat.le_of_ble_eq_true rfl) (Nat.le_of_ble_eq_true rfl) (Nat.le_of_ble_eq_true rfl) (Nat.le_of_ble_eq_true rfl) dX10_laysLasts_30 ?_
      obtain ⟨c4, hc, h⟩ := b1_of h
      refine g_callV (pc := 33) C (w' := cs_X10 J.2.2.1 a0 m_thrown m_refused m_taped m_size m_at m_bad m_badKind m_opens m_faultAt m_tape m_newBed m_newLetter m_newReader m_bed m_letter m_reader m_newBeds m_newLetters m_newReaders m_beds m_letters m_readers m_newCode m_newOf m_code m_ofCode m_stack m_newCodes m_codes m_facts m_newStep m_step m_newSteps m_works m_refusedSteps m_begun m_done m_refusedNow m_now c4 m_past m_newBook m_book m_written m_mostBy m_stuffing m_stuffedMany m_lastBy m_leftBy m_splitBy m_seedNow m_image m_images) (As := [.int x1, .int v3]) (st := []) (ci := 10) (q0 := 0) rfl rfl (t_X10_runsOut (a0 := a0) hc) Sub.same kw_1665 kw_1667 kw_62 kw_95 hy_X10_runsOut kw_1668 rfl (Nat.le_of_ble_eq_true rfl) (Nat.le_of_ble_eq_true rfl) (Nat.le_of_ble_eq_true rfl) (Nat.le_of_ble_eq_true rfl) (Nat.le_of_ble_eq_true rfl) dX10_laysLasts_33 ?_
      refine g_iconst (pc := 36) C dX10_laysLasts_36 ci_0 ?_
      refine g_istore_n (pc := 37) C [(3, .int 0), (0, .ref (a0 0)), (1, .int x1), (2, .int x2)] dX10_laysLasts_37 rfl (by decide) rfl ?_
      refine g_lv [1, 2, 3, 0] rfl ?_
      exact j_X10_laysLasts_38 C E   hk2 ih FU x1 x2 0 c4 m_lastBy h
set_option maxRecDepth 100000 in
set_option maxHeartbeats 4000000 in
theorem j_X10_laysLasts_2 {J : Jt} {Z : Zt} {a0 : Nat → Nat} {m_thrown : Int32} {m_refused : Nat → Int32} {m_taped : Int32} {m_size : Int32} {m_at : Int32} {m_bad : Int32} {m_badKind : Int32} {m_opens : Int32} {m_faultAt : Int32} {m_tape : Nat → Int32} {m_newBed : Nat → Int32} {m_newLetter : Nat → Int32} {m_newReader : Nat → Int32} {m_bed : Nat → Int32} {m_letter : Nat → Int32} {m_reader : Nat → Int32} {m_newBeds : Int32} {m_newLetters : Int32} {m_newReaders : Int32} {m_beds : Int32} {m_letters : Int32} {m_readers : Int32} {m_newCode : Nat → Int32} {m_newOf : Nat → Int32} {m_code : Nat → Int32} {m_ofCode : Nat → Int32} {m_stack : Nat → Int32} {m_newCodes : Int32} {m_codes : Int32} {m_facts : Nat → Int32} {m_newStep : Nat → Int32} {m_step : Nat → Int32} {m_newSteps : Int32} {m_works : Int32} {m_refusedSteps : Int32} {m_begun : Int32} {m_done : Int32} {m_refusedNow : Int32} {m_now : Nat → Int32} {m_past : Nat → Int32} {m_newBook : Nat → Int32} {m_book : Nat → Int32} {m_written : Int32} {m_mostBy : Nat → Int32} {m_stuffing : Nat → Int32} {m_stuffedMany : Int32} {m_leftBy : Nat → Int32} {m_splitBy : Nat → Int64} {m_seedNow : Int32} {m_image : Nat → Int32} {m_images : Int32} {o_m_s : Nat → Int32} {o_m_lastBy : Nat → Int32} (C : Cx J Z cX10_laysLasts 4 RX10 none rm_X10_laysLasts) (E : Ez J Z 0 0 none (cs_X10 J.2.2.1 a0 m_thrown m_refused m_taped m_size m_at m_bad m_badKind m_opens m_faultAt m_tape m_newBed m_newLetter m_newReader m_bed m_letter m_reader m_newBeds m_newLetters m_newReaders m_beds m_letters m_readers m_newCode m_newOf m_code m_ofCode m_stack m_newCodes m_codes m_facts m_newStep m_step m_newSteps m_works m_refusedSteps m_begun m_done m_refusedNow m_now o_m_s m_past m_newBook m_book m_written m_mostBy m_stuffing m_stuffedMany o_m_lastBy m_leftBy m_splitBy m_seedNow m_image m_images)) : ∀ (n : Nat) (x1 : Int32) (m_s : Nat → Int32) (m_lastBy : Nat → Int32), f_X10_laysLasts_2 m_letter m_beds m_letters m_now n x1 m_s m_lastBy = some (o_m_s, o_m_lastBy) → G J Z 0 0 (cs_X10 J.2.2.1 a0 m_thrown m_refused m_taped m_size m_at m_bad m_badKind m_opens m_faultAt m_tape m_newBed m_newLetter m_newReader m_bed m_letter m_reader m_newBeds m_newLetters m_newReaders m_beds m_letters m_readers m_newCode m_newOf m_code m_ofCode m_stack m_newCodes m_codes m_facts m_newStep m_step m_newSteps m_works m_refusedSteps m_begun m_done m_refusedNow m_now m_s m_past m_newBook m_book m_written m_mostBy m_stuffing m_stuffedMany m_lastBy m_leftBy m_splitBy m_seedNow m_image m_images) 4 [(0, .ref (a0 0)), (1, .int x1)] 2 [] := by
  intro n
  induction n with
  | zero =>
    intro x1 m_s m_lastBy h
    rw [f_X10_laysLasts_2] at h
    cases h
  | succ n ih =>
    intro x1 m_s m_lastBy h
    rw [f_X10_laysLasts_2] at h
    refine g_iload_n (pc := 2) C 1 rfl dX10_laysLasts_2 ?_
    refine g_aload_n (pc := 3) C 0 rfl dX10_laysLasts_3 ?_
    refine g_get (pc := 4) C FOK_X10 0 rfl rfl 20 (by decide) kw_1297 rfl dX10_laysLasts_4 ?_
    refine g_icmp_ge (pc := 7) C (tgt := 123) dX10_laysLasts_7 rfl h (fun h => ?_) (fun h => ?_)
    · cases h
      exact g_vret C E dX10_laysLasts_123
    · refine g_iconst (pc := 10) C dX10_laysLasts_10 ci_1 ?_
      refine g_istore_n (pc := 11) C [(2, .int 1), (0, .ref (a0 0)), (1, .int x1)] dX10_laysLasts_11 rfl (by decide) rfl ?_
      refine g_lv [1, 2, 0] rfl ?_
      exact j_X10_laysLasts_12 C E   ih FU x1 1 m_s m_lastBy h
set_option maxRecDepth 100000 in
set_option maxHeartbeats 4000000 in
theorem t_X10_laysLasts {J : Jt} {a0 : Nat → Nat} {m_thrown : Int32} {m_refused : Nat → Int32} {m_taped : Int32} {m_size : Int32} {m_at : Int32} {m_bad : Int32} {m_badKind : Int32} {m_opens : Int32} {m_faultAt : Int32} {m_tape : Nat → Int32} {m_newBed : Nat → Int32} {m_newLetter : Nat → Int32} {m_newReader : Nat → Int32} {m_bed : Nat → Int32} {m_letter : Nat → Int32} {m_reader : Nat → Int32} {m_newBeds : Int32} {m_newLetters : Int32} {m_newReaders : Int32} {m_beds : Int32} {m_letters : Int32} {m_readers : Int32} {m_newCode : Nat → Int32} {m_newOf : Nat → Int32} {m_code : Nat → Int32} {m_ofCode : Nat → Int32} {m_stack : Nat → Int32} {m_newCodes : Int32} {m_codes : Int32} {m_facts : Nat → Int32} {m_newStep : Nat → Int32} {m_step : Nat → Int32} {m_newSteps : Int32} {m_works : Int32} {m_refusedSteps : Int32} {m_begun : Int32} {m_done : Int32} {m_refusedNow : Int32} {m_now : Nat → Int32} {m_s : Nat → Int32} {m_past : Nat → Int32} {m_newBook : Nat → Int32} {m_book : Nat → Int32} {m_written : Int32} {m_mostBy : Nat → Int32} {m_stuffing : Nat → Int32} {m_stuffedMany : Int32} {m_lastBy : Nat → Int32} {m_leftBy : Nat → Int32} {m_splitBy : Nat → Int64} {m_seedNow : Int32} {m_image : Nat → Int32} {m_images : Int32} {o_m_s : Nat → Int32} {o_m_lastBy : Nat → Int32} (h : f_X10_laysLasts m_letter m_beds m_letters m_now m_s m_lastBy = some (o_m_s, o_m_lastBy)) : Mt J yX10_laysLasts cX10_laysLasts 4 none rm_X10_laysLasts [.ref (a0 0)] (cs_X10 J.2.2.1 a0 m_thrown m_refused m_taped m_size m_at m_bad m_badKind m_opens m_faultAt m_tape m_newBed m_newLetter m_newReader m_bed m_letter m_reader m_newBeds m_newLetters m_newReaders m_beds m_letters m_readers m_newCode m_newOf m_code m_ofCode m_stack m_newCodes m_codes m_facts m_newStep m_step m_newSteps m_works m_refusedSteps m_begun m_done m_refusedNow m_now m_s m_past m_newBook m_book m_written m_mostBy m_stuffing m_stuffedMany m_lastBy m_leftBy m_splitBy m_seedNow m_image m_images) none (cs_X10 J.2.2.1 a0 m_thrown m_refused m_taped m_size m_at m_bad m_badKind m_opens m_faultAt m_tape m_newBed m_newLetter m_newReader m_bed m_letter m_reader m_newBeds m_newLetters m_newReaders m_beds m_letters m_readers m_newCode m_newOf m_code m_ofCode m_stack m_newCodes m_codes m_facts m_newStep m_step m_newSteps m_works m_refusedSteps m_begun m_done m_refusedNow m_now o_m_s m_past m_newBook m_book m_written m_mostBy m_stuffing m_stuffedMany o_m_lastBy m_leftBy m_splitBy m_seedNow m_image m_images) := by
  refine Mt_of (own := RX10) (by decide) rfl (Nat.le_of_ble_eq_true rfl) rfl (fun Z C E => ?_)
  unfold f_X10_laysLasts at h
  show G J Z 0 0 (cs_X10 J.2.2.1 a0 m_thrown m_refused m_taped m_size m_at m_bad m_badKind m_opens m_faultAt m_tape m_newBed m_newLetter m_newReader m_bed m_letter m_reader m_newBeds m_newLetters m_newReaders m_beds m_letters m_readers m_newCode m_newOf m_code m_ofCode m_stack m_newCodes m_codes m_facts m_newStep m_step m_newSteps m_works m_refusedSteps m_begun m_done m_refusedNow m_now m_s m_past m_newBook m_book m_written m_mostBy m_stuffing m_stuffedMany m_lastBy m_leftBy m_splitBy m_seedNow m_image m_images) 4 [(0, .ref (a0 0))] 0 []
  refine g_iconst (pc := 0) C dX10_laysLasts_0 ci_0 ?_
  refine g_istore_n (pc := 1) C [(1, .int 0), (0, .ref (a0 0))] dX10_laysLasts_1 rfl (by decide) rfl ?_
  refine g_lv [1, 0] rfl ?_
  exact j_X10_laysLasts_2 C E    FU 0 m_s m_lastBy h
noncomputable def f_X10_isFit_4  (m_beds : Int32) (m_book : Nat → Int32) (m_lastBy : Nat → Int32) (n1 : Int32) : Nat → Int32 → Int32 → Option (Int32)
  | 0, _, _ => none
  | n + 1, x2, x3 => if m_beds ≤ x3 then if zok x2 then some x2 else none else if x2 = 0 then f_X10_isFit_4 m_beds m_book m_lastBy n1 n 0 (x3 + 1) else if ixb x3 6 then if (m_book x3.toNatClampNeg) = (-1) then f_X10_isFit_4 m_beds m_book m_lastBy n1 n 1 (x3 + 1) else if ixb ((6 * n1) + x3) 324 then if ixb x3 6 then if (m_lastBy ((6 * n1) + x3).toNatClampNeg) = (m_book x3.toNatClampNeg) then f_X10_isFit_4 m_beds m_book m_lastBy n1 n 1 (x3 + 1) else f_X10_isFit_4 m_beds m_book m_lastBy n1 n 0 (x3 + 1) else none else none else none
noncomputable def f_X10_isFit (m_beds : Int32) (m_book : Nat → Int32) (m_lastBy : Nat → Int32) (n1 : Int32) : Option (Int32) := f_X10_isFit_4 m_beds m_book m_lastBy n1 FU 1 0
def rm_X10_isFit : Room := { frames := 0, cells := 0, slots := 0, locals := 0 }
set_option maxRecDepth 100000 in
set_option maxHeartbeats 4000000 in
theorem j_X10_isFit_4 {J : Jt} {Z : Zt} {a0 : Nat → Nat} {m_thrown : Int32} {m_refused : Nat → Int32} {m_taped : Int32} {m_size : Int32} {m_at : Int32} {m_bad : Int32} {m_badKind : Int32} {m_opens : Int32} {m_faultAt : Int32} {m_tape : Nat → Int32} {m_newBed : Nat → Int32} {m_newLetter : Nat → Int32} {m_newReader : Nat → Int32} {m_bed : Nat → Int32} {m_letter : Nat → Int32} {m_reader : Nat → Int32} {m_newBeds : Int32} {m_newLetters : Int32} {m_newReaders : Int32} {m_beds : Int32} {m_letters : Int32} {m_readers : Int32} {m_newCode : Nat → Int32} {m_newOf : Nat → Int32} {m_code : Nat → Int32} {m_ofCode : Nat → Int32} {m_stack : Nat → Int32} {m_newCodes : Int32} {m_codes : Int32} {m_facts : Nat → Int32} {m_newStep : Nat → Int32} {m_step : Nat → Int32} {m_newSteps : Int32} {m_works : Int32} {m_refusedSteps : Int32} {m_begun : Int32} {m_done : Int32} {m_refusedNow : Int32} {m_now : Nat → Int32} {m_s : Nat → Int32} {m_past : Nat → Int32} {m_newBook : Nat → Int32} {m_book : Nat → Int32} {m_written : Int32} {m_mostBy : Nat → Int32} {m_stuffing : Nat → Int32} {m_stuffedMany : Int32} {m_lastBy : Nat → Int32} {m_leftBy : Nat → Int32} {m_splitBy : Nat → Int64} {m_seedNow : Int32} {m_image : Nat → Int32} {m_images : Int32} {n1 : Int32} {r : Int32} (C : Cx J Z cX10_isFit 4 RX10 (some .boolean) rm_X10_isFit) (E : Ez J Z 0 0 (some (.int r)) (cs_X10 J.2.2.1 a0 m_thrown m_refused m_taped m_size m_at m_bad m_badKind m_opens m_faultAt m_tape m_newBed m_newLetter m_newReader m_bed m_letter m_reader m_newBeds m_newLetters m_newReaders m_beds m_letters m_readers m_newCode m_newOf m_code m_ofCode m_stack m_newCodes m_codes m_facts m_newStep m_step m_newSteps m_works m_refusedSteps m_begun m_done m_refusedNow m_now m_s m_past m_newBook m_book m_written m_mostBy m_stuffing m_stuffedMany m_lastBy m_leftBy m_splitBy m_seedNow m_image m_images)) : ∀ (n : Nat) (x2 : Int32) (x3 : Int32), f_X10_isFit_4 m_beds m_book m_lastBy n1 n x2 x3 = some r → G J Z 0 0 (cs_X10 J.2.2.1 a0 m_thrown m_refused m_taped m_size m_at m_bad m_badKind m_opens m_faultAt m_tape m_newBed m_newLetter m_newReader m_bed m_letter m_reader m_newBeds m_newLetters m_newReaders m_beds m_letters m_readers m_newCode m_newOf m_code m_ofCode m_stack m_newCodes m_codes m_facts m_newStep m_step m_newSteps m_works m_refusedSteps m_begun m_done m_refusedNow m_now m_s m_past m_newBook m_book m_written m_mostBy m_stuffing m_stuffedMany m_lastBy m_leftBy m_splitBy m_seedNow m_image m_images) 4 [(0, .ref (a0 0)), (1, .int n1), (2, .int x2), (3, .int x3)] 4 [] := by
  intro n
  induction n with
  | zero =>
    intro x2 x3 h
    rw [f_X10_isFit_4] at h
    cases h
  | succ n ih =>
    intro x2 x3 h
    rw [f_X10_isFit_4] at h
    refine g_iload_n (pc := 4) C 3 rfl dX10_isFit_4 ?_
    refine g_aload_n (pc := 5) C 0 rfl dX10_isFit_5 ?_
    refine g_get (pc := 6) C FOK_X10 0 rfl rfl 19 (by decide) kw_1296 rfl dX10_isFit_6 ?_
    refine g_icmp_ge (pc := 9) C (tgt := 58) dX10_isFit_9 rfl h (fun h => ?_) (fun h => ?_)
    · refine g_iload_n (pc := 58) C 2 rfl dX10_isFit_58 ?_
      obtain ⟨hz, h⟩ := zok_of h
      cases h
      exact g_zret C hz E dX10_isFit_59
    · refine g_iload_n (pc := 12) C 2 rfl dX10_isFit_12 ?_
      refine g_if_eq (pc := 13) C (tgt := 50) dX10_isFit_13 rfl h (fun h => ?_) (fun h => ?_)
      · refine g_iconst (pc := 50) C dX10_isFit_50 ci_0 ?_
        refine g_istore_n (pc := 51) C [(2, .int 0), (0, .ref (a0 0)), (1, .int n1), (3, .int x3)] dX10_isFit_51 rfl (by decide) rfl ?_
        refine g_iinc (pc := 52) C (j := 3) [(3, .int (x3 + 1)), (2, .int 0), (0, .ref (a0 0)), (1, .int n1)] dX10_isFit_52 rfl (ii_1 _) (by decide) rfl ?_
        refine g_goto (pc := 55) C (tgt := 4) dX10_isFit_55 rfl ?_
        refine g_lv [2, 3, 1, 0] rfl ?_
        exact ih 0 (x3 + 1) h
      · refine g_aload_n (pc := 16) C 0 rfl dX10_isFit_16 ?_
        refine g_get (pc := 17) C FOK_X10 0 rfl rfl 42 (by decide) kw_1319 rfl dX10_isFit_17 ?_
        refine g_iload_n (pc := 20) C 3 rfl dX10_isFit_20 ?_
        obtain ⟨hi, h⟩ := ix_of h
        refine g_iald (pc := 21) C 21 rfl hi dX10_isFit_21 ?_
        refine g_iconst (pc := 22) C dX10_isFit_22 ci_m1 ?_
        refine g_icmp_eq (pc := 23) C (tgt := 46) dX10_isFit_23 rfl h (fun h => ?_) (fun h => ?_)
        · refine g_iconst (pc := 46) C dX10_isFit_46 ci_1 ?_
          refine g_goto (pc := 47) C (tgt := 51) dX10_isFit_47 rfl ?_
          refine g_istore_n (pc := 51) C [(2, .int 1), (0, .ref (a0 0)), (1, .int n1), (3, .int x3)] dX10_isFit_51 rfl (by decide) rfl ?_
          refine g_iinc (pc := 52) C (j := 3) [(3, .int (x3 + 1)), (2, .int 1), (0, .ref (a0 0)), (1, .int n1)] dX10_isFit_52 rfl (ii_1 _) (by decide) rfl ?_
          refine g_goto (pc := 55) C (tgt := 4) dX10_isFit_55 rfl ?_
          refine g_lv [2, 3, 1, 0] rfl ?_
          exact ih 1 (x3 + 1) h
        · refine g_aload_n (pc := 26) C 0 rfl dX10_isFit_26 ?_
          refine g_get (pc := 27) C FOK_X10 0 rfl rfl 47 (by decide) kw_1324 rfl dX10_isFit_27 ?_
          refine g_bipush (pc := 30) C dX10_isFit_30 cb_6 ?_
          refine g_iload_n (pc := 32) C 1 rfl dX10_isFit_32 ?_
          refine g_imul (pc := 33) C dX10_isFit_33 ?_
          refine g_iload_n (pc := 34) C 3 rfl dX10_isFit_34 ?_
          refine g_iadd (pc := 35) C dX10_isFit_35 ?_
          obtain ⟨hi, h⟩ := ix_of h
          refine g_iald (pc := 36) C 24 rfl hi dX10_isFit_36 ?_
          refine g_aload_n (pc := 37) C 0 rfl dX10_isFit_37 ?_
          refine g_get (pc := 38) C FOK_X10 0 rfl rfl 42 (by decide) kw_1319 rfl dX10_isFit_38 ?_
          refine g_iload_n (pc := 41) C 3 rfl dX10_isFit_41 ?_
          obtain ⟨hi, h⟩ := ix_of h
          refine g_iald (pc := 42) C 21 rfl hi dX10_isFit_42 ?_
          refine g_icmp_ne (pc := 43) C (tgt := 50) dX10_isFit_43 rfl h (fun h => ?_) (fun h => ?_)
          · refine g_iconst (pc := 50) C dX10_isFit_50 ci_0 ?_
            refine g_istore_n (pc := 51) C [(2, .int 0), (0, .ref (a0 0)), (1, .int n1), (3, .int x3)] dX10_isFit_51 rfl (by decide) rfl ?_
            refine g_iinc (pc := 52) C (j := 3) [(3, .int (x3 + 1)), (2, .int 0), (0, .ref (a0 0)), (1, .int n1)] dX10_isFit_52 rfl (ii_1 _) (by decide) rfl ?_
            refine g_goto (pc := 55) C (tgt := 4) dX10_isFit_55 rfl ?_
            refine g_lv [2, 3, 1, 0] rfl ?_
            exact ih 0 (x3 + 1) h
          · refine g_iconst (pc := 46) C dX10_isFit_46 ci_1 ?_
            refine g_goto (pc := 47) C (tgt := 51) dX10_isFit_47 rfl ?_
            refine g_istore_n (pc := 51) C [(2, .int 1), (0, .ref (a0 0)), (1, .int n1), (3, .int x3)] dX10_isFit_51 rfl (by decide) rfl ?_
            refine g_iinc (pc := 52) C (j := 3) [(3, .int (x3 + 1)), (2, .int 1), (0, .ref (a0 0)), (1, .int n1)] dX10_isFit_52 rfl (ii_1 _) (by decide) rfl ?_
            refine g_goto (pc := 55) C (tgt := 4) dX10_isFit_55 rfl ?_
            refine g_lv [2, 3, 1, 0] rfl ?_
            exact ih 1 (x3 + 1) h
set_option maxRecDepth 100000 in
set_option maxHeartbeats 4000000 in
theorem t_X10_isFit {J : Jt} {a0 : Nat → Nat} {m_thrown : Int32} {m_refused : Nat → Int32} {m_taped : Int32} {m_size : Int32} {m_at : Int32} {m_bad : Int32} {m_badKind : Int32} {m_opens : Int32} {m_faultAt : Int32} {m_tape : Nat → Int32} {m_newBed : Nat → Int32} {m_newLetter : Nat → Int32} {m_newReader : Nat → Int32} {m_bed : Nat → Int32} {m_letter : Nat → Int32} {m_reader : Nat → Int32} {m_newBeds : Int32} {m_newLetters : Int32} {m_newReaders : Int32} {m_beds : Int32} {m_letters : Int32} {m_readers : Int32} {m_newCode : Nat → Int32} {m_newOf : Nat → Int32} {m_code : Nat → Int32} {m_ofCode : Nat → Int32} {m_stack : Nat → Int32} {m_newCodes : Int32} {m_codes : Int32} {m_facts : Nat → Int32} {m_newStep : Nat → Int32} {m_step : Nat → Int32} {m_newSteps : Int32} {m_works : Int32} {m_refusedSteps : Int32} {m_begun : Int32} {m_done : Int32} {m_refusedNow : Int32} {m_now : Nat → Int32} {m_s : Nat → Int32} {m_past : Nat → Int32} {m_newBook : Nat → Int32} {m_book : Nat → Int32} {m_written : Int32} {m_mostBy : Nat → Int32} {m_stuffing : Nat → Int32} {m_stuffedMany : Int32} {m_lastBy : Nat → Int32} {m_leftBy : Nat → Int32} {m_splitBy : Nat → Int64} {m_seedNow : Int32} {m_image : Nat → Int32} {m_images : Int32} {n1 : Int32} {r : Int32} (h : f_X10_isFit m_beds m_book m_lastBy n1 = some r) : Mt J yX10_isFit cX10_isFit 4 (some .boolean) rm_X10_isFit [.ref (a0 0), .int n1] (cs_X10 J.2.2.1 a0 m_thrown m_refused m_taped m_size m_at m_bad m_badKind m_opens m_faultAt m_tape m_newBed m_newLetter m_newReader m_bed m_letter m_reader m_newBeds m_newLetters m_newReaders m_beds m_letters m_readers m_newCode m_newOf m_code m_ofCode m_stack m_newCodes m_codes m_facts m_newStep m_step m_newSteps m_works m_refusedSteps m_begun m_done m_refusedNow m_now m_s m_past m_newBook m_book m_written m_mostBy m_stuffing m_stuffedMany m_lastBy m_leftBy m_splitBy m_seedNow m_image m_images) (some (.int r)) (cs_X10 J.2.2.1 a0 m_thrown m_refused m_taped m_size m_at m_bad m_badKind m_opens m_faultAt m_tape m_newBed m_newLetter m_newReader m_bed m_letter m_reader m_newBeds m_newLetters m_newReaders m_beds m_letters m_readers m_newCode m_newOf m_code m_ofCode m_stack m_newCodes m_codes m_facts m_newStep m_step m_newSteps m_works m_refusedSteps m_begun m_done m_refusedNow m_now m_s m_past m_newBook m_book m_written m_mostBy m_stuffing m_stuffedMany m_lastBy m_leftBy m_splitBy m_seedNow m_image m_images) := by
  refine Mt_of (own := RX10) (by decide) rfl (Nat.le_of_ble_eq_true rfl) rfl (fun Z C E => ?_)
  unfold f_X10_isFit at h
  show G J Z 0 0 (cs_X10 J.2.2.1 a0 m_thrown m_refused m_taped m_size m_at m_bad m_badKind m_opens m_faultAt m_tape m_newBed m_newLetter m_newReader m_bed m_letter m_reader m_newBeds m_newLetters m_newReaders m_beds m_letters m_readers m_newCode m_newOf m_code m_ofCode m_stack m_newCodes m_codes m_facts m_newStep m_step m_newSteps m_works m_refusedSteps m_begun m_done m_refusedNow m_now m_s m_past m_newBook m_book m_written m_mostBy m_stuffing m_stuffedMany m_lastBy m_leftBy m_splitBy m_seedNow m_image m_images) 4 [(0, .ref (a0 0)), (1, .int n1)] 0 []
  refine g_iconst (pc := 0) C dX10_isFit_0 ci_1 ?_
  refine g_istore_n (pc := 1) C [(2, .int 1), (0, .ref (a0 0)), (1, .int n1)] dX10_isFit_1 rfl (by decide) rfl ?_
  refine g_iconst (pc := 2) C dX10_isFit_2 ci_0 ?_
  refine g_istore_n (pc := 3) C [(3, .int 0), (2, .int 1), (0, .ref (a0 0)), (1, .int n1)] dX10_isFit_3 rfl (by decide) rfl ?_
  refine g_lv [2, 3, 1, 0] rfl ?_
  exact j_X10_isFit_4 C E    FU 1 0 h
noncomputable def f_X10_fits_33  (m_letter : Nat → Int32) (m_beds : Int32) (m_letters : Int32) (m_now : Nat → Int32) (m_book : Nat → Int32) (n1 : Int32) : Nat → Int32 → Int32 → Int32 → Int32 → (Nat → Int32) → (Nat → Int32) → (Nat → Int32) → Option (Int32 × Int32 × (Nat → Int32) × (Nat → Int32) × (Nat → Int32))
  | 0, _, _, _, _, _, _, _ => none
  | n + 1, x2, x3, x4, m_thrown, m_refused, m_s, m_lastBy => if (9 * m_letters) ≤ x4 then if n1 = 0 then some (x2, m_thrown, m_refused, m_s, m_lastBy) else some (x3, m_thrown, m_refused, m_s, m_lastBy) else b1 (f_X10_isFit m_beds m_book m_lastBy x4) (fun v1 => if v1 = 0 then f_X10_fits_33 m_letter m_beds m_letters m_now m_book n1 n x2 x3 (x4 + 1) m_thrown m_refused m_s m_lastBy else if x3 = (-1) then f_X10_fits_33 m_letter m_beds m_letters m_now m_book n1 n (x2 + 1) (((10 * (x4 / 9)) + (x4 - x4 / 9 * 9)) + 1) (x4 + 1) m_thrown m_refused m_s m_lastBy else f_X10_fits_33 m_letter m_beds m_letters m_now m_book n1 n (x2 + 1) x3 (x4 + 1) m_thrown m_refused m_s m_lastBy)
noncomputable def f_X10_fits (m_thrown : Int32) (m_refused : Nat → Int32) (m_letter : Nat → Int32) (m_beds : Int32) (m_letters : Int32) (m_now : Nat → Int32) (m_s : Nat → Int32) (m_book : Nat → Int32) (m_lastBy : Nat → Int32) (n1 : Int32) : Option (Int32 × Int32 × (Nat → Int32) × (Nat → Int32) × (Nat → Int32)) := b1 (f_X10_within n1 0 1) (fun v2 => b3 (f_X10_may 0 m_refused v2 1 1) (fun v3 c4 c5 => if v3 = 0 then some (0, c4, c5, m_s, m_lastBy) else b2 (f_X10_laysLasts m_letter m_beds m_letters m_now m_s m_lastBy) (fun c6 c7 => f_X10_fits_33 m_letter m_beds m_letters m_now m_book n1 FU 0 (-1) 0 c4 c5 c6 c7)))
def rm_X10_fits : Room := { frames := 3, cells := 0, slots := 0, locals := 69 }
set_option maxRecDepth 100000 in
set_option maxHeartbeats 4000000 in
theorem j_X10_fits_33 {J : Jt} {Z : Zt} {a0 : Nat → Nat} {m_taped : Int32} {m_size : Int32} {m_at : Int32} {m_bad : Int32} {m_badKind : Int32} {m_opens : Int32} {m_faultAt : Int32} {m_tape : Nat → Int32} {m_newBed : Nat → Int32} {m_newLetter : Nat → Int32} {m_newReader : Nat → Int32} {m_bed : Nat → Int32} {m_letter : Nat → Int32} {m_reader : Nat → Int32} {m_newBeds : Int32} {m_newLetters : Int32} {m_newReaders : Int32} {m_beds : Int32} {m_letters : Int32} {m_readers : Int32} {m_newCode : Nat → Int32} {m_newOf : Nat → Int32} {m_code : Nat → Int32} {m_ofCode : Nat → Int32} {m_stack : Nat → Int32} {m_newCodes : Int32} {m_codes : Int32} {m_facts : Nat → Int32} {m_newStep : Nat → Int32} {m_step : Nat → Int32} {m_newSteps : Int32} {m_works : Int32} {m_refusedSteps : Int32} {m_begun : Int32} {m_done : Int32} {m_refusedNow : Int32} {m_now : Nat → Int32} {m_past : Nat → Int32} {m_newBook : Nat → Int32} {m_book : Nat → Int32} {m_written : Int32} {m_mostBy : Nat → Int32} {m_stuffing : Nat → Int32} {m_stuffedMany : Int32} {m_leftBy : Nat → Int32} {m_splitBy : Nat → Int64} {m_seedNow : Int32} {m_image : Nat → Int32} {m_images : Int32} {n1 : Int32} {r : Int32} {o_m_thrown : Int32} {o_m_refused : Nat → Int32} {o_m_s : Nat → Int32} {o_m_lastBy : Nat → Int32} (C : Cx J Z cX10_fits 5 RX10 (some .int) rm_X10_fits) (E : Ez J Z 0 0 (some (.int r)) (cs_X10 J.2.2.1 a0 o_m_thrown o_m_refused m_taped m_size m_at m_bad m_badKind m_opens m_faultAt m_tape m_newBed m_newLetter m_newReader m_bed m_letter m_reader m_newBeds m_newLetters m_newReaders m_beds m_letters m_readers m_newCode m_newOf m_code m_ofCode m_stack m_newCodes m_codes m_facts m_newStep m_step m_newSteps m_works m_refusedSteps m_begun m_done m_refusedNow m_now o_m_s m_past m_newBook m_book m_written m_mostBy m_stuffing m_stuffedMany o_m_lastBy m_leftBy m_splitBy m_seedNow m_image m_images)) : ∀ (n : Nat) (x2 : Int32) (x3 : Int32) (x4 : Int32) (m_thrown : Int32) (m_refused : Nat → Int32) (m_s : Nat → Int32) (m_lastBy : Nat → Int32), f_X10_fits_33 m_letter m_beds m_letters m_now m_book n1 n x2 x3 x4 m_thrown m_refused m_s m_lastBy = some (r, o_m_thrown, o_m_refused, o_m_s, o_m_lastBy) → G J Z 0 0 (cs_X10 J.2.2.1 a0 m_thrown m_refused m_taped m_size m_at m_bad m_badKind m_opens m_faultAt m_tape m_newBed m_newLetter m_newReader m_bed m_letter m_reader m_newBeds m_newLetters m_newReaders m_beds m_letters m_readers m_newCode m_newOf m_code m_ofCode m_stack m_newCodes m_codes m_facts m_newStep m_step m_newSteps m_works m_refusedSteps m_begun m_done m_refusedNow m_now m_s m_past m_newBook m_book m_written m_mostBy m_stuffing m_stuffedMany m_lastBy m_leftBy m_splitBy m_seedNow m_image m_images) 5 [(0, .ref (a0 0)), (1, .int n1), (2, .int x2), (3, .int x3), (4, .int x4)] 33 [] := by
  intro n
  induction n with
  | zero =>
    intro x2 x3 x4 m_thrown m_refused m_s m_lastBy h
    rw [f_X10_fits_33] at h
    cases h
  | succ n ih =>
    intro x2 x3 x4 m_thrown m_refused m_s m_lastBy h
    rw [f_X10_fits_33] at h
    refine g_iload (pc := 33) C 4 rfl dX10_fits_33 ?_
    refine g_bipush (pc := 35) C dX10_fits_35 cb_9 ?_
    refine g_aload_n (pc := 37) C 0 rfl dX10_fits_37 ?_
    refine g_get (pc := 38) C FOK_X10 0 rfl rfl 20 (by decide) kw_1297 rfl dX10_fits_38 ?_
    refine g_imul (pc := 41) C dX10_fits_41 ?_
    refine g_icmp_ge (pc := 42) C (tgt := 92) dX10_fits_42 rfl h (fun h => ?_) (fun h => ?_)
    · refine g_iload_n (pc := 92) C 1 rfl dX10_fits_92 ?_
      refine g_if_ne (pc := 93) C (tgt := 100) dX10_fits_93 rfl h (fun h => ?_) (fun h => ?_)
      · refine g_iload_n (pc := 100) C 3 rfl dX10_fits_100 ?_
        cases h
        exact g_iret C E dX10_fits_101
      · refine g_iload_n (pc := 96) C 2 rfl dX10_fits_96 ?_
        refine g_goto (pc := 97) C (tgt := 101) dX10_fits_97 rfl ?_
        cases h
        exact g_iret C E dX10_fits_101
    · refine g_aload_n (pc := 45) C 0 rfl dX10_fits_45 ?_
      refine g_iload (pc := 46) C 4 rfl dX10_fits_46 ?_
      obtain ⟨v1, hc, h⟩ := b1_of h
      refine g_callV (pc := 48) C (w' := cs_X10 J.2.2.1 a0 m_thrown m_refused m_taped m_size m_at m_bad m_badKind m_opens m_faultAt m_tape m_newBed m_newLetter m_newReader m_bed m_letter m_reader m_newBeds m_newLetters m_newReaders m_beds m_letters m_readers m_newCode m_newOf m_code m_ofCode m_stack m_newCodes m_codes m_facts m_newStep m_step m_newSteps m_works m_refusedSteps m_begun m_done m_refusedNow m_now m_s m_past m_newBook m_book m_written m_mostBy m_stuffing m_stuffedMany m_lastBy m_leftBy m_splitBy m_seedNow m_image m_images) (As := [.int x4]) (st := []) (ci := 10) (q0 := 0) rfl rfl (t_X10_isFit (a0 := a0) hc) Sub.same kw_1800 kw_1802 kw_76 kw_95 hy_X10_isFit kw_1803 rfl (Nat.le_of_ble_eq_true rfl) (Nat.le_of_ble_eq_true rfl) (Nat.le_of_ble_eq_true rfl) (Nat.le_of_ble_eq_true rfl) (Nat.le_of_ble_eq_true rfl) dX10_fits_48 ?_
      refine g_if_ne (pc := 51) C (tgt := 57) dX10_fits_51 rfl h (fun h => ?_) (fun h => ?_)
      · refine g_iinc (pc := 57) C (j := 2) [(2, .int (x2 + 1)), (0, .ref (a0 0)), (1, .int n1), (3, .int x3), (4, .int x4)] dX10_fits_57 rfl (ii_1 _) (by decide) rfl ?_
        refine g_iload_n (pc := 60) C 3 rfl dX10_fits_60 ?_
        refine g_iconst (pc := 61) C dX10_fits_61 ci_m1 ?_
        refine g_icmp_ne (pc := 62) C (tgt := 84) dX10_fits_62 rfl h (fun h => ?_) (fun h => ?_)
        · refine g_iload_n (pc := 84) C 3 rfl dX10_fits_84 ?_
          refine g_istore_n (pc := 85) C [(3, .int x3), (2, .int (x2 + 1)), (0, .ref (a0 0)), (1, .int n1), (4, .int x4)] dX10_fits_85 rfl (by decide) rfl ?_
          refine g_iinc (pc := 86) C (j := 4) [(4, .int (x4 + 1)), (3, .int x3), (2, .int (x2 + 1)), (0, .ref (a0 0)), (1, .int n1)] dX10_fits_86 rfl (ii_1 _) (by decide) rfl ?_
          refine g_goto (pc := 89) C (tgt := 33) dX10_fits_89 rfl ?_
          refine g_lv [3, 4, 2, 1, 0] rfl ?_
          exact ih (x2 + 1) x3 (x4 + 1) m_thrown m_refused m_s m_lastBy h
        · refine g_bipush (pc := 65) C dX10_fits_65 cb_10 ?_
          refine g_iload (pc := 67) C 4 rfl dX10_fits_67 ?_
          refine g_bipush (pc := 69) C dX10_fits_69 cb_9 ?_
          refine g_idiv (pc := 71) C dX10_fits_71 (by decide) ?_
          refine g_imul (pc := 72) C dX10_fits_72 ?_
          refine g_iload (pc := 73) C 4 rfl dX10_fits_73 ?_
          refine g_bipush (pc := 75) C dX10_fits_75 cb_9 ?_
          refine g_irem (pc := 77) C dX10_fits_77 (by decide) ?_
          refine g_iadd (pc := 78) C dX10_fits_78 ?_
          refine g_iconst (pc := 79) C dX10_fits_79 ci_1 ?_
          refine g_iadd (pc := 80) C dX10_fits_80 ?_
          refine g_goto (pc := 81) C (tgt := 85) dX10_fits_81 rfl ?_
          refine g_istore_n (pc := 85) C [(3, .int (((10 * (x4 / 9)) + (x4 - x4 / 9 * 9)) + 1)), (2, .int (x2 + 1)), (0, .ref (a0 0)), (1, .int n1), (4, .int x4)] dX10_fits_85 rfl (by decide) rfl ?_
          refine g_iinc (pc := 86) C (j := 4) [(4, .int (x4 + 1)), (3, .int (((10 * (x4 / 9)) + (x4 - x4 / 9 * 9)) + 1)), (2, .int (x2 + 1)), (0, .ref (a0 0)), (1, .int n1)] dX10_fits_86 rfl (ii_1 _) (by decide) rfl ?_
          refine g_goto (pc := 89) C (tgt := 33) dX10_fits_89 rfl ?_
          refine g_lv [3, 4, 2, 1, 0] rfl ?_
          exact ih (x2 + 1) (((10 * (x4 / 9)) + (x4 - x4 / 9 * 9)) + 1) (x4 + 1) m_thrown m_refused m_s m_lastBy h
      · refine g_goto (pc := 54) C (tgt := 86) dX10_fits_54 rfl ?_
        refine g_iinc (pc := 86) C (j := 4) [(4, .int (x4 + 1)), (0, .ref (a0 0)), (1, .int n1), (2, .int x2), (3, .int x3)] dX10_fits_86 rfl (ii_1 _) (by decide) rfl ?_
        refine g_goto (pc := 89) C (tgt := 33) dX10_fits_89 rfl ?_
        refine g_lv [1, 2, 3, 4, 0] rfl ?_
        exact ih x2 x3 (x4 + 1) m_thrown m_refused m_s m_lastBy h
set_option maxRecDepth 100000 in
set_option maxHeartbeats 4000000 in
theorem t_X10_fits {J : Jt} {a0 : Nat → Nat} {m_thrown : Int32} {m_refused : Nat → Int32} {m_taped : Int32} {m_size : Int32} {m_at : Int32} {m_bad : Int32} {m_badKind : Int32} {m_opens : Int32} {m_faultAt : Int32} {m_tape : Nat → Int32} {m_newBed : Nat → Int32} {m_newLetter : Nat → Int32} {m_newReader : Nat → Int32} {m_bed : Nat → Int32} {m_letter : Nat → Int32} {m_reader : Nat → Int32} {m_newBeds : Int32} {m_newLetters : Int32} {m_newReaders : Int32} {m_beds : Int32} {m_letters : Int32} {m_readers : Int32} {m_newCode : Nat → Int32} {m_newOf : Nat → Int32} {m_code : Nat → Int32} {m_ofCode : Nat → Int32} {m_stack : Nat → Int32} {m_newCodes : Int32} {m_codes : Int32} {m_facts : Nat → Int32} {m_newStep : Nat → Int32} {m_step : Nat → Int32} {m_newSteps : Int32} {m_works : Int32} {m_refusedSteps : Int32} {m_begun : Int32} {m_done : Int32} {m_refusedNow : Int32} {m_now : Nat → Int32} {m_s : Nat → Int32} {m_past : Nat → Int32} {m_newBook : Nat → Int32} {m_book : Nat → Int32} {m_written : Int32} {m_mostBy : Nat → Int32} {m_stuffing : Nat → Int32} {m_stuffedMany : Int32} {m_lastBy : Nat → Int32} {m_leftBy : Nat → Int32} {m_splitBy : Nat → Int64} {m_seedNow : Int32} {m_image : Nat → Int32} {m_images : Int32} {n1 : Int32} {r : Int32} {o_m_thrown : Int32} {o_m_refused : Nat → Int32} {o_m_s : Nat → Int32} {o_m_lastBy : Nat → Int32} (h : f_X10_fits m_thrown m_refused m_letter m_beds m_letters m_now m_s m_book m_lastBy n1 = some (r, o_m_thrown, o_m_refused, o_m_s, o_m_lastBy)) : Mt J yX10_fits cX10_fits 5 (some .int) rm_X10_fits [.ref (a0 0), .int n1] (cs_X10 J.2.2.1 a0 m_thrown m_refused m_taped m_size m_at m_bad m_badKind m_opens m_faultAt m_tape m_newBed m_newLetter m_newReader m_bed m_letter m_reader m_newBeds m_newLetters m_newReaders m_beds m_letters m_readers m_newCode m_newOf m_code m_ofCode m_stack m_newCodes m_codes m_facts m_newStep m_step m_newSteps m_works m_refusedSteps m_begun m_done m_refusedNow m_now m_s m_past m_newBook m_book m_written m_mostBy m_stuffing m_stuffedMany m_lastBy m_leftBy m_splitBy m_seedNow m_image m_images) (some (.int r)) (cs_X10 J.2.2.1 a0 o_m_thrown o_m_refused m_taped m_size m_at m_bad m_badKind m_opens m_faultAt m_tape m_newBed m_newLetter m_newReader m_bed m_letter m_reader m_newBeds m_newLetters m_newReaders m_beds m_letters m_readers m_newCode m_newOf m_code m_ofCode m_stack m_newCodes m_codes m_facts m_newStep m_step m_newSteps m_works m_refusedSteps m_begun m_done m_refusedNow m_now o_m_s m_past m_newBook m_book m_written m_mostBy m_stuffing m_stuffedMany o_m_lastBy m_leftBy m_splitBy m_seedNow m_image m_images) := by
  refine Mt_of (own := RX10) (by decide) rfl (Nat.le_of_ble_eq_true rfl) rfl (fun Z C E => ?_)
  unfold f_X10_fits at h
  show G J Z 0 0 (cs_X10 J.2.2.1 a0 m_thrown m_refused m_taped m_size m_at m_bad m_badKind m_opens m_faultAt m_tape m_newBed m_newLetter m_newReader m_bed m_letter m_reader m_newBeds m_newLetters m_newReaders m_beds m_letters m_readers m_newCode m_newOf m_code m_ofCode m_stack m_newCodes m_codes m_facts m_newStep m_step m_newSteps m_works m_refusedSteps m_begun m_done m_refusedNow m_now m_s m_past m_newBook m_book m_written m_mostBy m_stuffing m_stuffedMany m_lastBy m_leftBy m_splitBy m_seedNow m_image m_images) 5 [(0, .ref (a0 0)), (1, .int n1)] 0 []
  refine g_aload_n (pc := 0) C 0 rfl dX10_fits_0 ?_
  refine g_iconst (pc := 1) C dX10_fits_1 ci_0 ?_
  refine g_put (pc := 2) C (w' := cs_X10 J.2.2.1 a0 0 m_refused m_taped m_size m_at m_bad m_badKind m_opens m_faultAt m_tape m_newBed m_newLetter m_newReader m_bed m_letter m_reader m_newBeds m_newLetters m_newReaders m_beds m_letters m_readers m_newCode m_newOf m_code m_ofCode m_stack m_newCodes m_codes m_facts m_newStep m_step m_newSteps m_works m_refusedSteps m_begun m_done m_refusedNow m_now m_s m_past m_newBook m_book m_written m_mostBy m_stuffing m_stuffedMany m_lastBy m_leftBy m_splitBy m_seedNow m_image m_images) FOK_X10 0 rfl rfl 0 (by decide) kw_1277 rfl rfl rfl (Nat.le_of_ble_eq_true rfl) dX10_fits_2 rfl ?_
  refine g_aload_n (pc := 5) C 0 rfl dX10_fits_5 ?_
  refine g_iload_n (pc := 6) C 1 rfl dX10_fits_6 ?_
  refine g_iconst (pc := 7) C dX10_fits_7 ci_0 ?_
  refine g_iconst (pc := 8) C dX10_fits_8 ci_1 ?_
  obtain ⟨v2, hc, h⟩ := b1_of h
  refine g_callS (pc := 9) C (w' := cs_X10 J.2.2.1 a0 0 m_refused m_taped m_size m_at m_bad m_badKind m_opens m_faultAt m_tape m_newBed m_newLetter m_newReader m_bed m_letter m_reader m_newBeds m_newLetters m_newReaders m_beds m_letters m_readers m_newCode m_newOf m_code m_ofCode m_stack m_newCodes m_codes m_facts m_newStep m_step m_newSteps m_works m_refusedSteps m_begun m_done m_refusedNow m_now m_s m_past m_newBook m_book m_written m_mostBy m_stuffing m_stuffedMany m_lastBy m_leftBy m_splitBy m_seedNow m_image m_images) (As := [.int n1, .int 0, .int 1]) (st := [.ref (a0 0)]) (t_X10_within hc) Sub.nil kw_1689 kw_1690 kw_95 hy_X10_within kw_1691 rfl (Nat.le_of_ble_eq_true rfl) (Nat.le_of_ble_eq_true rfl) (Nat.le_of_ble_eq_true rfl) (Nat.le_of_ble_eq_true rfl) (Nat.le_of_ble_eq_true rfl) dX10_fits_9 ?_
  refine g_iconst (pc := 12) C dX10_fits_12 ci_1 ?_
  refine g_iconst (pc := 13) C dX10_fits_13 ci_1 ?_
  obtain ⟨v3, c4, c5, hc, h⟩ := b3_of h
  refine g_callV (pc := 14) C (w' := cs_X10 J.2.2.1 a0 c4 c5 m_taped m_size m_at m_bad m_badKind m_opens m_faultAt m_tape m_newBed m_newLetter m_newReader m_bed m_letter m_reader m_newBeds m_newLetters m_newReaders m_beds m_letters m_readers m_newCode m_newOf m_code m_ofCode m_stack m_newCodes m_codes m_facts m_newStep m_step m_newSteps m_works m_refusedSteps m_begun m_done m_refusedNow m_now m_s m_past m_newBook m_book m_written m_mostBy m_stuffing m_stuffedMany m_lastBy m_leftBy m_splitBy m_seedNow m_image m_images) (As := [.int v2, .int 1, .int 1]) (st := []) (ci := 10) (q0 := 0) rfl rfl (t_X10_may (a0 := a0) hc) Sub.same kw_1450 kw_1452 kw_20 kw_95 hy_X10_may kw_1453 rfl (Nat.le_of_ble_eq_true rfl) (Nat.le_of_ble_eq_true rfl) (Nat.le_of_ble_eq_true rfl) (Nat.le_of_ble_eq_true rfl) (Nat.le_of_ble_eq_true rfl) dX10_fits_14 ?_
  refine g_if_ne (pc := 17) C (tgt := 22) dX10_fits_17 rfl h (fun h => ?_) (fun h => ?_)
  · refine g_aload_n (pc := 22) C 0 rfl dX10_fits_22 ?_
    obtain ⟨c6, c7, hc, h⟩ := b2_of h
    refine g_callV (pc := 23) C (w' := cs_X10 J.2.2.1 a0 c4 c5 m_taped m_size m_at m_bad m_badKind m_opens m_faultAt m_tape m_newBed m_newLetter m_newReader m_bed m_letter m_reader m_newBeds m_newLetters m_newReaders m_beds m_letters m_readers m_newCode m_newOf m_code m_ofCode m_stack m_newCodes m_codes m_facts m_newStep m_step m_newSteps m_works m_refusedSteps m_begun m_done m_refusedNow m_now c6 m_past m_newBook m_book m_written m_mostBy m_stuffing m_stuffedMany c7 m_leftBy m_splitBy m_seedNow m_image m_images) (As := []) (st := []) (ci := 10) (q0 := 0) rfl rfl (t_X10_laysLasts (a0 := a0) hc) Sub.same kw_1796 kw_1798 kw_75 kw_95 hy_X10_laysLasts kw_1799 rfl (Nat.le_of_ble_eq_true rfl) (Nat.le_of_ble_eq_true rfl) (Nat.le_of_ble_eq_true rfl) (Nat.le_of_ble_eq_true rfl) (Nat.le_of_ble_eq_true rfl) dX10_fits_23 ?_
    refine g_iconst (pc := 26) C dX10_fits_26 ci_0 ?_
    refine g_istore_n (pc := 27) C [(2, .int 0), (0, .ref (a0 0)), (1, .int n1)] dX10_fits_27 rfl (by decide) rfl ?_
    refine g_iconst (pc := 28) C dX10_fits_28 ci_m1 ?_
    refine g_istore_n (pc := 29) C [(3, .int (-1)), (2, .int 0), (0, .ref (a0 0)), (1, .int n1)] dX10_fits_29 rfl (by decide) rfl ?_
    refine g_iconst (pc := 30) C dX10_fits_30 ci_0 ?_
    refine g_istore (pc := 31) C [(4, .int 0), (3, .int (-1)), (2, .int 0), (0, .ref (a0 0)), (1, .int n1)] dX10_fits_31 (by decide) rfl ?_
    refine g_lv [3, 4, 2, 1, 0] rfl ?_
    exact j_X10_fits_33 C E    FU 0 (-1) 0 c4 c5 c6 c7 h
  · refine g_iconst (pc := 20) C dX10_fits_20 ci_0 ?_
    cases h
    exact g_iret C E dX10_fits_21
noncomputable def f_X10_worstOf_25  (m_beds : Int32) (m_letters : Int32) (m_book : Nat → Int32) (m_lastBy : Nat → Int32) (n1 : Int32) : Nat → Int32 → Int32 → (Nat → Int32) → Option (Int32 × (Nat → Int32))
  | 0, _, _, _ => none
  | n + 1, x2, x3, m_leftBy => if (9 * m_letters) ≤ x3 then some (x2, m_leftBy) else b1 (f_X10_isFit m_beds m_book m_lastBy x3) (fun v1 => if v1 = 0 then f_X10_worstOf_25 m_beds m_letters m_book m_lastBy n1 n x2 (x3 + 1) m_leftBy else if ixb ((6 * x3) + n1) 324 then if ixb (m_lastBy ((6 * x3) + n1).toNatClampNeg) 17 then if ixb (m_lastBy ((6 * x3) + n1).toNatClampNeg) 17 then if ixb (m_lastBy ((6 * x3) + n1).toNatClampNeg) 17 then if ((upd m_leftBy (m_lastBy ((6 * x3) + n1).toNatClampNeg).toNatClampNeg ((m_leftBy (m_lastBy ((6 * x3) + n1).toNatClampNeg).toNatClampNeg) + 1)) (m_lastBy ((6 * x3) + n1).toNatClampNeg).toNatClampNeg) ≤ x2 then f_X10_worstOf_25 m_beds m_letters m_book m_lastBy n1 n x2 (x3 + 1) (upd m_leftBy (m_lastBy ((6 * x3) + n1).toNatClampNeg).toNatClampNeg ((m_leftBy (m_lastBy ((6 * x3) + n1).toNatClampNeg).toNatClampNeg) + 1)) else if ixb (m_lastBy ((6 * x3) + n1).toNatClampNeg) 17 then f_X10_worstOf_25 m_beds m_letters m_book m_lastBy n1 n ((upd m_leftBy (m_lastBy ((6 * x3) + n1).toNatClampNeg).toNatClampNeg ((m_leftBy (m_lastBy ((6 * x3) + n1).toNatClampNeg).toNatClampNeg) + 1)) (m_lastBy ((6 * x3) + n1).toNatClampNeg).toNatClampNeg) (x3 + 1) (upd m_leftBy (m_lastBy ((6 * x3) + n1).toNatClampNeg).toNatClampNeg ((m_leftBy (m_lastBy ((6 * x3) + n1).toNatClampNeg).toNatClampNeg) + 1)) else none else none else none else none else none)
noncomputable def f_X10_worstOf_2  (m_beds : Int32) (m_letters : Int32) (m_book : Nat → Int32) (m_lastBy : Nat → Int32) (n1 : Int32) : Nat → Int32 → (Nat → Int32) → Option (Int32 × (Nat → Int32))
  | 0, _, _ => none
  | n + 1, x2, m_leftBy => if 16 < x2 then f_X10_worstOf_25 m_beds m_letters m_book m_lastBy n1 FU 0 0 m_leftBy else if ixb x2 17 then f_X10_worstOf_2 m_beds m_letters m_book m_lastBy n1 n (x2 + 1) (upd m_leftBy x2.toNatClampNeg 0) else none
noncomputable def f_X10_worstOf (m_beds : Int32) (m_letters : Int32) (m_book : Nat → Int32) (m_lastBy : Nat → Int32) (m_leftBy : Nat → Int32) (n1 : Int32) : Option (Int32 × (Nat → Int32)) := f_X10_worstOf_2 m_beds m_letters m_book m_lastBy n1 FU 0 m_leftBy
def rm_X10_worstOf : Room := { frames := 1, cells := 0, slots := 0, locals := 23 }
set_option maxRecDepth 100000 in
set_option maxHeartbeats 4000000 in
theorem j_X10_worstOf_25 {J : Jt} {Z : Zt} {a0 : Nat → Nat} {m_thrown : Int32} {m_refused : Nat → Int32} {m_taped : Int32} {m_size : Int32} {m_at : Int32} {m_bad : Int32} {m_badKind : Int32} {m_opens : Int32} {m_faultAt : Int32} {m_tape : Nat → Int32} {m_newBed : Nat → Int32} {m_newLetter : Nat → Int32} {m_newReader : Nat → Int32} {m_bed : Nat → Int32} {m_letter : Nat → Int32} {m_reader : Nat → Int32} {m_newBeds : Int32} {m_newLetters : Int32} {m_newReaders : Int32} {m_beds : Int32} {m_letters : Int32} {m_readers : Int32} {m_newCode : Nat → Int32} {m_newOf : Nat → Int32} {m_code : Nat → Int32} {m_ofCode : Nat → Int32} {m_stack : Nat → Int32} {m_newCodes : Int32} {m_codes : Int32} {m_facts : Nat → Int32} {m_newStep : Nat → Int32} {m_step : Nat → Int32} {m_newSteps : Int32} {m_works : Int32} {m_refusedSteps : Int32} {m_begun : Int32} {m_done : Int32} {m_refusedNow : Int32} {m_now : Nat → Int32} {m_s : Nat → Int32} {m_past : Nat → Int32} {m_newBook : Nat → Int32} {m_book : Nat → Int32} {m_written : Int32} {m_mostBy : Nat → Int32} {m_stuffing : Nat → Int32} {m_stuffedMany : Int32} {m_lastBy : Nat → Int32} {m_splitBy : Nat → Int64} {m_seedNow : Int32} {m_image : Nat → Int32} {m_images : Int32} {n1 : Int32} {r : Int32} {o_m_leftBy : Nat → Int32} (C : Cx J Z cX10_worstOf 5 RX10 (some .int) rm_X10_worstOf) (E : Ez J Z 0 0 (some (.int r)) (cs_X10 J.2.2.1 a0 m_thrown m_refused m_taped m_size m_at m_bad m_badKind m_opens m_faultAt m_tape m_newBed m_newLetter m_newReader m_bed m_letter m_reader m_newBeds m_newLetters m_newReaders m_beds m_letters m_readers m_newCode m_newOf m_code m_ofCode m_stack m_newCodes m_codes m_facts m_newStep m_step m_newSteps m_works m_refusedSteps m_begun m_done m_refusedNow m_now m_s m_past m_newBook m_book m_written m_mostBy m_stuffing m_stuffedMany m_lastBy o_m_leftBy m_splitBy m_seedNow m_image m_images)) : ∀ (n : Nat) (x2 : Int32) (x3 : Int32) (m_leftBy : Nat → Int32), f_X10_worstOf_25 m_beds m_letters m_book m_lastBy n1 n x2 x3 m_leftBy = some (r, o_m_leftBy) → G J Z 0 0 (cs_X10 J.2.2.1 a0 m_thrown m_refused m_taped m_size m_at m_bad m_badKind m_opens m_faultAt m_tape m_newBed m_newLetter m_newReader m_bed m_letter m_reader m_newBeds m_newLetters m_newReaders m_beds m_letters m_readers m_newCode m_newOf m_code m_ofCode m_stack m_newCodes m_codes m_facts m_newStep m_step m_newSteps m_works m_refusedSteps m_begun m_done m_refusedNow m_now m_s m_past m_newBook m_book m_written m_mostBy m_stuffing m_stuffedMany m_lastBy m_leftBy m_splitBy m_seedNow m_image m_images) 5 [(0, .ref (a0 0)), (1, .int n1), (2, .int x2), (3, .int x3)] 25 [] := by
  intro n
  induction n with
  | zero =>
    intro x2 x3 m_leftBy h
    rw [f_X10_worstOf_25] at h
    cases h
  | succ n ih =>
    intro x2 x3 m_leftBy h
    rw [f_X10_worstOf_25] at h
    refine g_iload_n (pc := 25) C 3 rfl dX10_worstOf_25 ?_
    refine g_bipush (pc := 26) C dX10_worstOf_26 cb_9 ?_
    refine g_aload_n (pc := 28) C 0 rfl dX10_worstOf_28 ?_
    refine g_get (pc := 29) C FOK_X10 0 rfl rfl 20 (by decide) kw_1297 rfl dX10_worstOf_29 ?_
    refine g_imul (pc := 32) C dX10_worstOf_32 ?_
    refine g_icmp_ge (pc := 33) C (tgt := 100) dX10_worstOf_33 rfl h (fun h => ?_) (fun h => ?_)
    · refine g_iload_n (pc := 100) C 2 rfl dX10_worstOf_100 ?_
      cases h
      exact g_iret C E dX10_worstOf_101
    · refine g_aload_n (pc := 36) C 0 rfl dX10_worstOf_36 ?_
      refine g_iload_n (pc := 37) C 3 rfl dX10_worstOf_37 ?_
      obtain ⟨v1, hc, h⟩ := b1_of h
      refine g_callV (pc := 38) C (w' := cs_X10 J.2.2.1 a0 m_thrown m_refused m_taped m_size m_at m_bad m_badKind m_opens m_faultAt m_tape m_newBed m_newLetter m_newReader m_bed m_letter m_reader m_newBeds m_newLetters m_newReaders m_beds m_letters m_readers m_newCode m_newOf m_code m_ofCode m_stack m_newCodes m_codes m_facts m_newStep m_step m_newSteps m_works m_refusedSteps m_begun m_done m_refusedNow m_now m_s m_past m_newBook m_book m_written m_mostBy m_stuffing m_stuffedMany m_lastBy m_leftBy m_splitBy m_seedNow m_image m_images) (As := [.int x3]) (st := []) (ci := 10) (q0 := 0) rfl rfl (t_X10_isFit (a0 := a0) hc) Sub.same kw_1800 kw_1802 kw_76 kw_95 hy_X10_isFit kw_1803 rfl (Nat.le_of_ble_eq_true rfl) (Nat.le_of_ble_eq_true rfl) (Nat.le_of_ble_eq_true rfl) (Nat.le_of_ble_eq_true rfl) (Nat.le_of_ble_eq_true rfl) dX10_worstOf_38 ?_
      refine g_if_ne (pc := 41) C (tgt := 47) dX10_worstOf_41 rfl h (fun h => ?_) (fun h => ?_)
      · refine g_aload_n (pc := 47) C 0 rfl dX10_worstOf_47 ?_
        refine g_get (pc := 48) C FOK_X10 0 rfl rfl 47 (by decide) kw_1324 rfl dX10_worstOf_48 ?_
        refine g_bipush (pc := 51) C dX10_worstOf_51 cb_6 ?_
        refine g_iload_n (pc := 53) C 3 rfl dX10_worstOf_53 ?_
        refine g_imul (pc := 54) C dX10_worstOf_54 ?_
        refine g_iload_n (pc := 55) C 1 rfl dX10_worstOf_55 ?_
        refine g_iadd (pc := 56) C dX10_worstOf_56 ?_
        obtain ⟨hi, h⟩ := ix_of h
        refine g_iald (pc := 57) C 24 rfl hi dX10_worstOf_57 ?_
        refine g_istore (pc := 58) C [(4, .int (m_lastBy ((6 * x3) + n1).toNatClampNeg)), (0, .ref (a0 0)), (1, .int n1), (2, .int x2), (3, .int x3)] dX10_worstOf_58 (by decide) rfl ?_
        refine g_aload_n (pc := 60) C 1 rfl dX10_worstOf_60 ?_
        refine g_get (pc := 61) C FOK_X10 0 rfl rfl 48 (by decide) kw_1325 rfl dX10_worstOf_61 ?_
        refine g_iload (pc := 64) C 0 rfl dX10_worstOf_64 ?_
        refine g_dup2 (pc := 66) C dX10_worstOf_66 rfl rfl ?_
        obtain ⟨hi, h⟩ := ix_of h
        refine g_iald (pc := 67) C 25 rfl hi dX10_worstOf_67 ?_
        refine g_iconst (pc := 68) C dX10_worstOf_68 ci_1 ?_
        refine g_iadd (pc := 69) C dX10_worstOf_69 ?_
        obtain ⟨hi, h⟩ := ix_of h
        refine g_iast (pc := 70) C (w' := cs_X10 J.2.2.1 a0 m_thrown m_refused m_taped m_size m_at m_bad m_badKind m_opens m_faultAt m_tape m_newBed m_newLetter m_newReader m_bed m_letter m_reader m_newBeds m_newLetters m_newReaders m_beds m_letters m_readers m_newCode m_newOf m_code m_ofCode m_stack m_newCodes m_codes m_facts m_newStep m_step m_newSteps m_works m_refusedSteps m_begun m_done m_refusedNow m_now m_s m_past m_newBook m_book m_written m_mostBy m_stuffing m_stuffedMany m_lastBy (upd m_leftBy (m_lastBy ((6 * x3) + n1).toNatClampNeg).toNatClampNeg ((m_leftBy (m_lastBy ((6 * x3) + n1).toNatClampNeg).toNatClampNeg) + 1)) m_splitBy m_seedNow m_image m_images) 25 rfl hi dX10_worstOf_70 rfl ?_
        refine g_aload_n (pc := 71) C 1 rfl dX10_worstOf_71 ?_
        refine g_get (pc := 72) C FOK_X10 0 rfl rfl 48 (by decide) kw_1325 rfl dX10_worstOf_72 ?_
        refine g_iload (pc := 75) C 0 rfl dX10_worstOf_75 ?_
        obtain ⟨hi, h⟩ := ix_of h
        refine g_iald (pc := 77) C 25 rfl hi dX10_worstOf_77 ?_
        refine g_iload_n (pc := 78) C 3 rfl dX10_worstOf_78 ?_
        refine g_icmp_le (pc := 79) C (tgt := 92) dX10_worstOf_79 rfl h (fun h => ?_) (fun h => ?_)
        · refine g_iload_n (pc := 92) C 3 rfl dX10_worstOf_92 ?_
          refine g_istore_n (pc := 93) C [(2, .int x2), (4, .int (m_lastBy ((6 * x3) + n1).toNatClampNeg)), (0, .ref (a0 0)), (1, .int n1), (3, .int x3)] dX10_worstOf_93 rfl (by decide) rfl ?_
          refine g_iinc (pc := 94) C (j := 4) [(3, .int (x3 + 1)), (2, .int x2), (4, .int (m_lastBy ((6 * x3) + n1).toNatClampNeg)), (0, .ref (a0 0)), (1, .int n1)] dX10_worstOf_94 rfl (ii_1 _) (by decide) rfl ?_
          refine g_goto (pc := 97) C (tgt := 25) dX10_worstOf_97 rfl ?_
          refine g_lv [3, 4, 1, 0] rfl ?_
          exact ih x2 (x3 + 1) (upd m_leftBy (m_lastBy ((6 * x3) + n1).toNatClampNeg).toNatClampNeg ((m_leftBy (m_lastBy ((6 * x3) + n1).toNatClampNeg).toNatClampNeg) + 1)) h
        · refine g_aload_n (pc := 82) C 1 rfl dX10_worstOf_82 ?_
          refine g_get (pc := 83) C FOK_X10 0 rfl rfl 48 (by decide) kw_1325 rfl dX10_worstOf_83 ?_
          refine g_iload (pc := 86) C 0 rfl dX10_worstOf_86 ?_
          obtain ⟨hi, h⟩ := ix_of h
          refine g_iald (pc := 88) C 25 rfl hi dX10_worstOf_88 ?_
          refine g_goto (pc := 89) C (tgt := 93) dX10_worstOf_89 rfl ?_
          refine g_istore_n (pc := 93) C [(2, .int ((upd m_leftBy (m_lastBy ((6 * x3) + n1).toNatClampNeg).toNatClampNeg ((m_leftBy (m_lastBy ((6 * x3) + n1).toNatClampNeg).toNatClampNeg) + 1)) (m_lastBy ((6 * x3) + n1).toNatClampNeg).toNatClampNeg)), (4, .int (m_lastBy ((6 * x3) + n1).toNatClampNeg)), (0, .ref (a0 0)), (1, .int n1), (3, .int x3)] dX10_worstOf_93 rfl (by decide) rfl ?_
          refine g_iinc (pc := 94) C (j := 4) [(3, .int (x3 + 1)), (2, .int ((upd m_leftBy (m_lastBy ((6 * x3) + n1).toNatClampNeg).toNatClampNeg ((m_leftBy (m_lastBy ((6 * x3) + n1).toNatClampNeg).toNatClampNeg) + 1)) (m_lastBy ((6 * x3) + n1).toNatClampNeg).toNatClampNeg)), (4, .int (m_lastBy ((6 * x3) + n1).toNatClampNeg)), (0, .ref (a0 0)), (1, .int n1)] dX10_worstOf_94 rfl (ii_1 _) (by decide) rfl ?_
          refine g_goto (pc := 97) C (tgt := 25) dX10_worstOf_97 rfl ?_
          refine g_lv [3, 4, 1, 0] rfl ?_
          exact ih ((upd m_leftBy (m_lastBy ((6 * x3) + n1).toNatClampNeg).toNatClampNeg ((m_leftBy (m_lastBy ((6 * x3) + n1).toNatClampNeg).toNatClampNeg) + 1)) (m_lastBy ((6 * x3) + n1).toNatClampNeg).toNatClampNeg) (x3 + 1) (upd m_leftBy (m_lastBy ((6 * x3) + n1).toNatClampNeg).toNatClampNeg ((m_leftBy (m_lastBy ((6 * x3) + n1).toNatClampNeg).toNatClampNeg) + 1)) h
      · refine g_goto (pc := 44) C (tgt := 94) dX10_worstOf_44 rfl ?_
        refine g_iinc (pc := 94) C (j := 3) [(3, .int (x3 + 1)), (0, .ref (a0 0)), (1, .int n1), (2, .int x2)] dX10_worstOf_94 rfl (ii_1 _) (by decide) rfl ?_
        refine g_goto (pc := 97) C (tgt := 25) dX10_worstOf_97 rfl ?_
        refine g_lv [1, 2, 3, 0] rfl ?_
        exact ih x2 (x3 + 1) m_leftBy h
set_option maxRecDepth 100000 in
set_option maxHeartbeats 4000000 in
theorem j_X10_worstOf_2 {J : Jt} {Z : Zt} {a0 : Nat → Nat} {m_thrown : Int32} {m_refused : Nat → Int32} {m_taped : Int32} {m_size : Int32} {m_at : Int32} {m_bad : Int32} {m_badKind : Int32} {m_opens : Int32} {m_faultAt : Int32} {m_tape : Nat → Int32} {m_newBed : Nat → Int32} {m_newLetter : Nat → Int32} {m_newReader : Nat → Int32} {m_bed : Nat → Int32} {m_letter : Nat → Int32} {m_reader : Nat → Int32} {m_newBeds : Int32} {m_newLetters : Int32} {m_newReaders : Int32} {m_beds : Int32} {m_letters : Int32} {m_readers : Int32} {m_newCode : Nat → Int32} {m_newOf : Nat → Int32} {m_code : Nat → Int32} {m_ofCode : Nat → Int32} {m_stack : Nat → Int32} {m_newCodes : Int32} {m_codes : Int32} {m_facts : Nat → Int32} {m_newStep : Nat → Int32} {m_step : Nat → Int32} {m_newSteps : Int32} {m_works : Int32} {m_refusedSteps : Int32} {m_begun : Int32} {m_done : Int32} {m_refusedNow : Int32} {m_now : Nat → Int32} {m_s : Nat → Int32} {m_past : Nat → Int32} {m_newBook : Nat → Int32} {m_book : Nat → Int32} {m_written : Int32} {m_mostBy : Nat → Int32} {m_stuffing : Nat → Int32} {m_stuffedMany : Int32} {m_lastBy : Nat → Int32} {m_splitBy : Nat → Int64} {m_seedNow : Int32} {m_image : Nat → Int32} {m_images : Int32} {n1 : Int32} {r : Int32} {o_m_leftBy : Nat → Int32} (C : Cx J Z cX10_worstOf 5 RX10 (some .int) rm_X10_worstOf) (E : Ez J Z 0 0 (some (.int r)) (cs_X10 J.2.2.1 a0 m_thrown m_refused m_taped m_size m_at m_bad m_badKind m_opens m_faultAt m_tape m_newBed m_newLetter m_newReader m_bed m_letter m_reader m_newBeds m_newLetters m_newReaders m_beds m_letters m_readers m_newCode m_newOf m_code m_ofCode m_stack m_newCodes m_codes m_facts m_newStep m_step m_newSteps m_works m_refusedSteps m_begun m_done m_refusedNow m_now m_s m_past m_newBook m_book m_written m_mostBy m_stuffing m_stuffedMany m_lastBy o_m_leftBy m_splitBy m_seedNow m_image m_images)) : ∀ (n : Nat) (x2 : Int32) (m_leftBy : Nat → Int32), f_X10_worstOf_2 m_beds m_letters m_book m_lastBy n1 n x2 m_leftBy = some (r, o_m_leftBy) → G J Z 0 0 (cs_X10 J.2.2.1 a0 m_thrown m_refused m_taped m_size m_at m_bad m_badKind m_opens m_faultAt m_tape m_newBed m_newLetter m_newReader m_bed m_letter m_reader m_newBeds m_newLetters m_newReaders m_beds m_letters m_readers m_newCode m_newOf m_code m_ofCode m_stack m_newCodes m_codes m_facts m_newStep m_step m_newSteps m_works m_refusedSteps m_begun m_done m_refusedNow m_now m_s m_past m_newBook m_book m_written m_mostBy m_stuffing m_stuffedMany m_lastBy m_leftBy m_splitBy m_seedNow m_image m_images) 5 [(0, .ref (a0 0)), (1, .int n1), (2, .int x2)] 2 [] := by
  intro n
  induction n with
  | zero =>
    intro x2 m_leftBy h
    rw [f_X10_worstOf_2] at h
    cases h
  | succ n ih =>
    intro x2 m_leftBy h
    rw [f_X10_worstOf_2] at h
    refine g_iload_n (pc := 2) C 2 rfl dX10_worstOf_2 ?_
    refine g_bipush (pc := 3) C dX10_worstOf_3 cb_16 ?_
    refine g_icmp_gt (pc := 5) C (tgt := 21) dX10_worstOf_5 rfl h (fun h => ?_) (fun h => ?_)
    · refine g_iconst (pc := 21) C dX10_worstOf_21 ci_0 ?_
      refine g_istore_n (pc := 22) C [(2, .int 0), (0, .ref (a0 0)), (1, .int n1)] dX10_worstOf_22 rfl (by decide) rfl ?_
      refine g_iconst (pc := 23) C dX10_worstOf_23 ci_0 ?_
      refine g_istore_n (pc := 24) C [(3, .int 0), (2, .int 0), (0, .ref (a0 0)), (1, .int n1)] dX10_worstOf_24 rfl (by decide) rfl ?_
      refine g_lv [2, 3, 1, 0] rfl ?_
      exact j_X10_worstOf_25 C E    FU 0 0 m_leftBy h
    · refine g_aload_n (pc := 8) C 0 rfl dX10_worstOf_8 ?_
      refine g_get (pc := 9) C FOK_X10 0 rfl rfl 48 (by decide) kw_1325 rfl dX10_worstOf_9 ?_
      refine g_iload_n (pc := 12) C 2 rfl dX10_worstOf_12 ?_
      refine g_iconst (pc := 13) C dX10_worstOf_13 ci_0 ?_
      obtain ⟨hi, h⟩ := ix_of h
      refine g_iast (pc := 14) C (w' := cs_X10 J.2.2.1 a0 m_thrown m_refused m_taped m_size m_at m_bad m_badKind m_opens m_faultAt m_tape m_newBed m_newLetter m_newReader m_bed m_letter m_reader m_newBeds m_newLetters m_newReaders m_beds m_letters m_readers m_newCode m_newOf m_code m_ofCode m_stack m_newCodes m_codes m_facts m_newStep m_step m_newSteps m_works m_refusedSteps m_begun m_done m_refusedNow m_now m_s m_past m_newBook m_book m_written m_mostBy m_stuffing m_stuffedMany m_lastBy (upd m_leftBy x2.toNatClampNeg 0) m_splitBy m_seedNow m_image m_images) 25 rfl hi dX10_worstOf_14 rfl ?_
      refine g_iinc (pc := 15) C (j := 2) [(2, .int (x2 + 1)), (0, .ref (a0 0)), (1, .int n1)] dX10_worstOf_15 rfl (ii_1 _) (by decide) rfl ?_
      refine g_goto (pc := 18) C (tgt := 2) dX10_worstOf_18 rfl ?_
      refine g_lv [1, 2, 0] rfl ?_
      exact ih (x2 + 1) (upd m_leftBy x2.toNatClampNeg 0) h
set_option maxRecDepth 100000 in
set_option maxHeartbeats 4000000 in
theorem t_X10_worstOf {J : Jt} {a0 : Nat → Nat} {m_thrown : Int32} {m_refused : Nat → Int32} {m_taped : Int32} {m_size : Int32} {m_at : Int32} {m_bad : Int32} {m_badKind : Int32} {m_opens : Int32} {m_faultAt : Int32} {m_tape : Nat → Int32} {m_newBed : Nat → Int32} {m_newLetter : Nat → Int32} {m_newReader : Nat → Int32} {m_bed : Nat → Int32} {m_letter : Nat → Int32} {m_reader : Nat → Int32} {m_newBeds : Int32} {m_newLetters : Int32} {m_newReaders : Int32} {m_beds : Int32} {m_letters : Int32} {m_readers : Int32} {m_newCode : Nat → Int32} {m_newOf : Nat → Int32} {m_code : Nat → Int32} {m_ofCode : Nat → Int32} {m_stack : Nat → Int32} {m_newCodes : Int32} {m_codes : Int32} {m_facts : Nat → Int32} {m_newStep : Nat → Int32} {m_step : Nat → Int32} {m_newSteps : Int32} {m_works : Int32} {m_refusedSteps : Int32} {m_begun : Int32} {m_done : Int32} {m_refusedNow : Int32} {m_now : Nat → Int32} {m_s : Nat → Int32} {m_past : Nat → Int32} {m_newBook : Nat → Int32} {m_book : Nat → Int32} {m_written : Int32} {m_mostBy : Nat → Int32} {m_stuffing : Nat → Int32} {m_stuffedMany : Int32} {m_lastBy : Nat → Int32} {m_leftBy : Nat → Int32} {m_splitBy : Nat → Int64} {m_seedNow : Int32} {m_image : Nat → Int32} {m_images : Int32} {n1 : Int32} {r : Int32} {o_m_leftBy : Nat → Int32} (h : f_X10_worstOf m_beds m_letters m_book m_lastBy m_leftBy n1 = some (r, o_m_leftBy)) : Mt J yX10_worstOf cX10_worstOf 5 (some .int) rm_X10_worstOf [.ref (a0 0), .int n1] (cs_X10 J.2.2.1 a0 m_thrown m_refused m_taped m_size m_at m_bad m_badKind m_opens m_faultAt m_tape m_newBed m_newLetter m_newReader m_bed m_letter m_reader m_newBeds m_newLetters m_newReaders m_beds m_letters m_readers m_newCode m_newOf m_code m_ofCode m_stack m_newCodes m_codes m_facts m_newStep m_step m_newSteps m_works m_refusedSteps m_begun m_done m_refusedNow m_now m_s m_past m_newBook m_book m_written m_mostBy m_stuffing m_stuffedMany m_lastBy m_leftBy m_splitBy m_seedNow m_image m_images) (some (.int r)) (cs_X10 J.2.2.1 a0 m_thrown m_refused m_taped m_size m_at m_bad m_badKind m_opens m_faultAt m_tape m_newBed m_newLetter m_newReader m_bed m_letter m_reader m_newBeds m_newLetters m_newReaders m_beds m_letters m_readers m_newCode m_newOf m_code m_ofCode m_stack m_newCodes m_codes m_facts m_newStep m_step m_newSteps m_works m_refusedSteps m_begun m_done m_refusedNow m_now m_s m_past m_newBook m_book m_written m_mostBy m_stuffing m_stuffedMany m_lastBy o_m_leftBy m_splitBy m_seedNow m_image m_images) := by
  refine Mt_of (own := RX10) (by decide) rfl (Nat.le_of_ble_eq_true rfl) rfl (fun Z C E => ?_)
  unfold f_X10_worstOf at h
  show G J Z 0 0 (cs_X10 J.2.2.1 a0 m_thrown m_refused m_taped m_size m_at m_bad m_badKind m_opens m_faultAt m_tape m_newBed m_newLetter m_newReader m_bed m_letter m_reader m_newBeds m_newLetters m_newReaders m_beds m_letters m_readers m_newCode m_newOf m_code m_ofCode m_stack m_newCodes m_codes m_facts m_newStep m_step m_newSteps m_works m_refusedSteps m_begun m_done m_refusedNow m_now m_s m_past m_newBook m_book m_written m_mostBy m_stuffing m_stuffedMany m_lastBy m_leftBy m_splitBy m_seedNow m_image m_images) 5 [(0, .ref (a0 0)), (1, .int n1)] 0 []
  refine g_iconst (pc := 0) C dX10_worstOf_0 ci_0 ?_
  refine g_istore_n (pc := 1) C [(2, .int 0), (0, .ref (a0 0)), (1, .int n1)] dX10_worstOf_1 rfl (by decide) rfl ?_
  refine g_lv [1, 2, 0] rfl ?_
  exact j_X10_worstOf_2 C E    FU 0 m_leftBy h
noncomputable def f_X10_look_33  (m_letter : Nat → Int32) (m_beds : Int32) (m_letters : Int32) (m_now : Nat → Int32) (m_book : Nat → Int32) (n1 : Int32) : Nat → Int32 → Int32 → Int32 → Int32 → (Nat → Int32) → (Nat → Int32) → (Nat → Int32) → (Nat → Int32) → Option (Int32 × Int32 × (Nat → Int32) × (Nat → Int32) × (Nat → Int32) × (Nat → Int32))
  | 0, _, _, _, _, _, _, _, _ => none
  | n + 1, x2, x3, x4, m_thrown, m_refused, m_s, m_lastBy, m_leftBy => if m_beds ≤ x4 then if n1 = 0 then some (x2, m_thrown, m_refused, m_s, m_lastBy, m_leftBy) else some (x3, m_thrown, m_refused, m_s, m_lastBy, m_leftBy) else if ixb x4 6 then if (m_book x4.toNatClampNeg) = (-1) then b2 (f_X10_worstOf m_beds m_letters m_book m_lastBy m_leftBy x4) (fun v1 c2 => if x2 = (-1) then f_X10_look_33 m_letter m_beds m_letters m_now m_book n1 n x4 v1 (x4 + 1) m_thrown m_refused m_s m_lastBy c2 else if v1 < x3 then f_X10_look_33 m_letter m_beds m_letters m_now m_book n1 n x4 v1 (x4 + 1) m_thrown m_refused m_s m_lastBy c2 else f_X10_look_33 m_letter m_beds m_letters m_now m_book n1 n x2 x3 (x4 + 1) m_thrown m_refused m_s m_lastBy c2) else f_X10_look_33 m_letter m_beds m_letters m_now m_book n1 n x2 x3 (x4 + 1) m_thrown m_refused m_s m_lastBy m_leftBy else none
noncomputable def f_X10_look (m_thrown : Int32) (m_refused : Nat → Int32) (m_letter : Nat → Int32) (m_beds : Int32) (m_letters : Int32) (m_now : Nat → Int32) (m_s : Nat → Int32) (m_book : Nat → Int32) (m_lastBy : Nat → Int32) (m_leftBy : Nat → Int32) (n1 : Int32) : Option (Int32 × Int32 × (Nat → Int32) × (Nat → Int32) × (Nat → Int32) × (Nat → Int32)) := b1 (f_X10_within n1 0 1) (fun v3 => b3 (f_X10_may 0 m_refused v3 1 1) (fun v4 c5 c6 => if v4 = 0 then some (0, c5, c6, m_s, m_lastBy, m_leftBy) else b2 (f_X10_laysLasts m_letter m_beds m_letters m_now m_s m_lastBy) (fun c7 c8 => f_X10_look_33 m_letter m_beds m_letters m_now m_book n1 FU (-1) (-1) 0 c5 c6 c7 c8 m_leftBy)))
def rm_X10_look : Room := { frames := 3, cells := 0, slots := 0, locals := 69 }
set_option maxRecDepth 100000 in
set_option maxHeartbeats 4000000 in
theorem j_X10_look_33 {J : Jt} {Z : Zt} {a0 : Nat → Nat} {m_taped : Int32} {m_size : Int32} {m_at : Int32} {m_bad : Int32} {m_badKind : Int32} {m_opens : Int32} {m_faultAt : Int32} {m_tape : Nat → Int32} {m_newBed : Nat → Int32} {m_newLetter : Nat → Int32} {m_newReader : Nat → Int32} {m_bed : Nat → Int32} {m_letter : Nat → Int32} {m_reader : Nat → Int32} {m_newBeds : Int32} {m_newLetters : Int32} {m_newReaders : Int32} {m_beds : Int32} {m_letters : Int32} {m_readers : Int32} {m_newCode : Nat → Int32} {m_newOf : Nat → Int32} {m_code : Nat → Int32} {m_ofCode : Nat → Int32} {m_stack : Nat → Int32} {m_newCodes : Int32} {m_codes : Int32} {m_facts : Nat → Int32} {m_newStep : Nat → Int32} {m_step : Nat → Int32} {m_newSteps : Int32} {m_works : Int32} {m_refusedSteps : Int32} {m_begun : Int32} {m_done : Int32} {m_refusedNow : Int32} {m_now : Nat → Int32} {m_past : Nat → Int32} {m_newBook : Nat → Int32} {m_book : Nat → Int32} {m_written : Int32} {m_mostBy : Nat → Int32} {m_stuffing : Nat → Int32} {m_stuffedMany : Int32} {m_splitBy : Nat → Int64} {m_seedNow : Int32} {m_image : Nat → Int32} {m_images : Int32} {n1 : Int32} {r : Int32} {o_m_thrown : Int32} {o_m_refused : Nat → Int32} {o_m_s : Nat → Int32} {o_m_lastBy : Nat → Int32} {o_m_leftBy : Nat → Int32} (C : Cx J Z cX10_look 6 RX10 (some .int) rm_X10_look) (E : Ez J Z 0 0 (some (.int r)) (cs_X10 J.2.2.1 a0 o_m_thrown o_m_refused m_taped m_size m_at m_bad m_badKind m_opens m_faultAt m_tape m_newBed m_newLetter m_newReader m_bed m_letter m_reader m_newBeds m_newLetters m_newReaders m_beds m_letters m_readers m_newCode m_newOf m_code m_ofCode m_stack m_newCodes m_codes m_facts m_newStep m_step m_newSteps m_works m_refusedSteps m_begun m_done m_refusedNow m_now o_m_s m_past m_newBook m_book m_written m_mostBy m_stuffing m_stuffedMany o_m_lastBy o_m_leftBy m_splitBy m_seedNow m_image m_images)) : ∀ (n : Nat) (x2 : Int32) (x3 : Int32) (x4 : Int32) (m_thrown : Int32) (m_refused : Nat → Int32) (m_s : Nat → Int32) (m_lastBy : Nat → Int32) (m_leftBy : Nat → Int32), f_X10_look_33 m_letter m_beds m_letters m_now m_book n1 n x2 x3 x4 m_thrown m_refused m_s m_lastBy m_leftBy = some (r, o_m_thrown, o_m_refused, o_m_s, o_m_lastBy, o_m_leftBy) → G J Z 0 0 (cs_X10 J.2.2.1 a0 m_thrown m_refused m_taped m_size m_at m_bad m_badKind m_opens m_faultAt m_tape m_newBed m_newLetter m_newReader m_bed m_letter m_reader m_newBeds m_newLetters m_newReaders m_beds m_letters m_readers m_newCode m_newOf m_code m_ofCode m_stack m_newCodes m_codes m_facts m_newStep m_step m_newSteps m_works m_refusedSteps m_begun m_done m_refusedNow m_now m_s m_past m_newBook m_book m_written m_mostBy m_stuffing m_stuffedMany m_lastBy m_leftBy m_splitBy m_seedNow m_image m_images) 6 [(0, .ref (a0 0)), (1, .int n1), (2, .int x2), (3, .int x3), (4, .int x4)] 33 [] := by
  intro n
  induction n with
  | zero =>
    intro x2 x3 x4 m_thrown m_refused m_s m_lastBy m_leftBy h
    rw [f_X10_look_33] at h
    cases h
  | succ n ih =>
    intro x2 x3 x4 m_thrown m_refused m_s m_lastBy m_leftBy h
    rw [f_X10_look_33] at h
    refine g_iload (pc := 33) C 4 rfl dX10_look_33 ?_
    refine g_aload_n (pc := 35) C 0 rfl dX10_look_35 ?_
    refine g_get (pc := 36) C FOK_X10 0 rfl rfl 19 (by decide) kw_1296 rfl dX10_look_36 ?_
    refine g_icmp_ge (pc := 39) C (tgt := 90) dX10_look_39 rfl h (fun h => ?_) (fun h => ?_)
    · refine g_iload_n (pc := 90) C 1 rfl dX10_look_90 ?_
      refine g_if_ne (pc := 91) C (tgt := 98) dX10_look_91 rfl h (fun h => ?_) (fun h => ?_)
      · refine g_iload_n (pc := 98) C 3 rfl dX10_look_98 ?_
        cases h
        exact g_iret C E dX10_look_99
      · refine g_iload_n (pc := 94) C 2 rfl dX10_look_94 ?_
        refine g_goto (pc := 95) C (tgt := 99) dX10_look_95 rfl ?_
        cases h
        exact g_iret C E dX10_look_99
    · refine g_aload_n (pc := 42) C 0 rfl dX10_look_42 ?_
      refine g_get (pc := 43) C FOK_X10 0 rfl rfl 42 (by decide) kw_1319 rfl dX10_look_43 ?_
      refine g_iload (pc := 46) C 4 rfl dX10_look_46 ?_
      obtain ⟨hi, h⟩ := ix_of h
      refine g_iald (pc := 48) C 21 rfl hi dX10_look_48 ?_
      refine g_iconst (pc := 49) C dX10_look_49 ci_m1 ?_
      refine g_icmp_eq (pc := 50) C (tgt := 56) dX10_look_50 rfl h (fun h => ?_) (fun h => ?_)
      · refine g_aload_n (pc := 56) C 0 rfl dX10_look_56 ?_
        refine g_iload (pc := 57) C 4 rfl dX10_look_57 ?_
        obtain ⟨v1, c2, hc, h⟩ := b2_of h
        refine g_callV (pc := 59) C (w' := cs_X10 J.2.2.1 a0 m_thrown m_refused m_taped m_size m_at m_bad m_badKind m_opens m_faultAt m_tape m_newBed m_newLetter m_newReader m_bed m_letter m_reader m_newBeds m_newLetters m_newReaders m_beds m_letters m_readers m_newCode m_newOf m_code m_ofCode m_stack m_newCodes m_codes m_facts m_newStep m_step m_newSteps m_works m_refusedSteps m_begun m_done m_refusedNow m_now m_s m_past m_newBook m_book m_written m_mostBy m_stuffing m_stuffedMany m_lastBy c2 m_splitBy m_seedNow m_image m_images) (As := [.int x4]) (st := []) (ci := 10) (q0 := 0) rfl rfl (t_X10_worstOf (a0 := a0) hc) Sub.same kw_1808 kw_1810 kw_77 kw_95 hy_X10_worstOf kw_1811 rfl (Nat.le_of_ble_eq_true rfl) (Nat.le_of_ble_eq_true rfl) (Nat.le_of_ble_eq_true rfl) (Nat.le_of_ble_eq_true rfl) (Nat.le_of_ble_eq_true rfl) dX10_look_59 ?_
        refine g_istore (pc := 62) C [(5, .int v1), (0, .ref (a0 0)), (1, .int n1), (2, .int x2), (3, .int x3), (4, .int x4)] dX10_look_62 (by decide) rfl ?_
        refine g_iload_n (pc := 64) C 3 rfl dX10_look_64 ?_
        refine g_iconst (pc := 65) C dX10_look_65 ci_m1 ?_
        refine g_icmp_eq (pc := 66) C (tgt := 78) dX10_look_66 rfl h (fun h => ?_) (fun h => ?_)
        · refine g_iload (pc := 78) C 5 rfl dX10_look_78 ?_
          refine g_istore_n (pc := 80) C [(2, .int x4), (5, .int v1), (0, .ref (a0 0)), (1, .int n1), (3, .int x3), (4, .int x4)] dX10_look_80 rfl (by decide) rfl ?_
          refine g_iload (pc := 81) C 1 rfl dX10_look_81 ?_
          refine g_istore_n (pc := 83) C [(3, .int v1), (2, .int x4), (5, .int v1), (0, .ref (a0 0)), (1, .int n1), (4, .int x4)] dX10_look_83 rfl (by decide) rfl ?_
          refine g_iinc (pc := 84) C (j := 5) [(4, .int (x4 + 1)), (3, .int v1), (2, .int x4), (5, .int v1), (0, .ref (a0 0)), (1, .int n1)] dX10_look_84 rfl (ii_1 _) (by decide) rfl ?_
          refine g_goto (pc := 87) C (tgt := 33) dX10_look_87 rfl ?_
          refine g_lv [4, 5, 2, 1, 0] rfl ?_
          exact ih x4 v1 (x4 + 1) m_thrown m_refused m_s m_lastBy c2 h
        · refine g_iload (pc := 69) C 0 rfl dX10_look_69 ?_
          refine g_iload_n (pc := 71) C 4 rfl dX10_look_71 ?_
          refine g_icmp_lt (pc := 72) C (tgt := 78) dX10_look_72 rfl h (fun h => ?_) (fun h => ?_)
          · refine g_iload (pc := 78) C 5 rfl dX10_look_78 ?_
            refine g_istore_n (pc := 80) C [(2, .int x4), (5, .int v1), (0, .ref (a0 0)), (1, .int n1), (3, .int x3), (4, .int x4)] dX10_look_80 rfl (by decide) rfl ?_
            refine g_iload (pc := 81) C 1 rfl dX10_look_81 ?_
            refine g_istore_n (pc := 83) C [(3, .int v1), (2, .int x4), (5, .int v1), (0, .ref (a0 0)), (1, .int n1), (4, .int x4)] dX10_look_83 rfl (by decide) rfl ?_
            refine g_iinc (pc := 84) C (j := 5) [(4, .int (x4 + 1)), (3, .int v1), (2, .int x4), (5, .int v1), (0, .ref (a0 0)), (1, .int n1)] dX10_look_84 rfl (ii_1 _) (by decide) rfl ?_
            refine g_goto (pc := 87) C (tgt := 33) dX10_look_87 rfl ?_
            refine g_lv [4, 5, 2, 1, 0] rfl ?_
            exact ih x4 v1 (x4 + 1) m_thrown m_refused m_s m_lastBy c2 h
          · refine g_goto (pc := 75) C (tgt := 84) dX10_look_75 rfl ?_
            refine g_iinc (pc := 84) C (j := 5) [(4, .int (x4 + 1)), (5, .int v1), (0, .ref (a0 0)), (1, .int n1), (2, .int x2), (3, .int x3)] dX10_look_84 rfl (ii_1 _) (by decide) rfl ?_
            refine g_goto (pc := 87) C (tgt := 33) dX10_look_87 rfl ?_
            refine g_lv [2, 3, 4, 5, 0] rfl ?_
            exact ih x2 x3 (x4 + 1) m_thrown m_refused m_s m_lastBy c2 h
      · refine g_goto (pc := 53) C (tgt := 84) dX10_look_53 rfl ?_
        refine g_iinc (pc := 84) C (j := 4) [(4, .int (x4 + 1)), (0, .ref (a0 0)), (1, .int n1), (2, .int x2), (3, .int x3)] dX10_look_84 rfl (ii_1 _) (by decide) rfl ?_
        refine g_goto (pc := 87) C (tgt := 33) dX10_look_87 rfl ?_
        refine g_lv [1, 2, 3, 4, 0] rfl ?_
        exact ih x2 x3 (x4 + 1) m_thrown m_refused m_s m_lastBy m_leftBy h
set_option maxRecDepth 100000 in
set_option maxHeartbeats 4000000 in
theorem t_X10_look {J : Jt} {a0 : Nat → Nat} {m_thrown : Int32} {m_refused : Nat → Int32} {m_taped : Int32} {m_size : Int32} {m_at : Int32} {m_bad : Int32} {m_badKind : Int32} {m_opens : Int32} {m_faultAt : Int32} {m_tape : Nat → Int32} {m_newBed : Nat → Int32} {m_newLetter : Nat → Int32} {m_newReader : Nat → Int32} {m_bed : Nat → Int32} {m_letter : Nat → Int32} {m_reader : Nat → Int32} {m_newBeds : Int32} {m_newLetters : Int32} {m_newReaders : Int32} {m_beds : Int32} {m_letters : Int32} {m_readers : Int32} {m_newCode : Nat → Int32} {m_newOf : Nat → Int32} {m_code : Nat → Int32} {m_ofCode : Nat → Int32} {m_stack : Nat → Int32} {m_newCodes : Int32} {m_codes : Int32} {m_facts : Nat → Int32} {m_newStep : Nat → Int32} {m_step : Nat → Int32} {m_newSteps : Int32} {m_works : Int32} {m_refusedSteps : Int32} {m_begun : Int32} {m_done : Int32} {m_refusedNow : Int32} {m_now : Nat → Int32} {m_s : Nat → Int32} {m_past : Nat → Int32} {m_newBook : Nat → Int32} {m_book : Nat → Int32} {m_written : Int32} {m_mostBy : Nat → Int32} {m_stuffing : Nat → Int32} {m_stuffedMany : Int32} {m_lastBy : Nat → Int32} {m_leftBy : Nat → Int32} {m_splitBy : Nat → Int64} {m_seedNow : Int32} {m_image : Nat → Int32} {m_images : Int32} {n1 : Int32} {r : Int32} {o_m_thrown : Int32} {o_m_refused : Nat → Int32} {o_m_s : Nat → Int32} {o_m_lastBy : Nat → Int32} {o_m_leftBy : Nat → Int32} (h : f_X10_look m_thrown m_refused m_letter m_beds m_letters m_now m_s m_book m_lastBy m_leftBy n1 = some (r, o_m_thrown, o_m_refused, o_m_s, o_m_lastBy, o_m_leftBy)) : Mt J yX10_look cX10_look 6 (some .int) rm_X10_look [.ref (a0 0), .int n1] (cs_X10 J.2.2.1 a0 m_thrown m_refused m_taped m_size m_at m_bad m_badKind m_opens m_faultAt m_tape m_newBed m_newLetter m_newReader m_bed m_letter m_reader m_newBeds m_newLetters m_newReaders m_beds m_letters m_readers m_newCode m_newOf m_code m_ofCode m_stack m_newCodes m_codes m_facts m_newStep m_step m_newSteps m_works m_refusedSteps m_begun m_done m_refusedNow m_now m_s m_past m_newBook m_book m_written m_mostBy m_stuffing m_stuffedMany m_lastBy m_leftBy m_splitBy m_seedNow m_image m_images) (some (.int r)) (cs_X10 J.2.2.1 a0 o_m_thrown o_m_refused m_taped m_size m_at m_bad m_badKind m_opens m_faultAt m_tape m_newBed m_newLetter m_newReader m_bed m_letter m_reader m_newBeds m_newLetters m_newReaders m_beds m_letters m_readers m_newCode m_newOf m_code m_ofCode m_stack m_newCodes m_codes m_facts m_newStep m_step m_newSteps m_works m_refusedSteps m_begun m_done m_refusedNow m_now o_m_s m_past m_newBook m_book m_written m_mostBy m_stuffing m_stuffedMany o_m_lastBy o_m_leftBy m_splitBy m_seedNow m_image m_images) := by
  refine Mt_of (own := RX10) (by decide) rfl (Nat.le_of_ble_eq_true rfl) rfl (fun Z C E => ?_)
  unfold f_X10_look at h
  show G J Z 0 0 (cs_X10 J.2.2.1 a0 m_thrown m_refused m_taped m_size m_at m_bad m_badKind m_opens m_faultAt m_tape m_newBed m_newLetter m_newReader m_bed m_letter m_reader m_newBeds m_newLetters m_newReaders m_beds m_letters m_readers m_newCode m_newOf m_code m_ofCode m_stack m_newCodes m_codes m_facts m_newStep m_step m_newSteps m_works m_refusedSteps m_begun m_done m_refusedNow m_now m_s m_past m_newBook m_book m_written m_mostBy m_stuffing m_stuffedMany m_lastBy m_leftBy m_splitBy m_seedNow m_image m_images) 6 [(0, .ref (a0 0)), (1, .int n1)] 0 []
  refine g_aload_n (pc := 0) C 0 rfl dX10_look_0 ?_
  refine g_iconst (pc := 1) C dX10_look_1 ci_0 ?_
  refine g_put (pc := 2) C (w' := cs_X10 J.2.2.1 a0 0 m_refused m_taped m_size m_at m_bad m_badKind m_opens m_faultAt m_tape m_newBed m_newLetter m_newReader m_bed m_letter m_reader m_newBeds m_newLetters m_newReaders m_beds m_letters m_readers m_newCode m_newOf m_code m_ofCode m_stack m_newCodes m_codes m_facts m_newStep m_step m_newSteps m_works m_refusedSteps m_begun m_done m_refusedNow m_now m_s m_past m_newBook m_book m_written m_mostBy m_stuffing m_stuffedMany m_lastBy m_leftBy m_splitBy m_seedNow m_image m_images) FOK_X10 0 rfl rfl 0 (by decide) kw_1277 rfl rfl rfl (Nat.le_of_ble_eq_true rfl) dX10_look_2 rfl ?_
  refine g_aload_n (pc := 5) C 0 rfl dX10_look_5 ?_
  refine g_iload_n (pc := 6) C 1 rfl dX10_look_6 ?_
  refine g_iconst (pc := 7) C dX10_look_7 ci_0 ?_
  refine g_iconst (pc := 8) C dX10_look_8 ci_1 ?_
  obtain ⟨v3, hc, h⟩ := b1_of h
  refine g_callS (pc := 9) C (w' := cs_X10 J.2.2.1 a0 0 m_refused m_taped m_size m_at m_bad m_badKind m_opens m_faultAt m_tape m_newBed m_newLetter m_newReader m_bed m_letter m_reader m_newBeds m_newLetters m_newReaders m_beds m_letters m_readers m_newCode m_newOf m_code m_ofCode m_stack m_newCodes m_codes m_facts m_newStep m_step m_newSteps m_works m_refusedSteps m_begun m_done m_refusedNow m_now m_s m_past m_newBook m_book m_written m_mostBy m_stuffing m_stuffedMany m_lastBy m_leftBy m_splitBy m_seedNow m_image m_images) (As := [.int n1, .int 0, .int 1]) (st := [.ref (a0 0)]) (t_X10_within hc) Sub.nil kw_1689 kw_1690 kw_95 hy_X10_within kw_1691 rfl (Nat.le_of_ble_eq_true rfl) (Nat.le_of_ble_eq_true rfl) (Nat.le_of_ble_eq_true rfl) (Nat.le_of_ble_eq_true rfl) (Nat.le_of_ble_eq_true rfl) dX10_look_9 ?_
  refine g_iconst (pc := 12) C dX10_look_12 ci_1 ?_
  refine g_iconst (pc := 13) C dX10_look_13 ci_1 ?_
  obtain ⟨v4, c5, c6, hc, h⟩ := b3_of h
  refine g_callV (pc := 14) C (w' := cs_X10 J.2.2.1 a0 c5 c6 m_taped m_size m_at m_bad m_badKind m_opens m_faultAt m_tape m_newBed m_newLetter m_newReader m_bed m_letter m_reader m_newBeds m_newLetters m_newReaders m_beds m_letters m_readers m_newCode m_newOf m_code m_ofCode m_stack m_newCodes m_codes m_facts m_newStep m_step m_newSteps m_works m_refusedSteps m_begun m_done m_refusedNow m_now m_s m_past m_newBook m_book m_written m_mostBy m_stuffing m_stuffedMany m_lastBy m_leftBy m_splitBy m_seedNow m_image m_images) (As := [.int v3, .int 1, .int 1]) (st := []) (ci := 10) (q0 := 0) rfl rfl (t_X10_may (a0 := a0) hc) Sub.same kw_1450 kw_1452 kw_20 kw_95 hy_X10_may kw_1453 rfl (Nat.le_of_ble_eq_true rfl) (Nat.le_of_ble_eq_true rfl) (Nat.le_of_ble_eq_true rfl) (Nat.le_of_ble_eq_true rfl) (Nat.le_of_ble_eq_true rfl) dX10_look_14 ?_
  refine g_if_ne (pc := 17) C (tgt := 22) dX10_look_17 rfl h (fun h => ?_) (fun h => ?_)
  · refine g_aload_n (pc := 22) C 0 rfl dX10_look_22 ?_
    obtain ⟨c7, c8, hc, h⟩ := b2_of h
    refine g_callV (pc := 23) C (w' := cs_X10 J.2.2.1 a0 c5 c6 m_taped m_size m_at m_bad m_badKind m_opens m_faultAt m_tape m_newBed m_newLetter m_newReader m_bed m_letter m_reader m_newBeds m_newLetters m_newReaders m_beds m_letters m_readers m_newCode m_newOf m_code m_ofCode m_stack m_newCodes m_codes m_facts m_newStep m_step m_newSteps m_works m_refusedSteps m_begun m_done m_refusedNow m_now c7 m_past m_newBook m_book m_written m_mostBy m_stuffing m_stuffedMany c8 m_leftBy m_splitBy m_seedNow m_image m_images) (As := []) (st := []) (ci := 10) (q0 := 0) rfl rfl (t_X10_laysLasts (a0 := a0) hc) Sub.same kw_1796 kw_1798 kw_75 kw_95 hy_X10_laysLasts kw_1799 rfl (Nat.le_of_ble_eq_true rfl) (Nat.le_of_ble_eq_true rfl) (Nat.le_of_ble_eq_true rfl) (Nat.le_of_ble_eq_true rfl) (Nat.le_of_ble_eq_true rfl) dX10_look_23 ?_
    refine g_iconst (pc := 26) C dX10_look_26 ci_m1 ?_
    refine g_istore_n (pc := 27) C [(2, .int (-1)), (0, .ref (a0 0)), (1, .int n1)] dX10_look_27 rfl (by decide) rfl ?_
    refine g_iconst (pc := 28) C dX10_look_28 ci_m1 ?_
    refine g_istore_n (pc := 29) C [(3, .int (-1)), (2, .int (-1)), (0, .ref (a0 0)), (1, .int n1)] dX10_look_29 rfl (by decide) rfl ?_
    refine g_iconst (pc := 30) C dX10_look_30 ci_0 ?_
    refine g_istore (pc := 31) C [(4, .int 0), (3, .int (-1)), (2, .int (-1)), (0, .ref (a0 0)), (1, .int n1)] dX10_look_31 (by decide) rfl ?_
    refine g_lv [3, 4, 2, 1, 0] rfl ?_
    exact j_X10_look_33 C E    FU (-1) (-1) 0 c5 c6 c7 c8 m_leftBy h
  · refine g_iconst (pc := 20) C dX10_look_20 ci_0 ?_
    cases h
    exact g_iret C E dX10_look_21
noncomputable def f_X10_least_41   (n1 : Int64) (n2 : Int64) (n3 : Int32) (x5 : Int64) (y0 : Int64) : Option (Int64) := if x5 = 0 then none else some (y0 / x5)
noncomputable def f_X10_least_6   (n1 : Int64) (n2 : Int64) (n3 : Int32) : Nat → Int64 → Int64 → Option (Int64)
  | 0, _, _ => none
  | n + 1, x5, x7 => if (lg_cmp x7 0) = 0 then if n3 = 0 then f_X10_least_41 n1 n2 n3 x5 n1 else f_X10_least_41 n1 n2 n3 x5 n2 else if x7 = 0 then none else f_X10_least_6 n1 n2 n3 n x7 (x5 - x5 / x7 * x7)
noncomputable def f_X10_least  (n1 : Int64) (n2 : Int64) (n3 : Int32) : Option (Int64) := f_X10_least_6 n1 n2 n3 FU n1 n2
def rm_X10_least : Room := { frames := 0, cells := 0, slots := 0, locals := 0 }
set_option maxRecDepth 100000 in
set_option maxHeartbeats 4000000 in
theorem j_X10_least_41 {J : Jt} {Z : Zt}  {n1 : Int64} {n2 : Int64} {n3 : Int32} {r : Int64} (C : Cx J Z cX10_least 11 RX10 (some .long) rm_X10_least) (E : Ez J Z 0 0 (some (.long r)) ([])) : ∀ (x5 : Int64) (y0 : Int64), f_X10_least_41 n1 n2 n3 x5 y0 = some r → G J Z 0 0 ([]) 11 [(5, .long x5)] 41 [.long y0] := by
  intro x5 y0 h
  unfold f_X10_least_41 at h
  refine g_lload (pc := 41) C 0 rfl dX10_least_41 ?_
  obtain ⟨hz, h⟩ := nz_of h
  refine g_ldiv (pc := 43) C dX10_least_43 hz ?_
  cases h
  exact g_lret C E dX10_least_44
set_option maxRecDepth 100000 in
set_option maxHeartbeats 4000000 in
theorem j_X10_least_6 {J : Jt} {Z : Zt}  {n1 : Int64} {n2 : Int64} {n3 : Int32} {r : Int64} (C : Cx J Z cX10_least 11 RX10 (some .long) rm_X10_least) (E : Ez J Z 0 0 (some (.long r)) ([])) : ∀ (n : Nat) (x5 : Int64) (x7 : Int64), f_X10_least_6 n1 n2 n3 n x5 x7 = some r → G J Z 0 0 ([]) 11 [(0, .long n1), (2, .long n2), (4, .int n3), (5, .long x5), (7, .long x7)] 6 [] := by
  intro n
  induction n with
  | zero =>
    intro x5 x7 h
    rw [f_X10_least_6] at h
    cases h
  | succ n ih =>
    intro x5 x7 h
    rw [f_X10_least_6] at h
    refine g_lload (pc := 6) C 4 rfl dX10_least_6 ?_
    refine g_lconst (pc := 8) C (v := 0) dX10_least_8 (by decide) ?_
    refine g_lcmp (pc := 9) C dX10_least_9 ?_
    refine g_if_eq (pc := 10) C (tgt := 31) dX10_least_10 rfl h (fun h => ?_) (fun h => ?_)
    · refine g_iload (pc := 31) C 2 rfl dX10_least_31 ?_
      refine g_if_ne (pc := 33) C (tgt := 40) dX10_least_33 rfl h (fun h => ?_) (fun h => ?_)
      · refine g_lload_n (pc := 40) C 1 rfl dX10_least_40 ?_
        refine g_lv [3] rfl ?_
        exact j_X10_least_41 C E    x5 n2 h
      · refine g_lload_n (pc := 36) C 0 rfl dX10_least_36 ?_
        refine g_goto (pc := 37) C (tgt := 41) dX10_least_37 rfl ?_
        refine g_lv [3] rfl ?_
        exact j_X10_least_41 C E    x5 n1 h
    · refine g_lload (pc := 13) C 3 rfl dX10_least_13 ?_
      refine g_lload (pc := 15) C 4 rfl dX10_least_15 ?_
      obtain ⟨hz, h⟩ := nz_of h
      refine g_lrem (pc := 17) C dX10_least_17 hz ?_
      refine g_lstore (pc := 18) C [(9, .long (x5 - x5 / x7 * x7)), (0, .long n1), (2, .long n2), (4, .int n3), (5, .long x5), (7, .long x7)] dX10_least_18 (by decide) rfl ?_
      refine g_lload (pc := 20) C 5 rfl dX10_least_20 ?_
      refine g_lstore (pc := 22) C [(5, .long x7), (9, .long (x5 - x5 / x7 * x7)), (0, .long n1), (2, .long n2), (4, .int n3), (7, .long x7)] dX10_least_22 (by decide) rfl ?_
      refine g_lload (pc := 24) C 1 rfl dX10_least_24 ?_
      refine g_lstore (pc := 26) C [(7, .long (x5 - x5 / x7 * x7)), (5, .long x7), (9, .long (x5 - x5 / x7 * x7)), (0, .long n1), (2, .long n2), (4, .int n3)] dX10_least_26 (by decide) rfl ?_
      refine g_goto (pc := 28) C (tgt := 6) dX10_least_28 rfl ?_
      refine g_lv [3, 4, 5, 1, 0] rfl ?_
      exact ih x7 (x5 - x5 / x7 * x7) h
set_option maxRecDepth 100000 in
set_option maxHeartbeats 4000000 in
theorem t_X10_least {J : Jt}  {n1 : Int64} {n2 : Int64} {n3 : Int32} {r : Int64} (h : f_X10_least n1 n2 n3 = some r) : Mt J yX10_least cX10_least 11 (some .long) rm_X10_least [.long n1, .long n2, .int n3] ([]) (some (.long r)) ([]) := by
  refine Mt_of (own := RX10) (by decide) rfl (Nat.le_of_ble_eq_true rfl) rfl (fun Z C E => ?_)
  unfold f_X10_least at h
  show G J Z 0 0 ([]) 11 [(0, .long n1), (2, .long n2), (4, .int n3)] 0 []
  refine g_lload_n (pc := 0) C 0 rfl dX10_least_0 ?_
  refine g_lstore (pc := 1) C [(5, .long n1), (0, .long n1), (2, .long n2), (4, .int n3)] dX10_least_1 (by decide) rfl ?_
  refine g_lload_n (pc := 3) C 2 rfl dX10_least_3 ?_
  refine g_lstore (pc := 4) C [(7, .long n2), (5, .long n1), (0, .long n1), (2, .long n2), (4, .int n3)] dX10_least_4 (by decide) rfl ?_
  refine g_lv [2, 3, 4, 1, 0] rfl ?_
  exact j_X10_least_6 C E    FU n1 n2 h
noncomputable def f_X10_pods_183   (n1 : Int32) (n2 : Int32) (n3 : Int32) (n4 : Int32) : Nat → Int64 → Int64 → Int32 → Int32 → (Nat → Int32) → (Nat → Int64) → Option (Int64 × Int32 × (Nat → Int32) × (Nat → Int64))
  | 0, _, _, _, _, _, _ => none
  | n + 1, x5, x7, x9, m_thrown, m_refused, m_splitBy => if 14 ≤ x9 then b1 (f_X10_least x7 x5 n4) (fun v1 => some (v1, m_thrown, m_refused, m_splitBy)) else if ixb x9 14 then f_X10_pods_183 n1 n2 n3 n4 n x5 (x7 + (m_splitBy x9.toNatClampNeg)) (x9 + 1) m_thrown m_refused m_splitBy else none
noncomputable def f_X10_pods_110   (n1 : Int32) (n2 : Int32) (n3 : Int32) (n4 : Int32) (k100 : Int64 → Int32 → Int32 → (Nat → Int32) → (Nat → Int64) → Option (Int64 × Int32 × (Nat → Int32) × (Nat → Int64))) : Nat → Int64 → Int32 → Int32 → Int32 → (Nat → Int32) → (Nat → Int64) → Option (Int64 × Int32 × (Nat → Int32) × (Nat → Int64))
  | 0, _, _, _, _, _, _ => none
  | n + 1, x5, x7, x8, m_thrown, m_refused, m_splitBy => if x8 < 0 then k100 (x5 * 16) (x7 + 1) m_thrown m_refused m_splitBy else if ixb x8 14 then if x8 ≤ 0 then if ixb x8 14 then f_X10_pods_110 n1 n2 n3 n4 k100 n x5 x7 (x8 + (-1)) m_thrown m_refused (vp_updL m_splitBy x8.toNatClampNeg (((m_splitBy x8.toNatClampNeg) * ((16 - n3).toInt64)) + 0)) else none else if ixb (x8 - 1) 14 then if ixb x8 14 then f_X10_pods_110 n1 n2 n3 n4 k100 n x5 x7 (x8 + (-1)) m_thrown m_refused (vp_updL m_splitBy x8.toNatClampNeg (((m_splitBy x8.toNatClampNeg) * ((16 - n3).toInt64)) + ((m_splitBy (x8 - 1).toNatClampNeg) * n3.toInt64))) else none else none else none
noncomputable def f_X10_pods_100   (n1 : Int32) (n2 : Int32) (n3 : Int32) (n4 : Int32) : Nat → Int64 → Int32 → Int32 → (Nat → Int32) → (Nat → Int64) → Option (Int64 × Int32 × (Nat → Int32) × (Nat → Int64))
  | 0, _, _, _, _, _ => none
  | n + 1, x5, x7, m_thrown, m_refused, m_splitBy => if n1 ≤ x7 then f_X10_pods_183 n1 n2 n3 n4 FU x5 0 n2 m_thrown m_refused m_splitBy else f_X10_pods_110 n1 n2 n3 n4 (f_X10_pods_100 n1 n2 n3 n4 n) FU x5 x7 13 m_thrown m_refused m_splitBy
noncomputable def f_X10_pods_64   (n1 : Int32) (n2 : Int32) (n3 : Int32) (n4 : Int32) : Nat → Int32 → Int32 → (Nat → Int32) → (Nat → Int64) → Option (Int64 × Int32 × (Nat → Int32) × (Nat → Int64))
  | 0, _, _, _, _ => none
  | n + 1, x5, m_thrown, m_refused, m_splitBy => if 14 ≤ x5 then f_X10_pods_100 n1 n2 n3 n4 FU 1 0 m_thrown m_refused m_splitBy else if x5 = 0 then if ixb x5 14 then f_X10_pods_64 n1 n2 n3 n4 n (x5 + 1) m_thrown m_refused (vp_updL m_splitBy x5.toNatClampNeg 1) else none else if ixb x5 14 then f_X10_pods_64 n1 n2 n3 n4 n (x5 + 1) m_thrown m_refused (vp_updL m_splitBy x5.toNatClampNeg 0) else none
noncomputable def f_X10_pods_51   (n1 : Int32) (n2 : Int32) (n3 : Int32) (n4 : Int32) (y1 : Int32) (m_thrown : Int32) (m_refused : Nat → Int32) (m_splitBy : Nat → Int64) : Option (Int64 × Int32 × (Nat → Int32) × (Nat → Int64)) := b3 (f_X10_may m_thrown m_refused y1 1 1) (fun v2 c3 c4 => if v2 = 0 then some (0, c3, c4, m_splitBy) else f_X10_pods_64 n1 n2 n3 n4 FU 0 c3 c4 m_splitBy)
noncomputable def f_X10_pods (m_thrown : Int32) (m_refused : Nat → Int32) (m_splitBy : Nat → Int64) (n1 : Int32) (n2 : Int32) (n3 : Int32) (n4 : Int32) : Option (Int64 × Int32 × (Nat → Int32) × (Nat → Int64)) := b1 (f_X10_within n1 0 12) (fun v5 => if v5 = 0 then f_X10_pods_51 n1 n2 n3 n4 0 0 m_refused m_splitBy else b1 (f_X10_within n2 0 13) (fun v6 => if v6 = 0 then f_X10_pods_51 n1 n2 n3 n4 0 0 m_refused m_splitBy else b1 (f_X10_within n3 0 16) (fun v7 => if v7 = 0 then f_X10_pods_51 n1 n2 n3 n4 0 0 m_refused m_splitBy else b1 (f_X10_within n4 0 1) (fun v8 => if v8 = 0 then f_X10_pods_51 n1 n2 n3 n4 0 0 m_refused m_splitBy else f_X10_pods_51 n1 n2 n3 n4 1 0 m_refused m_splitBy))))
def rm_X10_pods : Room := { frames := 1, cells := 0, slots := 0, locals := 30 }
set_option maxRecDepth 100000 in
set_option maxHeartbeats 4000000 in
theorem j_X10_pods_183 {J : Jt} {Z : Zt} {a0 : Nat → Nat} {m_taped : Int32} {m_size : Int32} {m_at : Int32} {m_bad : Int32} {m_badKind : Int32} {m_opens : Int32} {m_faultAt : Int32} {m_tape : Nat → Int32} {m_newBed : Nat → Int32} {m_newLetter : Nat → Int32} {m_newReader : Nat → Int32} {m_bed : Nat → Int32} {m_letter : Nat → Int32} {m_reader : Nat → Int32} {m_newBeds : Int32} {m_newLetters : Int32} {m_newReaders : Int32} {m_beds : Int32} {m_letters : Int32} {m_readers : Int32} {m_newCode : Nat → Int32} {m_newOf : Nat → Int32} {m_code : Nat → Int32} {m_ofCode : Nat → Int32} {m_stack : Nat → Int32} {m_newCodes : Int32} {m_codes : Int32} {m_facts : Nat → Int32} {m_newStep : Nat → Int32} {m_step : Nat → Int32} {m_newSteps : Int32} {m_works : Int32} {m_refusedSteps : Int32} {m_begun : Int32} {m_done : Int32} {m_refusedNow : Int32} {m_now : Nat → Int32} {m_s : Nat → Int32} {m_past : Nat → Int32} {m_newBook : Nat → Int32} {m_book : Nat → Int32} {m_written : Int32} {m_mostBy : Nat → Int32} {m_stuffing : Nat → Int32} {m_stuffedMany : Int32} {m_lastBy : Nat → Int32} {m_leftBy : Nat → Int32} {m_seedNow : Int32} {m_image : Nat → Int32} {m_images : Int32} {n1 : Int32} {n2 : Int32} {n3 : Int32} {n4 : Int32} {r : Int64} {o_m_thrown : Int32} {o_m_refused : Nat → Int32} {o_m_splitBy : Nat → Int64} (C : Cx J Z cX10_pods 10 RX10 (some .long) rm_X10_pods) (E : Ez J Z 0 0 (some (.long r)) (cs_X10 J.2.2.1 a0 o_m_thrown o_m_refused m_taped m_size m_at m_bad m_badKind m_opens m_faultAt m_tape m_newBed m_newLetter m_newReader m_bed m_letter m_reader m_newBeds m_newLetters m_newReaders m_beds m_letters m_readers m_newCode m_newOf m_code m_ofCode m_stack m_newCodes m_codes m_facts m_newStep m_step m_newSteps m_works m_refusedSteps m_begun m_done m_refusedNow m_now m_s m_past m_newBook m_book m_written m_mostBy m_stuffing m_stuffedMany m_lastBy m_leftBy o_m_splitBy m_seedNow m_image m_images)) : ∀ (n : Nat) (x5 : Int64) (x7 : Int64) (x9 : Int32) (m_thrown : Int32) (m_refused : Nat → Int32) (m_splitBy : Nat → Int64), f_X10_pods_183 n1 n2 n3 n4 n x5 x7 x9 m_thrown m_refused m_splitBy = some (r, o_m_thrown, o_m_refused, o_m_splitBy) → G J Z 0 0 (cs_X10 J.2.2.1 a0 m_thrown m_refused m_taped m_size m_at m_bad m_badKind m_opens m_faultAt m_tape m_newBed m_newLetter m_newReader m_bed m_letter m_reader m_newBeds m_newLetters m_newReaders m_beds m_letters m_readers m_newCode m_newOf m_code m_ofCode m_stack m_newCodes m_codes m_facts m_newStep m_step m_newSteps m_works m_refusedSteps m_begun m_done m_refusedNow m_now m_s m_past m_newBook m_book m_written m_mostBy m_stuffing m_stuffedMany m_lastBy m_leftBy m_splitBy m_seedNow m_image m_images) 10 [(0, .ref (a0 0)), (4, .int n4), (5, .long x5), (7, .long x7), (9, .int x9)] 183 [] := by
  intro n
  induction n with
  | zero =>
    intro x5 x7 x9 m_thrown m_refused m_splitBy h
    rw [f_X10_pods_183] at h
    cases h
  | succ n ih =>
    intro x5 x7 x9 m_thrown m_refused m_splitBy h
    rw [f_X10_pods_183] at h
    refine g_iload (pc := 183) C 4 rfl dX10_pods_183 ?_
    refine g_bipush (pc := 185) C dX10_pods_185 cb_14 ?_
    refine g_icmp_ge (pc := 187) C (tgt := 208) dX10_pods_187 rfl h (fun h => ?_) (fun h => ?_)
    · refine g_lload (pc := 208) C 3 rfl dX10_pods_208 ?_
      refine g_lload (pc := 210) C 2 rfl dX10_pods_210 ?_
      refine g_iload (pc := 212) C 1 rfl dX10_pods_212 ?_
      obtain ⟨v1, hc, h⟩ := b1_of h
      refine g_callS (pc := 214) C (w' := cs_X10 J.2.2.1 a0 m_thrown m_refused m_taped m_size m_at m_bad m_badKind m_opens m_faultAt m_tape m_newBed m_newLetter m_newReader m_bed m_letter m_reader m_newBeds m_newLetters m_newReaders m_beds m_letters m_readers m_newCode m_newOf m_code m_ofCode m_stack m_newCodes m_codes m_facts m_newStep m_step m_newSteps m_works m_refusedSteps m_begun m_done m_refusedNow m_now m_s m_past m_newBook m_book m_written m_mostBy m_stuffing m_stuffedMany m_lastBy m_leftBy m_splitBy m_seedNow m_image m_images) (As := [.long x7, .long x5, .int n4]) (st := []) (t_X10_least hc) Sub.nil kw_1817 kw_1818 kw_95 hy_X10_least kw_1819 rfl (Nat.le_of_ble_eq_true rfl) (Nat.le_of_ble_eq_true rfl) (Nat.le_of_ble_eq_true rfl) (Nat.le_of_ble_eq_true rfl) (Nat.le_of_ble_eq_true rfl) dX10_pods_214 ?_
      cases h
      exact g_lret C E dX10_pods_217
    · refine g_lload (pc := 190) C 3 rfl dX10_pods_190 ?_
      refine g_aload_n (pc := 192) C 0 rfl dX10_pods_192 ?_
      refine g_get (pc := 193) C FOK_X10 0 rfl rfl 49 (by decide) kw_1326 rfl dX10_pods_193 ?_
      refine g_iload (pc := 196) C 4 rfl dX10_pods_196 ?_
      obtain ⟨hi, h⟩ := ix_of h
      refine g_lald (pc := 198) C 26 rfl hi dX10_pods_198 ?_
      refine g_ladd (pc := 199) C dX10_pods_199 ?_
      refine g_lstore (pc := 200) C [(7, .long (x7 + (m_splitBy x9.toNatClampNeg))), (0, .ref (a0 0)), (4, .int n4), (5, .long x5), (9, .int x9)] dX10_pods_200 (by decide) rfl ?_
      refine g_iinc (pc := 202) C (j := 4) [(9, .int (x9 + 1)), (7, .long (x7 + (m_splitBy x9.toNatClampNeg))), (0, .ref (a0 0)), (4, .int n4), (5, .long x5)] dX10_pods_202 rfl (ii_1 _) (by decide) rfl ?_
      refine g_goto (pc := 205) C (tgt := 183) dX10_pods_205 rfl ?_
      refine g_lv [2, 3, 4, 1, 0] rfl ?_
      exact ih x5 (x7 + (m_splitBy x9.toNatClampNeg)) (x9 + 1) m_thrown m_refused m_splitBy h
set_option maxRecDepth 100000 in
set_option maxHeartbeats 4000000 in
theorem j_X10_pods_110 {J : Jt} {Z : Zt} {a0 : Nat → Nat} {m_taped : Int32} {m_size : Int32} {m_at : Int32} {m_bad : Int32} {m_badKind : Int32} {m_opens : Int32} {m_faultAt : Int32} {m_tape : Nat → Int32} {m_newBed : Nat → Int32} {m_newLetter : Nat → Int32} {m_newReader : Nat → Int32} {m_bed : Nat → Int32} {m_letter : Nat → Int32} {m_reader : Nat → Int32} {m_newBeds : Int32} {m_newLetters : Int32} {m_newReaders : Int32} {m_beds : Int32} {m_letters : Int32} {m_readers : Int32} {m_newCode : Nat → Int32} {m_newOf : Nat → Int32} {m_code : Nat → Int32} {m_ofCode : Nat → Int32} {m_stack : Nat → Int32} {m_newCodes : Int32} {m_codes : Int32} {m_facts : Nat → Int32} {m_newStep : Nat → Int32} {m_step : Nat → Int32} {m_newSteps : Int32} {m_works : Int32} {m_refusedSteps : Int32} {m_begun : Int32} {m_done : Int32} {m_refusedNow : Int32} {m_now : Nat → Int32} {m_s : Nat → Int32} {m_past : Nat → Int32} {m_newBook : Nat → Int32} {m_book : Nat → Int32} {m_written : Int32} {m_mostBy : Nat → Int32} {m_stuffing : Nat → Int32} {m_stuffedMany : Int32} {m_lastBy : Nat → Int32} {m_leftBy : Nat → Int32} {m_seedNow : Int32} {m_image : Nat → Int32} {m_images : Int32} {n1 : Int32} {n2 : Int32} {n3 : Int32} {n4 : Int32} {r : Int64} {o_m_thrown : Int32} {o_m_refused : Nat → Int32} {o_m_splitBy : Nat → Int64} {k100 : Int64 → Int32 → Int32 → (Nat → Int32) → (Nat → Int64) → Option (Int64 × Int32 × (Nat → Int32) × (Nat → Int64))} (C : Cx J Z cX10_pods 10 RX10 (some .long) rm_X10_pods) (E : Ez J Z 0 0 (some (.long r)) (cs_X10 J.2.2.1 a0 o_m_thrown o_m_refused m_taped m_size m_at m_bad m_badKind m_opens m_faultAt m_tape m_newBed m_newLetter m_newReader m_bed m_letter m_reader m_newBeds m_newLetters m_newReaders m_beds m_letters m_readers m_newCode m_newOf m_code m_ofCode m_stack m_newCodes m_codes m_facts m_newStep m_step m_newSteps m_works m_refusedSteps m_begun m_done m_refusedNow m_now m_s m_past m_newBook m_book m_written m_mostBy m_stuffing m_stuffedMany m_lastBy m_leftBy o_m_splitBy m_seedNow m_image m_images)) (hk100 : ∀ (x5 : Int64) (x7 : Int32) (m_thrown : Int32) (m_refused : Nat → Int32) (m_splitBy : Nat → Int64), k100 x5 x7 m_thrown m_refused m_splitBy = some (r, o_m_thrown, o_m_refused, o_m_splitBy) → G J Z 0 0 (cs_X10 J.2.2.1 a0 m_thrown m_refused m_taped m_size m_at m_bad m_badKind m_opens m_faultAt m_tape m_newBed m_newLetter m_newReader m_bed m_letter m_reader m_newBeds m_newLetters m_newReaders m_beds m_letters m_readers m_newCode m_newOf m_code m_ofCode m_stack m_newCodes m_codes m_facts m_newStep m_step m_newSteps m_works m_refusedSteps m_begun m_done m_refusedNow m_now m_s m_past m_newBook m_book m_written m_mostBy m_stuffing m_stuffedMany m_lastBy m_leftBy m_splitBy m_seedNow m_image m_images) 10 [(0, .ref (a0 0)), (1, .int n1), (2, .int n2), (3, .int n3), (4, .int n4), (5, .long x5), (7, .int x7)] 100 []) : ∀ (n : Nat) (x5 : Int64) (x7 : Int32) (x8 : Int32) (m_thrown : Int32) (m_refused : Nat → Int32) (m_splitBy : Nat → Int64), f_X10_pods_110 n1 n2 n3 n4 k100 n x5 x7 x8 m_thrown m_refused m_splitBy = some (r, o_m_thrown, o_m_refused, o_m_splitBy) → G J Z 0 0 (cs_X10 J.2.2.1 a0 m_thrown m_refused m_taped m_size m_at m_bad m_badKind m_opens m_faultAt m_tape m_newBed m_newLetter m_newReader m_bed m_letter m_reader m_newBeds m_newLetters m_newReaders m_beds m_letters m_readers m_newCode m_newOf m_code m_ofCode m_stack m_newCodes m_codes m_facts m_newStep m_step m_newSteps m_works m_refusedSteps m_begun m_done m_refusedNow m_now m_s m_past m_newBook m_book m_written m_mostBy m_stuffing m_stuffedMany m_lastBy m_leftBy m_splitBy m_seedNow m_image m_images) 10 [(0, .ref (a0 0)), (1, .int n1), (2, .int n2), (3, .int n3), (4, .int n4), (5, .long x5), (7, .int x7), (8, .int x8)] 110 [] := by
  intro n
  induction n with
  | zero =>
    intro x5 x7 x8 m_thrown m_refused m_splitBy h
    rw [f_X10_pods_110] at h
    cases h
  | succ n ih =>
    intro x5 x7 x8 m_thrown m_refused m_splitBy h
    rw [f_X10_pods_110] at h
    refine g_iload (pc := 110) C 7 rfl dX10_pods_110 ?_
    refine g_if_lt (pc := 112) C (tgt := 163) dX10_pods_112 rfl h (fun h => ?_) (fun h => ?_)
    · refine g_lload (pc := 163) C 5 rfl dX10_pods_163 ?_
      refine g_ldc2 (pc := 165) C dX10_pods_165 kw_1816 ?_
      refine g_lmul (pc := 168) C dX10_pods_168 ?_
      refine g_lstore (pc := 169) C [(5, .long (x5 * 16)), (0, .ref (a0 0)), (1, .int n1), (2, .int n2), (3, .int n3), (4, .int n4), (7, .int x7), (8, .int x8)] dX10_pods_169 (by decide) rfl ?_
      refine g_iinc (pc := 171) C (j := 6) [(7, .int (x7 + 1)), (5, .long (x5 * 16)), (0, .ref (a0 0)), (1, .int n1), (2, .int n2), (3, .int n3), (4, .int n4), (8, .int x8)] dX10_pods_171 rfl (ii_1 _) (by decide) rfl ?_
      refine g_goto (pc := 174) C (tgt := 100) dX10_pods_174 rfl ?_
      refine g_lv [2, 3, 4, 5, 6, 1, 0] rfl ?_
      exact hk100 (x5 * 16) (x7 + 1) m_thrown m_refused m_splitBy h
    · refine g_aload_n (pc := 115) C 0 rfl dX10_pods_115 ?_
      refine g_get (pc := 116) C FOK_X10 0 rfl rfl 49 (by decide) kw_1326 rfl dX10_pods_116 ?_
      refine g_iload (pc := 119) C 7 rfl dX10_pods_119 ?_
      refine g_aload_n (pc := 121) C 0 rfl dX10_pods_121 ?_
      refine g_get (pc := 122) C FOK_X10 0 rfl rfl 49 (by decide) kw_1326 rfl dX10_pods_122 ?_
      refine g_iload (pc := 125) C 7 rfl dX10_pods_125 ?_
      obtain ⟨hi, h⟩ := ix_of h
      refine g_lald (pc := 127) C 26 rfl hi dX10_pods_127 ?_
      refine g_bipush (pc := 128) C dX10_pods_128 cb_16 ?_
      refine g_iload_n (pc := 130) C 3 rfl dX10_pods_130 ?_
      refine g_isub (pc := 131) C dX10_pods_131 ?_
      refine g_i2l (pc := 132) C dX10_pods_132 ?_
      refine g_lmul (pc := 133) C dX10_pods_133 ?_
      refine g_iload (pc := 134) C 7 rfl dX10_pods_134 ?_
      refine g_if_le (pc := 136) C (tgt := 154) dX10_pods_136 rfl h (fun h => ?_) (fun h => ?_)
      · refine g_lconst (pc := 154) C (v := 0) dX10_pods_154 (by decide) ?_
        refine g_ladd (pc := 155) C dX10_pods_155 ?_
        obtain ⟨hi, h⟩ := ix_of h
        refine g_last (pc := 156) C (w' := cs_X10 J.2.2.1 a0 m_thrown m_refused m_taped m_size m_at m_bad m_badKind m_opens m_faultAt m_tape m_newBed m_newLetter m_newReader m_bed m_letter m_reader m_newBeds m_newLetters m_newReaders m_beds m_letters m_readers m_newCode m_newOf m_code m_ofCode m_stack m_newCodes m_codes m_facts m_newStep m_step m_newSteps m_works m_refusedSteps m_begun m_done m_refusedNow m_now m_s m_past m_newBook m_book m_written m_mostBy m_stuffing m_stuffedMany m_lastBy m_leftBy (vp_updL m_splitBy x8.toNatClampNeg (((m_splitBy x8.toNatClampNeg) * ((16 - n3).toInt64)) + 0)) m_seedNow m_image m_images) 26 rfl hi dX10_pods_156 rfl ?_
        refine g_iinc (pc := 157) C (j := 7) [(8, .int (x8 + (-1))), (0, .ref (a0 0)), (1, .int n1), (2, .int n2), (3, .int n3), (4, .int n4), (5, .long x5), (7, .int x7)] dX10_pods_157 rfl (ii_m1 _) (by decide) rfl ?_
        refine g_goto (pc := 160) C (tgt := 110) dX10_pods_160 rfl ?_
        refine g_lv [1, 2, 3, 4, 5, 6, 7, 0] rfl ?_
        exact ih x5 x7 (x8 + (-1)) m_thrown m_refused (vp_updL m_splitBy x8.toNatClampNeg (((m_splitBy x8.toNatClampNeg) * ((16 - n3).toInt64)) + 0)) h
      · refine g_aload_n (pc := 139) C 0 rfl dX10_pods_139 ?_
        refine g_get (pc := 140) C FOK_X10 0 rfl rfl 49 (by decide) kw_1326 rfl dX10_pods_140 ?_
        refine g_iload (pc := 143) C 7 rfl dX10_pods_143 ?_
        refine g_iconst (pc := 145) C dX10_pods_145 ci_1 ?_
        refine g_isub (pc := 146) C dX10_pods_146 ?_
        obtain ⟨hi, h⟩ := ix_of h
        refine g_lald (pc := 147) C 26 rfl hi dX10_pods_147 ?_
        refine g_iload_n (pc := 148) C 3 rfl dX10_pods_148 ?_
        refine g_i2l (pc := 149) C dX10_pods_149 ?_
        refine g_lmul (pc := 150) C dX10_pods_150 ?_
        refine g_goto (pc := 151) C (tgt := 155) dX10_pods_151 rfl ?_
        refine g_ladd (pc := 155) C dX10_pods_155 ?_
        obtain ⟨hi, h⟩ := ix_of h
        refine g_last (pc := 156) C (w' := cs_X10 J.2.2.1 a0 m_thrown m_refused m_taped m_size m_at m_bad m_badKind m_opens m_faultAt m_tape m_newBed m_newLetter m_newReader m_bed m_letter m_reader m_newBeds m_newLetters m_newReaders m_beds m_letters m_readers m_newCode m_newOf m_code m_ofCode m_stack m_newCodes m_codes m_facts m_newStep m_step m_newSteps m_works m_refusedSteps m_begun m_done m_refusedNow m_now m_s m_past m_newBook m_book m_written m_mostBy m_stuffing m_stuffedMany m_lastBy m_leftBy (vp_updL m_splitBy x8.toNatClampNeg (((m_splitBy x8.toNatClampNeg) * ((16 - n3).toInt64)) + ((m_splitBy (x8 - 1).toNatClampNeg) * n3.toInt64))) m_seedNow m_image m_images) 26 rfl hi dX10_pods_156 rfl ?_
        refine g_iinc (pc := 157) C (j := 7) [(8, .int (x8 + (-1))), (0, .ref (a0 0)), (1, .int n1), (2, .int n2), (3, .int n3), (4, .int n4), (5, .long x5), (7, .int x7)] dX10_pods_157 rfl (ii_m1 _) (by decide) rfl ?_
        refine g_goto (pc := 160) C (tgt := 110) dX10_pods_160 rfl ?_
        refine g_lv [1, 2, 3, 4, 5, 6, 7, 0] rfl ?_
        exact ih x5 x7 (x8 + (-1)) m_thrown m_refused (vp_updL m_splitBy x8.toNatClampNeg (((m_splitBy x8.toNatClampNeg) * ((16 - n3).toInt64)) + ((m_splitBy (x8 - 1).toNatClampNeg) * n3.toInt64))) h
set_option maxRecDepth 100000 in
set_option maxHeartbeats 4000000 in
theorem j_X10_pods_100 {J : Jt} {Z : Zt} {a0 : Nat → Nat} {m_taped : Int32} {m_size : Int32} {m_at : Int32} {m_bad : Int32} {m_badKind : Int32} {m_opens : Int32} {m_faultAt : Int32} {m_tape : Nat → Int32} {m_newBed : Nat → Int32} {m_newLetter : Nat → Int32} {m_newReader : Nat → Int32} {m_bed : Nat → Int32} {m_letter : Nat → Int32} {m_reader : Nat → Int32} {m_newBeds : Int32} {m_newLetters : Int32} {m_newReaders : Int32} {m_beds : Int32} {m_letters : Int32} {m_readers : Int32} {m_newCode : Nat → Int32} {m_newOf : Nat → Int32} {m_code : Nat → Int32} {m_ofCode : Nat → Int32} {m_stack : Nat → Int32} {m_newCodes : Int32} {m_codes : Int32} {m_facts : Nat → Int32} {m_newStep : Nat → Int32} {m_step : Nat → Int32} {m_newSteps : Int32} {m_works : Int32} {m_refusedSteps : Int32} {m_begun : Int32} {m_done : Int32} {m_refusedNow : Int32} {m_now : Nat → Int32} {m_s : Nat → Int32} {m_past : Nat → Int32} {m_newBook : Nat → Int32} {m_book : Nat → Int32} {m_written : Int32} {m_mostBy : Nat → Int32} {m_stuffing : Nat → Int32} {m_stuffedMany : Int32} {m_lastBy : Nat → Int32} {m_leftBy : Nat → Int32} {m_seedNow : Int32} {m_image : Nat → Int32} {m_images : Int32} {n1 : Int32} {n2 : Int32} {n3 : Int32} {n4 : Int32} {r : Int64} {o_m_thrown : Int32} {o_m_refused : Nat → Int32} {o_m_splitBy : Nat → Int64} (C : Cx J Z cX10_pods 10 RX10 (some .long) rm_X10_pods) (E : Ez J Z 0 0 (some (.long r)) (cs_X10 J.2.2.1 a0 o_m_thrown o_m_refused m_taped m_size m_at m_bad m_badKind m_opens m_faultAt m_tape m_newBed m_newLetter m_newReader m_bed m_letter m_reader m_newBeds m_newLetters m_newReaders m_beds m_letters m_readers m_newCode m_newOf m_code m_ofCode m_stack m_newCodes m_codes m_facts m_newStep m_step m_newSteps m_works m_refusedSteps m_begun m_done m_refusedNow m_now m_s m_past m_newBook m_book m_written m_mostBy m_stuffing m_stuffedMany m_lastBy m_leftBy o_m_splitBy m_seedNow m_image m_images)) : ∀ (n : Nat) (x5 : Int64) (x7 : Int32) (m_thrown : Int32) (m_refused : Nat → Int32) (m_splitBy : Nat → Int64), f_X10_pods_100 n1 n2 n3 n4 n x5 x7 m_thrown m_refused m_splitBy = some (r, o_m_thrown, o_m_refused, o_m_splitBy) → G J Z 0 0 (cs_X10 J.2.2.1 a0 m_thrown m_refused m_taped m_size m_at m_bad m_badKind m_opens m_faultAt m_tape m_newBed m_newLetter m_newReader m_bed m_letter m_reader m_newBeds m_newLetters m_newReaders m_beds m_letters m_readers m_newCode m_newOf m_code m_ofCode m_stack m_newCodes m_codes m_facts m_newStep m_step m_newSteps m_works m_refusedSteps m_begun m_done m_refusedNow m_now m_s m_past m_newBook m_book m_written m_mostBy m_stuffing m_stuffedMany m_lastBy m_leftBy m_splitBy m_seedNow m_image m_images) 10 [(0, .ref (a0 0)), (1, .int n1), (2, .int n2), (3, .int n3), (4, .int n4), (5, .long x5), (7, .int x7)] 100 [] := by
  intro n
  induction n with
  | zero =>
    intro x5 x7 m_thrown m_refused m_splitBy h
    rw [f_X10_pods_100] at h
    cases h
  | succ n ih =>
    intro x5 x7 m_thrown m_refused m_splitBy h
    rw [f_X10_pods_100] at h
    refine g_iload (pc := 100) C 6 rfl dX10_pods_100 ?_
    refine g_iload_n (pc := 102) C 1 rfl dX10_pods_102 ?_
    refine g_icmp_ge (pc := 103) C (tgt := 177) dX10_pods_103 rfl h (fun h => ?_) (fun h => ?_)
    · refine g_lconst (pc := 177) C (v := 0) dX10_pods_177 (by decide) ?_
      refine g_lstore (pc := 178) C [(7, .long 0), (0, .ref (a0 0)), (1, .int n1), (2, .int n2), (3, .int n3), (4, .int n4), (5, .long x5)] dX10_pods_178 (by decide) rfl ?_
      refine g_iload_n (pc := 180) C 3 rfl dX10_pods_180 ?_
      refine g_istore (pc := 181) C [(9, .int n2), (7, .long 0), (0, .ref (a0 0)), (1, .int n1), (2, .int n2), (3, .int n3), (4, .int n4), (5, .long x5)] dX10_pods_181 (by decide) rfl ?_
      refine g_lv [2, 6, 7, 1, 0] rfl ?_
      exact j_X10_pods_183 C E    FU x5 0 n2 m_thrown m_refused m_splitBy h
    · refine g_bipush (pc := 106) C dX10_pods_106 cb_13 ?_
      refine g_istore (pc := 108) C [(8, .int 13), (0, .ref (a0 0)), (1, .int n1), (2, .int n2), (3, .int n3), (4, .int n4), (5, .long x5), (7, .int x7)] dX10_pods_108 (by decide) rfl ?_
      refine g_lv [1, 2, 3, 4, 5, 6, 7, 0] rfl ?_
      exact j_X10_pods_110 C E   ih FU x5 x7 13 m_thrown m_refused m_splitBy h
set_option maxRecDepth 100000 in
set_option maxHeartbeats 4000000 in
theorem j_X10_pods_64 {J : Jt} {Z : Zt} {a0 : Nat → Nat} {m_taped : Int32} {m_size : Int32} {m_at : Int32} {m_bad : Int32} {m_badKind : Int32} {m_opens : Int32} {m_faultAt : Int32} {m_tape : Nat → Int32} {m_newBed : Nat → Int32} {m_newLetter : Nat → Int32} {m_newReader : Nat → Int32} {m_bed : Nat → Int32} {m_letter : Nat → Int32} {m_reader : Nat → Int32} {m_newBeds : Int32} {m_newLetters : Int32} {m_newReaders : Int32} {m_beds : Int32} {m_letters : Int32} {m_readers : Int32} {m_newCode : Nat → Int32} {m_newOf : Nat → Int32} {m_code : Nat → Int32} {m_ofCode : Nat → Int32} {m_stack : Nat → Int32} {m_newCodes : Int32} {m_codes : Int32} {m_facts : Nat → Int32} {m_newStep : Nat → Int32} {m_step : Nat → Int32} {m_newSteps : Int32} {m_works : Int32} {m_refusedSteps : Int32} {m_begun : Int32} {m_done : Int32} {m_refusedNow : Int32} {m_now : Nat → Int32} {m_s : Nat → Int32} {m_past : Nat → Int32} {m_newBook : Nat → Int32} {m_book : Nat → Int32} {m_written : Int32} {m_mostBy : Nat → Int32} {m_stuffing : Nat → Int32} {m_stuffedMany : Int32} {m_lastBy : Nat → Int32} {m_leftBy : Nat → Int32} {m_seedNow : Int32} {m_image : Nat → Int32} {m_images : Int32} {n1 : Int32} {n2 : Int32} {n3 : Int32} {n4 : Int32} {r : Int64} {o_m_thrown : Int32} {o_m_refused : Nat → Int32} {o_m_splitBy : Nat → Int64} (C : Cx J Z cX10_pods 10 RX10 (some .long) rm_X10_pods) (E : Ez J Z 0 0 (some (.long r)) (cs_X10 J.2.2.1 a0 o_m_thrown o_m_refused m_taped m_size m_at m_bad m_badKind m_opens m_faultAt m_tape m_newBed m_newLetter m_newReader m_bed m_letter m_reader m_newBeds m_newLetters m_newReaders m_beds m_letters m_readers m_newCode m_newOf m_code m_ofCode m_stack m_newCodes m_codes m_facts m_newStep m_step m_newSteps m_works m_refusedSteps m_begun m_done m_refusedNow m_now m_s m_past m_newBook m_book m_written m_mostBy m_stuffing m_stuffedMany m_lastBy m_leftBy o_m_splitBy m_seedNow m_image m_images)) : ∀ (n : Nat) (x5 : Int32) (m_thrown : Int32) (m_refused : Nat → Int32) (m_splitBy : Nat → Int64), f_X10_pods_64 n1 n2 n3 n4 n x5 m_thrown m_refused m_splitBy = some (r, o_m_thrown, o_m_refused, o_m_splitBy) → G J Z 0 0 (cs_X10 J.2.2.1 a0 m_thrown m_refused m_taped m_size m_at m_bad m_badKind m_opens m_faultAt m_tape m_newBed m_newLetter m_newReader m_bed m_letter m_reader m_newBeds m_newLetters m_newReaders m_beds m_letters m_readers m_newCode m_newOf m_code m_ofCode m_stack m_newCodes m_codes m_facts m_newStep m_step m_newSteps m_works m_refusedSteps m_begun m_done m_refusedNow m_now m_s m_past m_newBook m_book m_written m_mostBy m_stuffing m_stuffedMany m_lastBy m_leftBy m_splitBy m_seedNow m_image m_images) 10 [(0, .ref (a0 0)), (1, .int n1), (2, .int n2), (3, .int n3), (4, .int n4), (5, .int x5)] 64 [] := by
  intro n
  induction n with
  | zero =>
    intro x5 m_thrown m_refused m_splitBy h
    rw [f_X10_pods_64] at h
    cases h
  | succ n ih =>
    intro x5 m_thrown m_refused m_splitBy h
    rw [f_X10_pods_64] at h
    refine g_iload (pc := 64) C 5 rfl dX10_pods_64 ?_
    refine g_bipush (pc := 66) C dX10_pods_66 cb_14 ?_
    refine g_icmp_ge (pc := 68) C (tgt := 94) dX10_pods_68 rfl h (fun h => ?_) (fun h => ?_)
    · refine g_lconst (pc := 94) C (v := 1) dX10_pods_94 (by decide) ?_
      refine g_lstore (pc := 95) C [(5, .long 1), (0, .ref (a0 0)), (1, .int n1), (2, .int n2), (3, .int n3), (4, .int n4)] dX10_pods_95 (by decide) rfl ?_
      refine g_iconst (pc := 97) C dX10_pods_97 ci_0 ?_
      refine g_istore (pc := 98) C [(7, .int 0), (5, .long 1), (0, .ref (a0 0)), (1, .int n1), (2, .int n2), (3, .int n3), (4, .int n4)] dX10_pods_98 (by decide) rfl ?_
      refine g_lv [2, 3, 4, 5, 6, 1, 0] rfl ?_
      exact j_X10_pods_100 C E    FU 1 0 m_thrown m_refused m_splitBy h
    · refine g_aload_n (pc := 71) C 0 rfl dX10_pods_71 ?_
      refine g_get (pc := 72) C FOK_X10 0 rfl rfl 49 (by decide) kw_1326 rfl dX10_pods_72 ?_
      refine g_iload (pc := 75) C 5 rfl dX10_pods_75 ?_
      refine g_iload (pc := 77) C 5 rfl dX10_pods_77 ?_
      refine g_if_ne (pc := 79) C (tgt := 86) dX10_pods_79 rfl h (fun h => ?_) (fun h => ?_)
      · refine g_lconst (pc := 86) C (v := 0) dX10_pods_86 (by decide) ?_
        obtain ⟨hi, h⟩ := ix_of h
        refine g_last (pc := 87) C (w' := cs_X10 J.2.2.1 a0 m_thrown m_refused m_taped m_size m_at m_bad m_badKind m_opens m_faultAt m_tape m_newBed m_newLetter m_newReader m_bed m_letter m_reader m_newBeds m_newLetters m_newReaders m_beds m_letters m_readers m_newCode m_newOf m_code m_ofCode m_stack m_newCodes m_codes m_facts m_newStep m_step m_newSteps m_works m_refusedSteps m_begun m_done m_refusedNow m_now m_s m_past m_newBook m_book m_written m_mostBy m_stuffing m_stuffedMany m_lastBy m_leftBy (vp_updL m_splitBy x5.toNatClampNeg 0) m_seedNow m_image m_images) 26 rfl hi dX10_pods_87 rfl ?_
        refine g_iinc (pc := 88) C (j := 5) [(5, .int (x5 + 1)), (0, .ref (a0 0)), (1, .int n1), (2, .int n2), (3, .int n3), (4, .int n4)] dX10_pods_88 rfl (ii_1 _) (by decide) rfl ?_
        refine g_goto (pc := 91) C (tgt := 64) dX10_pods_91 rfl ?_
        refine g_lv [1, 2, 3, 4, 5, 0] rfl ?_
        exact ih (x5 + 1) m_thrown m_refused (vp_updL m_splitBy x5.toNatClampNeg 0) h
      · refine g_lconst (pc := 82) C (v := 1) dX10_pods_82 (by decide) ?_
        refine g_goto (pc := 83) C (tgt := 87) dX10_pods_83 rfl ?_
        obtain ⟨hi, h⟩ := ix_of h
        refine g_last (pc := 87) C (w' := cs_X10 J.2.2.1 a0 m_thrown m_refused m_taped m_size m_at m_bad m_badKind m_opens m_faultAt m_tape m_newBed m_newLetter m_newReader m_bed m_letter m_reader m_newBeds m_newLetters m_newReaders m_beds m_letters m_readers m_newCode m_newOf m_code m_ofCode m_stack m_newCodes m_codes m_facts m_newStep m_step m_newSteps m_works m_refusedSteps m_begun m_done m_refusedNow m_now m_s m_past m_newBook m_book m_written m_mostBy m_stuffing m_stuffedMany m_lastBy m_leftBy (vp_updL m_splitBy x5.toNatClampNeg 1) m_seedNow m_image m_images) 26 rfl hi dX10_pods_87 rfl ?_
        refine g_iinc (pc := 88) C (j := 5) [(5, .int (x5 + 1)), (0, .ref (a0 0)), (1, .int n1), (2, .int n2), (3, .int n3), (4, .int n4)] dX10_pods_88 rfl (ii_1 _) (by decide) rfl ?_
        refine g_goto (pc := 91) C (tgt := 64) dX10_pods_91 rfl ?_
        refine g_lv [1, 2, 3, 4, 5, 0] rfl ?_
        exact ih (x5 + 1) m_thrown m_refused (vp_updL m_splitBy x5.toNatClampNeg 1) h
set_option maxRecDepth 100000 in
set_option maxHeartbeats 4000000 in
theorem j_X10_pods_51 {J : Jt} {Z : Zt} {a0 : Nat → Nat} {m_taped : Int32} {m_size : Int32} {m_at : Int32} {m_bad : Int32} {m_badKind : Int32} {m_opens : Int32} {m_faultAt : Int32} {m_tape : Nat → Int32} {m_newBed : Nat → Int32} {m_newLetter : Nat → Int32} {m_newReader : Nat → Int32} {m_bed : Nat → Int32} {m_letter : Nat → Int32} {m_reader : Nat → Int32} {m_newBeds : Int32} {m_newLetters : Int32} {m_newReaders : Int32} {m_beds : Int32} {m_letters : Int32} {m_readers : Int32} {m_newCode : Nat → Int32} {m_newOf : Nat → Int32} {m_code : Nat → Int32} {m_ofCode : Nat → Int32} {m_stack : Nat → Int32} {m_newCodes : Int32} {m_codes : Int32} {m_facts : Nat → Int32} {m_newStep : Nat → Int32} {m_step : Nat → Int32} {m_newSteps : Int32} {m_works : Int32} {m_refusedSteps : Int32} {m_begun : Int32} {m_done : Int32} {m_refusedNow : Int32} {m_now : Nat → Int32} {m_s : Nat → Int32} {m_past : Nat → Int32} {m_newBook : Nat → Int32} {m_book : Nat → Int32} {m_written : Int32} {m_mostBy : Nat → Int32} {m_stuffing : Nat → Int32} {m_stuffedMany : Int32} {m_lastBy : Nat → Int32} {m_leftBy : Nat → Int32} {m_seedNow : Int32} {m_image : Nat → Int32} {m_images : Int32} {n1 : Int32} {n2 : Int32} {n3 : Int32} {n4 : Int32} {r : Int64} {o_m_thrown : Int32} {o_m_refused : Nat → Int32} {o_m_splitBy : Nat → Int64} (C : Cx J Z cX10_pods 10 RX10 (some .long) rm_X10_pods) (E : Ez J Z 0 0 (some (.long r)) (cs_X10 J.2.2.1 a0 o_m_thrown o_m_refused m_taped m_size m_at m_bad m_badKind m_opens m_faultAt m_tape m_newBed m_newLetter m_newReader m_bed m_letter m_reader m_newBeds m_newLetters m_newReaders m_beds m_letters m_readers m_newCode m_newOf m_code m_ofCode m_stack m_newCodes m_codes m_facts m_newStep m_step m_newSteps m_works m_refusedSteps m_begun m_done m_refusedNow m_now m_s m_past m_newBook m_book m_written m_mostBy m_stuffing m_stuffedMany m_lastBy m_leftBy o_m_splitBy m_seedNow m_image m_images)) : ∀ (y1 : Int32) (m_thrown : Int32) (m_refused : Nat → Int32) (m_splitBy : Nat → Int64), f_X10_pods_51 n1 n2 n3 n4 y1 m_thrown m_refused m_splitBy = some (r, o_m_thrown, o_m_refused, o_m_splitBy) → G J Z 0 0 (cs_X10 J.2.2.1 a0 m_thrown m_refused m_taped m_size m_at m_bad m_badKind m_opens m_faultAt m_tape m_newBed m_newLetter m_newReader m_bed m_letter m_reader m_newBeds m_newLetters m_newReaders m_beds m_letters m_readers m_newCode m_newOf m_code m_ofCode m_stack m_newCodes m_codes m_facts m_newStep m_step m_newSteps m_works m_refusedSteps m_begun m_done m_refusedNow m_now m_s m_past m_newBook m_book m_written m_mostBy m_stuffing m_stuffedMany m_lastBy m_leftBy m_splitBy m_seedNow m_image m_images) 10 [(0, .ref (a0 0)), (1, .int n1), (2, .int n2), (3, .int n3), (4, .int n4)] 51 [.int y1, .ref (a0 0)] := by
  intro y1 m_thrown m_refused m_splitBy h
  unfold f_X10_pods_51 at h
  refine g_iconst (pc := 51) C dX10_pods_51 ci_1 ?_
  refine g_iconst (pc := 52) C dX10_pods_52 ci_1 ?_
  obtain ⟨v2, c3, c4, hc, h⟩ := b3_of h
  refine g_callV (pc := 53) C (w' := cs_X10 J.2.2.1 a0 c3 c4 m_taped m_size m_at m_bad m_badKind m_opens m_faultAt m_tape m_newBed m_newLetter m_newReader m_bed m_letter m_reader m_newBeds m_newLetters m_newReaders m_beds m_letters m_readers m_newCode m_newOf m_code m_ofCode m_stack m_newCodes m_codes m_facts m_newStep m_step m_newSteps m_works m_refusedSteps m_begun m_done m_refusedNow m_now m_s m_past m_newBook m_book m_written m_mostBy m_stuffing m_stuffedMany m_lastBy m_leftBy m_splitBy m_seedNow m_image m_images) (As := [.int y1, .int 1, .int 1]) (st := []) (ci := 10) (q0 := 0) rfl rfl (t_X10_may (a0 := a0) hc) Sub.same kw_1450 kw_1452 kw_20 kw_95 hy_X10_may kw_1453 rfl (Nat.le_of_ble_eq_true rfl) (Nat.le_of_ble_eq_true rfl) (Nat.le_of_ble_eq_true rfl) (Nat.le_of_ble_eq_true rfl) (Nat.le_of_ble_eq_true rfl) dX10_pods_53 ?_
  refine g_if_ne (pc := 56) C (tgt := 61) dX10_pods_56 rfl h (fun h => ?_) (fun h => ?_)
  · refine g_iconst (pc := 61) C dX10_pods_61 ci_0 ?_
    refine g_istore (pc := 62) C [(5, .int 0), (0, .ref (a0 0)), (1, .int n1), (2, .int n2), (3, .int n3), (4, .int n4)] dX10_pods_62 (by decide) rfl ?_
    refine g_lv [1, 2, 3, 4, 5, 0] rfl ?_
    exact j_X10_pods_64 C E    FU 0 c3 c4 m_splitBy h
  · refine g_lconst (pc := 59) C (v := 0) dX10_pods_59 (by decide) ?_
    cases h
    exact g_lret C E dX10_pods_60
set_option maxRecDepth 100000 in
set_option maxHeartbeats 4000000 in
theorem t_X10_pods {J : Jt} {a0 : Nat → Nat} {m_thrown : Int32} {m_refused : Nat → Int32} {m_taped : Int32} {m_size : Int32} {m_at : Int32} {m_bad : Int32} {m_badKind : Int32} {m_opens : Int32} {m_faultAt : Int32} {m_tape : Nat → Int32} {m_newBed : Nat → Int32} {m_newLetter : Nat → Int32} {m_newReader : Nat → Int32} {m_bed : Nat → Int32} {m_letter : Nat → Int32} {m_reader : Nat → Int32} {m_newBeds : Int32} {m_newLetters : Int32} {m_newReaders : Int32} {m_beds : Int32} {m_letters : Int32} {m_readers : Int32} {m_newCode : Nat → Int32} {m_newOf : Nat → Int32} {m_code : Nat → Int32} {m_ofCode : Nat → Int32} {m_stack : Nat → Int32} {m_newCodes : Int32} {m_codes : Int32} {m_facts : Nat → Int32} {m_newStep : Nat → Int32} {m_step : Nat → Int32} {m_newSteps : Int32} {m_works : Int32} {m_refusedSteps : Int32} {m_begun : Int32} {m_done : Int32} {m_refusedNow : Int32} {m_now : Nat → Int32} {m_s : Nat → Int32} {m_past : Nat → Int32} {m_newBook : Nat → Int32} {m_book : Nat → Int32} {m_written : Int32} {m_mostBy : Nat → Int32} {m_stuffing : Nat → Int32} {m_stuffedMany : Int32} {m_lastBy : Nat → Int32} {m_leftBy : Nat → Int32} {m_splitBy : Nat → Int64} {m_seedNow : Int32} {m_image : Nat → Int32} {m_images : Int32} {n1 : Int32} {n2 : Int32} {n3 : Int32} {n4 : Int32} {r : Int64} {o_m_thrown : Int32} {o_m_refused : Nat → Int32} {o_m_splitBy : Nat → Int64} (h : f_X10_pods m_thrown m_refused m_splitBy n1 n2 n3 n4 = some (r, o_m_thrown, o_m_refused, o_m_splitBy)) : Mt J yX10_pods cX10_pods 10 (some .long) rm_X10_pods [.ref (a0 0), .int n1, .int n2, .int n3, .int n4] (cs_X10 J.2.2.1 a0 m_thrown m_refused m_taped m_size m_at m_bad m_badKind m_opens m_faultAt m_tape m_newBed m_newLetter m_newReader m_bed m_letter m_reader m_newBeds m_newLetters m_newReaders m_beds m_letters m_readers m_newCode m_newOf m_code m_ofCode m_stack m_newCodes m_codes m_facts m_newStep m_step m_newSteps m_works m_refusedSteps m_begun m_done m_refusedNow m_now m_s m_past m_newBook m_book m_written m_mostBy m_stuffing m_stuffedMany m_lastBy m_leftBy m_splitBy m_seedNow m_image m_images) (some (.long r)) (cs_X10 J.2.2.1 a0 o_m_thrown o_m_refused m_taped m_size m_at m_bad m_badKind m_opens m_faultAt m_tape m_newBed m_newLetter m_newReader m_bed m_letter m_reader m_newBeds m_newLetters m_newReaders m_beds m_letters m_readers m_newCode m_newOf m_code m_ofCode m_stack m_newCodes m_codes m_facts m_newStep m_step m_newSteps m_works m_refusedSteps m_begun m_done m_refusedNow m_now m_s m_past m_newBook m_book m_written m_mostBy m_stuffing m_stuffedMany m_lastBy m_leftBy o_m_splitBy m_seedNow m_image m_images) := by
  refine Mt_of (own := RX10) (by decide) rfl (Nat.le_of_ble_eq_true rfl) rfl (fun Z C E => ?_)
  unfold f_X10_pods at h
  show G J Z 0 0 (cs_X10 J.2.2.1 a0 m_thrown m_refused m_taped m_size m_at m_bad m_badKind m_opens m_faultAt m_tape m_newBed m_newLetter m_newReader m_bed m_letter m_reader m_newBeds m_newLetters m_newReaders m_beds m_letters m_readers m_newCode m_newOf m_code m_ofCode m_stack m_newCodes m_codes m_facts m_newStep m_step m_newSteps m_works m_refusedSteps m_begun m_done m_refusedNow m_now m_s m_past m_newBook m_book m_written m_mostBy m_stuffing m_stuffedMany m_lastBy m_leftBy m_splitBy m_seedNow m_image m_images) 10 [(0, .ref (a0 0)), (1, .int n1), (2, .int n2), (3, .int n3), (4, .int n4)] 0 []
  refine g_aload_n (pc := 0) C 0 rfl dX10_pods_0 ?_
  refine g_iconst (pc := 1) C dX10_pods_1 ci_0 ?_
  refine g_put (pc := 2) C (w' := cs_X10 J.2.2.1 a0 0 m_refused m_taped m_size m_at m_bad m_badKind m_opens m_faultAt m_tape m_newBed m_newLetter m_newReader m_bed m_letter m_reader m_newBeds m_newLetters m_newReaders m_beds m_letters m_readers m_newCode m_newOf m_code m_ofCode m_stack m_newCodes m_codes m_facts m_newStep m_step m_newSteps m_works m_refusedSteps m_begun m_done m_refusedNow m_now m_s m_past m_newBook m_book m_written m_mostBy m_stuffing m_stuffedMany m_lastBy m_leftBy m_splitBy m_seedNow m_image m_images) FOK_X10 0 rfl rfl 0 (by decide) kw_1277 rfl rfl rfl (Nat.le_of_ble_eq_true rfl) dX10_pods_2 rfl ?_
  refine g_aload_n (pc := 5) C 0 rfl dX10_pods_5 ?_
  refine g_iload_n (pc := 6) C 1 rfl dX10_pods_6 ?_
  refine g_iconst (pc := 7) C dX10_pods_7 ci_0 ?_
  refine g_bipush (pc := 8) C dX10_pods_8 cb_12 ?_
  obtain ⟨v5, hc, h⟩ := b1_of h
  refine g_callS (pc := 10) C (w' := cs_X10 J.2.2.1 a0 0 m_refused m_taped m_size m_at m_bad m_badKind m_opens m_faultAt m_tape m_newBed m_newLetter m_newReader m_bed m_letter m_reader m_newBeds m_newLetters m_newReaders m_beds m_letters m_readers m_newCode m_newOf m_code m_ofCode m_stack m_newCodes m_codes m_facts m_newStep m_step m_newSteps m_works m_refusedSteps m_begun m_done m_refusedNow m_now m_s m_past m_newBook m_book m_written m_mostBy m_stuffing m_stuffedMany m_lastBy m_leftBy m_splitBy m_seedNow m_image m_images) (As := [.int n1, .int 0, .int 12]) (st := [.ref (a0 0)]) (t_X10_within hc) Sub.nil kw_1689 kw_1690 kw_95 hy_X10_within kw_1691 rfl (Nat.le_of_ble_eq_true rfl) (Nat.le_of_ble_eq_true rfl) (Nat.le_of_ble_eq_true rfl) (Nat.le_of_ble_eq_true rfl) (Nat.le_of_ble_eq_true rfl) dX10_pods_10 ?_
  refine g_if_eq (pc := 13) C (tgt := 50) dX10_pods_13 rfl h (fun h => ?_) (fun h => ?_)
  · refine g_iconst (pc := 50) C dX10_pods_50 ci_0 ?_
    exact j_X10_pods_51 C E    0 0 m_refused m_splitBy h
  · refine g_iload_n (pc := 16) C 2 rfl dX10_pods_16 ?_
    refine g_iconst (pc := 17) C dX10_pods_17 ci_0 ?_
    refine g_bipush (pc := 18) C dX10_pods_18 cb_13 ?_
    obtain ⟨v6, hc, h⟩ := b1_of h
    refine g_callS (pc := 20) C (w' := cs_X10 J.2.2.1 a0 0 m_refused m_taped m_size m_at m_bad m_badKind m_opens m_faultAt m_tape m_newBed m_newLetter m_newReader m_bed m_letter m_reader m_newBeds m_newLetters m_newReaders m_beds m_letters m_readers m_newCode m_newOf m_code m_ofCode m_stack m_newCodes m_codes m_facts m_newStep m_step m_newSteps m_works m_refusedSteps m_begun m_done m_refusedNow m_now m_s m_past m_newBook m_book m_written m_mostBy m_stuffing m_stuffedMany m_lastBy m_leftBy m_splitBy m_seedNow m_image m_images) (As := [.int n2, .int 0, .int 13]) (st := [.ref (a0 0)]) (t_X10_within hc) Sub.nil kw_1689 kw_1690 kw_95 hy_X10_within kw_1691 rfl (Nat.le_of_ble_eq_true rfl) (Nat.le_of_ble_eq_true rfl) (Nat.le_of_ble_eq_true rfl) (Nat.le_of_ble_eq_true rfl) (Nat.le_of_ble_eq_true rfl) dX10_pods_20 ?_
    refine g_if_eq (pc := 23) C (tgt := 50) dX10_pods_23 rfl h (fun h => ?_) (fun h => ?_)
    · refine g_iconst (pc := 50) C dX10_pods_50 ci_0 ?_
      exact j_X10_pods_51 C E    0 0 m_refused m_splitBy h
    · refine g_iload_n (pc := 26) C 3 rfl dX10_pods_26 ?_
      refine g_iconst (pc := 27) C dX10_pods_27 ci_0 ?_
      refine g_bipush (pc := 28) C dX10_pods_28 cb_16 ?_
      obtain ⟨v7, hc, h⟩ := b1_of h
      refine g_callS (pc := 30) C (w' := cs_X10 J.2.2.1 a0 0 m_refused m_taped m_size m_at m_bad m_badKind m_opens m_faultAt m_tape m_newBed m_newLetter m_newReader m_bed m_letter m_reader m_newBeds m_newLetters m_newReaders m_beds m_letters m_readers m_newCode m_newOf m_code m_ofCode m_stack m_newCodes m_codes m_facts m_newStep m_step m_newSteps m_works m_refusedSteps m_begun m_done m_refusedNow m_now m_s m_past m_newBook m_book m_written m_mostBy m_stuffing m_stuffedMany m_lastBy m_leftBy m_splitBy m_seedNow m_image m_images) (As := [.int n3, .int 0, .int 16]) (st := [.ref (a0 0)]) (t_X10_within hc) Sub.nil kw_1689 kw_1690 kw_95 hy_X10_within kw_1691 rfl (Nat.le_of_ble_eq_true rfl) (Nat.le_of_ble_eq_true rfl) (Nat.le_of_ble_eq_true rfl) (Nat.le_of_ble_eq_true rfl) (Nat.le_of_ble_eq_true rfl) dX10_pods_30 ?_
      refine g_if_eq (pc := 33) C (tgt := 50) dX10_pods_33 rfl h (fun h => ?_) (fun h => ?_)
      · refine g_iconst (pc := 50) C dX10_pods_50 ci_0 ?_
        exact j_X10_pods_51 C E    0 0 m_refused m_splitBy h
      · refine g_iload (pc := 36) C 4 rfl dX10_pods_36 ?_
        refine g_iconst (pc := 38) C dX10_pods_38 ci_0 ?_
        refine g_iconst (pc := 39) C dX10_pods_39 ci_1 ?_
        obtain ⟨v8, hc, h⟩ := b1_of h
        refine g_callS (pc := 40) C (w' := cs_X10 J.2.2.1 a0 0 m_refused m_taped m_size m_at m_bad m_badKind m_opens m_faultAt m_tape m_newBed m_newLetter m_newReader m_bed m_letter m_reader m_newBeds m_newLetters m_newReaders m_beds m_letters m_readers m_newCode m_newOf m_code m_ofCode m_stack m_newCodes m_codes m_facts m_newStep m_step m_newSteps m_works m_refusedSteps m_begun m_done m_refusedNow m_now m_s m_past m_newBook m_book m_written m_mostBy m_stuffing m_stuffedMany m_lastBy m_leftBy m_splitBy m_seedNow m_image m_images) (As := [.int n4, .int 0, .int 1]) (st := [.ref (a0 0)]) (t_X10_within hc) Sub.nil kw_1689 kw_1690 kw_95 hy_X10_within kw_1691 rfl (Nat.le_of_ble_eq_true rfl) (Nat.le_of_ble_eq_true rfl) (Nat.le_of_ble_eq_true rfl) (Nat.le_of_ble_eq_true rfl) (Nat.le_of_ble_eq_true rfl) dX10_pods_40 ?_
        refine g_if_eq (pc := 43) C (tgt := 50) dX10_pods_43 rfl h (fun h => ?_) (fun h => ?_)
        · refine g_iconst (pc := 50) C dX10_pods_50 ci_0 ?_
          exact j_X10_pods_51 C E    0 0 m_refused m_splitBy h
        · refine g_iconst (pc := 46) C dX10_pods_46 ci_1 ?_
          refine g_goto (pc := 47) C (tgt := 51) dX10_pods_47 rfl ?_
          exact j_X10_pods_51 C E    1 0 m_refused m_splitBy h
noncomputable def f_X10_hasBy  (n1 : Int32) (n2 : Int32) (n3 : Int32) (n4 : Int32) : Option (Int32) := if n1 = n2 then if n1 = 0 then some (-n4) else some (n3 - n4) else if n1 = 0 then some 0 else some n3
def rm_X10_hasBy : Room := { frames := 0, cells := 0, slots := 0, locals := 0 }
set_option maxRecDepth 100000 in
set_option maxHeartbeats 4000000 in
theorem t_X10_hasBy {J : Jt}  {n1 : Int32} {n2 : Int32} {n3 : Int32} {n4 : Int32} {r : Int32} (h : f_X10_hasBy n1 n2 n3 n4 = some r) : Mt J yX10_hasBy cX10_hasBy 4 (some .int) rm_X10_hasBy [.int n1, .int n2, .int n3, .int n4] ([]) (some (.int r)) ([]) := by
  refine Mt_of (own := RX10) (by decide) rfl (Nat.le_of_ble_eq_true rfl) rfl (fun Z C E => ?_)
  unfold f_X10_hasBy at h
  show G J Z 0 0 ([]) 4 [(0, .int n1), (1, .int n2), (2, .int n3), (3, .int n4)] 0 []
  refine g_iload_n (pc := 0) C 0 rfl dX10_hasBy_0 ?_
  refine g_iload_n (pc := 1) C 1 rfl dX10_hasBy_1 ?_
  refine g_icmp_ne (pc := 2) C (tgt := 20) dX10_hasBy_2 rfl h (fun h => ?_) (fun h => ?_)
  · refine g_iload_n (pc := 20) C 0 rfl dX10_hasBy_20 ?_
    refine g_if_ne (pc := 21) C (tgt := 28) dX10_hasBy_21 rfl h (fun h => ?_) (fun h => ?_)
    · refine g_iload_n (pc := 28) C 2 rfl dX10_hasBy_28 ?_
      cases h
      exact g_iret C E dX10_hasBy_29
    · refine g_iconst (pc := 24) C dX10_hasBy_24 ci_0 ?_
      refine g_goto (pc := 25) C (tgt := 29) dX10_hasBy_25 rfl ?_
      cases h
      exact g_iret C E dX10_hasBy_29
  · refine g_iload_n (pc := 5) C 0 rfl dX10_hasBy_5 ?_
    refine g_if_ne (pc := 6) C (tgt := 14) dX10_hasBy_6 rfl h (fun h => ?_) (fun h => ?_)
    · refine g_iload_n (pc := 14) C 2 rfl dX10_hasBy_14 ?_
      refine g_iload_n (pc := 15) C 3 rfl dX10_hasBy_15 ?_
      refine g_isub (pc := 16) C dX10_hasBy_16 ?_
      refine g_goto (pc := 17) C (tgt := 29) dX10_hasBy_17 rfl ?_
      cases h
      exact g_iret C E dX10_hasBy_29
    · refine g_iload_n (pc := 9) C 3 rfl dX10_hasBy_9 ?_
      refine g_ineg (pc := 10) C dX10_hasBy_10 ?_
      refine g_goto (pc := 11) C (tgt := 29) dX10_hasBy_11 rfl ?_
      cases h
      exact g_iret C E dX10_hasBy_29
noncomputable def f_X10_she_59   (n1 : Int32) (n2 : Int32) (n3 : Int32) : Nat → Int32 → Int32 → Int32 → Int32 → (Nat → Int32) → Option (Int32 × Int32 × (Nat → Int32))
  | 0, _, _, _, _, _ => none
  | n + 1, x4, x5, x6, m_thrown, m_refused => if 4 ≤ x6 then if n3 = 0 then some (x4, m_thrown, m_refused) else if n3 = 1 then some (x5, m_thrown, m_refused) else if x5 = (-1) then some (0, m_thrown, m_refused) else b1 (f_X10_hasBy (x5 / 10) (x5 - x5 / 10 * 10) n1 n2) (fun v1 => b1 (f_X10_hasBy (x5 - x5 / 10 * 10) (x5 / 10) n1 n2) (fun v2 => some (v1 + v2, m_thrown, m_refused))) else b1 (f_X10_hasBy (1 - (x6 / 2)) (x6 - x6 / 2 * 2) n1 n2) (fun v3 => b1 (f_X10_hasBy (x6 / 2) (x6 - x6 / 2 * 2) n1 n2) (fun v4 => if v4 < v3 then f_X10_she_59 n1 n2 n3 n x4 x5 (x6 + 1) m_thrown m_refused else b1 (f_X10_hasBy (1 - (x6 - x6 / 2 * 2)) (x6 / 2) n1 n2) (fun v5 => b1 (f_X10_hasBy (x6 - x6 / 2 * 2) (x6 / 2) n1 n2) (fun v6 => if v5 ≤ v6 then if x5 = (-1) then f_X10_she_59 n1 n2 n3 n (x4 + 1) ((10 * (x6 / 2)) + (x6 - x6 / 2 * 2)) (x6 + 1) m_thrown m_refused else f_X10_she_59 n1 n2 n3 n (x4 + 1) x5 (x6 + 1) m_thrown m_refused else f_X10_she_59 n1 n2 n3 n x4 x5 (x6 + 1) m_thrown m_refused))))
noncomputable def f_X10_she_40   (n1 : Int32) (n2 : Int32) (n3 : Int32) (y1 : Int32) (m_thrown : Int32) (m_refused : Nat → Int32) : Option (Int32 × Int32 × (Nat → Int32)) := b3 (f_X10_may m_thrown m_refused y1 1 1) (fun v7 c8 c9 => if v7 = 0 then some (0, c8, c9) else f_X10_she_59 n1 n2 n3 FU 0 (-1) 0 c8 c9)
noncomputable def f_X10_she (m_thrown : Int32) (m_refused : Nat → Int32) (n1 : Int32) (n2 : Int32) (n3 : Int32) : Option (Int32 × Int32 × (Nat → Int32)) := b1 (f_X10_within n1 0 99) (fun v10 => if v10 = 0 then f_X10_she_40 n1 n2 n3 0 0 m_refused else b1 (f_X10_within n2 0 99) (fun v11 => if v11 = 0 then f_X10_she_40 n1 n2 n3 0 0 m_refused else b1 (f_X10_within n3 0 2) (fun v12 => if v12 = 0 then f_X10_she_40 n1 n2 n3 0 0 m_refused else f_X10_she_40 n1 n2 n3 1 0 m_refused)))
def rm_X10_she : Room := { frames := 1, cells := 0, slots := 0, locals := 23 }
set_option maxRecDepth 100000 in
set_option maxHeartbeats 4000000 in
theorem j_X10_she_59 {J : Jt} {Z : Zt} {a0 : Nat → Nat} {m_taped : Int32} {m_size : Int32} {m_at : Int32} {m_bad : Int32} {m_badKind : Int32} {m_opens : Int32} {m_faultAt : Int32} {m_tape : Nat → Int32} {m_newBed : Nat → Int32} {m_newLetter : Nat → Int32} {m_newReader : Nat → Int32} {m_bed : Nat → Int32} {m_letter : Nat → Int32} {m_reader : Nat → Int32} {m_newBeds : Int32} {m_newLetters : Int32} {m_newReaders : Int32} {m_beds : Int32} {m_letters : Int32} {m_readers : Int32} {m_newCode : Nat → Int32} {m_newOf : Nat → Int32} {m_code : Nat → Int32} {m_ofCode : Nat → Int32} {m_stack : Nat → Int32} {m_newCodes : Int32} {m_codes : Int32} {m_facts : Nat → Int32} {m_newStep : Nat → Int32} {m_step : Nat → Int32} {m_newSteps : Int32} {m_works : Int32} {m_refusedSteps : Int32} {m_begun : Int32} {m_done : Int32} {m_refusedNow : Int32} {m_now : Nat → Int32} {m_s : Nat → Int32} {m_past : Nat → Int32} {m_newBook : Nat → Int32} {m_book : Nat → Int32} {m_written : Int32} {m_mostBy : Nat → Int32} {m_stuffing : Nat → Int32} {m_stuffedMany : Int32} {m_lastBy : Nat → Int32} {m_leftBy : Nat → Int32} {m_splitBy : Nat → Int64} {m_seedNow : Int32} {m_image : Nat → Int32} {m_images : Int32} {n1 : Int32} {n2 : Int32} {n3 : Int32} {r : Int32} {o_m_thrown : Int32} {o_m_refused : Nat → Int32} (C : Cx J Z cX10_she 9 RX10 (some .int) rm_X10_she) (E : Ez J Z 0 0 (some (.int r)) (cs_X10 J.2.2.1 a0 o_m_thrown o_m_refused m_taped m_size m_at m_bad m_badKind m_opens m_faultAt m_tape m_newBed m_newLetter m_newReader m_bed m_letter m_reader m_newBeds m_newLetters m_newReaders m_beds m_letters m_readers m_newCode m_newOf m_code m_ofCode m_stack m_newCodes m_codes m_facts m_newStep m_step m_newSteps m_works m_refusedSteps m_begun m_done m_refusedNow m_now m_s m_past m_newBook m_book m_written m_mostBy m_stuffing m_stuffedMany m_lastBy m_leftBy m_splitBy m_seedNow m_image m_images)) : ∀ (n : Nat) (x4 : Int32) (x5 : Int32) (x6 : Int32) (m_thrown : Int32) (m_refused : Nat → Int32), f_X10_she_59 n1 n2 n3 n x4 x5 x6 m_thrown m_refused = some (r, o_m_thrown, o_m_refused) → G J Z 0 0 (cs_X10 J.2.2.1 a0 m_thrown m_refused m_taped m_size m_at m_bad m_badKind m_opens m_faultAt m_tape m_newBed m_newLetter m_newReader m_bed m_letter m_reader m_newBeds m_newLetters m_newReaders m_beds m_letters m_readers m_newCode m_newOf m_code m_ofCode m_stack m_newCodes m_codes m_facts m_newStep m_step m_newSteps m_works m_refusedSteps m_begun m_done m_refusedNow m_now m_s m_past m_newBook m_book m_written m_mostBy m_stuffing m_stuffedMany m_lastBy m_leftBy m_splitBy m_seedNow m_image m_images) 9 [(1, .int n1), (2, .int n2), (3, .int n3), (4, .int x4), (5, .int x5), (6, .int x6)] 59 [] := by
  intro n
  induction n with
  | zero =>
    intro x4 x5 x6 m_thrown m_refused h
    rw [f_X10_she_59] at h
    cases h
  | succ n ih =>
    intro x4 x5 x6 m_thrown m_refused h
    rw [f_X10_she_59] at h
    refine g_iload (pc := 59) C 5 rfl dX10_she_59 ?_
    refine g_iconst (pc := 61) C dX10_she_61 ci_4 ?_
    refine g_icmp_ge (pc := 62) C (tgt := 156) dX10_she_62 rfl h (fun h => ?_) (fun h => ?_)
    · refine g_iload_n (pc := 156) C 2 rfl dX10_she_156 ?_
      refine g_if_ne (pc := 157) C (tgt := 165) dX10_she_157 rfl h (fun h => ?_) (fun h => ?_)
      · refine g_iload_n (pc := 165) C 2 rfl dX10_she_165 ?_
        refine g_iconst (pc := 166) C dX10_she_166 ci_1 ?_
        refine g_icmp_ne (pc := 167) C (tgt := 175) dX10_she_167 rfl h (fun h => ?_) (fun h => ?_)
        · refine g_iload (pc := 175) C 4 rfl dX10_she_175 ?_
          refine g_iconst (pc := 177) C dX10_she_177 ci_m1 ?_
          refine g_icmp_ne (pc := 178) C (tgt := 185) dX10_she_178 rfl h (fun h => ?_) (fun h => ?_)
          · refine g_iload (pc := 185) C 4 rfl dX10_she_185 ?_
            refine g_bipush (pc := 187) C dX10_she_187 cb_10 ?_
            refine g_idiv (pc := 189) C dX10_she_189 (by decide) ?_
            refine g_iload (pc := 190) C 4 rfl dX10_she_190 ?_
            refine g_bipush (pc := 192) C dX10_she_192 cb_10 ?_
            refine g_irem (pc := 194) C dX10_she_194 (by decide) ?_
            refine g_iload_n (pc := 195) C 0 rfl dX10_she_195 ?_
            refine g_iload_n (pc := 196) C 1 rfl dX10_she_196 ?_
            obtain ⟨v1, hc, h⟩ := b1_of h
            refine g_callS (pc := 197) C (w' := cs_X10 J.2.2.1 a0 m_thrown m_refused m_taped m_size m_at m_bad m_badKind m_opens m_faultAt m_tape m_newBed m_newLetter m_newReader m_bed m_letter m_reader m_newBeds m_newLetters m_newReaders m_beds m_letters m_readers m_newCode m_newOf m_code m_ofCode m_stack m_newCodes m_codes m_facts m_newStep m_step m_newSteps m_works m_refusedSteps m_begun m_done m_refusedNow m_now m_s m_past m_newBook m_book m_written m_mostBy m_stuffing m_stuffedMany m_lastBy m_leftBy m_splitBy m_seedNow m_image m_images) (As := [.int (x5 / 10), .int (x5 - x5 / 10 * 10), .int n1, .int n2]) (st := []) (t_X10_hasBy hc) Sub.nil kw_1824 kw_1825 kw_95 hy_X10_hasBy kw_1826 rfl (Nat.le_of_ble_eq_true rfl) (Nat.le_of_ble_eq_true rfl) (Nat.le_of_ble_eq_true rfl) (Nat.le_of_ble_eq_true rfl) (Nat.le_of_ble_eq_true rfl) dX10_she_197 ?_
            refine g_iload (pc := 200) C 4 rfl dX10_she_200 ?_
            refine g_bipush (pc := 202) C dX10_she_202 cb_10 ?_
            refine g_irem (pc := 204) C dX10_she_204 (by decide) ?_
            refine g_iload (pc := 205) C 4 rfl dX10_she_205 ?_
            refine g_bipush (pc := 207) C dX10_she_207 cb_10 ?_
            refine g_idiv (pc := 209) C dX10_she_209 (by decide) ?_
            refine g_iload_n (pc := 210) C 0 rfl dX10_she_210 ?_
            refine g_iload_n (pc := 211) C 1 rfl dX10_she_211 ?_
            obtain ⟨v2, hc, h⟩ := b1_of h
            refine g_callS (pc := 212) C (w' := cs_X10 J.2.2.1 a0 m_thrown m_refused m_taped m_size m_at m_bad m_badKind m_opens m_faultAt m_tape m_newBed m_newLetter m_newReader m_bed m_letter m_reader m_newBeds m_newLetters m_newReaders m_beds m_letters m_readers m_newCode m_newOf m_code m_ofCode m_stack m_newCodes m_codes m_facts m_newStep m_step m_newSteps m_works m_refusedSteps m_begun m_done m_refusedNow m_now m_s m_past m_newBook m_book m_written m_mostBy m_stuffing m_stuffedMany m_lastBy m_leftBy m_splitBy m_seedNow m_image m_images) (As := [.int (x5 - x5 / 10 * 10), .int (x5 / 10), .int n1, .int n2]) (st := [.int v1]) (t_X10_hasBy hc) Sub.nil kw_1824 kw_1825 kw_95 hy_X10_hasBy kw_1826 rfl (Nat.le_of_ble_eq_true rfl) (Nat.le_of_ble_eq_true rfl) (Nat.le_of_ble_eq_true rfl) (Nat.le_of_ble_eq_true rfl) (Nat.le_of_ble_eq_true rfl) dX10_she_212 ?_
            refine g_iadd (pc := 215) C dX10_she_215 ?_
            cases h
            exact g_iret C E dX10_she_216
          · refine g_iconst (pc := 181) C dX10_she_181 ci_0 ?_
            refine g_goto (pc := 182) C (tgt := 216) dX10_she_182 rfl ?_
            cases h
            exact g_iret C E dX10_she_216
        · refine g_iload (pc := 170) C 4 rfl dX10_she_170 ?_
          refine g_goto (pc := 172) C (tgt := 216) dX10_she_172 rfl ?_
          cases h
          exact g_iret C E dX10_she_216
      · refine g_iload (pc := 160) C 3 rfl dX10_she_160 ?_
        refine g_goto (pc := 162) C (tgt := 216) dX10_she_162 rfl ?_
        cases h
        exact g_iret C E dX10_she_216
    · refine g_iload (pc := 65) C 5 rfl dX10_she_65 ?_
      refine g_iconst (pc := 67) C dX10_she_67 ci_2 ?_
      refine g_idiv (pc := 68) C dX10_she_68 (by decide) ?_
      refine g_istore (pc := 69) C [(7, .int (x6 / 2)), (1, .int n1), (2, .int n2), (3, .int n3), (4, .int x4), (5, .int x5), (6, .int x6)] dX10_she_69 (by decide) rfl ?_
      refine g_iload (pc := 71) C 6 rfl dX10_she_71 ?_
      refine g_iconst (pc := 73) C dX10_she_73 ci_2 ?_
      refine g_irem (pc := 74) C dX10_she_74 (by decide) ?_
      refine g_istore (pc := 75) C [(8, .int (x6 - x6 / 2 * 2)), (7, .int (x6 / 2)), (1, .int n1), (2, .int n2), (3, .int n3), (4, .int x4), (5, .int x5), (6, .int x6)] dX10_she_75 (by decide) rfl ?_
      refine g_iconst (pc := 77) C dX10_she_77 ci_1 ?_
      refine g_iload (pc := 78) C 1 rfl dX10_she_78 ?_
      refine g_isub (pc := 80) C dX10_she_80 ?_
      refine g_iload (pc := 81) C 0 rfl dX10_she_81 ?_
      refine g_iload_n (pc := 83) C 2 rfl dX10_she_83 ?_
      refine g_iload_n (pc := 84) C 3 rfl dX10_she_84 ?_
      obtain ⟨v3, hc, h⟩ := b1_of h
      refine g_callS (pc := 85) C (w' := cs_X10 J.2.2.1 a0 m_thrown m_refused m_taped m_size m_at m_bad m_badKind m_opens m_faultAt m_tape m_newBed m_newLetter m_newReader m_bed m_letter m_reader m_newBeds m_newLetters m_newReaders m_beds m_letters m_readers m_newCode m_newOf m_code m_ofCode m_stack m_newCodes m_codes m_facts m_newStep m_step m_newSteps m_works m_refusedSteps m_begun m_done m_refusedNow m_now m_s m_past m_newBook m_book m_written m_mostBy m_stuffing m_stuffedMany m_lastBy m_leftBy m_splitBy m_seedNow m_image m_images) (As := [.int (1 - (x6 / 2)), .int (x6 - x6 / 2 * 2), .int n1, .int n2]) (st := []) (t_X10_hasBy hc) Sub.nil kw_1824 kw_1825 kw_95 hy_X10_hasBy kw_1826 rfl (Nat.le_of_ble_eq_true rfl) (Nat.le_of_ble_eq_true rfl) (Nat.le_of_ble_eq_true rfl) (Nat.le_of_ble_eq_true rfl) (Nat.le_of_ble_eq_true rfl) dX10_she_85 ?_
      refine g_iload (pc := 88) C 1 rfl dX10_she_88 ?_
      refine g_iload (pc := 90) C 0 rfl dX10_she_90 ?_
      refine g_iload_n (pc := 92) C 2 rfl dX10_she_92 ?_
      refine g_iload_n (pc := 93) C 3 rfl dX10_she_93 ?_
      obtain ⟨v4, hc, h⟩ := b1_of h
      refine g_callS (pc := 94) C (w' := cs_X10 J.2.2.1 a0 m_thrown m_refused m_taped m_size m_at m_bad m_badKind m_opens m_faultAt m_tape m_newBed m_newLetter m_newReader m_bed m_letter m_reader m_newBeds m_newLetters m_newReaders m_beds m_letters m_readers m_newCode m_newOf m_code m_ofCode m_stack m_newCodes m_codes m_facts m_newStep m_step m_newSteps m_works m_refusedSteps m_begun m_done m_refusedNow m_now m_s m_past m_newBook m_book m_written m_mostBy m_stuffing m_stuffedMany m_lastBy m_leftBy m_splitBy m_seedNow m_image m_images) (As := [.int (x6 / 2), .int (x6 - x6 / 2 * 2), .int n1, .int n2]) (st := [.int v3]) (t_X10_hasBy hc) Sub.nil kw_1824 kw_1825 kw_95 hy_X10_hasBy kw_1826 rfl (Nat.le_of_ble_eq_true rfl) (Nat.le_of_ble_eq_true rfl) (Nat.le_of_ble_eq_true rfl) (Nat.le_of_ble_eq_true rfl) (Nat.le_of_ble_eq_true rfl) dX10_she_94 ?_
      refine g_icmp_gt (pc := 97) C (tgt := 150) dX10_she_97 rfl h (fun h => ?_) (fun h => ?_)
      · refine g_iinc (pc := 150) C (j := 7) [(6, .int (x6 + 1)), (8, .int (x6 - x6 / 2 * 2)), (7, .int (x6 / 2)), (1, .int n1), (2, .int n2), (3, .int n3), (4, .int x4), (5, .int x5)] dX10_she_150 rfl (ii_1 _) (by decide) rfl ?_
        refine g_goto (pc := 153) C (tgt := 59) dX10_she_153 rfl ?_
        refine g_lv [3, 4, 5, 6, 7, 0] rfl ?_
        exact ih x4 x5 (x6 + 1) m_thrown m_refused h
      · refine g_iconst (pc := 100) C dX10_she_100 ci_1 ?_
        refine g_iload (pc := 101) C 0 rfl dX10_she_101 ?_
        refine g_isub (pc := 103) C dX10_she_103 ?_
        refine g_iload (pc := 104) C 1 rfl dX10_she_104 ?_
        refine g_iload_n (pc := 106) C 2 rfl dX10_she_106 ?_
        refine g_iload_n (pc := 107) C 3 rfl dX10_she_107 ?_
        obtain ⟨v5, hc, h⟩ := b1_of h
        refine g_callS (pc := 108) C (w' := cs_X10 J.2.2.1 a0 m_thrown m_refused m_taped m_size m_at m_bad m_badKind m_opens m_faultAt m_tape m_newBed m_newLetter m_newReader m_bed m_letter m_reader m_newBeds m_newLetters m_newReaders m_beds m_letters m_readers m_newCode m_newOf m_code m_ofCode m_stack m_newCodes m_codes m_facts m_newStep m_step m_newSteps m_works m_refusedSteps m_begun m_done m_refusedNow m_now m_s m_past m_newBook m_book m_written m_mostBy m_stuffing m_stuffedMany m_lastBy m_leftBy m_splitBy m_seedNow m_image m_images) (As := [.int (1 - (x6 - x6 / 2 * 2)), .int (x6 / 2), .int n1, .int n2]) (st := []) (t_X10_hasBy hc) Sub.nil kw_1824 kw_1825 kw_95 hy_X10_hasBy kw_1826 rfl (Nat.le_of_ble_eq_true rfl) (Nat.le_of_ble_eq_true rfl) (Nat.le_of_ble_eq_true rfl) (Nat.le_of_ble_eq_true rfl) (Nat.le_of_ble_eq_true rfl) dX10_she_108 ?_
        refine g_iload (pc := 111) C 0 rfl dX10_she_111 ?_
        refine g_iload (pc := 113) C 1 rfl dX10_she_113 ?_
        refine g_iload_n (pc := 115) C 2 rfl dX10_she_115 ?_
        refine g_iload_n (pc := 116) C 3 rfl dX10_she_116 ?_
        obtain ⟨v6, hc, h⟩ := b1_of h
        refine g_callS (pc := 117) C (w' := cs_X10 J.2.2.1 a0 m_thrown m_refused m_taped m_size m_at m_bad m_badKind m_opens m_faultAt m_tape m_newBed m_newLetter m_newReader m_bed m_letter m_reader m_newBeds m_newLetters m_newReaders m_beds m_letters m_readers m_newCode m_newOf m_code m_ofCode m_stack m_newCodes m_codes m_facts m_newStep m_step m_newSteps m_works m_refusedSteps m_begun m_done m_refusedNow m_now m_s m_past m_newBook m_book m_written m_mostBy m_stuffing m_stuffedMany m_lastBy m_leftBy m_splitBy m_seedNow m_image m_images) (As := [.int (x6 - x6 / 2 * 2), .int (x6 / 2), .int n1, .int n2]) (st := [.int v5]) (t_X10_hasBy hc) Sub.nil kw_1824 kw_1825 kw_95 hy_X10_hasBy kw_1826 rfl (Nat.le_of_ble_eq_true rfl) (Nat.le_of_ble_eq_true rfl) (Nat.le_of_ble_eq_true rfl) (Nat.le_of_ble_eq_true rfl) (Nat.le_of_ble_eq_true rfl) dX10_she_117 ?_
        refine g_icmp_le (pc := 120) C (tgt := 126) dX10_she_120 rfl h (fun h => ?_) (fun h => ?_)
        · refine g_iinc (pc := 126) C (j := 5) [(4, .int (x4 + 1)), (8, .int (x6 - x6 / 2 * 2)), (7, .int (x6 / 2)), (1, .int n1), (2, .int n2), (3, .int n3), (5, .int x5), (6, .int x6)] dX10_she_126 rfl (ii_1 _) (by decide) rfl ?_
          refine g_iload (pc := 129) C 6 rfl dX10_she_129 ?_
          refine g_iconst (pc := 131) C dX10_she_131 ci_m1 ?_
          refine g_icmp_ne (pc := 132) C (tgt := 146) dX10_she_132 rfl h (fun h => ?_) (fun h => ?_)
          · refine g_iload (pc := 146) C 6 rfl dX10_she_146 ?_
            refine g_istore (pc := 148) C [(5, .int x5), (4, .int (x4 + 1)), (8, .int (x6 - x6 / 2 * 2)), (7, .int (x6 / 2)), (1, .int n1), (2, .int n2), (3, .int n3), (6, .int x6)] dX10_she_148 (by decide) rfl ?_
            refine g_iinc (pc := 150) C (j := 7) [(6, .int (x6 + 1)), (5, .int x5), (4, .int (x4 + 1)), (8, .int (x6 - x6 / 2 * 2)), (7, .int (x6 / 2)), (1, .int n1), (2, .int n2), (3, .int n3)] dX10_she_150 rfl (ii_1 _) (by decide) rfl ?_
            refine g_goto (pc := 153) C (tgt := 59) dX10_she_153 rfl ?_
            refine g_lv [5, 6, 7, 2, 1, 0] rfl ?_
            exact ih (x4 + 1) x5 (x6 + 1) m_thrown m_refused h
          · refine g_bipush (pc := 135) C dX10_she_135 cb_10 ?_
            refine g_iload (pc := 137) C 2 rfl dX10_she_137 ?_
            refine g_imul (pc := 139) C dX10_she_139 ?_
            refine g_iload (pc := 140) C 1 rfl dX10_she_140 ?_
            refine g_iadd (pc := 142) C dX10_she_142 ?_
            refine g_goto (pc := 143) C (tgt := 148) dX10_she_143 rfl ?_
            refine g_istore (pc := 148) C [(5, .int ((10 * (x6 / 2)) + (x6 - x6 / 2 * 2))), (4, .int (x4 + 1)), (8, .int (x6 - x6 / 2 * 2)), (7, .int (x6 / 2)), (1, .int n1), (2, .int n2), (3, .int n3), (6, .int x6)] dX10_she_148 (by decide) rfl ?_
            refine g_iinc (pc := 150) C (j := 7) [(6, .int (x6 + 1)), (5, .int ((10 * (x6 / 2)) + (x6 - x6 / 2 * 2))), (4, .int (x4 + 1)), (8, .int (x6 - x6 / 2 * 2)), (7, .int (x6 / 2)), (1, .int n1), (2, .int n2), (3, .int n3)] dX10_she_150 rfl (ii_1 _) (by decide) rfl ?_
            refine g_goto (pc := 153) C (tgt := 59) dX10_she_153 rfl ?_
            refine g_lv [5, 6, 7, 2, 1, 0] rfl ?_
            exact ih (x4 + 1) ((10 * (x6 / 2)) + (x6 - x6 / 2 * 2)) (x6 + 1) m_thrown m_refused h
        · refine g_goto (pc := 123) C (tgt := 150) dX10_she_123 rfl ?_
          refine g_iinc (pc := 150) C (j := 7) [(6, .int (x6 + 1)), (8, .int (x6 - x6 / 2 * 2)), (7, .int (x6 / 2)), (1, .int n1), (2, .int n2), (3, .int n3), (4, .int x4), (5, .int x5)] dX10_she_150 rfl (ii_1 _) (by decide) rfl ?_
          refine g_goto (pc := 153) C (tgt := 59) dX10_she_153 rfl ?_
          refine g_lv [3, 4, 5, 6, 7, 0] rfl ?_
          exact ih x4 x5 (x6 + 1) m_thrown m_refused h
set_option maxRecDepth 100000 in
set_option maxHeartbeats 4000000 in
theorem j_X10_she_40 {J : Jt} {Z : Zt} {a0 : Nat → Nat} {m_taped : Int32} {m_size : Int32} {m_at : Int32} {m_bad : Int32} {m_badKind : Int32} {m_opens : Int32} {m_faultAt : Int32} {m_tape : Nat → Int32} {m_newBed : Nat → Int32} {m_newLetter : Nat → Int32} {m_newReader : Nat → Int32} {m_bed : Nat → Int32} {m_letter : Nat → Int32} {m_reader : Nat → Int32} {m_newBeds : Int32} {m_newLetters : Int32} {m_newReaders : Int32} {m_beds : Int32} {m_letters : Int32} {m_readers : Int32} {m_newCode : Nat → Int32} {m_newOf : Nat → Int32} {m_code : Nat → Int32} {m_ofCode : Nat → Int32} {m_stack : Nat → Int32} {m_newCodes : Int32} {m_codes : Int32} {m_facts : Nat → Int32} {m_newStep : Nat → Int32} {m_step : Nat → Int32} {m_newSteps : Int32} {m_works : Int32} {m_refusedSteps : Int32} {m_begun : Int32} {m_done : Int32} {m_refusedNow : Int32} {m_now : Nat → Int32} {m_s : Nat → Int32} {m_past : Nat → Int32} {m_newBook : Nat → Int32} {m_book : Nat → Int32} {m_written : Int32} {m_mostBy : Nat → Int32} {m_stuffing : Nat → Int32} {m_stuffedMany : Int32} {m_lastBy : Nat → Int32} {m_leftBy : Nat → Int32} {m_splitBy : Nat → Int64} {m_seedNow : Int32} {m_image : Nat → Int32} {m_images : Int32} {n1 : Int32} {n2 : Int32} {n3 : Int32} {r : Int32} {o_m_thrown : Int32} {o_m_refused : Nat → Int32} (C : Cx J Z cX10_she 9 RX10 (some .int) rm_X10_she) (E : Ez J Z 0 0 (some (.int r)) (cs_X10 J.2.2.1 a0 o_m_thrown o_m_refused m_taped m_size m_at m_bad m_badKind m_opens m_faultAt m_tape m_newBed m_newLetter m_newReader m_bed m_letter m_reader m_newBeds m_newLetters m_newReaders m_beds m_letters m_readers m_newCode m_newOf m_code m_ofCode m_stack m_newCodes m_codes m_facts m_newStep m_step m_newSteps m_works m_refusedSteps m_begun m_done m_refusedNow m_now m_s m_past m_newBook m_book m_written m_mostBy m_stuffing m_stuffedMany m_lastBy m_leftBy m_splitBy m_seedNow m_image m_images)) : ∀ (y1 : Int32) (m_thrown : Int32) (m_refused : Nat → Int32), f_X10_she_40 n1 n2 n3 y1 m_thrown m_refused = some (r, o_m_thrown, o_m_refused) → G J Z 0 0 (cs_X10 J.2.2.1 a0 m_thrown m_refused m_taped m_size m_at m_bad m_badKind m_opens m_faultAt m_tape m_newBed m_newLetter m_newReader m_bed m_letter m_reader m_newBeds m_newLetters m_newReaders m_beds m_letters m_readers m_newCode m_newOf m_code m_ofCode m_stack m_newCodes m_codes m_facts m_newStep m_step m_newSteps m_works m_refusedSteps m_begun m_done m_refusedNow m_now m_s m_past m_newBook m_book m_written m_mostBy m_stuffing m_stuffedMany m_lastBy m_leftBy m_splitBy m_seedNow m_image m_images) 9 [(1, .int n1), (2, .int n2), (3, .int n3)] 40 [.int y1, .ref (a0 0)] := by
  intro y1 m_thrown m_refused h
  unfold f_X10_she_40 at h
  refine g_iconst (pc := 40) C dX10_she_40 ci_1 ?_
  refine g_iconst (pc := 41) C dX10_she_41 ci_1 ?_
  obtain ⟨v7, c8, c9, hc, h⟩ := b3_of h
  refine g_callV (pc := 42) C (w' := cs_X10 J.2.2.1 a0 c8 c9 m_taped m_size m_at m_bad m_badKind m_opens m_faultAt m_tape m_newBed m_newLetter m_newReader m_bed m_letter m_reader m_newBeds m_newLetters m_newReaders m_beds m_letters m_readers m_newCode m_newOf m_code m_ofCode m_stack m_newCodes m_codes m_facts m_newStep m_step m_newSteps m_works m_refusedSteps m_begun m_done m_refusedNow m_now m_s m_past m_newBook m_book m_written m_mostBy m_stuffing m_stuffedMany m_lastBy m_leftBy m_splitBy m_seedNow m_image m_images) (As := [.int y1, .int 1, .int 1]) (st := []) (ci := 10) (q0 := 0) rfl rfl (t_X10_may (a0 := a0) hc) Sub.same kw_1450 kw_1452 kw_20 kw_95 hy_X10_may kw_1453 rfl (Nat.le_of_ble_eq_true rfl) (Nat.le_of_ble_eq_true rfl) (Nat.le_of_ble_eq_true rfl) (Nat.le_of_ble_eq_true rfl) (Nat.le_of_ble_eq_true rfl) dX10_she_42 ?_
  refine g_if_ne (pc := 45) C (tgt := 50) dX10_she_45 rfl h (fun h => ?_) (fun h => ?_)
  · refine g_iconst (pc := 50) C dX10_she_50 ci_0 ?_
    refine g_istore (pc := 51) C [(4, .int 0), (1, .int n1), (2, .int n2), (3, .int n3)] dX10_she_51 (by decide) rfl ?_
    refine g_iconst (pc := 53) C dX10_she_53 ci_m1 ?_
    refine g_istore (pc := 54) C [(5, .int (-1)), (4, .int 0), (1, .int n1), (2, .int n2), (3, .int n3)] dX10_she_54 (by decide) rfl ?_
    refine g_iconst (pc := 56) C dX10_she_56 ci_0 ?_
    refine g_istore (pc := 57) C [(6, .int 0), (5, .int (-1)), (4, .int 0), (1, .int n1), (2, .int n2), (3, .int n3)] dX10_she_57 (by decide) rfl ?_
    refine g_lv [3, 4, 5, 2, 1, 0] rfl ?_
    exact j_X10_she_59 C E    FU 0 (-1) 0 c8 c9 h
  · refine g_iconst (pc := 48) C dX10_she_48 ci_0 ?_
    cases h
    exact g_iret C E dX10_she_49
set_option maxRecDepth 100000 in
set_option maxHeartbeats 4000000 in
theorem t_X10_she {J : Jt} {a0 : Nat → Nat} {m_thrown : Int32} {m_refused : Nat → Int32} {m_taped : Int32} {m_size : Int32} {m_at : Int32} {m_bad : Int32} {m_badKind : Int32} {m_opens : Int32} {m_faultAt : Int32} {m_tape : Nat → Int32} {m_newBed : Nat → Int32} {m_newLetter : Nat → Int32} {m_newReader : Nat → Int32} {m_bed : Nat → Int32} {m_letter : Nat → Int32} {m_reader : Nat → Int32} {m_newBeds : Int32} {m_newLetters : Int32} {m_newReaders : Int32} {m_beds : Int32} {m_letters : Int32} {m_readers : Int32} {m_newCode : Nat → Int32} {m_newOf : Nat → Int32} {m_code : Nat → Int32} {m_ofCode : Nat → Int32} {m_stack : Nat → Int32} {m_newCodes : Int32} {m_codes : Int32} {m_facts : Nat → Int32} {m_newStep : Nat → Int32} {m_step : Nat → Int32} {m_newSteps : Int32} {m_works : Int32} {m_refusedSteps : Int32} {m_begun : Int32} {m_done : Int32} {m_refusedNow : Int32} {m_now : Nat → Int32} {m_s : Nat → Int32} {m_past : Nat → Int32} {m_newBook : Nat → Int32} {m_book : Nat → Int32} {m_written : Int32} {m_mostBy : Nat → Int32} {m_stuffing : Nat → Int32} {m_stuffedMany : Int32} {m_lastBy : Nat → Int32} {m_leftBy : Nat → Int32} {m_splitBy : Nat → Int64} {m_seedNow : Int32} {m_image : Nat → Int32} {m_images : Int32} {n1 : Int32} {n2 : Int32} {n3 : Int32} {r : Int32} {o_m_thrown : Int32} {o_m_refused : Nat → Int32} (h : f_X10_she m_thrown m_refused n1 n2 n3 = some (r, o_m_thrown, o_m_refused)) : Mt J yX10_she cX10_she 9 (some .int) rm_X10_she [.ref (a0 0), .int n1, .int n2, .int n3] (cs_X10 J.2.2.1 a0 m_thrown m_refused m_taped m_size m_at m_bad m_badKind m_opens m_faultAt m_tape m_newBed m_newLetter m_newReader m_bed m_letter m_reader m_newBeds m_newLetters m_newReaders m_beds m_letters m_readers m_newCode m_newOf m_code m_ofCode m_stack m_newCodes m_codes m_facts m_newStep m_step m_newSteps m_works m_refusedSteps m_begun m_done m_refusedNow m_now m_s m_past m_newBook m_book m_written m_mostBy m_stuffing m_stuffedMany m_lastBy m_leftBy m_splitBy m_seedNow m_image m_images) (some (.int r)) (cs_X10 J.2.2.1 a0 o_m_thrown o_m_refused m_taped m_size m_at m_bad m_badKind m_opens m_faultAt m_tape m_newBed m_newLetter m_newReader m_bed m_letter m_reader m_newBeds m_newLetters m_newReaders m_beds m_letters m_readers m_newCode m_newOf m_code m_ofCode m_stack m_newCodes m_codes m_facts m_newStep m_step m_newSteps m_works m_refusedSteps m_begun m_done m_refusedNow m_now m_s m_past m_newBook m_book m_written m_mostBy m_stuffing m_stuffedMany m_lastBy m_leftBy m_splitBy m_seedNow m_image m_images) := by
  refine Mt_of (own := RX10) (by decide) rfl (Nat.le_of_ble_eq_true rfl) rfl (fun Z C E => ?_)
  unfold f_X10_she at h
  show G J Z 0 0 (cs_X10 J.2.2.1 a0 m_thrown m_refused m_taped m_size m_at m_bad m_badKind m_opens m_faultAt m_tape m_newBed m_newLetter m_newReader m_bed m_letter m_reader m_newBeds m_newLetters m_newReaders m_beds m_letters m_readers m_newCode m_newOf m_code m_ofCode m_stack m_newCodes m_codes m_facts m_newStep m_step m_newSteps m_works m_refusedSteps m_begun m_done m_refusedNow m_now m_s m_past m_newBook m_book m_written m_mostBy m_stuffing m_stuffedMany m_lastBy m_leftBy m_splitBy m_seedNow m_image m_images) 9 [(0, .ref (a0 0)), (1, .int n1), (2, .int n2), (3, .int n3)] 0 []
  refine g_aload_n (pc := 0) C 0 rfl dX10_she_0 ?_
  refine g_iconst (pc := 1) C dX10_she_1 ci_0 ?_
  refine g_put (pc := 2) C (w' := cs_X10 J.2.2.1 a0 0 m_refused m_taped m_size m_at m_bad m_badKind m_opens m_faultAt m_tape m_newBed m_newLetter m_newReader m_bed m_letter m_reader m_newBeds m_newLetters m_newReaders m_beds m_letters m_readers m_newCode m_newOf m_code m_ofCode m_stack m_newCodes m_codes m_facts m_newStep m_step m_newSteps m_works m_refusedSteps m_begun m_done m_refusedNow m_now m_s m_past m_newBook m_book m_written m_mostBy m_stuffing m_stuffedMany m_lastBy m_leftBy m_splitBy m_seedNow m_image m_images) FOK_X10 0 rfl rfl 0 (by decide) kw_1277 rfl rfl rfl (Nat.le_of_ble_eq_true rfl) dX10_she_2 rfl ?_
  refine g_aload_n (pc := 5) C 0 rfl dX10_she_5 ?_
  refine g_iload_n (pc := 6) C 1 rfl dX10_she_6 ?_
  refine g_iconst (pc := 7) C dX10_she_7 ci_0 ?_
  refine g_bipush (pc := 8) C dX10_she_8 cb_99 ?_
  obtain ⟨v10, hc, h⟩ := b1_of h
  refine g_callS (pc := 10) C (w' := cs_X10 J.2.2.1 a0 0 m_refused m_taped m_size m_at m_bad m_badKind m_opens m_faultAt m_tape m_newBed m_newLetter m_newReader m_bed m_letter m_reader m_newBeds m_newLetters m_newReaders m_beds m_letters m_readers m_newCode m_newOf m_code m_ofCode m_stack m_newCodes m_codes m_facts m_newStep m_step m_newSteps m_works m_refusedSteps m_begun m_done m_refusedNow m_now m_s m_past m_newBook m_book m_written m_mostBy m_stuffing m_stuffedMany m_lastBy m_leftBy m_splitBy m_seedNow m_image m_images) (As := [.int n1, .int 0, .int 99]) (st := [.ref (a0 0)]) (t_X10_within hc) Sub.nil kw_1689 kw_1690 kw_95 hy_X10_within kw_1691 rfl (Nat.le_of_ble_eq_true rfl) (Nat.le_of_ble_eq_true rfl) (Nat.le_of_ble_eq_true rfl) (Nat.le_of_ble_eq_true rfl) (Nat.le_of_ble_eq_true rfl) dX10_she_10 ?_
  refine g_if_eq (pc := 13) C (tgt := 39) dX10_she_13 rfl h (fun h => ?_) (fun h => ?_)
  · refine g_iconst (pc := 39) C dX10_she_39 ci_0 ?_
    refine g_lv [1, 2, 3] rfl ?_
    exact j_X10_she_40 C E    0 0 m_refused h
  · refine g_iload_n (pc := 16) C 2 rfl dX10_she_16 ?_
    refine g_iconst (pc := 17) C dX10_she_17 ci_0 ?_
    refine g_bipush (pc := 18) C dX10_she_18 cb_99 ?_
    obtain ⟨v11, hc, h⟩ := b1_of h
    refine g_callS (pc := 20) C (w' := cs_X10 J.2.2.1 a0 0 m_refused m_taped m_size m_at m_bad m_badKind m_opens m_faultAt m_tape m_newBed m_newLetter m_newReader m_bed m_letter m_reader m_newBeds m_newLetters m_newReaders m_beds m_letters m_readers m_newCode m_newOf m_code m_ofCode m_stack m_newCodes m_codes m_facts m_newStep m_step m_newSteps m_works m_refusedSteps m_begun m_done m_refusedNow m_now m_s m_past m_newBook m_book m_written m_mostBy m_stuffing m_stuffedMany m_lastBy m_leftBy m_splitBy m_seedNow m_image m_images) (As := [.int n2, .int 0, .int 99]) (st := [.ref (a0 0)]) (t_X10_within hc) Sub.nil kw_1689 kw_1690 kw_95 hy_X10_within kw_1691 rfl (Nat.le_of_ble_eq_true rfl) (Nat.le_of_ble_eq_true rfl) (Nat.le_of_ble_eq_true rfl) (Nat.le_of_ble_eq_true rfl) (Nat.le_of_ble_eq_true rfl) dX10_she_20 ?_
    refine g_if_eq (pc := 23) C (tgt := 39) dX10_she_23 rfl h (fun h => ?_) (fun h => ?_)
    · refine g_iconst (pc := 39) C dX10_she_39 ci_0 ?_
      refine g_lv [1, 2, 3] rfl ?_
      exact j_X10_she_40 C E    0 0 m_refused h
    · refine g_iload_n (pc := 26) C 3 rfl dX10_she_26 ?_
      refine g_iconst (pc := 27) C dX10_she_27 ci_0 ?_
      refine g_iconst (pc := 28) C dX10_she_28 ci_2 ?_
      obtain ⟨v12, hc, h⟩ := b1_of h
      refine g_callS (pc := 29) C (w' := cs_X10 J.2.2.1 a0 0 m_refused m_taped m_size m_at m_bad m_badKind m_opens m_faultAt m_tape m_newBed m_newLetter m_newReader m_bed m_letter m_reader m_newBeds m_newLetters m_newReaders m_beds m_letters m_readers m_newCode m_newOf m_code m_ofCode m_stack m_newCodes m_codes m_facts m_newStep m_step m_newSteps m_works m_refusedSteps m_begun m_done m_refusedNow m_now m_s m_past m_newBook m_book m_written m_mostBy m_stuffing m_stuffedMany m_lastBy m_leftBy m_splitBy m_seedNow m_image m_images) (As := [.int n3, .int 0, .int 2]) (st := [.ref (a0 0)]) (t_X10_within hc) Sub.nil kw_1689 kw_1690 kw_95 hy_X10_within kw_1691 rfl (Nat.le_of_ble_eq_true rfl) (Nat.le_of_ble_eq_true rfl) (Nat.le_of_ble_eq_true rfl) (Nat.le_of_ble_eq_true rfl) (Nat.le_of_ble_eq_true rfl) dX10_she_29 ?_
      refine g_if_eq (pc := 32) C (tgt := 39) dX10_she_32 rfl h (fun h => ?_) (fun h => ?_)
      · refine g_iconst (pc := 39) C dX10_she_39 ci_0 ?_
        refine g_lv [1, 2, 3] rfl ?_
        exact j_X10_she_40 C E    0 0 m_refused h
      · refine g_iconst (pc := 35) C dX10_she_35 ci_1 ?_
        refine g_goto (pc := 36) C (tgt := 40) dX10_she_36 rfl ?_
        refine g_lv [1, 2, 3] rfl ?_
        exact j_X10_she_40 C E    1 0 m_refused h
noncomputable def f_X10_seedBy_5  (m_beds : Int32) (m_now : Nat → Int32) (n1 : Int32) (n2 : Int32) : Nat → Int32 → Int32 → Option (Int32)
  | 0, _, _ => none
  | n + 1, x3, x4 => if m_beds ≤ x4 then some x3 else if ixb (84 + x4) 165 then b1 (f_X10_held (m_now (84 + x4).toNatClampNeg) n2) (fun v1 => f_X10_seedBy_5 m_beds m_now n1 n2 n (x3 + (((n1 >>> (x4 &&& 31)) &&& 1) * v1)) (x4 + 1)) else none
noncomputable def f_X10_seedBy (m_beds : Int32) (m_now : Nat → Int32) (n1 : Int32) (n2 : Int32) : Option (Int32) := f_X10_seedBy_5 m_beds m_now n1 n2 FU 0 0
def rm_X10_seedBy : Room := { frames := 1, cells := 0, slots := 0, locals := 21 }
set_option maxRecDepth 100000 in
set_option maxHeartbeats 4000000 in
theorem j_X10_seedBy_5 {J : Jt} {Z : Zt} {a0 : Nat → Nat} {m_thrown : Int32} {m_refused : Nat → Int32} {m_taped : Int32} {m_size : Int32} {m_at : Int32} {m_bad : Int32} {m_badKind : Int32} {m_opens : Int32} {m_faultAt : Int32} {m_tape : Nat → Int32} {m_newBed : Nat → Int32} {m_newLetter : Nat → Int32} {m_newReader : Nat → Int32} {m_bed : Nat → Int32} {m_letter : Nat → Int32} {m_reader : Nat → Int32} {m_newBeds : Int32} {m_newLetters : Int32} {m_newReaders : Int32} {m_beds : Int32} {m_letters : Int32} {m_readers : Int32} {m_newCode : Nat → Int32} {m_newOf : Nat → Int32} {m_code : Nat → Int32} {m_ofCode : Nat → Int32} {m_stack : Nat → Int32} {m_newCodes : Int32} {m_codes : Int32} {m_facts : Nat → Int32} {m_newStep : Nat → Int32} {m_step : Nat → Int32} {m_newSteps : Int32} {m_works : Int32} {m_refusedSteps : Int32} {m_begun : Int32} {m_done : Int32} {m_refusedNow : Int32} {m_now : Nat → Int32} {m_s : Nat → Int32} {m_past : Nat → Int32} {m_newBook : Nat → Int32} {m_book : Nat → Int32} {m_written : Int32} {m_mostBy : Nat → Int32} {m_stuffing : Nat → Int32} {m_stuffedMany : Int32} {m_lastBy : Nat → Int32} {m_leftBy : Nat → Int32} {m_splitBy : Nat → Int64} {m_seedNow : Int32} {m_image : Nat → Int32} {m_images : Int32} {n1 : Int32} {n2 : Int32} {r : Int32} (C : Cx J Z cX10_seedBy 5 RX10 (some .int) rm_X10_seedBy) (E : Ez J Z 0 0 (some (.int r)) (cs_X10 J.2.2.1 a0 m_thrown m_refused m_taped m_size m_at m_bad m_badKind m_opens m_faultAt m_tape m_newBed m_newLetter m_newReader m_bed m_letter m_reader m_newBeds m_newLetters m_newReaders m_beds m_letters m_readers m_newCode m_newOf m_code m_ofCode m_stack m_newCodes m_codes m_facts m_newStep m_step m_newSteps m_works m_refusedSteps m_begun m_done m_refusedNow m_now m_s m_past m_newBook m_book m_written m_mostBy m_stuffing m_stuffedMany m_lastBy m_leftBy m_splitBy m_seedNow m_image m_images)) : ∀ (n : Nat) (x3 : Int32) (x4 : Int32), f_X10_seedBy_5 m_beds m_now n1 n2 n x3 x4 = some r → G J Z 0 0 (cs_X10 J.2.2.1 a0 m_thrown m_refused m_taped m_size m_at m_bad m_badKind m_opens m_faultAt m_tape m_newBed m_newLetter m_newReader m_bed m_letter m_reader m_newBeds m_newLetters m_newReaders m_beds m_letters m_readers m_newCode m_newOf m_code m_ofCode m_stack m_newCodes m_codes m_facts m_newStep m_step m_newSteps m_works m_refusedSteps m_begun m_done m_refusedNow m_now m_s m_past m_newBook m_book m_written m_mostBy m_stuffing m_stuffedMany m_lastBy m_leftBy m_splitBy m_seedNow m_image m_images) 5 [(0, .ref (a0 0)), (1, .int n1), (2, .int n2), (3, .int x3), (4, .int x4)] 5 [] := by
  intro n
  induction n with
  | zero =>
    intro x3 x4 h
    rw [f_X10_seedBy_5] at h
    cases h
  | succ n ih =>
    intro x3 x4 h
    rw [f_X10_seedBy_5] at h
    refine g_iload (pc := 5) C 4 rfl dX10_seedBy_5 ?_
    refine g_aload_n (pc := 7) C 0 rfl dX10_seedBy_7 ?_
    refine g_get (pc := 8) C FOK_X10 0 rfl rfl 19 (by decide) kw_1296 rfl dX10_seedBy_8 ?_
    refine g_icmp_ge (pc := 11) C (tgt := 44) dX10_seedBy_11 rfl h (fun h => ?_) (fun h => ?_)
    · refine g_iload_n (pc := 44) C 3 rfl dX10_seedBy_44 ?_
      cases h
      exact g_iret C E dX10_seedBy_45
    · refine g_iload_n (pc := 14) C 3 rfl dX10_seedBy_14 ?_
      refine g_iload_n (pc := 15) C 1 rfl dX10_seedBy_15 ?_
      refine g_iload (pc := 16) C 4 rfl dX10_seedBy_16 ?_
      refine g_ishr (pc := 18) C dX10_seedBy_18 ?_
      refine g_iconst (pc := 19) C dX10_seedBy_19 ci_1 ?_
      refine g_iand (pc := 20) C dX10_seedBy_20 ?_
      refine g_aload_n (pc := 21) C 0 rfl dX10_seedBy_21 ?_
      refine g_get (pc := 22) C FOK_X10 0 rfl rfl 38 (by decide) kw_1315 rfl dX10_seedBy_22 ?_
      refine g_bipush (pc := 25) C dX10_seedBy_25 cb_84 ?_
      refine g_iload (pc := 27) C 4 rfl dX10_seedBy_27 ?_
      refine g_iadd (pc := 29) C dX10_seedBy_29 ?_
      obtain ⟨hi, h⟩ := ix_of h
      refine g_iald (pc := 30) C 17 rfl hi dX10_seedBy_30 ?_
      refine g_iload_n (pc := 31) C 2 rfl dX10_seedBy_31 ?_
      obtain ⟨v1, hc, h⟩ := b1_of h
      refine g_callS (pc := 32) C (w' := cs_X10 J.2.2.1 a0 m_thrown m_refused m_taped m_size m_at m_bad m_badKind m_opens m_faultAt m_tape m_newBed m_newLetter m_newReader m_bed m_letter m_reader m_newBeds m_newLetters m_newReaders m_beds m_letters m_readers m_newCode m_newOf m_code m_ofCode m_stack m_newCodes m_codes m_facts m_newStep m_step m_newSteps m_works m_refusedSteps m_begun m_done m_refusedNow m_now m_s m_past m_newBook m_book m_written m_mostBy m_stuffing m_stuffedMany m_lastBy m_leftBy m_splitBy m_seedNow m_image m_images) (As := [.int (m_now (84 + x4).toNatClampNeg), .int n2]) (st := [.int ((n1 >>> (x4 &&& 31)) &&& 1), .int x3]) (t_X10_held hc) Sub.nil kw_1643 kw_1644 kw_95 hy_X10_held kw_1645 rfl (Nat.le_of_ble_eq_true rfl) (Nat.le_of_ble_eq_true rfl) (Nat.le_of_ble_eq_true rfl) (Nat.le_of_ble_eq_true rfl) (Nat.le_of_ble_eq_true rfl) dX10_seedBy_32 ?_
      refine g_imul (pc := 35) C dX10_seedBy_35 ?_
      refine g_iadd (pc := 36) C dX10_seedBy_36 ?_
      refine g_istore_n (pc := 37) C [(3, .int (x3 + (((n1 >>> (x4 &&& 31)) &&& 1) * v1))), (0, .ref (a0 0)), (1, .int n1), (2, .int n2), (4, .int x4)] dX10_seedBy_37 rfl (by decide) rfl ?_
      refine g_iinc (pc := 38) C (j := 4) [(4, .int (x4 + 1)), (3, .int (x3 + (((n1 >>> (x4 &&& 31)) &&& 1) * v1))), (0, .ref (a0 0)), (1, .int n1), (2, .int n2)] dX10_seedBy_38 rfl (ii_1 _) (by decide) rfl ?_
      refine g_goto (pc := 41) C (tgt := 5) dX10_seedBy_41 rfl ?_
      refine g_lv [2, 3, 4, 1, 0] rfl ?_
      exact ih (x3 + (((n1 >>> (x4 &&& 31)) &&& 1) * v1)) (x4 + 1) h
set_option maxRecDepth 100000 in
set_option maxHeartbeats 4000000 in
theorem t_X10_seedBy {J : Jt} {a0 : Nat → Nat} {m_thrown : Int32} {m_refused : Nat → Int32} {m_taped : Int32} {m_size : Int32} {m_at : Int32} {m_bad : Int32} {m_badKind : Int32} {m_opens : Int32} {m_faultAt : Int32} {m_tape : Nat → Int32} {m_newBed : Nat → Int32} {m_newLetter : Nat → Int32} {m_newReader : Nat → Int32} {m_bed : Nat → Int32} {m_letter : Nat → Int32} {m_reader : Nat → Int32} {m_newBeds : Int32} {m_newLetters : Int32} {m_newReaders : Int32} {m_beds : Int32} {m_letters : Int32} {m_readers : Int32} {m_newCode : Nat → Int32} {m_newOf : Nat → Int32} {m_code : Nat → Int32} {m_ofCode : Nat → Int32} {m_stack : Nat → Int32} {m_newCodes : Int32} {m_codes : Int32} {m_facts : Nat → Int32} {m_newStep : Nat → Int32} {m_step : Nat → Int32} {m_newSteps : Int32} {m_works : Int32} {m_refusedSteps : Int32} {m_begun : Int32} {m_done : Int32} {m_refusedNow : Int32} {m_now : Nat → Int32} {m_s : Nat → Int32} {m_past : Nat → Int32} {m_newBook : Nat → Int32} {m_book : Nat → Int32} {m_written : Int32} {m_mostBy : Nat → Int32} {m_stuffing : Nat → Int32} {m_stuffedMany : Int32} {m_lastBy : Nat → Int32} {m_leftBy : Nat → Int32} {m_splitBy : Nat → Int64} {m_seedNow : Int32} {m_image : Nat → Int32} {m_images : Int32} {n1 : Int32} {n2 : Int32} {r : Int32} (h : f_X10_seedBy m_beds m_now n1 n2 = some r) : Mt J yX10_seedBy cX10_seedBy 5 (some .int) rm_X10_seedBy [.ref (a0 0), .int n1, .int n2] (cs_X10 J.2.2.1 a0 m_thrown m_refused m_taped m_size m_at m_bad m_badKind m_opens m_faultAt m_tape m_newBed m_newLetter m_newReader m_bed m_letter m_reader m_newBeds m_newLetters m_newReaders m_beds m_letters m_readers m_newCode m_newOf m_code m_ofCode m_stack m_newCodes m_codes m_facts m_newStep m_step m_newSteps m_works m_refusedSteps m_begun m_done m_refusedNow m_now m_s m_past m_newBook m_book m_written m_mostBy m_stuffing m_stuffedMany m_lastBy m_leftBy m_splitBy m_seedNow m_image m_images) (some (.int r)) (cs_X10 J.2.2.1 a0 m_thrown m_refused m_taped m_size m_at m_bad m_badKind m_opens m_faultAt m_tape m_newBed m_newLetter m_newReader m_bed m_letter m_reader m_newBeds m_newLetters m_newReaders m_beds m_letters m_readers m_newCode m_newOf m_code m_ofCode m_stack m_newCodes m_codes m_facts m_newStep m_step m_newSteps m_works m_refusedSteps m_begun m_done m_refusedNow m_now m_s m_past m_newBook m_book m_written m_mostBy m_stuffing m_stuffedMany m_lastBy m_leftBy m_splitBy m_seedNow m_image m_images) := by
  refine Mt_of (own := RX10) (by decide) rfl (Nat.le_of_ble_eq_true rfl) rfl (fun Z C E => ?_)
  unfold f_X10_seedBy at h
  show G J Z 0 0 (cs_X10 J.2.2.1 a0 m_thrown m_refused m_taped m_size m_at m_bad m_badKind m_opens m_faultAt m_tape m_newBed m_newLetter m_newReader m_bed m_letter m_reader m_newBeds m_newLetters m_newReaders m_beds m_letters m_readers m_newCode m_newOf m_code m_ofCode m_stack m_newCodes m_codes m_facts m_newStep m_step m_newSteps m_works m_refusedSteps m_begun m_done m_refusedNow m_now m_s m_past m_newBook m_book m_written m_mostBy m_stuffing m_stuffedMany m_lastBy m_leftBy m_splitBy m_seedNow m_image m_images) 5 [(0, .ref (a0 0)), (1, .int n1), (2, .int n2)] 0 []
  refine g_iconst (pc := 0) C dX10_seedBy_0 ci_0 ?_
  refine g_istore_n (pc := 1) C [(3, .int 0), (0, .ref (a0 0)), (1, .int n1), (2, .int n2)] dX10_seedBy_1 rfl (by decide) rfl ?_
  refine g_iconst (pc := 2) C dX10_seedBy_2 ci_0 ?_
  refine g_istore (pc := 3) C [(4, .int 0), (3, .int 0), (0, .ref (a0 0)), (1, .int n1), (2, .int n2)] dX10_seedBy_3 (by decide) rfl ?_
  refine g_lv [2, 3, 4, 1, 0] rfl ?_
  exact j_X10_seedBy_5 C E    FU 0 0 h
noncomputable def f_X10_seed_58  (m_beds : Int32) (m_now : Nat → Int32) (n1 : Int32) (n2 : Int32) (n3 : Int32) : Nat → Int32 → Int32 → (Nat → Int32) → Option (Int32 × Int32 × (Nat → Int32))
  | 0, _, _, _ => none
  | n + 1, x4, m_thrown, m_refused => b1 (f_X10_seedBy m_beds m_now n2 x4) (fun v1 => if v1 ≤ n3 then if ((n2 >>> (n1 &&& 31)) &&& 1) = 0 then some (0, m_thrown, m_refused) else if ixb (84 + n1) 165 then b1 (f_X10_held (m_now (84 + n1).toNatClampNeg) x4) (fun v2 => some (v2, m_thrown, m_refused)) else none else f_X10_seed_58 m_beds m_now n1 n2 n3 n (x4 + (-1)) m_thrown m_refused)
noncomputable def f_X10_seed_44  (m_beds : Int32) (m_now : Nat → Int32) (n1 : Int32) (n2 : Int32) (n3 : Int32) (y1 : Int32) (m_thrown : Int32) (m_refused : Nat → Int32) : Option (Int32 × Int32 × (Nat → Int32)) := b3 (f_X10_may m_thrown m_refused y1 2 1) (fun v3 c4 c5 => if v3 = 0 then some (0, c4, c5) else f_X10_seed_58 m_beds m_now n1 n2 n3 FU 12 c4 c5)
noncomputable def f_X10_seed (m_thrown : Int32) (m_refused : Nat → Int32) (m_beds : Int32) (m_now : Nat → Int32) (n1 : Int32) (n2 : Int32) (n3 : Int32) : Option (Int32 × Int32 × (Nat → Int32)) := b3 (f_X10_isBed 0 m_refused m_beds n1 1) (fun v6 c7 c8 => if v6 = 0 then some (0, c7, c8) else if n2 < 0 then f_X10_seed_44 m_beds m_now n1 n2 n3 0 c7 c8 else if ((1 : Int32) <<< (m_beds &&& 31)) ≤ n2 then f_X10_seed_44 m_beds m_now n1 n2 n3 0 c7 c8 else b1 (f_X10_within n3 0 99) (fun v9 => if v9 = 0 then f_X10_seed_44 m_beds m_now n1 n2 n3 0 c7 c8 else f_X10_seed_44 m_beds m_now n1 n2 n3 1 c7 c8))
def rm_X10_seed : Room := { frames := 2, cells := 0, slots := 0, locals := 45 }
set_option maxRecDepth 100000 in
set_option maxHeartbeats 4000000 in
theorem j_X10_seed_58 {J : Jt} {Z : Zt} {a0 : Nat → Nat} {m_taped : Int32} {m_size : Int32} {m_at : Int32} {m_bad : Int32} {m_badKind : Int32} {m_opens : Int32} {m_faultAt : Int32} {m_tape : Nat → Int32} {m_newBed : Nat → Int32} {m_newLetter : Nat → Int32} {m_newReader : Nat → Int32} {m_bed : Nat → Int32} {m_letter : Nat → Int32} {m_reader : Nat → Int32} {m_newBeds : Int32} {m_newLetters : Int32} {m_newReaders : Int32} {m_beds : Int32} {m_letters : Int32} {m_readers : Int32} {m_newCode : Nat → Int32} {m_newOf : Nat → Int32} {m_code : Nat → Int32} {m_ofCode : Nat → Int32} {m_stack : Nat → Int32} {m_newCodes : Int32} {m_codes : Int32} {m_facts : Nat → Int32} {m_newStep : Nat → Int32} {m_step : Nat → Int32} {m_newSteps : Int32} {m_works : Int32} {m_refusedSteps : Int32} {m_begun : Int32} {m_done : Int32} {m_refusedNow : Int32} {m_now : Nat → Int32} {m_s : Nat → Int32} {m_past : Nat → Int32} {m_newBook : Nat → Int32} {m_book : Nat → Int32} {m_written : Int32} {m_mostBy : Nat → Int32} {m_stuffing : Nat → Int32} {m_stuffedMany : Int32} {m_lastBy : Nat → Int32} {m_leftBy : Nat → Int32} {m_splitBy : Nat → Int64} {m_seedNow : Int32} {m_image : Nat → Int32} {m_images : Int32} {n1 : Int32} {n2 : Int32} {n3 : Int32} {r : Int32} {o_m_thrown : Int32} {o_m_refused : Nat → Int32} (C : Cx J Z cX10_seed 5 RX10 (some .int) rm_X10_seed) (E : Ez J Z 0 0 (some (.int r)) (cs_X10 J.2.2.1 a0 o_m_thrown o_m_refused m_taped m_size m_at m_bad m_badKind m_opens m_faultAt m_tape m_newBed m_newLetter m_newReader m_bed m_letter m_reader m_newBeds m_newLetters m_newReaders m_beds m_letters m_readers m_newCode m_newOf m_code m_ofCode m_stack m_newCodes m_codes m_facts m_newStep m_step m_newSteps m_works m_refusedSteps m_begun m_done m_refusedNow m_now m_s m_past m_newBook m_book m_written m_mostBy m_stuffing m_stuffedMany m_lastBy m_leftBy m_splitBy m_seedNow m_image m_images)) : ∀ (n : Nat) (x4 : Int32) (m_thrown : Int32) (m_refused : Nat → Int32), f_X10_seed_58 m_beds m_now n1 n2 n3 n x4 m_thrown m_refused = some (r, o_m_thrown, o_m_refused) → G J Z 0 0 (cs_X10 J.2.2.1 a0 m_thrown m_refused m_taped m_size m_at m_bad m_badKind m_opens m_faultAt m_tape m_newBed m_newLetter m_newReader m_bed m_letter m_reader m_newBeds m_newLetters m_newReaders m_beds m_letters m_readers m_newCode m_newOf m_code m_ofCode m_stack m_newCodes m_codes m_facts m_newStep m_step m_newSteps m_works m_refusedSteps m_begun m_done m_refusedNow m_now m_s m_past m_newBook m_book m_written m_mostBy m_stuffing m_stuffedMany m_lastBy m_leftBy m_splitBy m_seedNow m_image m_images) 5 [(0, .ref (a0 0)), (1, .int n1), (2, .int n2), (3, .int n3), (4, .int x4)] 58 [] := by
  intro n
  induction n with
  | zero =>
    intro x4 m_thrown m_refused h
    rw [f_X10_seed_58] at h
    cases h
  | succ n ih =>
    intro x4 m_thrown m_refused h
    rw [f_X10_seed_58] at h
    refine g_aload_n (pc := 58) C 0 rfl dX10_seed_58 ?_
    refine g_iload_n (pc := 59) C 2 rfl dX10_seed_59 ?_
    refine g_iload (pc := 60) C 4 rfl dX10_seed_60 ?_
    obtain ⟨v1, hc, h⟩ := b1_of h
    refine g_callV (pc := 62) C (w' := cs_X10 J.2.2.1 a0 m_thrown m_refused m_taped m_size m_at m_bad m_badKind m_opens m_faultAt m_tape m_newBed m_newLetter m_newReader m_bed m_letter m_reader m_newBeds m_newLetters m_newReaders m_beds m_letters m_readers m_newCode m_newOf m_code m_ofCode m_stack m_newCodes m_codes m_facts m_newStep m_step m_newSteps m_works m_refusedSteps m_begun m_done m_refusedNow m_now m_s m_past m_newBook m_book m_written m_mostBy m_stuffing m_stuffedMany m_lastBy m_leftBy m_splitBy m_seedNow m_image m_images) (As := [.int n2, .int x4]) (st := []) (ci := 10) (q0 := 0) rfl rfl (t_X10_seedBy (a0 := a0) hc) Sub.same kw_1831 kw_1833 kw_78 kw_95 hy_X10_seedBy kw_1834 rfl (Nat.le_of_ble_eq_true rfl) (Nat.le_of_ble_eq_true rfl) (Nat.le_of_ble_eq_true rfl) (Nat.le_of_ble_eq_true rfl) (Nat.le_of_ble_eq_true rfl) dX10_seed_62 ?_
    refine g_iload_n (pc := 65) C 3 rfl dX10_seed_65 ?_
    refine g_icmp_le (pc := 66) C (tgt := 75) dX10_seed_66 rfl h (fun h => ?_) (fun h => ?_)
    · refine g_iload_n (pc := 75) C 2 rfl dX10_seed_75 ?_
      refine g_iload_n (pc := 76) C 1 rfl dX10_seed_76 ?_
      refine g_ishr (pc := 77) C dX10_seed_77 ?_
      refine g_iconst (pc := 78) C dX10_seed_78 ci_1 ?_
      refine g_iand (pc := 79) C dX10_seed_79 ?_
      refine g_if_ne (pc := 80) C (tgt := 87) dX10_seed_80 rfl h (fun h => ?_) (fun h => ?_)
      · refine g_aload_n (pc := 87) C 0 rfl dX10_seed_87 ?_
        refine g_get (pc := 88) C FOK_X10 0 rfl rfl 38 (by decide) kw_1315 rfl dX10_seed_88 ?_
        refine g_bipush (pc := 91) C dX10_seed_91 cb_84 ?_
        refine g_iload_n (pc := 93) C 1 rfl dX10_seed_93 ?_
        refine g_iadd (pc := 94) C dX10_seed_94 ?_
        obtain ⟨hi, h⟩ := ix_of h
        refine g_iald (pc := 95) C 17 rfl hi dX10_seed_95 ?_
        refine g_iload (pc := 96) C 4 rfl dX10_seed_96 ?_
        obtain ⟨v2, hc, h⟩ := b1_of h
        refine g_callS (pc := 98) C (w' := cs_X10 J.2.2.1 a0 m_thrown m_refused m_taped m_size m_at m_bad m_badKind m_opens m_faultAt m_tape m_newBed m_newLetter m_newReader m_bed m_letter m_reader m_newBeds m_newLetters m_newReaders m_beds m_letters m_readers m_newCode m_newOf m_code m_ofCode m_stack m_newCodes m_codes m_facts m_newStep m_step m_newSteps m_works m_refusedSteps m_begun m_done m_refusedNow m_now m_s m_past m_newBook m_book m_written m_mostBy m_stuffing m_stuffedMany m_lastBy m_leftBy m_splitBy m_seedNow m_image m_images) (As := [.int (m_now (84 + n1).toNatClampNeg), .int x4]) (st := []) (t_X10_held hc) Sub.nil kw_1643 kw_1644 kw_95 hy_X10_held kw_1645 rfl (Nat.le_of_ble_eq_true rfl) (Nat.le_of_ble_eq_true rfl) (Nat.le_of_ble_eq_true rfl) (Nat.le_of_ble_eq_true rfl) (Nat.le_of_ble_eq_true rfl) dX10_seed_98 ?_
        cases h
        exact g_iret C E dX10_seed_101
      · refine g_iconst (pc := 83) C dX10_seed_83 ci_0 ?_
        refine g_goto (pc := 84) C (tgt := 101) dX10_seed_84 rfl ?_
        cases h
        exact g_iret C E dX10_seed_101
    · refine g_iinc (pc := 69) C (j := 4) [(4, .int (x4 + (-1))), (0, .ref (a0 0)), (1, .int n1), (2, .int n2), (3, .int n3)] dX10_seed_69 rfl (ii_m1 _) (by decide) rfl ?_
      refine g_goto (pc := 72) C (tgt := 58) dX10_seed_72 rfl ?_
      refine g_lv [1, 2, 3, 4, 0] rfl ?_
      exact ih (x4 + (-1)) m_thrown m_refused h
set_option maxRecDepth 100000 in
set_option maxHeartbeats 4000000 in
theorem j_X10_seed_44 {J : Jt} {Z : Zt} {a0 : Nat → Nat} {m_taped : Int32} {m_size : Int32} {m_at : Int32} {m_bad : Int32} {m_badKind : Int32} {m_opens : Int32} {m_faultAt : Int32} {m_tape : Nat → Int32} {m_newBed : Nat → Int32} {m_newLetter : Nat → Int32} {m_newReader : Nat → Int32} {m_bed : Nat → Int32} {m_letter : Nat → Int32} {m_reader : Nat → Int32} {m_newBeds : Int32} {m_newLetters : Int32} {m_newReaders : Int32} {m_beds : Int32} {m_letters : Int32} {m_readers : Int32} {m_newCode : Nat → Int32} {m_newOf : Nat → Int32} {m_code : Nat → Int32} {m_ofCode : Nat → Int32} {m_stack : Nat → Int32} {m_newCodes : Int32} {m_codes : Int32} {m_facts : Nat → Int32} {m_newStep : Nat → Int32} {m_step : Nat → Int32} {m_newSteps : Int32} {m_works : Int32} {m_refusedSteps : Int32} {m_begun : Int32} {m_done : Int32} {m_refusedNow : Int32} {m_now : Nat → Int32} {m_s : Nat → Int32} {m_past : Nat → Int32} {m_newBook : Nat → Int32} {m_book : Nat → Int32} {m_written : Int32} {m_mostBy : Nat → Int32} {m_stuffing : Nat → Int32} {m_stuffedMany : Int32} {m_lastBy : Nat → Int32} {m_leftBy : Nat → Int32} {m_splitBy : Nat → Int64} {m_seedNow : Int32} {m_image : Nat → Int32} {m_images : Int32} {n1 : Int32} {n2 : Int32} {n3 : Int32} {r : Int32} {o_m_thrown : Int32} {o_m_refused : Nat → Int32} (C : Cx J Z cX10_seed 5 RX10 (some .int) rm_X10_seed) (E : Ez J Z 0 0 (some (.int r)) (cs_X10 J.2.2.1 a0 o_m_thrown o_m_refused m_taped m_size m_at m_bad m_badKind m_opens m_faultAt m_tape m_newBed m_newLetter m_newReader m_bed m_letter m_reader m_newBeds m_newLetters m_newReaders m_beds m_letters m_readers m_newCode m_newOf m_code m_ofCode m_stack m_newCodes m_codes m_facts m_newStep m_step m_newSteps m_works m_refusedSteps m_begun m_done m_refusedNow m_now m_s m_past m_newBook m_book m_written m_mostBy m_stuffing m_stuffedMany m_lastBy m_leftBy m_splitBy m_seedNow m_image m_images)) : ∀ (y1 : Int32) (m_thrown : Int32) (m_refused : Nat → Int32), f_X10_seed_44 m_beds m_now n1 n2 n3 y1 m_thrown m_refused = some (r, o_m_thrown, o_m_refused) → G J Z 0 0 (cs_X10 J.2.2.1 a0 m_thrown m_refused m_taped m_size m_at m_bad m_badKind m_opens m_faultAt m_tape m_newBed m_newLetter m_newReader m_bed m_letter m_reader m_newBeds m_newLetters m_newReaders m_beds m_letters m_readers m_newCode m_newOf m_code m_ofCode m_stack m_newCodes m_codes m_facts m_newStep m_step m_newSteps m_works m_refusedSteps m_begun m_done m_refusedNow m_now m_s m_past m_newBook m_book m_written m_mostBy m_stuffing m_stuffedMany m_lastBy m_leftBy m_splitBy m_seedNow m_image m_images) 5 [(0, .ref (a0 0)), (1, .int n1), (2, .int n2), (3, .int n3)] 44 [.int y1, .ref (a0 0)] := by
  intro y1 m_thrown m_refused h
  unfold f_X10_seed_44 at h
  refine g_iconst (pc := 44) C dX10_seed_44 ci_2 ?_
  refine g_iconst (pc := 45) C dX10_seed_45 ci_1 ?_
  obtain ⟨v3, c4, c5, hc, h⟩ := b3_of h
  refine g_callV (pc := 46) C (w' := cs_X10 J.2.2.1 a0 c4 c5 m_taped m_size m_at m_bad m_badKind m_opens m_faultAt m_tape m_newBed m_newLetter m_newReader m_bed m_letter m_reader m_newBeds m_newLetters m_newReaders m_beds m_letters m_readers m_newCode m_newOf m_code m_ofCode m_stack m_newCodes m_codes m_facts m_newStep m_step m_newSteps m_works m_refusedSteps m_begun m_done m_refusedNow m_now m_s m_past m_newBook m_book m_written m_mostBy m_stuffing m_stuffedMany m_lastBy m_leftBy m_splitBy m_seedNow m_image m_images) (As := [.int y1, .int 2, .int 1]) (st := []) (ci := 10) (q0 := 0) rfl rfl (t_X10_may (a0 := a0) hc) Sub.same kw_1450 kw_1452 kw_20 kw_95 hy_X10_may kw_1453 rfl (Nat.le_of_ble_eq_true rfl) (Nat.le_of_ble_eq_true rfl) (Nat.le_of_ble_eq_true rfl) (Nat.le_of_ble_eq_true rfl) (Nat.le_of_ble_eq_true rfl) dX10_seed_46 ?_
  refine g_if_ne (pc := 49) C (tgt := 54) dX10_seed_49 rfl h (fun h => ?_) (fun h => ?_)
  · refine g_bipush (pc := 54) C dX10_seed_54 cb_12 ?_
    refine g_istore (pc := 56) C [(4, .int 12), (0, .ref (a0 0)), (1, .int n1), (2, .int n2), (3, .int n3)] dX10_seed_56 (by decide) rfl ?_
    refine g_lv [1, 2, 3, 4, 0] rfl ?_
    exact j_X10_seed_58 C E    FU 12 c4 c5 h
  · refine g_iconst (pc := 52) C dX10_seed_52 ci_0 ?_
    cases h
    exact g_iret C E dX10_seed_53
set_option maxRecDepth 100000 in
set_option maxHeartbeats 4000000 in
theorem t_X10_seed {J : Jt} {a0 : Nat → Nat} {m_thrown : Int32} {m_refused : Nat → Int32} {m_taped : Int32} {m_size : Int32} {m_at : Int32} {m_bad : Int32} {m_badKind : Int32} {m_opens : Int32} {m_faultAt : Int32} {m_tape : Nat → Int32} {m_newBed : Nat → Int32} {m_newLetter : Nat → Int32} {m_newReader : Nat → Int32} {m_bed : Nat → Int32} {m_letter : Nat → Int32} {m_reader : Nat → Int32} {m_newBeds : Int32} {m_newLetters : Int32} {m_newReaders : Int32} {m_beds : Int32} {m_letters : Int32} {m_readers : Int32} {m_newCode : Nat → Int32} {m_newOf : Nat → Int32} {m_code : Nat → Int32} {m_ofCode : Nat → Int32} {m_stack : Nat → Int32} {m_newCodes : Int32} {m_codes : Int32} {m_facts : Nat → Int32} {m_newStep : Nat → Int32} {m_step : Nat → Int32} {m_newSteps : Int32} {m_works : Int32} {m_refusedSteps : Int32} {m_begun : Int32} {m_done : Int32} {m_refusedNow : Int32} {m_now : Nat → Int32} {m_s : Nat → Int32} {m_past : Nat → Int32} {m_newBook : Nat → Int32} {m_book : Nat → Int32} {m_written : Int32} {m_mostBy : Nat → Int32} {m_stuffing : Nat → Int32} {m_stuffedMany : Int32} {m_lastBy : Nat → Int32} {m_leftBy : Nat → Int32} {m_splitBy : Nat → Int64} {m_seedNow : Int32} {m_image : Nat → Int32} {m_images : Int32} {n1 : Int32} {n2 : Int32} {n3 : Int32} {r : Int32} {o_m_thrown : Int32} {o_m_refused : Nat → Int32} (h : f_X10_seed m_thrown m_refused m_beds m_now n1 n2 n3 = some (r, o_m_thrown, o_m_refused)) : Mt J yX10_seed cX10_seed 5 (some .int) rm_X10_seed [.ref (a0 0), .int n1, .int n2, .int n3] (cs_X10 J.2.2.1 a0 m_thrown m_refused m_taped m_size m_at m_bad m_badKind m_opens m_faultAt m_tape m_newBed m_newLetter m_newReader m_bed m_letter m_reader m_newBeds m_newLetters m_newReaders m_beds m_letters m_readers m_newCode m_newOf m_code m_ofCode m_stack m_newCodes m_codes m_facts m_newStep m_step m_newSteps m_works m_refusedSteps m_begun m_done m_refusedNow m_now m_s m_past m_newBook m_book m_written m_mostBy m_stuffing m_stuffedMany m_lastBy m_leftBy m_splitBy m_seedNow m_image m_images) (some (.int r)) (cs_X10 J.2.2.1 a0 o_m_thrown o_m_refused m_taped m_size m_at m_bad m_badKind m_opens m_faultAt m_tape m_newBed m_newLetter m_newReader m_bed m_letter m_reader m_newBeds m_newLetters m_newReaders m_beds m_letters m_readers m_newCode m_newOf m_code m_ofCode m_stack m_newCodes m_codes m_facts m_newStep m_step m_newSteps m_works m_refusedSteps m_begun m_done m_refusedNow m_now m_s m_past m_newBook m_book m_written m_mostBy m_stuffing m_stuffedMany m_lastBy m_leftBy m_splitBy m_seedNow m_image m_images) := by
  refine Mt_of (own := RX10) (by decide) rfl (Nat.le_of_ble_eq_true rfl) rfl (fun Z C E => ?_)
  unfold f_X10_seed at h
  show G J Z 0 0 (cs_X10 J.2.2.1 a0 m_thrown m_refused m_taped m_size m_at m_bad m_badKind m_opens m_faultAt m_tape m_newBed m_newLetter m_newReader m_bed m_letter m_reader m_newBeds m_newLetters m_newReaders m_beds m_letters m_readers m_newCode m_newOf m_code m_ofCode m_stack m_newCodes m_codes m_facts m_newStep m_step m_newSteps m_works m_refusedSteps m_begun m_done m_refusedNow m_now m_s m_past m_newBook m_book m_written m_mostBy m_stuffing m_stuffedMany m_lastBy m_leftBy m_splitBy m_seedNow m_image m_images) 5 [(0, .ref (a0 0)), (1, .int n1), (2, .int n2), (3, .int n3)] 0 []
  refine g_aload_n (pc := 0) C 0 rfl dX10_seed_0 ?_
  refine g_iconst (pc := 1) C dX10_seed_1 ci_0 ?_
  refine g_put (pc := 2) C (w' := cs_X10 J.2.2.1 a0 0 m_refused m_taped m_size m_at m_bad m_badKind m_opens m_faultAt m_tape m_newBed m_newLetter m_newReader m_bed m_letter m_reader m_newBeds m_newLetters m_newReaders m_beds m_letters m_readers m_newCode m_newOf m_code m_ofCode m_stack m_newCodes m_codes m_facts m_newStep m_step m_newSteps m_works m_refusedSteps m_begun m_done m_refusedNow m_now m_s m_past m_newBook m_book m_written m_mostBy m_stuffing m_stuffedMany m_lastBy m_leftBy m_splitBy m_seedNow m_image m_images) FOK_X10 0 rfl rfl 0 (by decide) kw_1277 rfl rfl rfl (Nat.le_of_ble_eq_true rfl) dX10_seed_2 rfl ?_
  refine g_aload_n (pc := 5) C 0 rfl dX10_seed_5 ?_
  refine g_iload_n (pc := 6) C 1 rfl dX10_seed_6 ?_
  refine g_iconst (pc := 7) C dX10_seed_7 ci_1 ?_
  obtain ⟨v6, c7, c8, hc, h⟩ := b3_of h
  refine g_callV (pc := 8) C (w' := cs_X10 J.2.2.1 a0 c7 c8 m_taped m_size m_at m_bad m_badKind m_opens m_faultAt m_tape m_newBed m_newLetter m_newReader m_bed m_letter m_reader m_newBeds m_newLetters m_newReaders m_beds m_letters m_readers m_newCode m_newOf m_code m_ofCode m_stack m_newCodes m_codes m_facts m_newStep m_step m_newSteps m_works m_refusedSteps m_begun m_done m_refusedNow m_now m_s m_past m_newBook m_book m_written m_mostBy m_stuffing m_stuffedMany m_lastBy m_leftBy m_splitBy m_seedNow m_image m_images) (As := [.int n1, .int 1]) (st := []) (ci := 10) (q0 := 0) rfl rfl (t_X10_isBed (a0 := a0) hc) Sub.same kw_1716 kw_1718 kw_68 kw_95 hy_X10_isBed kw_1719 rfl (Nat.le_of_ble_eq_true rfl) (Nat.le_of_ble_eq_true rfl) (Nat.le_of_ble_eq_true rfl) (Nat.le_of_ble_eq_true rfl) (Nat.le_of_ble_eq_true rfl) dX10_seed_8 ?_
  refine g_if_eq (pc := 11) C (tgt := 52) dX10_seed_11 rfl h (fun h => ?_) (fun h => ?_)
  · refine g_iconst (pc := 52) C dX10_seed_52 ci_0 ?_
    cases h
    exact g_iret C E dX10_seed_53
  · refine g_aload_n (pc := 14) C 0 rfl dX10_seed_14 ?_
    refine g_iload_n (pc := 15) C 2 rfl dX10_seed_15 ?_
    refine g_if_lt (pc := 16) C (tgt := 43) dX10_seed_16 rfl h (fun h => ?_) (fun h => ?_)
    · refine g_iconst (pc := 43) C dX10_seed_43 ci_0 ?_
      exact j_X10_seed_44 C E    0 c7 c8 h
    · refine g_iload_n (pc := 19) C 2 rfl dX10_seed_19 ?_
      refine g_iconst (pc := 20) C dX10_seed_20 ci_1 ?_
      refine g_aload_n (pc := 21) C 0 rfl dX10_seed_21 ?_
      refine g_get (pc := 22) C FOK_X10 0 rfl rfl 19 (by decide) kw_1296 rfl dX10_seed_22 ?_
      refine g_ishl (pc := 25) C dX10_seed_25 ?_
      refine g_icmp_ge (pc := 26) C (tgt := 43) dX10_seed_26 rfl h (fun h => ?_) (fun h => ?_)
      · refine g_iconst (pc := 43) C dX10_seed_43 ci_0 ?_
        exact j_X10_seed_44 C E    0 c7 c8 h
      · refine g_iload_n (pc := 29) C 3 rfl dX10_seed_29 ?_
        refine g_iconst (pc := 30) C dX10_seed_30 ci_0 ?_
        refine g_bipush (pc := 31) C dX10_seed_31 cb_99 ?_
        obtain ⟨v9, hc, h⟩ := b1_of h
        refine g_callS (pc := 33) C (w' := cs_X10 J.2.2.1 a0 c7 c8 m_taped m_size m_at m_bad m_badKind m_opens m_faultAt m_tape m_newBed m_newLetter m_newReader m_bed m_letter m_reader m_newBeds m_newLetters m_newReaders m_beds m_letters m_readers m_newCode m_newOf m_code m_ofCode m_stack m_newCodes m_codes m_facts m_newStep m_step m_newSteps m_works m_refusedSteps m_begun m_done m_refusedNow m_now m_s m_past m_newBook m_book m_written m_mostBy m_stuffing m_stuffedMany m_lastBy m_leftBy m_splitBy m_seedNow m_image m_images) (As := [.int n3, .int 0, .int 99]) (st := [.ref (a0 0)]) (t_X10_within hc) Sub.nil kw_1689 kw_1690 kw_95 hy_X10_within kw_1691 rfl (Nat.le_of_ble_eq_true rfl) (Nat.le_of_ble_eq_true rfl) (Nat.le_of_ble_eq_true rfl) (Nat.le_of_ble_eq_true rfl) (Nat.le_of_ble_eq_true rfl) dX10_seed_33 ?_
        refine g_if_eq (pc := 36) C (tgt := 43) dX10_seed_36 rfl h (fun h => ?_) (fun h => ?_)
        · refine g_iconst (pc := 43) C dX10_seed_43 ci_0 ?_
          exact j_X10_seed_44 C E    0 c7 c8 h
        · refine g_iconst (pc := 39) C dX10_seed_39 ci_1 ?_
          refine g_goto (pc := 40) C (tgt := 44) dX10_seed_40 rfl ?_
          exact j_X10_seed_44 C E    1 c7 c8 h
noncomputable def f_X10_oftenOf_15  (m_beds : Int32) (m_now : Nat → Int32) (n1 : Int32) (k4 : Int32 → Int32 → Option (Int32)) : Nat → Int32 → Int32 → Int32 → Option (Int32)
  | 0, _, _, _ => none
  | n + 1, x2, x3, x4 => if ixb (84 + x3) 165 then if (m_now (84 + x3).toNatClampNeg) ≤ x4 then k4 x2 (x3 + 1) else if ixb ((12 + (12 * x3)) + x4) 165 then if (m_now ((12 + (12 * x3)) + x4).toNatClampNeg) = n1 then f_X10_oftenOf_15 m_beds m_now n1 k4 n (x2 + 1) x3 (x4 + 1) else f_X10_oftenOf_15 m_beds m_now n1 k4 n (x2 + 0) x3 (x4 + 1) else none else none
noncomputable def f_X10_oftenOf_4  (m_beds : Int32) (m_now : Nat → Int32) (n1 : Int32) : Nat → Int32 → Int32 → Option (Int32)
  | 0, _, _ => none
  | n + 1, x2, x3 => if m_beds ≤ x3 then some x2 else f_X10_oftenOf_15 m_beds m_now n1 (f_X10_oftenOf_4 m_beds m_now n1 n) FU x2 x3 0
noncomputable def f_X10_oftenOf (m_beds : Int32) (m_now : Nat → Int32) (n1 : Int32) : Option (Int32) := f_X10_oftenOf_4 m_beds m_now n1 FU 0 0
def rm_X10_oftenOf : Room := { frames := 0, cells := 0, slots := 0, locals := 0 }
set_option maxRecDepth 100000 in
set_option maxHeartbeats 4000000 in
theorem j_X10_oftenOf_15 {J : Jt} {Z : Zt} {a0 : Nat → Nat} {m_thrown : Int32} {m_refused : Nat → Int32} {m_taped : Int32} {m_size : Int32} {m_at : Int32} {m_bad : Int32} {m_badKind : Int32} {m_opens : Int32} {m_faultAt : Int32} {m_tape : Nat → Int32} {m_newBed : Nat → Int32} {m_newLetter : Nat → Int32} {m_newReader : Nat → Int32} {m_bed : Nat → Int32} {m_letter : Nat → Int32} {m_reader : Nat → Int32} {m_newBeds : Int32} {m_newLetters : Int32} {m_newReaders : Int32} {m_beds : Int32} {m_letters : Int32} {m_readers : Int32} {m_newCode : Nat → Int32} {m_newOf : Nat → Int32} {m_code : Nat → Int32} {m_ofCode : Nat → Int32} {m_stack : Nat → Int32} {m_newCodes : Int32} {m_codes : Int32} {m_facts : Nat → Int32} {m_newStep : Nat → Int32} {m_step : Nat → Int32} {m_newSteps : Int32} {m_works : Int32} {m_refusedSteps : Int32} {m_begun : Int32} {m_done : Int32} {m_refusedNow : Int32} {m_now : Nat → Int32} {m_s : Nat → Int32} {m_past : Nat → Int32} {m_newBook : Nat → Int32} {m_book : Nat → Int32} {m_written : Int32} {m_mostBy : Nat → Int32} {m_stuffing : Nat → Int32} {m_stuffedMany : Int32} {m_lastBy : Nat → Int32} {m_leftBy : Nat → Int32} {m_splitBy : Nat → Int64} {m_seedNow : Int32} {m_image : Nat → Int32} {m_images : Int32} {n1 : Int32} {r : Int32} {k4 : Int32 → Int32 → Option (Int32)} (C : Cx J Z cX10_oftenOf 5 RX10 (some .int) rm_X10_oftenOf) (E : Ez J Z 0 0 (some (.int r)) (cs_X10 J.2.2.1 a0 m_thrown m_refused m_taped m_size m_at m_bad m_badKind m_opens m_faultAt m_tape m_newBed m_newLetter m_newReader m_bed m_letter m_reader m_newBeds m_newLetters m_newReaders m_beds m_letters m_readers m_newCode m_newOf m_code m_ofCode m_stack m_newCodes m_codes m_facts m_newStep m_step m_newSteps m_works m_refusedSteps m_begun m_done m_refusedNow m_now m_s m_past m_newBook m_book m_written m_mostBy m_stuffing m_stuffedMany m_lastBy m_leftBy m_splitBy m_seedNow m_image m_images)) (hk4 : ∀ (x2 : Int32) (x3 : Int32), k4 x2 x3 = some r → G J Z 0 0 (cs_X10 J.2.2.1 a0 m_thrown m_refused m_taped m_size m_at m_bad m_badKind m_opens m_faultAt m_tape m_newBed m_newLetter m_newReader m_bed m_letter m_reader m_newBeds m_newLetters m_newReaders m_beds m_letters m_readers m_newCode m_newOf m_code m_ofCode m_stack m_newCodes m_codes m_facts m_newStep m_step m_newSteps m_works m_refusedSteps m_begun m_done m_refusedNow m_now m_s m_past m_newBook m_book m_written m_mostBy m_stuffing m_stuffedMany m_lastBy m_leftBy m_splitBy m_seedNow m_image m_images) 5 [(0, .ref (a0 0)), (1, .int n1), (2, .int x2), (3, .int x3)] 4 []) : ∀ (n : Nat) (x2 : Int32) (x3 : Int32) (x4 : Int32), f_X10_oftenOf_15 m_beds m_now n1 k4 n x2 x3 x4 = some r → G J Z 0 0 (cs_X10 J.2.2.1 a0 m_thrown m_refused m_taped m_size m_at m_bad m_badKind m_opens m_faultAt m_tape m_newBed m_newLetter m_newReader m_bed m_letter m_reader m_newBeds m_newLetters m_newReaders m_beds m_letters m_readers m_newCode m_newOf m_code m_ofCode m_stack m_newCodes m_codes m_facts m_newStep m_step m_newSteps m_works m_refusedSteps m_begun m_done m_refusedNow m_now m_s m_past m_newBook m_book m_written m_mostBy m_stuffing m_stuffedMany m_lastBy m_leftBy m_splitBy m_seedNow m_image m_images) 5 [(0, .ref (a0 0)), (1, .int n1), (2, .int x2), (3, .int x3), (4, .int x4)] 15 [] := by
  intro n
  induction n with
  | zero =>
    intro x2 x3 x4 h
    rw [f_X10_oftenOf_15] at h
    cases h
  | succ n ih =>
    intro x2 x3 x4 h
    rw [f_X10_oftenOf_15] at h
    refine g_iload (pc := 15) C 4 rfl dX10_oftenOf_15 ?_
    refine g_aload_n (pc := 17) C 0 rfl dX10_oftenOf_17 ?_
    refine g_get (pc := 18) C FOK_X10 0 rfl rfl 38 (by decide) kw_1315 rfl dX10_oftenOf_18 ?_
    refine g_bipush (pc := 21) C dX10_oftenOf_21 cb_84 ?_
    refine g_iload_n (pc := 23) C 3 rfl dX10_oftenOf_23 ?_
    refine g_iadd (pc := 24) C dX10_oftenOf_24 ?_
    obtain ⟨hi, h⟩ := ix_of h
    refine g_iald (pc := 25) C 17 rfl hi dX10_oftenOf_25 ?_
    refine g_icmp_ge (pc := 26) C (tgt := 62) dX10_oftenOf_26 rfl h (fun h => ?_) (fun h => ?_)
    · refine g_iinc (pc := 62) C (j := 3) [(3, .int (x3 + 1)), (0, .ref (a0 0)), (1, .int n1), (2, .int x2), (4, .int x4)] dX10_oftenOf_62 rfl (ii_1 _) (by decide) rfl ?_
      refine g_goto (pc := 65) C (tgt := 4) dX10_oftenOf_65 rfl ?_
      refine g_lv [1, 2, 3, 0] rfl ?_
      exact hk4 x2 (x3 + 1) h
    · refine g_iload_n (pc := 29) C 2 rfl dX10_oftenOf_29 ?_
      refine g_aload_n (pc := 30) C 0 rfl dX10_oftenOf_30 ?_
      refine g_get (pc := 31) C FOK_X10 0 rfl rfl 38 (by decide) kw_1315 rfl dX10_oftenOf_31 ?_
      refine g_bipush (pc := 34) C dX10_oftenOf_34 cb_12 ?_
      refine g_bipush (pc := 36) C dX10_oftenOf_36 cb_12 ?_
      refine g_iload_n (pc := 38) C 3 rfl dX10_oftenOf_38 ?_
      refine g_imul (pc := 39) C dX10_oftenOf_39 ?_
      refine g_iadd (pc := 40) C dX10_oftenOf_40 ?_
      refine g_iload (pc := 41) C 4 rfl dX10_oftenOf_41 ?_
      refine g_iadd (pc := 43) C dX10_oftenOf_43 ?_
      obtain ⟨hi, h⟩ := ix_of h
      refine g_iald (pc := 44) C 17 rfl hi dX10_oftenOf_44 ?_
      refine g_iload_n (pc := 45) C 1 rfl dX10_oftenOf_45 ?_
      refine g_icmp_ne (pc := 46) C (tgt := 53) dX10_oftenOf_46 rfl h (fun h => ?_) (fun h => ?_)
      · refine g_iconst (pc := 53) C dX10_oftenOf_53 ci_0 ?_
        refine g_iadd (pc := 54) C dX10_oftenOf_54 ?_
        refine g_istore_n (pc := 55) C [(2, .int (x2 + 0)), (0, .ref (a0 0)), (1, .int n1), (3, .int x3), (4, .int x4)] dX10_oftenOf_55 rfl (by decide) rfl ?_
        refine g_iinc (pc := 56) C (j := 4) [(4, .int (x4 + 1)), (2, .int (x2 + 0)), (0, .ref (a0 0)), (1, .int n1), (3, .int x3)] dX10_oftenOf_56 rfl (ii_1 _) (by decide) rfl ?_
        refine g_goto (pc := 59) C (tgt := 15) dX10_oftenOf_59 rfl ?_
        refine g_lv [2, 3, 1, 4, 0] rfl ?_
        exact ih (x2 + 0) x3 (x4 + 1) h
      · refine g_iconst (pc := 49) C dX10_oftenOf_49 ci_1 ?_
        refine g_goto (pc := 50) C (tgt := 54) dX10_oftenOf_50 rfl ?_
        refine g_iadd (pc := 54) C dX10_oftenOf_54 ?_
        refine g_istore_n (pc := 55) C [(2, .int (x2 + 1)), (0, .ref (a0 0)), (1, .int n1), (3, .int x3), (4, .int x4)] dX10_oftenOf_55 rfl (by decide) rfl ?_
        refine g_iinc (pc := 56) C (j := 4) [(4, .int (x4 + 1)), (2, .int (x2 + 1)), (0, .ref (a0 0)), (1, .int n1), (3, .int x3)] dX10_oftenOf_56 rfl (ii_1 _) (by decide) rfl ?_
        refine g_goto (pc := 59) C (tgt := 15) dX10_oftenOf_59 rfl ?_
        refine g_lv [2, 3, 1, 4, 0] rfl ?_
        exact ih (x2 + 1) x3 (x4 + 1) h
set_option maxRecDepth 100000 in
set_option maxHeartbeats 4000000 in
theorem j_X10_oftenOf_4 {J : Jt} {Z : Zt} {a0 : Nat → Nat} {m_thrown : Int32} {m_refused : Nat → Int32} {m_taped : Int32} {m_size : Int32} {m_at : Int32} {m_bad : Int32} {m_badKind : Int32} {m_opens : Int32} {m_faultAt : Int32} {m_tape : Nat → Int32} {m_newBed : Nat → Int32} {m_newLetter : Nat → Int32} {m_newReader : Nat → Int32} {m_bed : Nat → Int32} {m_letter : Nat → Int32} {m_reader : Nat → Int32} {m_newBeds : Int32} {m_newLetters : Int32} {m_newReaders : Int32} {m_beds : Int32} {m_letters : Int32} {m_readers : Int32} {m_newCode : Nat → Int32} {m_newOf : Nat → Int32} {m_code : Nat → Int32} {m_ofCode : Nat → Int32} {m_stack : Nat → Int32} {m_newCodes : Int32} {m_codes : Int32} {m_facts : Nat → Int32} {m_newStep : Nat → Int32} {m_step : Nat → Int32} {m_newSteps : Int32} {m_works : Int32} {m_refusedSteps : Int32} {m_begun : Int32} {m_done : Int32} {m_refusedNow : Int32} {m_now : Nat → Int32} {m_s : Nat → Int32} {m_past : Nat → Int32} {m_newBook : Nat → Int32} {m_book : Nat → Int32} {m_written : Int32} {m_mostBy : Nat → Int32} {m_stuffing : Nat → Int32} {m_stuffedMany : Int32} {m_lastBy : Nat → Int32} {m_leftBy : Nat → Int32} {m_splitBy : Nat → Int64} {m_seedNow : Int32} {m_image : Nat → Int32} {m_images : Int32} {n1 : Int32} {r : Int32} (C : Cx J Z cX10_oftenOf 5 RX10 (some .int) rm_X10_oftenOf) (E : Ez J Z 0 0 (some (.int r)) (cs_X10 J.2.2.1 a0 m_thrown m_refused m_taped m_size m_at m_bad m_badKind m_opens m_faultAt m_tape m_newBed m_newLetter m_newReader m_bed m_letter m_reader m_newBeds m_newLetters m_newReaders m_beds m_letters m_readers m_newCode m_newOf m_code m_ofCode m_stack m_newCodes m_codes m_facts m_newStep m_step m_newSteps m_works m_refusedSteps m_begun m_done m_refusedNow m_now m_s m_past m_newBook m_book m_written m_mostBy m_stuffing m_stuffedMany m_lastBy m_leftBy m_splitBy m_seedNow m_image m_images)) : ∀ (n : Nat) (x2 : Int32) (x3 : Int32), f_X10_oftenOf_4 m_beds m_now n1 n x2 x3 = some r → G J Z 0 0 (cs_X10 J.2.2.1 a0 m_thrown m_refused m_taped m_size m_at m_bad m_badKind m_opens m_faultAt m_tape m_newBed m_newLetter m_newReader m_bed m_letter m_reader m_newBeds m_newLetters m_newReaders m_beds m_letters m_readers m_newCode m_newOf m_code m_ofCode m_stack m_newCodes m_codes m_facts m_newStep m_step m_newSteps m_works m_refusedSteps m_begun m_done m_refusedNow m_now m_s m_past m_newBook m_book m_written m_mostBy m_stuffing m_stuffedMany m_lastBy m_leftBy m_splitBy m_seedNow m_image m_images) 5 [(0, .ref (a0 0)), (1, .int n1), (2, .int x2), (3, .int x3)] 4 [] := by
  intro n
  induction n with
  | zero =>
    intro x2 x3 h
    rw [f_X10_oftenOf_4] at h
    cases h
  | succ n ih =>
    intro x2 x3 h
    rw [f_X10_oftenOf_4] at h
    refine g_iload_n (pc := 4) C 3 rfl dX10_oftenOf_4 ?_
    refine g_aload_n (pc := 5) C 0 rfl dX10_oftenOf_5 ?_
    refine g_get (pc := 6) C FOK_X10 0 rfl rfl 19 (by decide) kw_1296 rfl dX10_oftenOf_6 ?_
    refine g_icmp_ge (pc := 9) C (tgt := 68) dX10_oftenOf_9 rfl h (fun h => ?_) (fun h => ?_)
    · refine g_iload_n (pc := 68) C 2 rfl dX10_oftenOf_68 ?_
      cases h
      exact g_iret C E dX10_oftenOf_69
    · refine g_iconst (pc := 12) C dX10_oftenOf_12 ci_0 ?_
      refine g_istore (pc := 13) C [(4, .int 0), (0, .ref (a0 0)), (1, .int n1), (2, .int x2), (3, .int x3)] dX10_oftenOf_13 (by decide) rfl ?_
      refine g_lv [1, 2, 3, 4, 0] rfl ?_
      exact j_X10_oftenOf_15 C E   ih FU x2 x3 0 h
set_option maxRecDepth 100000 in
set_option maxHeartbeats 4000000 in
theorem t_X10_oftenOf {J : Jt} {a0 : Nat → Nat} {m_thrown : Int32} {m_refused : Nat → Int32} {m_taped : Int32} {m_size : Int32} {m_at : Int32} {m_bad : Int32} {m_badKind : Int32} {m_opens : Int32} {m_faultAt : Int32} {m_tape : Nat → Int32} {m_newBed : Nat → Int32} {m_newLetter : Nat → Int32} {m_newReader : Nat → Int32} {m_bed : Nat → Int32} {m_letter : Nat → Int32} {m_reader : Nat → Int32} {m_newBeds : Int32} {m_newLetters : Int32} {m_newReaders : Int32} {m_beds : Int32} {m_letters : Int32} {m_readers : Int32} {m_newCode : Nat → Int32} {m_newOf : Nat → Int32} {m_code : Nat → Int32} {m_ofCode : Nat → Int32} {m_stack : Nat → Int32} {m_newCodes : Int32} {m_codes : Int32} {m_facts : Nat → Int32} {m_newStep : Nat → Int32} {m_step : Nat → Int32} {m_newSteps : Int32} {m_works : Int32} {m_refusedSteps : Int32} {m_begun : Int32} {m_done : Int32} {m_refusedNow : Int32} {m_now : Nat → Int32} {m_s : Nat → Int32} {m_past : Nat → Int32} {m_newBook : Nat → Int32} {m_book : Nat → Int32} {m_written : Int32} {m_mostBy : Nat → Int32} {m_stuffing : Nat → Int32} {m_stuffedMany : Int32} {m_lastBy : Nat → Int32} {m_leftBy : Nat → Int32} {m_splitBy : Nat → Int64} {m_seedNow : Int32} {m_image : Nat → Int32} {m_images : Int32} {n1 : Int32} {r : Int32} (h : f_X10_oftenOf m_beds m_now n1 = some r) : Mt J yX10_oftenOf cX10_oftenOf 5 (some .int) rm_X10_oftenOf [.ref (a0 0), .int n1] (cs_X10 J.2.2.1 a0 m_thrown m_refused m_taped m_size m_at m_bad m_badKind m_opens m_faultAt m_tape m_newBed m_newLetter m_newReader m_bed m_letter m_reader m_newBeds m_newLetters m_newReaders m_beds m_letters m_readers m_newCode m_newOf m_code m_ofCode m_stack m_newCodes m_codes m_facts m_newStep m_step m_newSteps m_works m_refusedSteps m_begun m_done m_refusedNow m_now m_s m_past m_newBook m_book m_written m_mostBy m_stuffing m_stuffedMany m_lastBy m_leftBy m_splitBy m_seedNow m_image m_images) (some (.int r)) (cs_X10 J.2.2.1 a0 m_thrown m_refused m_taped m_size m_at m_bad m_badKind m_opens m_faultAt m_tape m_newBed m_newLetter m_newReader m_bed m_letter m_reader m_newBeds m_newLetters m_newReaders m_beds m_letters m_readers m_newCode m_newOf m_code m_ofCode m_stack m_newCodes m_codes m_facts m_newStep m_step m_newSteps m_works m_refusedSteps m_begun m_done m_refusedNow m_now m_s m_past m_newBook m_book m_written m_mostBy m_stuffing m_stuffedMany m_lastBy m_leftBy m_splitBy m_seedNow m_image m_images) := by
  refine Mt_of (own := RX10) (by decide) rfl (Nat.le_of_ble_eq_true rfl) rfl (fun Z C E => ?_)
  unfold f_X10_oftenOf at h
  show G J Z 0 0 (cs_X10 J.2.2.1 a0 m_thrown m_refused m_taped m_size m_at m_bad m_badKind m_opens m_faultAt m_tape m_newBed m_newLetter m_newReader m_bed m_letter m_reader m_newBeds m_newLetters m_newReaders m_beds m_letters m_readers m_newCode m_newOf m_code m_ofCode m_stack m_newCodes m_codes m_facts m_newStep m_step m_newSteps m_works m_refusedSteps m_begun m_done m_refusedNow m_now m_s m_past m_newBook m_book m_written m_mostBy m_stuffing m_stuffedMany m_lastBy m_leftBy m_splitBy m_seedNow m_image m_images) 5 [(0, .ref (a0 0)), (1, .int n1)] 0 []
  refine g_iconst (pc := 0) C dX10_oftenOf_0 ci_0 ?_
  refine g_istore_n (pc := 1) C [(2, .int 0), (0, .ref (a0 0)), (1, .int n1)] dX10_oftenOf_1 rfl (by decide) rfl ?_
  refine g_iconst (pc := 2) C dX10_oftenOf_2 ci_0 ?_
  refine g_istore_n (pc := 3) C [(3, .int 0), (2, .int 0), (0, .ref (a0 0)), (1, .int n1)] dX10_oftenOf_3 rfl (by decide) rfl ?_
  refine g_lv [2, 3, 1, 0] rfl ?_
  exact j_X10_oftenOf_4 C E    FU 0 0 h
noncomputable def f_X10_often_51  (m_beds : Int32) (m_now : Nat → Int32) (n1 : Int32) (k26 : Int32 → Int32 → Int32 → (Nat → Int32) → Option (Int32 × Int32 × (Nat → Int32))) (x2 : Int32) (x3 : Int32) (y0 : Int32) (y1 : Int32) (m_thrown : Int32) (m_refused : Nat → Int32) : Option (Int32 × Int32 × (Nat → Int32)) := if y0 ≤ y1 then k26 x2 (x3 + 1) m_thrown m_refused else k26 x3 (x3 + 1) m_thrown m_refused
noncomputable def f_X10_often_26  (m_beds : Int32) (m_now : Nat → Int32) (n1 : Int32) : Nat → Int32 → Int32 → Int32 → (Nat → Int32) → Option (Int32 × Int32 × (Nat → Int32))
  | 0, _, _, _, _ => none
  | n + 1, x2, x3, m_thrown, m_refused => if 16 ≤ x3 then if n1 = 0 then some (x2, m_thrown, m_refused) else if x2 = (-1) then some (x2, m_thrown, m_refused) else b1 (f_X10_oftenOf m_beds m_now x2) (fun v1 => some (v1, m_thrown, m_refused)) else b1 (f_X10_oftenOf m_beds m_now x3) (fun v2 => if x2 = (-1) then f_X10_often_51 m_beds m_now n1 (f_X10_often_26 m_beds m_now n1 n) x2 x3 v2 0 m_thrown m_refused else b1 (f_X10_oftenOf m_beds m_now x2) (fun v3 => f_X10_often_51 m_beds m_now n1 (f_X10_often_26 m_beds m_now n1 n) x2 x3 v2 v3 m_thrown m_refused))
noncomputable def f_X10_often (m_thrown : Int32) (m_refused : Nat → Int32) (m_beds : Int32) (m_now : Nat → Int32) (n1 : Int32) : Option (Int32 × Int32 × (Nat → Int32)) := b1 (f_X10_within n1 0 1) (fun v4 => b3 (f_X10_may 0 m_refused v4 1 1) (fun v5 c6 c7 => if v5 = 0 then some (0, c6, c7) else f_X10_often_26 m_beds m_now n1 FU (-1) 0 c6 c7))
def rm_X10_often : Room := { frames := 1, cells := 0, slots := 0, locals := 24 }
set_option maxRecDepth 100000 in
set_option maxHeartbeats 4000000 in
theorem j_X10_often_51 {J : Jt} {Z : Zt} {a0 : Nat → Nat} {m_taped : Int32} {m_size : Int32} {m_at : Int32} {m_bad : Int32} {m_badKind : Int32} {m_opens : Int32} {m_faultAt : Int32} {m_tape : Nat → Int32} {m_newBed : Nat → Int32} {m_newLetter : Nat → Int32} {m_newReader : Nat → Int32} {m_bed : Nat → Int32} {m_letter : Nat → Int32} {m_reader : Nat → Int32} {m_newBeds : Int32} {m_newLetters : Int32} {m_newReaders : Int32} {m_beds : Int32} {m_letters : Int32} {m_readers : Int32} {m_newCode : Nat → Int32} {m_newOf : Nat → Int32} {m_code : Nat → Int32} {m_ofCode : Nat → Int32} {m_stack : Nat → Int32} {m_newCodes : Int32} {m_codes : Int32} {m_facts : Nat → Int32} {m_newStep : Nat → Int32} {m_step : Nat → Int32} {m_newSteps : Int32} {m_works : Int32} {m_refusedSteps : Int32} {m_begun : Int32} {m_done : Int32} {m_refusedNow : Int32} {m_now : Nat → Int32} {m_s : Nat → Int32} {m_past : Nat → Int32} {m_newBook : Nat → Int32} {m_book : Nat → Int32} {m_written : Int32} {m_mostBy : Nat → Int32} {m_stuffing : Nat → Int32} {m_stuffedMany : Int32} {m_lastBy : Nat → Int32} {m_leftBy : Nat → Int32} {m_splitBy : Nat → Int64} {m_seedNow : Int32} {m_image : Nat → Int32} {m_images : Int32} {n1 : Int32} {r : Int32} {o_m_thrown : Int32} {o_m_refused : Nat → Int32} {k26 : Int32 → Int32 → Int32 → (Nat → Int32) → Option (Int32 × Int32 × (Nat → Int32))} (C : Cx J Z cX10_often 4 RX10 (some .int) rm_X10_often) (E : Ez J Z 0 0 (some (.int r)) (cs_X10 J.2.2.1 a0 o_m_thrown o_m_refused m_taped m_size m_at m_bad m_badKind m_opens m_faultAt m_tape m_newBed m_newLetter m_newReader m_bed m_letter m_reader m_newBeds m_newLetters m_newReaders m_beds m_letters m_readers m_newCode m_newOf m_code m_ofCode m_stack m_newCodes m_codes m_facts m_newStep m_step m_newSteps m_works m_refusedSteps m_begun m_done m_refusedNow m_now m_s m_past m_newBook m_book m_written m_mostBy m_stuffing m_stuffedMany m_lastBy m_leftBy m_splitBy m_seedNow m_image m_images)) (hk26 : ∀ (x2 : Int32) (x3 : Int32) (m_thrown : Int32) (m_refused : Nat → Int32), k26 x2 x3 m_thrown m_refused = some (r, o_m_thrown, o_m_refused) → G J Z 0 0 (cs_X10 J.2.2.1 a0 m_thrown m_refused m_taped m_size m_at m_bad m_badKind m_opens m_faultAt m_tape m_newBed m_newLetter m_newReader m_bed m_letter m_reader m_newBeds m_newLetters m_newReaders m_beds m_letters m_readers m_newCode m_newOf m_code m_ofCode m_stack m_newCodes m_codes m_facts m_newStep m_step m_newSteps m_works m_refusedSteps m_begun m_done m_refusedNow m_now m_s m_past m_newBook m_book m_written m_mostBy m_stuffing m_stuffedMany m_lastBy m_leftBy m_splitBy m_seedNow m_image m_images) 4 [(0, .ref (a0 0)), (1, .int n1), (2, .int x2), (3, .int x3)] 26 []) : ∀ (x2 : Int32) (x3 : Int32) (y0 : Int32) (y1 : Int32) (m_thrown : Int32) (m_refused : Nat → Int32), f_X10_often_51 m_beds m_now n1 k26 x2 x3 y0 y1 m_thrown m_refused = some (r, o_m_thrown, o_m_refused) → G J Z 0 0 (cs_X10 J.2.2.1 a0 m_thrown m_refused m_taped m_size m_at m_bad m_badKind m_opens m_faultAt m_tape m_newBed m_newLetter m_newReader m_bed m_letter m_reader m_newBeds m_newLetters m_newReaders m_beds m_letters m_readers m_newCode m_newOf m_code m_ofCode m_stack m_newCodes m_codes m_facts m_newStep m_step m_newSteps m_works m_refusedSteps m_begun m_done m_refusedNow m_now m_s m_past m_newBook m_book m_written m_mostBy m_stuffing m_stuffedMany m_lastBy m_leftBy m_splitBy m_seedNow m_image m_images) 4 [(0, .ref (a0 0)), (1, .int n1), (2, .int x2), (3, .int x3)] 51 [.int y1, .int y0] := by
  intro x2 x3 y0 y1 m_thrown m_refused h
  unfold f_X10_often_51 at h
  refine g_icmp_le (pc := 51) C (tgt := 56) dX10_often_51 rfl h (fun h => ?_) (fun h => ?_)
  · refine g_iinc (pc := 56) C (j := 3) [(3, .int (x3 + 1)), (0, .ref (a0 0)), (1, .int n1), (2, .int x2)] dX10_often_56 rfl (ii_1 _) (by decide) rfl ?_
    refine g_goto (pc := 59) C (tgt := 26) dX10_often_59 rfl ?_
    refine g_lv [1, 2, 3, 0] rfl ?_
    exact hk26 x2 (x3 + 1) m_thrown m_refused h
  · refine g_iload_n (pc := 54) C 3 rfl dX10_often_54 ?_
    refine g_istore_n (pc := 55) C [(2, .int x3), (0, .ref (a0 0)), (1, .int n1), (3, .int x3)] dX10_often_55 rfl (by decide) rfl ?_
    refine g_iinc (pc := 56) C (j := 3) [(3, .int (x3 + 1)), (2, .int x3), (0, .ref (a0 0)), (1, .int n1)] dX10_often_56 rfl (ii_1 _) (by decide) rfl ?_
    refine g_goto (pc := 59) C (tgt := 26) dX10_often_59 rfl ?_
    refine g_lv [2, 3, 1, 0] rfl ?_
    exact hk26 x3 (x3 + 1) m_thrown m_refused h
set_option maxRecDepth 100000 in
set_option maxHeartbeats 4000000 in
theorem j_X10_often_26 {J : Jt} {Z : Zt} {a0 : Nat → Nat} {m_taped : Int32} {m_size : Int32} {m_at : Int32} {m_bad : Int32} {m_badKind : Int32} {m_opens : Int32} {m_faultAt : Int32} {m_tape : Nat → Int32} {m_newBed : Nat → Int32} {m_newLetter : Nat → Int32} {m_newReader : Nat → Int32} {m_bed : Nat → Int32} {m_letter : Nat → Int32} {m_reader : Nat → Int32} {m_newBeds : Int32} {m_newLetters : Int32} {m_newReaders : Int32} {m_beds : Int32} {m_letters : Int32} {m_readers : Int32} {m_newCode : Nat → Int32} {m_newOf : Nat → Int32} {m_code : Nat → Int32} {m_ofCode : Nat → Int32} {m_stack : Nat → Int32} {m_newCodes : Int32} {m_codes : Int32} {m_facts : Nat → Int32} {m_newStep : Nat → Int32} {m_step : Nat → Int32} {m_newSteps : Int32} {m_works : Int32} {m_refusedSteps : Int32} {m_begun : Int32} {m_done : Int32} {m_refusedNow : Int32} {m_now : Nat → Int32} {m_s : Nat → Int32} {m_past : Nat → Int32} {m_newBook : Nat → Int32} {m_book : Nat → Int32} {m_written : Int32} {m_mostBy : Nat → Int32} {m_stuffing : Nat → Int32} {m_stuffedMany : Int32} {m_lastBy : Nat → Int32} {m_leftBy : Nat → Int32} {m_splitBy : Nat → Int64} {m_seedNow : Int32} {m_image : Nat → Int32} {m_images : Int32} {n1 : Int32} {r : Int32} {o_m_thrown : Int32} {o_m_refused : Nat → Int32} (C : Cx J Z cX10_often 4 RX10 (some .int) rm_X10_often) (E : Ez J Z 0 0 (some (.int r)) (cs_X10 J.2.2.1 a0 o_m_thrown o_m_refused m_taped m_size m_at m_bad m_badKind m_opens m_faultAt m_tape m_newBed m_newLetter m_newReader m_bed m_letter m_reader m_newBeds m_newLetters m_newReaders m_beds m_letters m_readers m_newCode m_newOf m_code m_ofCode m_stack m_newCodes m_codes m_facts m_newStep m_step m_newSteps m_works m_refusedSteps m_begun m_done m_refusedNow m_now m_s m_past m_newBook m_book m_written m_mostBy m_stuffing m_stuffedMany m_lastBy m_leftBy m_splitBy m_seedNow m_image m_images)) : ∀ (n : Nat) (x2 : Int32) (x3 : Int32) (m_thrown : Int32) (m_refused : Nat → Int32), f_X10_often_26 m_beds m_now n1 n x2 x3 m_thrown m_refused = some (r, o_m_thrown, o_m_refused) → G J Z 0 0 (cs_X10 J.2.2.1 a0 m_thrown m_refused m_taped m_size m_at m_bad m_badKind m_opens m_faultAt m_tape m_newBed m_newLetter m_newReader m_bed m_letter m_reader m_newBeds m_newLetters m_newReaders m_beds m_letters m_readers m_newCode m_newOf m_code m_ofCode m_stack m_newCodes m_codes m_facts m_newStep m_step m_newSteps m_works m_refusedSteps m_begun m_done m_refusedNow m_now m_s m_past m_newBook m_book m_written m_mostBy m_stuffing m_stuffedMany m_lastBy m_leftBy m_splitBy m_seedNow m_image m_images) 4 [(0, .ref (a0 0)), (1, .int n1), (2, .int x2), (3, .int x3)] 26 [] := by
  intro n
  induction n with
  | zero =>
    intro x2 x3 m_thrown m_refused h
    rw [f_X10_often_26] at h
    cases h
  | succ n ih =>
    intro x2 x3 m_thrown m_refused h
    rw [f_X10_often_26] at h
    refine g_iload_n (pc := 26) C 3 rfl dX10_often_26 ?_
    refine g_bipush (pc := 27) C dX10_often_27 cb_16 ?_
    refine g_icmp_ge (pc := 29) C (tgt := 62) dX10_often_29 rfl h (fun h => ?_) (fun h => ?_)
    · refine g_iload_n (pc := 62) C 1 rfl dX10_often_62 ?_
      refine g_if_eq (pc := 63) C (tgt := 71) dX10_often_63 rfl h (fun h => ?_) (fun h => ?_)
      · refine g_iload_n (pc := 71) C 2 rfl dX10_often_71 ?_
        refine g_goto (pc := 72) C (tgt := 80) dX10_often_72 rfl ?_
        cases h
        exact g_iret C E dX10_often_80
      · refine g_iload_n (pc := 66) C 2 rfl dX10_often_66 ?_
        refine g_iconst (pc := 67) C dX10_often_67 ci_m1 ?_
        refine g_icmp_ne (pc := 68) C (tgt := 75) dX10_often_68 rfl h (fun h => ?_) (fun h => ?_)
        · refine g_aload_n (pc := 75) C 0 rfl dX10_often_75 ?_
          refine g_iload_n (pc := 76) C 2 rfl dX10_often_76 ?_
          obtain ⟨v1, hc, h⟩ := b1_of h
          refine g_callV (pc := 77) C (w' := cs_X10 J.2.2.1 a0 m_thrown m_refused m_taped m_size m_at m_bad m_badKind m_opens m_faultAt m_tape m_newBed m_newLetter m_newReader m_bed m_letter m_reader m_newBeds m_newLetters m_newReaders m_beds m_letters m_readers m_newCode m_newOf m_code m_ofCode m_stack m_newCodes m_codes m_facts m_newStep m_step m_newSteps m_works m_refusedSteps m_begun m_done m_refusedNow m_now m_s m_past m_newBook m_book m_written m_mostBy m_stuffing m_stuffedMany m_lastBy m_leftBy m_splitBy m_seedNow m_image m_images) (As := [.int x2]) (st := []) (ci := 10) (q0 := 0) rfl rfl (t_X10_oftenOf (a0 := a0) hc) Sub.same kw_1839 kw_1841 kw_79 kw_95 hy_X10_oftenOf kw_1842 rfl (Nat.le_of_ble_eq_true rfl) (Nat.le_of_ble_eq_true rfl) (Nat.le_of_ble_eq_true rfl) (Nat.le_of_ble_eq_true rfl) (Nat.le_of_ble_eq_true rfl) dX10_often_77 ?_
          cases h
          exact g_iret C E dX10_often_80
        · refine g_iload_n (pc := 71) C 2 rfl dX10_often_71 ?_
          refine g_goto (pc := 72) C (tgt := 80) dX10_often_72 rfl ?_
          cases h
          exact g_iret C E dX10_often_80
    · refine g_aload_n (pc := 32) C 0 rfl dX10_often_32 ?_
      refine g_iload_n (pc := 33) C 3 rfl dX10_often_33 ?_
      obtain ⟨v2, hc, h⟩ := b1_of h
      refine g_callV (pc := 34) C (w' := cs_X10 J.2.2.1 a0 m_thrown m_refused m_taped m_size m_at m_bad m_badKind m_opens m_faultAt m_tape m_newBed m_newLetter m_newReader m_bed m_letter m_reader m_newBeds m_newLetters m_newReaders m_beds m_letters m_readers m_newCode m_newOf m_code m_ofCode m_stack m_newCodes m_codes m_facts m_newStep m_step m_newSteps m_works m_refusedSteps m_begun m_done m_refusedNow m_now m_s m_past m_newBook m_book m_written m_mostBy m_stuffing m_stuffedMany m_lastBy m_leftBy m_splitBy m_seedNow m_image m_images) (As := [.int x3]) (st := []) (ci := 10) (q0 := 0) rfl rfl (t_X10_oftenOf (a0 := a0) hc) Sub.same kw_1839 kw_1841 kw_79 kw_95 hy_X10_oftenOf kw_1842 rfl (Nat.le_of_ble_eq_true rfl) (Nat.le_of_ble_eq_true rfl) (Nat.le_of_ble_eq_true rfl) (Nat.le_of_ble_eq_true rfl) (Nat.le_of_ble_eq_true rfl) dX10_often_34 ?_
      refine g_iload_n (pc := 37) C 2 rfl dX10_often_37 ?_
      refine g_iconst (pc := 38) C dX10_often_38 ci_m1 ?_
      refine g_icmp_ne (pc := 39) C (tgt := 46) dX10_often_39 rfl h (fun h => ?_) (fun h => ?_)
      · refine g_aload_n (pc := 46) C 0 rfl dX10_often_46 ?_
        refine g_iload_n (pc := 47) C 2 rfl dX10_often_47 ?_
        obtain ⟨v3, hc, h⟩ := b1_of h
        refine g_callV (pc := 48) C (w' := cs_X10 J.2.2.1 a0 m_thrown m_refused m_taped m_size m_at m_bad m_badKind m_opens m_faultAt m_tape m_newBed m_newLetter m_newReader m_bed m_letter m_reader m_newBeds m_newLetters m_newReaders m_beds m_letters m_readers m_newCode m_newOf m_code m_ofCode m_stack m_newCodes m_codes m_facts m_newStep m_step m_newSteps m_works m_refusedSteps m_begun m_done m_refusedNow m_now m_s m_past m_newBook m_book m_written m_mostBy m_stuffing m_stuffedMany m_lastBy m_leftBy m_splitBy m_seedNow m_image m_images) (As := [.int x2]) (st := [.int v2]) (ci := 10) (q0 := 0) rfl rfl (t_X10_oftenOf (a0 := a0) hc) Sub.same kw_1839 kw_1841 kw_79 kw_95 hy_X10_oftenOf kw_1842 rfl (Nat.le_of_ble_eq_true rfl) (Nat.le_of_ble_eq_true rfl) (Nat.le_of_ble_eq_true rfl) (Nat.le_of_ble_eq_true rfl) (Nat.le_of_ble_eq_true rfl) dX10_often_48 ?_
        exact j_X10_often_51 C E   ih x2 x3 v2 v3 m_thrown m_refused h
      · refine g_iconst (pc := 42) C dX10_often_42 ci_0 ?_
        refine g_goto (pc := 43) C (tgt := 51) dX10_often_43 rfl ?_
        exact j_X10_often_51 C E   ih x2 x3 v2 0 m_thrown m_refused h
set_option maxRecDepth 100000 in
set_option maxHeartbeats 4000000 in
theorem t_X10_often {J : Jt} {a0 : Nat → Nat} {m_thrown : Int32} {m_refused : Nat → Int32} {m_taped : Int32} {m_size : Int32} {m_at : Int32} {m_bad : Int32} {m_badKind : Int32} {m_opens : Int32} {m_faultAt : Int32} {m_tape : Nat → Int32} {m_newBed : Nat → Int32} {m_newLetter : Nat → Int32} {m_newReader : Nat → Int32} {m_bed : Nat → Int32} {m_letter : Nat → Int32} {m_reader : Nat → Int32} {m_newBeds : Int32} {m_newLetters : Int32} {m_newReaders : Int32} {m_beds : Int32} {m_letters : Int32} {m_readers : Int32} {m_newCode : Nat → Int32} {m_newOf : Nat → Int32} {m_code : Nat → Int32} {m_ofCode : Nat → Int32} {m_stack : Nat → Int32} {m_newCodes : Int32} {m_codes : Int32} {m_facts : Nat → Int32} {m_newStep : Nat → Int32} {m_step : Nat → Int32} {m_newSteps : Int32} {m_works : Int32} {m_refusedSteps : Int32} {m_begun : Int32} {m_done : Int32} {m_refusedNow : Int32} {m_now : Nat → Int32} {m_s : Nat → Int32} {m_past : Nat → Int32} {m_newBook : Nat → Int32} {m_book : Nat → Int32} {m_written : Int32} {m_mostBy : Nat → Int32} {m_stuffing : Nat → Int32} {m_stuffedMany : Int32} {m_lastBy : Nat → Int32} {m_leftBy : Nat → Int32} {m_splitBy : Nat → Int64} {m_seedNow : Int32} {m_image : Nat → Int32} {m_images : Int32} {n1 : Int32} {r : Int32} {o_m_thrown : Int32} {o_m_refused : Nat → Int32} (h : f_X10_often m_thrown m_refused m_beds m_now n1 = some (r, o_m_thrown, o_m_refused)) : Mt J yX10_often cX10_often 4 (some .int) rm_X10_often [.ref (a0 0), .int n1] (cs_X10 J.2.2.1 a0 m_thrown m_refused m_taped m_size m_at m_bad m_badKind m_opens m_faultAt m_tape m_newBed m_newLetter m_newReader m_bed m_letter m_reader m_newBeds m_newLetters m_newReaders m_beds m_letters m_readers m_newCode m_newOf m_code m_ofCode m_stack m_newCodes m_codes m_facts m_newStep m_step m_newSteps m_works m_refusedSteps m_begun m_done m_refusedNow m_now m_s m_past m_newBook m_book m_written m_mostBy m_stuffing m_stuffedMany m_lastBy m_leftBy m_splitBy m_seedNow m_image m_images) (some (.int r)) (cs_X10 J.2.2.1 a0 o_m_thrown o_m_refused m_taped m_size m_at m_bad m_badKind m_opens m_faultAt m_tape m_newBed m_newLetter m_newReader m_bed m_letter m_reader m_newBeds m_newLetters m_newReaders m_beds m_letters m_readers m_newCode m_newOf m_code m_ofCode m_stack m_newCodes m_codes m_facts m_newStep m_step m_newSteps m_works m_refusedSteps m_begun m_done m_refusedNow m_now m_s m_past m_newBook m_book m_written m_mostBy m_stuffing m_stuffedMany m_lastBy m_leftBy m_splitBy m_seedNow m_image m_images) := by
  refine Mt_of (own := RX10) (by decide) rfl (Nat.le_of_ble_eq_true rfl) rfl (fun Z C E => ?_)
  unfold f_X10_often at h
  show G J Z 0 0 (cs_X10 J.2.2.1 a0 m_thrown m_refused m_taped m_size m_at m_bad m_badKind m_opens m_faultAt m_tape m_newBed m_newLetter m_newReader m_bed m_letter m_reader m_newBeds m_newLetters m_newReaders m_beds m_letters m_readers m_newCode m_newOf m_code m_ofCode m_stack m_newCodes m_codes m_facts m_newStep m_step m_newSteps m_works m_refusedSteps m_begun m_done m_refusedNow m_now m_s m_past m_newBook m_book m_written m_mostBy m_stuffing m_stuffedMany m_lastBy m_leftBy m_splitBy m_seedNow m_image m_images) 4 [(0, .ref (a0 0)), (1, .int n1)] 0 []
  refine g_aload_n (pc := 0) C 0 rfl dX10_often_0 ?_
  refine g_iconst (pc := 1) C dX10_often_1 ci_0 ?_
  refine g_put (pc := 2) C (w' := cs_X10 J.2.2.1 a0 0 m_refused m_taped m_size m_at m_bad m_badKind m_opens m_faultAt m_tape m_newBed m_newLetter m_newReader m_bed m_letter m_reader m_newBeds m_newLetters m_newReaders m_beds m_letters m_readers m_newCode m_newOf m_code m_ofCode m_stack m_newCodes m_codes m_facts m_newStep m_step m_newSteps m_works m_refusedSteps m_begun m_done m_refusedNow m_now m_s m_past m_newBook m_book m_written m_mostBy m_stuffing m_stuffedMany m_lastBy m_leftBy m_splitBy m_seedNow m_image m_images) FOK_X10 0 rfl rfl 0 (by decide) kw_1277 rfl rfl rfl (Nat.le_of_ble_eq_true rfl) dX10_often_2 rfl ?_
  refine g_aload_n (pc := 5) C 0 rfl dX10_often_5 ?_
  refine g_iload_n (pc := 6) C 1 rfl dX10_often_6 ?_
  refine g_iconst (pc := 7) C dX10_often_7 ci_0 ?_
  refine g_iconst (pc := 8) C dX10_often_8 ci_1 ?_
  obtain ⟨v4, hc, h⟩ := b1_of h
  refine g_callS (pc := 9) C (w' := cs_X10 J.2.2.1 a0 0 m_refused m_taped m_size m_at m_bad m_badKind m_opens m_faultAt m_tape m_newBed m_newLetter m_newReader m_bed m_letter m_reader m_newBeds m_newLetters m_newReaders m_beds m_letters m_readers m_newCode m_newOf m_code m_ofCode m_stack m_newCodes m_codes m_facts m_newStep m_step m_newSteps m_works m_refusedSteps m_begun m_done m_refusedNow m_now m_s m_past m_newBook m_book m_written m_mostBy m_stuffing m_stuffedMany m_lastBy m_leftBy m_splitBy m_seedNow m_image m_images) (As := [.int n1, .int 0, .int 1]) (st := [.ref (a0 0)]) (t_X10_within hc) Sub.nil kw_1689 kw_1690 kw_95 hy_X10_within kw_1691 rfl (Nat.le_of_ble_eq_true rfl) (Nat.le_of_ble_eq_true rfl) (Nat.le_of_ble_eq_true rfl) (Nat.le_of_ble_eq_true rfl) (Nat.le_of_ble_eq_true rfl) dX10_often_9 ?_
  refine g_iconst (pc := 12) C dX10_often_12 ci_1 ?_
  refine g_iconst (pc := 13) C dX10_often_13 ci_1 ?_
  obtain ⟨v5, c6, c7, hc, h⟩ := b3_of h
  refine g_callV (pc := 14) C (w' := cs_X10 J.2.2.1 a0 c6 c7 m_taped m_size m_at m_bad m_badKind m_opens m_faultAt m_tape m_newBed m_newLetter m_newReader m_bed m_letter m_reader m_newBeds m_newLetters m_newReaders m_beds m_letters m_readers m_newCode m_newOf m_code m_ofCode m_stack m_newCodes m_codes m_facts m_newStep m_step m_newSteps m_works m_refusedSteps m_begun m_done m_refusedNow m_now m_s m_past m_newBook m_book m_written m_mostBy m_stuffing m_stuffedMany m_lastBy m_leftBy m_splitBy m_seedNow m_image m_images) (As := [.int v4, .int 1, .int 1]) (st := []) (ci := 10) (q0 := 0) rfl rfl (t_X10_may (a0 := a0) hc) Sub.same kw_1450 kw_1452 kw_20 kw_95 hy_X10_may kw_1453 rfl (Nat.le_of_ble_eq_true rfl) (Nat.le_of_ble_eq_true rfl) (Nat.le_of_ble_eq_true rfl) (Nat.le_of_ble_eq_true rfl) (Nat.le_of_ble_eq_true rfl) dX10_often_14 ?_
  refine g_if_ne (pc := 17) C (tgt := 22) dX10_often_17 rfl h (fun h => ?_) (fun h => ?_)
  · refine g_iconst (pc := 22) C dX10_often_22 ci_m1 ?_
    refine g_istore_n (pc := 23) C [(2, .int (-1)), (0, .ref (a0 0)), (1, .int n1)] dX10_often_23 rfl (by decide) rfl ?_
    refine g_iconst (pc := 24) C dX10_often_24 ci_0 ?_
    refine g_istore_n (pc := 25) C [(3, .int 0), (2, .int (-1)), (0, .ref (a0 0)), (1, .int n1)] dX10_often_25 rfl (by decide) rfl ?_
    refine g_lv [2, 3, 1, 0] rfl ?_
    exact j_X10_often_26 C E    FU (-1) 0 c6 c7 h
  · refine g_iconst (pc := 20) C dX10_often_20 ci_0 ?_
    cases h
    exact g_iret C E dX10_often_21
noncomputable def f_X10_hearers_27  (m_readers : Int32) (m_now : Nat → Int32) (n1 : Int32) : Nat → Int32 → Int32 → Int32 → (Nat → Int32) → Option (Int32 × Int32 × (Nat → Int32))
  | 0, _, _, _, _ => none
  | n + 1, x2, x3, m_thrown, m_refused => if m_readers ≤ x3 then some (x2, m_thrown, m_refused) else if ixb (95 + x3) 165 then f_X10_hearers_27 m_readers m_now n1 n (x2 ||| ((((m_now (95 + x3).toNatClampNeg) >>> (n1 &&& 31)) &&& 1) <<< (x3 &&& 31))) (x3 + 1) m_thrown m_refused else none
noncomputable def f_X10_hearers (m_thrown : Int32) (m_refused : Nat → Int32) (m_readers : Int32) (m_now : Nat → Int32) (n1 : Int32) : Option (Int32 × Int32 × (Nat → Int32)) := b1 (f_X10_within n1 0 15) (fun v1 => b3 (f_X10_may 0 m_refused v1 1 1) (fun v2 c3 c4 => if v2 = 0 then some (0, c3, c4) else f_X10_hearers_27 m_readers m_now n1 FU 0 0 c3 c4))
def rm_X10_hearers : Room := { frames := 1, cells := 0, slots := 0, locals := 23 }
set_option maxRecDepth 100000 in
set_option maxHeartbeats 4000000 in
theorem j_X10_hearers_27 {J : Jt} {Z : Zt} {a0 : Nat → Nat} {m_taped : Int32} {m_size : Int32} {m_at : Int32} {m_bad : Int32} {m_badKind : Int32} {m_opens : Int32} {m_faultAt : Int32} {m_tape : Nat → Int32} {m_newBed : Nat → Int32} {m_newLetter : Nat → Int32} {m_newReader : Nat → Int32} {m_bed : Nat → Int32} {m_letter : Nat → Int32} {m_reader : Nat → Int32} {m_newBeds : Int32} {m_newLetters : Int32} {m_newReaders : Int32} {m_beds : Int32} {m_letters : Int32} {m_readers : Int32} {m_newCode : Nat → Int32} {m_newOf : Nat → Int32} {m_code : Nat → Int32} {m_ofCode : Nat → Int32} {m_stack : Nat → Int32} {m_newCodes : Int32} {m_codes : Int32} {m_facts : Nat → Int32} {m_newStep : Nat → Int32} {m_step : Nat → Int32} {m_newSteps : Int32} {m_works : Int32} {m_refusedSteps : Int32} {m_begun : Int32} {m_done : Int32} {m_refusedNow : Int32} {m_now : Nat → Int32} {m_s : Nat → Int32} {m_past : Nat → Int32} {m_newBook : Nat → Int32} {m_book : Nat → Int32} {m_written : Int32} {m_mostBy : Nat → Int32} {m_stuffing : Nat → Int32} {m_stuffedMany : Int32} {m_lastBy : Nat → Int32} {m_leftBy : Nat → Int32} {m_splitBy : Nat → Int64} {m_seedNow : Int32} {m_image : Nat → Int32} {m_images : Int32} {n1 : Int32} {r : Int32} {o_m_thrown : Int32} {o_m_refused : Nat → Int32} (C : Cx J Z cX10_hearers 4 RX10 (some .int) rm_X10_hearers) (E : Ez J Z 0 0 (some (.int r)) (cs_X10 J.2.2.1 a0 o_m_thrown o_m_refused m_taped m_size m_at m_bad m_badKind m_opens m_faultAt m_tape m_newBed m_newLetter m_newReader m_bed m_letter m_reader m_newBeds m_newLetters m_newReaders m_beds m_letters m_readers m_newCode m_newOf m_code m_ofCode m_stack m_newCodes m_codes m_facts m_newStep m_step m_newSteps m_works m_refusedSteps m_begun m_done m_refusedNow m_now m_s m_past m_newBook m_book m_written m_mostBy m_stuffing m_stuffedMany m_lastBy m_leftBy m_splitBy m_seedNow m_image m_images)) : ∀ (n : Nat) (x2 : Int32) (x3 : Int32) (m_thrown : Int32) (m_refused : Nat → Int32), f_X10_hearers_27 m_readers m_now n1 n x2 x3 m_thrown m_refused = some (r, o_m_thrown, o_m_refused) → G J Z 0 0 (cs_X10 J.2.2.1 a0 m_thrown m_refused m_taped m_size m_at m_bad m_badKind m_opens m_faultAt m_tape m_newBed m_newLetter m_newReader m_bed m_letter m_reader m_newBeds m_newLetters m_newReaders m_beds m_letters m_readers m_newCode m_newOf m_code m_ofCode m_stack m_newCodes m_codes m_facts m_newStep m_step m_newSteps m_works m_refusedSteps m_begun m_done m_refusedNow m_now m_s m_past m_newBook m_book m_written m_mostBy m_stuffing m_stuffedMany m_lastBy m_leftBy m_splitBy m_seedNow m_image m_images) 4 [(0, .ref (a0 0)), (1, .int n1), (2, .int x2), (3, .int x3)] 27 [] := by
  intro n
  induction n with
  | zero =>
    intro x2 x3 m_thrown m_refused h
    rw [f_X10_hearers_27] at h
    cases h
  | succ n ih =>
    intro x2 x3 m_thrown m_refused h
    rw [f_X10_hearers_27] at h
    refine g_iload_n (pc := 27) C 3 rfl dX10_hearers_27 ?_
    refine g_aload_n (pc := 28) C 0 rfl dX10_hearers_28 ?_
    refine g_get (pc := 29) C FOK_X10 0 rfl rfl 21 (by decide) kw_1298 rfl dX10_hearers_29 ?_
    refine g_icmp_ge (pc := 32) C (tgt := 59) dX10_hearers_32 rfl h (fun h => ?_) (fun h => ?_)
    · refine g_iload_n (pc := 59) C 2 rfl dX10_hearers_59 ?_
      cases h
      exact g_iret C E dX10_hearers_60
    · refine g_iload_n (pc := 35) C 2 rfl dX10_hearers_35 ?_
      refine g_aload_n (pc := 36) C 0 rfl dX10_hearers_36 ?_
      refine g_get (pc := 37) C FOK_X10 0 rfl rfl 38 (by decide) kw_1315 rfl dX10_hearers_37 ?_
      refine g_bipush (pc := 40) C dX10_hearers_40 cb_95 ?_
      refine g_iload_n (pc := 42) C 3 rfl dX10_hearers_42 ?_
      refine g_iadd (pc := 43) C dX10_hearers_43 ?_
      obtain ⟨hi, h⟩ := ix_of h
      refine g_iald (pc := 44) C 17 rfl hi dX10_hearers_44 ?_
      refine g_iload_n (pc := 45) C 1 rfl dX10_hearers_45 ?_
      refine g_ishr (pc := 46) C dX10_hearers_46 ?_
      refine g_iconst (pc := 47) C dX10_hearers_47 ci_1 ?_
      refine g_iand (pc := 48) C dX10_hearers_48 ?_
      refine g_iload_n (pc := 49) C 3 rfl dX10_hearers_49 ?_
      refine g_ishl (pc := 50) C dX10_hearers_50 ?_
      refine g_ior (pc := 51) C dX10_hearers_51 ?_
      refine g_istore_n (pc := 52) C [(2, .int (x2 ||| ((((m_now (95 + x3).toNatClampNeg) >>> (n1 &&& 31)) &&& 1) <<< (x3 &&& 31)))), (0, .ref (a0 0)), (1, .int n1), (3, .int x3)] dX10_hearers_52 rfl (by decide) rfl ?_
      refine g_iinc (pc := 53) C (j := 3) [(3, .int (x3 + 1)), (2, .int (x2 ||| ((((m_now (95 + x3).toNatClampNeg) >>> (n1 &&& 31)) &&& 1) <<< (x3 &&& 31)))), (0, .ref (a0 0)), (1, .int n1)] dX10_hearers_53 rfl (ii_1 _) (by decide) rfl ?_
      refine g_goto (pc := 56) C (tgt := 27) dX10_hearers_56 rfl ?_
      refine g_lv [2, 3, 1, 0] rfl ?_
      exact ih (x2 ||| ((((m_now (95 + x3).toNatClampNeg) >>> (n1 &&& 31)) &&& 1) <<< (x3 &&& 31))) (x3 + 1) m_thrown m_refused h
set_option maxRecDepth 100000 in
set_option maxHeartbeats 4000000 in
theorem t_X10_hearers {J : Jt} {a0 : Nat → Nat} {m_thrown : Int32} {m_refused : Nat → Int32} {m_taped : Int32} {m_size : Int32} {m_at : Int32} {m_bad : Int32} {m_badKind : Int32} {m_opens : Int32} {m_faultAt : Int32} {m_tape : Nat → Int32} {m_newBed : Nat → Int32} {m_newLetter : Nat → Int32} {m_newReader : Nat → Int32} {m_bed : Nat → Int32} {m_letter : Nat → Int32} {m_reader : Nat → Int32} {m_newBeds : Int32} {m_newLetters : Int32} {m_newReaders : Int32} {m_beds : Int32} {m_letters : Int32} {m_readers : Int32} {m_newCode : Nat → Int32} {m_newOf : Nat → Int32} {m_code : Nat → Int32} {m_ofCode : Nat → Int32} {m_stack : Nat → Int32} {m_newCodes : Int32} {m_codes : Int32} {m_facts : Nat → Int32} {m_newStep : Nat → Int32} {m_step : Nat → Int32} {m_newSteps : Int32} {m_works : Int32} {m_refusedSteps : Int32} {m_begun : Int32} {m_done : Int32} {m_refusedNow : Int32} {m_now : Nat → Int32} {m_s : Nat → Int32} {m_past : Nat → Int32} {m_newBook : Nat → Int32} {m_book : Nat → Int32} {m_written : Int32} {m_mostBy : Nat → Int32} {m_stuffing : Nat → Int32} {m_stuffedMany : Int32} {m_lastBy : Nat → Int32} {m_leftBy : Nat → Int32} {m_splitBy : Nat → Int64} {m_seedNow : Int32} {m_image : Nat → Int32} {m_images : Int32} {n1 : Int32} {r : Int32} {o_m_thrown : Int32} {o_m_refused : Nat → Int32} (h : f_X10_hearers m_thrown m_refused m_readers m_now n1 = some (r, o_m_thrown, o_m_refused)) : Mt J yX10_hearers cX10_hearers 4 (some .int) rm_X10_hearers [.ref (a0 0), .int n1] (cs_X10 J.2.2.1 a0 m_thrown m_refused m_taped m_size m_at m_bad m_badKind m_opens m_faultAt m_tape m_newBed m_newLetter m_newReader m_bed m_letter m_reader m_newBeds m_newLetters m_newReaders m_beds m_letters m_readers m_newCode m_newOf m_code m_ofCode m_stack m_newCodes m_codes m_facts m_newStep m_step m_newSteps m_works m_refusedSteps m_begun m_done m_refusedNow m_now m_s m_past m_newBook m_book m_written m_mostBy m_stuffing m_stuffedMany m_lastBy m_leftBy m_splitBy m_seedNow m_image m_images) (some (.int r)) (cs_X10 J.2.2.1 a0 o_m_thrown o_m_refused m_taped m_size m_at m_bad m_badKind m_opens m_faultAt m_tape m_newBed m_newLetter m_newReader m_bed m_letter m_reader m_newBeds m_newLetters m_newReaders m_beds m_letters m_readers m_newCode m_newOf m_code m_ofCode m_stack m_newCodes m_codes m_facts m_newStep m_step m_newSteps m_works m_refusedSteps m_begun m_done m_refusedNow m_now m_s m_past m_newBook m_book m_written m_mostBy m_stuffing m_stuffedMany m_lastBy m_leftBy m_splitBy m_seedNow m_image m_images) := by
  refine Mt_of (own := RX10) (by decide) rfl (Nat.le_of_ble_eq_true rfl) rfl (fun Z C E => ?_)
  unfold f_X10_hearers at h
  show G J Z 0 0 (cs_X10 J.2.2.1 a0 m_thrown m_refused m_taped m_size m_at m_bad m_badKind m_opens m_faultAt m_tape m_newBed m_newLetter m_newReader m_bed m_letter m_reader m_newBeds m_newLetters m_newReaders m_beds m_letters m_readers m_newCode m_newOf m_code m_ofCode m_stack m_newCodes m_codes m_facts m_newStep m_step m_newSteps m_works m_refusedSteps m_begun m_done m_refusedNow m_now m_s m_past m_newBook m_book m_written m_mostBy m_stuffing m_stuffedMany m_lastBy m_leftBy m_splitBy m_seedNow m_image m_images) 4 [(0, .ref (a0 0)), (1, .int n1)] 0 []
  refine g_aload_n (pc := 0) C 0 rfl dX10_hearers_0 ?_
  refine g_iconst (pc := 1) C dX10_hearers_1 ci_0 ?_
  refine g_put (pc := 2) C (w' := cs_X10 J.2.2.1 a0 0 m_refused m_taped m_size m_at m_bad m_badKind m_opens m_faultAt m_tape m_newBed m_newLetter m_newReader m_bed m_letter m_reader m_newBeds m_newLetters m_newReaders m_beds m_letters m_readers m_newCode m_newOf m_code m_ofCode m_stack m_newCodes m_codes m_facts m_newStep m_step m_newSteps m_works m_refusedSteps m_begun m_done m_refusedNow m_now m_s m_past m_newBook m_book m_written m_mostBy m_stuffing m_stuffedMany m_lastBy m_leftBy m_splitBy m_seedNow m_image m_images) FOK_X10 0 rfl rfl 0 (by decide) kw_1277 rfl rfl rfl (Nat.le_of_ble_eq_true rfl) dX10_hearers_2 rfl ?_
  refine g_aload_n (pc := 5) C 0 rfl dX10_hearers_5 ?_
  refine g_iload_n (pc := 6) C 1 rfl dX10_hearers_6 ?_
  refine g_iconst (pc := 7) C dX10_hearers_7 ci_0 ?_
  refine g_bipush (pc := 8) C dX10_hearers_8 cb_15 ?_
  obtain ⟨v1, hc, h⟩ := b1_of h
  refine g_callS (pc := 10) C (w' := cs_X10 J.2.2.1 a0 0 m_refused m_taped m_size m_at m_bad m_badKind m_opens m_faultAt m_tape m_newBed m_newLetter m_newReader m_bed m_letter m_reader m_newBeds m_newLetters m_newReaders m_beds m_letters m_readers m_newCode m_newOf m_code m_ofCode m_stack m_newCodes m_codes m_facts m_newStep m_step m_newSteps m_works m_refusedSteps m_begun m_done m_refusedNow m_now m_s m_past m_newBook m_book m_written m_mostBy m_stuffing m_stuffedMany m_lastBy m_leftBy m_splitBy m_seedNow m_image m_images) (As := [.int n1, .int 0, .int 15]) (st := [.ref (a0 0)]) (t_X10_within hc) Sub.nil kw_1689 kw_1690 kw_95 hy_X10_within kw_1691 rfl (Nat.le_of_ble_eq_true rfl) (Nat.le_of_ble_eq_true rfl) (Nat.le_of_ble_eq_true rfl) (Nat.le_of_ble_eq_true rfl) (Nat.le_of_ble_eq_true rfl) dX10_hearers_10 ?_
  refine g_iconst (pc := 13) C dX10_hearers_13 ci_1 ?_
  refine g_iconst (pc := 14) C dX10_hearers_14 ci_1 ?_
  obtain ⟨v2, c3, c4, hc, h⟩ := b3_of h
  refine g_callV (pc := 15) C (w' := cs_X10 J.2.2.1 a0 c3 c4 m_taped m_size m_at m_bad m_badKind m_opens m_faultAt m_tape m_newBed m_newLetter m_newReader m_bed m_letter m_reader m_newBeds m_newLetters m_newReaders m_beds m_letters m_readers m_newCode m_newOf m_code m_ofCode m_stack m_newCodes m_codes m_facts m_newStep m_step m_newSteps m_works m_refusedSteps m_begun m_done m_refusedNow m_now m_s m_past m_newBook m_book m_written m_mostBy m_stuffing m_stuffedMany m_lastBy m_leftBy m_splitBy m_seedNow m_image m_images) (As := [.int v1, .int 1, .int 1]) (st := []) (ci := 10) (q0 := 0) rfl rfl (t_X10_may (a0 := a0) hc) Sub.same kw_1450 kw_1452 kw_20 kw_95 hy_X10_may kw_1453 rfl (Nat.le_of_ble_eq_true rfl) (Nat.le_of_ble_eq_true rfl) (Nat.le_of_ble_eq_true rfl) (Nat.le_of_ble_eq_true rfl) (Nat.le_of_ble_eq_true rfl) dX10_hearers_15 ?_
  refine g_if_ne (pc := 18) C (tgt := 23) dX10_hearers_18 rfl h (fun h => ?_) (fun h => ?_)
  · refine g_iconst (pc := 23) C dX10_hearers_23 ci_0 ?_
    refine g_istore_n (pc := 24) C [(2, .int 0), (0, .ref (a0 0)), (1, .int n1)] dX10_hearers_24 rfl (by decide) rfl ?_
    refine g_iconst (pc := 25) C dX10_hearers_25 ci_0 ?_
    refine g_istore_n (pc := 26) C [(3, .int 0), (2, .int 0), (0, .ref (a0 0)), (1, .int n1)] dX10_hearers_26 rfl (by decide) rfl ?_
    refine g_lv [2, 3, 1, 0] rfl ?_
    exact j_X10_hearers_27 C E    FU 0 0 c3 c4 h
  · refine g_iconst (pc := 21) C dX10_hearers_21 ci_0 ?_
    cases h
    exact g_iret C E dX10_hearers_22
noncomputable def f_X10_news (m_thrown : Int32) (m_refused : Nat → Int32) (m_bed : Nat → Int32) (m_letter : Nat → Int32) (m_letters : Int32) (m_readers : Int32) (m_now : Nat → Int32) (m_s : Nat → Int32) (n1 : Int32) (n2 : Int32) : Option (Int32 × Int32 × (Nat → Int32) × (Nat → Int32)) := b3 (f_X10_isReader 0 m_refused m_readers n1 1) (fun v1 c2 c3 => if v1 = 0 then some (0, c2, c3, m_s) else b1 (f_X10_within n2 1 30) (fun v4 => b3 (f_X10_may c2 c3 v4 2 1) (fun v5 c6 c7 => if v5 = 0 then some (0, c6, c7, m_s) else b1 (f_X10_take m_now m_s) (fun c8 => b1 (f_X10_newsOf m_bed m_letter m_letters c8 n1 n2) (fun v9 => some (v9, c6, c7, c8))))))
def rm_X10_news : Room := { frames := 3, cells := 0, slots := 0, locals := 66 }
set_option maxRecDepth 100000 in
set_option maxHeartbeats 4000000 in
theorem t_X10_news {J : Jt} {a0 : Nat → Nat} {m_thrown : Int32} {m_refused : Nat → Int32} {m_taped : Int32} {m_size : Int32} {m_at : Int32} {m_bad : Int32} {m_badKind : Int32} {m_opens : Int32} {m_faultAt : Int32} {m_tape : Nat → Int32} {m_newBed : Nat → Int32} {m_newLetter : Nat → Int32} {m_newReader : Nat → Int32} {m_bed : Nat → Int32} {m_letter : Nat → Int32} {m_reader : Nat → Int32} {m_newBeds : Int32} {m_newLetters : Int32} {m_newReaders : Int32} {m_beds : Int32} {m_letters : Int32} {m_readers : Int32} {m_newCode : Nat → Int32} {m_newOf : Nat → Int32} {m_code : Nat → Int32} {m_ofCode : Nat → Int32} {m_stack : Nat → Int32} {m_newCodes : Int32} {m_codes : Int32} {m_facts : Nat → Int32} {m_newStep : Nat → Int32} {m_step : Nat → Int32} {m_newSteps : Int32} {m_works : Int32} {m_refusedSteps : Int32} {m_begun : Int32} {m_done : Int32} {m_refusedNow : Int32} {m_now : Nat → Int32} {m_s : Nat → Int32} {m_past : Nat → Int32} {m_newBook : Nat → Int32} {m_book : Nat → Int32} {m_written : Int32} {m_mostBy : Nat → Int32} {m_stuffing : Nat → Int32} {m_stuffedMany : Int32} {m_lastBy : Nat → Int32} {m_leftBy : Nat → Int32} {m_splitBy : Nat → Int64} {m_seedNow : Int32} {m_image : Nat → Int32} {m_images : Int32} {n1 : Int32} {n2 : Int32} {r : Int32} {o_m_thrown : Int32} {o_m_refused : Nat → Int32} {o_m_s : Nat → Int32} (h : f_X10_news m_thrown m_refused m_bed m_letter m_letters m_readers m_now m_s n1 n2 = some (r, o_m_thrown, o_m_refused, o_m_s)) : Mt J yX10_news cX10_news 3 (some .int) rm_X10_news [.ref (a0 0), .int n1, .int n2] (cs_X10 J.2.2.1 a0 m_thrown m_refused m_taped m_size m_at m_bad m_badKind m_opens m_faultAt m_tape m_newBed m_newLetter m_newReader m_bed m_letter m_reader m_newBeds m_newLetters m_newReaders m_beds m_letters m_readers m_newCode m_newOf m_code m_ofCode m_stack m_newCodes m_codes m_facts m_newStep m_step m_newSteps m_works m_refusedSteps m_begun m_done m_refusedNow m_now m_s m_past m_newBook m_book m_written m_mostBy m_stuffing m_stuffedMany m_lastBy m_leftBy m_splitBy m_seedNow m_image m_images) (some (.int r)) (cs_X10 J.2.2.1 a0 o_m_thrown o_m_refused m_taped m_size m_at m_bad m_badKind m_opens m_faultAt m_tape m_newBed m_newLetter m_newReader m_bed m_letter m_reader m_newBeds m_newLetters m_newReaders m_beds m_letters m_readers m_newCode m_newOf m_code m_ofCode m_stack m_newCodes m_codes m_facts m_newStep m_step m_newSteps m_works m_refusedSteps m_begun m_done m_refusedNow m_now o_m_s m_past m_newBook m_book m_written m_mostBy m_stuffing m_stuffedMany m_lastBy m_leftBy m_splitBy m_seedNow m_image m_images) := by
  refine Mt_of (own := RX10) (by decide) rfl (Nat.le_of_ble_eq_true rfl) rfl (fun Z C E => ?_)
  unfold f_X10_news at h
  show G J Z 0 0 (cs_X10 J.2.2.1 a0 m_thrown m_refused m_taped m_size m_at m_bad m_badKind m_opens m_faultAt m_tape m_newBed m_newLetter m_newReader m_bed m_letter m_reader m_newBeds m_newLetters m_newReaders m_beds m_letters m_readers m_newCode m_newOf m_code m_ofCode m_stack m_newCodes m_codes m_facts m_newStep m_step m_newSteps m_works m_refusedSteps m_begun m_done m_refusedNow m_now m_s m_past m_newBook m_book m_written m_mostBy m_stuffing m_stuffedMany m_lastBy m_leftBy m_splitBy m_seedNow m_image m_images) 3 [(0, .ref (a0 0)), (1, .int n1), (2, .int n2)] 0 []
  refine g_aload_n (pc := 0) C 0 rfl dX10_news_0 ?_
  refine g_iconst (pc := 1) C dX10_news_1 ci_0 ?_
  refine g_put (pc := 2) C (w' := cs_X10 J.2.2.1 a0 0 m_refused m_taped m_size m_at m_bad m_badKind m_opens m_faultAt m_tape m_newBed m_newLetter m_newReader m_bed m_letter m_reader m_newBeds m_newLetters m_newReaders m_beds m_letters m_readers m_newCode m_newOf m_code m_ofCode m_stack m_newCodes m_codes m_facts m_newStep m_step m_newSteps m_works m_refusedSteps m_begun m_done m_refusedNow m_now m_s m_past m_newBook m_book m_written m_mostBy m_stuffing m_stuffedMany m_lastBy m_leftBy m_splitBy m_seedNow m_image m_images) FOK_X10 0 rfl rfl 0 (by decide) kw_1277 rfl rfl rfl (Nat.le_of_ble_eq_true rfl) dX10_news_2 rfl ?_
  refine g_aload_n (pc := 5) C 0 rfl dX10_news_5 ?_
  refine g_iload_n (pc := 6) C 1 rfl dX10_news_6 ?_
  refine g_iconst (pc := 7) C dX10_news_7 ci_1 ?_
  obtain ⟨v1, c2, c3, hc, h⟩ := b3_of h
  refine g_callV (pc := 8) C (w' := cs_X10 J.2.2.1 a0 c2 c3 m_taped m_size m_at m_bad m_badKind m_opens m_faultAt m_tape m_newBed m_newLetter m_newReader m_bed m_letter m_reader m_newBeds m_newLetters m_newReaders m_beds m_letters m_readers m_newCode m_newOf m_code m_ofCode m_stack m_newCodes m_codes m_facts m_newStep m_step m_newSteps m_works m_refusedSteps m_begun m_done m_refusedNow m_now m_s m_past m_newBook m_book m_written m_mostBy m_stuffing m_stuffedMany m_lastBy m_leftBy m_splitBy m_seedNow m_image m_images) (As := [.int n1, .int 1]) (st := []) (ci := 10) (q0 := 0) rfl rfl (t_X10_isReader (a0 := a0) hc) Sub.same kw_1732 kw_1734 kw_70 kw_95 hy_X10_isReader kw_1735 rfl (Nat.le_of_ble_eq_true rfl) (Nat.le_of_ble_eq_true rfl) (Nat.le_of_ble_eq_true rfl) (Nat.le_of_ble_eq_true rfl) (Nat.le_of_ble_eq_true rfl) dX10_news_8 ?_
  refine g_if_eq (pc := 11) C (tgt := 30) dX10_news_11 rfl h (fun h => ?_) (fun h => ?_)
  · refine g_iconst (pc := 30) C dX10_news_30 ci_0 ?_
    cases h
    exact g_iret C E dX10_news_31
  · refine g_aload_n (pc := 14) C 0 rfl dX10_news_14 ?_
    refine g_iload_n (pc := 15) C 2 rfl dX10_news_15 ?_
    refine g_iconst (pc := 16) C dX10_news_16 ci_1 ?_
    refine g_bipush (pc := 17) C dX10_news_17 cb_30 ?_
    obtain ⟨v4, hc, h⟩ := b1_of h
    refine g_callS (pc := 19) C (w' := cs_X10 J.2.2.1 a0 c2 c3 m_taped m_size m_at m_bad m_badKind m_opens m_faultAt m_tape m_newBed m_newLetter m_newReader m_bed m_letter m_reader m_newBeds m_newLetters m_newReaders m_beds m_letters m_readers m_newCode m_newOf m_code m_ofCode m_stack m_newCodes m_codes m_facts m_newStep m_step m_newSteps m_works m_refusedSteps m_begun m_done m_refusedNow m_now m_s m_past m_newBook m_book m_written m_mostBy m_stuffing m_stuffedMany m_lastBy m_leftBy m_splitBy m_seedNow m_image m_images) (As := [.int n2, .int 1, .int 30]) (st := [.ref (a0 0)]) (t_X10_within hc) Sub.nil kw_1689 kw_1690 kw_95 hy_X10_within kw_1691 rfl (Nat.le_of_ble_eq_true rfl) (Nat.le_of_ble_eq_true rfl) (Nat.le_of_ble_eq_true rfl) (Nat.le_of_ble_eq_true rfl) (Nat.le_of_ble_eq_true rfl) dX10_news_19 ?_
    refine g_iconst (pc := 22) C dX10_news_22 ci_2 ?_
    refine g_iconst (pc := 23) C dX10_news_23 ci_1 ?_
    obtain ⟨v5, c6, c7, hc, h⟩ := b3_of h
    refine g_callV (pc := 24) C (w' := cs_X10 J.2.2.1 a0 c6 c7 m_taped m_size m_at m_bad m_badKind m_opens m_faultAt m_tape m_newBed m_newLetter m_newReader m_bed m_letter m_reader m_newBeds m_newLetters m_newReaders m_beds m_letters m_readers m_newCode m_newOf m_code m_ofCode m_stack m_newCodes m_codes m_facts m_newStep m_step m_newSteps m_works m_refusedSteps m_begun m_done m_refusedNow m_now m_s m_past m_newBook m_book m_written m_mostBy m_stuffing m_stuffedMany m_lastBy m_leftBy m_splitBy m_seedNow m_image m_images) (As := [.int v4, .int 2, .int 1]) (st := []) (ci := 10) (q0 := 0) rfl rfl (t_X10_may (a0 := a0) hc) Sub.same kw_1450 kw_1452 kw_20 kw_95 hy_X10_may kw_1453 rfl (Nat.le_of_ble_eq_true rfl) (Nat.le_of_ble_eq_true rfl) (Nat.le_of_ble_eq_true rfl) (Nat.le_of_ble_eq_true rfl) (Nat.le_of_ble_eq_true rfl) dX10_news_24 ?_
    refine g_if_ne (pc := 27) C (tgt := 32) dX10_news_27 rfl h (fun h => ?_) (fun h => ?_)
    · refine g_aload_n (pc := 32) C 0 rfl dX10_news_32 ?_
      obtain ⟨c8, hc, h⟩ := b1_of h
      refine g_callV (pc := 33) C (w' := cs_X10 J.2.2.1 a0 c6 c7 m_taped m_size m_at m_bad m_badKind m_opens m_faultAt m_tape m_newBed m_newLetter m_newReader m_bed m_letter m_reader m_newBeds m_newLetters m_newReaders m_beds m_letters m_readers m_newCode m_newOf m_code m_ofCode m_stack m_newCodes m_codes m_facts m_newStep m_step m_newSteps m_works m_refusedSteps m_begun m_done m_refusedNow m_now c8 m_past m_newBook m_book m_written m_mostBy m_stuffing m_stuffedMany m_lastBy m_leftBy m_splitBy m_seedNow m_image m_images) (As := []) (st := []) (ci := 10) (q0 := 0) rfl rfl (t_X10_take (a0 := a0) hc) Sub.same kw_1595 kw_1597 kw_46 kw_95 hy_X10_take kw_1598 rfl (Nat.le_of_ble_eq_true rfl) (Nat.le_of_ble_eq_true rfl) (Nat.le_of_ble_eq_true rfl) (Nat.le_of_ble_eq_true rfl) (Nat.le_of_ble_eq_true rfl) dX10_news_33 ?_
      refine g_aload_n (pc := 36) C 0 rfl dX10_news_36 ?_
      refine g_iload_n (pc := 37) C 1 rfl dX10_news_37 ?_
      refine g_iload_n (pc := 38) C 2 rfl dX10_news_38 ?_
      obtain ⟨v9, hc, h⟩ := b1_of h
      refine g_callV (pc := 39) C (w' := cs_X10 J.2.2.1 a0 c6 c7 m_taped m_size m_at m_bad m_badKind m_opens m_faultAt m_tape m_newBed m_newLetter m_newReader m_bed m_letter m_reader m_newBeds m_newLetters m_newReaders m_beds m_letters m_readers m_newCode m_newOf m_code m_ofCode m_stack m_newCodes m_codes m_facts m_newStep m_step m_newSteps m_works m_refusedSteps m_begun m_done m_refusedNow m_now c8 m_past m_newBook m_book m_written m_mostBy m_stuffing m_stuffedMany m_lastBy m_leftBy m_splitBy m_seedNow m_image m_images) (As := [.int n1, .int n2]) (st := []) (ci := 10) (q0 := 0) rfl rfl (t_X10_newsOf (a0 := a0) hc) Sub.same kw_1611 kw_1613 kw_50 kw_95 hy_X10_newsOf kw_1614 rfl (Nat.le_of_ble_eq_true rfl) (Nat.le_of_ble_eq_true rfl) (Nat.le_of_ble_eq_true rfl) (Nat.le_of_ble_eq_true rfl) (Nat.le_of_ble_eq_true rfl) dX10_news_39 ?_
      cases h
      exact g_iret C E dX10_news_42
    · refine g_iconst (pc := 30) C dX10_news_30 ci_0 ?_
      cases h
      exact g_iret C E dX10_news_31
noncomputable def f_X10_full_54  (m_beds : Int32) (m_now : Nat → Int32) (n1 : Int32) (k26 : Int32 → Int32 → Int32 → (Nat → Int32) → Option (Int32 × Int32 × (Nat → Int32))) (x3 : Int32) (y0 : Int32) (y1 : Int32) (y2 : Int32) (m_thrown : Int32) (m_refused : Nat → Int32) : Option (Int32 × Int32 × (Nat → Int32)) := if y1 = y2 then k26 (y0 ||| ((1 : Int32) <<< (x3 &&& 31))) (x3 + 1) m_thrown m_refused else k26 (y0 ||| 0) (x3 + 1) m_thrown m_refused
noncomputable def f_X10_full_26  (m_beds : Int32) (m_now : Nat → Int32) (n1 : Int32) : Nat → Int32 → Int32 → Int32 → (Nat → Int32) → Option (Int32 × Int32 × (Nat → Int32))
  | 0, _, _, _, _ => none
  | n + 1, x2, x3, m_thrown, m_refused => if m_beds ≤ x3 then some (x2, m_thrown, m_refused) else if ixb (84 + x3) 165 then if n1 = 0 then f_X10_full_54 m_beds m_now n1 (f_X10_full_26 m_beds m_now n1 n) x3 x2 (m_now (84 + x3).toNatClampNeg) 12 m_thrown m_refused else f_X10_full_54 m_beds m_now n1 (f_X10_full_26 m_beds m_now n1 n) x3 x2 (m_now (84 + x3).toNatClampNeg) 0 m_thrown m_refused else none
noncomputable def f_X10_full (m_thrown : Int32) (m_refused : Nat → Int32) (m_beds : Int32) (m_now : Nat → Int32) (n1 : Int32) : Option (Int32 × Int32 × (Nat → Int32)) := b1 (f_X10_within n1 0 1) (fun v1 => b3 (f_X10_may 0 m_refused v1 1 1) (fun v2 c3 c4 => if v2 = 0 then some (0, c3, c4) else f_X10_full_26 m_beds m_now n1 FU 0 0 c3 c4))
def rm_X10_full : Room := { frames := 1, cells := 0, slots := 0, locals := 23 }
set_option maxRecDepth 100000 in
set_option maxHeartbeats 4000000 in
theorem j_X10_full_54 {J : Jt} {Z : Zt} {a0 : Nat → Nat} {m_taped : Int32} {m_size : Int32} {m_at : Int32} {m_bad : Int32} {m_badKind : Int32} {m_opens : Int32} {m_faultAt : Int32} {m_tape : Nat → Int32} {m_newBed : Nat → Int32} {m_newLetter : Nat → Int32} {m_newReader : Nat → Int32} {m_bed : Nat → Int32} {m_letter : Nat → Int32} {m_reader : Nat → Int32} {m_newBeds : Int32} {m_newLetters : Int32} {m_newReaders : Int32} {m_beds : Int32} {m_letters : Int32} {m_readers : Int32} {m_newCode : Nat → Int32} {m_newOf : Nat → Int32} {m_code : Nat → Int32} {m_ofCode : Nat → Int32} {m_stack : Nat → Int32} {m_newCodes : Int32} {m_codes : Int32} {m_facts : Nat → Int32} {m_newStep : Nat → Int32} {m_step : Nat → Int32} {m_newSteps : Int32} {m_works : Int32} {m_refusedSteps : Int32} {m_begun : Int32} {m_done : Int32} {m_refusedNow : Int32} {m_now : Nat → Int32} {m_s : Nat → Int32} {m_past : Nat → Int32} {m_newBook : Nat → Int32} {m_book : Nat → Int32} {m_written : Int32} {m_mostBy : Nat → Int32} {m_stuffing : Nat → Int32} {m_stuffedMany : Int32} {m_lastBy : Nat → Int32} {m_leftBy : Nat → Int32} {m_splitBy : Nat → Int64} {m_seedNow : Int32} {m_image : Nat → Int32} {m_images : Int32} {n1 : Int32} {r : Int32} {o_m_thrown : Int32} {o_m_refused : Nat → Int32} {k26 : Int32 → Int32 → Int32 → (Nat → Int32) → Option (Int32 × Int32 × (Nat → Int32))} (C : Cx J Z cX10_full 4 RX10 (some .int) rm_X10_full) (E : Ez J Z 0 0 (some (.int r)) (cs_X10 J.2.2.1 a0 o_m_thrown o_m_refused m_taped m_size m_at m_bad m_badKind m_opens m_faultAt m_tape m_newBed m_newLetter m_newReader m_bed m_letter m_reader m_newBeds m_newLetters m_newReaders m_beds m_letters m_readers m_newCode m_newOf m_code m_ofCode m_stack m_newCodes m_codes m_facts m_newStep m_step m_newSteps m_works m_refusedSteps m_begun m_done m_refusedNow m_now m_s m_past m_newBook m_book m_written m_mostBy m_stuffing m_stuffedMany m_lastBy m_leftBy m_splitBy m_seedNow m_image m_images)) (hk26 : ∀ (x2 : Int32) (x3 : Int32) (m_thrown : Int32) (m_refused : Nat → Int32), k26 x2 x3 m_thrown m_refused = some (r, o_m_thrown, o_m_refused) → G J Z 0 0 (cs_X10 J.2.2.1 a0 m_thrown m_refused m_taped m_size m_at m_bad m_badKind m_opens m_faultAt m_tape m_newBed m_newLetter m_newReader m_bed m_letter m_reader m_newBeds m_newLetters m_newReaders m_beds m_letters m_readers m_newCode m_newOf m_code m_ofCode m_stack m_newCodes m_codes m_facts m_newStep m_step m_newSteps m_works m_refusedSteps m_begun m_done m_refusedNow m_now m_s m_past m_newBook m_book m_written m_mostBy m_stuffing m_stuffedMany m_lastBy m_leftBy m_splitBy m_seedNow m_image m_images) 4 [(0, .ref (a0 0)), (1, .int n1), (2, .int x2), (3, .int x3)] 26 []) : ∀ (x3 : Int32) (y0 : Int32) (y1 : Int32) (y2 : Int32) (m_thrown : Int32) (m_refused : Nat → Int32), f_X10_full_54 m_beds m_now n1 k26 x3 y0 y1 y2 m_thrown m_refused = some (r, o_m_thrown, o_m_refused) → G J Z 0 0 (cs_X10 J.2.2.1 a0 m_thrown m_refused m_taped m_size m_at m_bad m_badKind m_opens m_faultAt m_tape m_newBed m_newLetter m_newReader m_bed m_letter m_reader m_newBeds m_newLetters m_newReaders m_beds m_letters m_readers m_newCode m_newOf m_code m_ofCode m_stack m_newCodes m_codes m_facts m_newStep m_step m_newSteps m_works m_refusedSteps m_begun m_done m_refusedNow m_now m_s m_past m_newBook m_book m_written m_mostBy m_stuffing m_stuffedMany m_lastBy m_leftBy m_splitBy m_seedNow m_image m_images) 4 [(0, .ref (a0 0)), (1, .int n1), (3, .int x3)] 54 [.int y2, .int y1, .int y0] := by
  intro x3 y0 y1 y2 m_thrown m_refused h
  unfold f_X10_full_54 at h
  refine g_icmp_ne (pc := 54) C (tgt := 63) dX10_full_54 rfl h (fun h => ?_) (fun h => ?_)
  · refine g_iconst (pc := 63) C dX10_full_63 ci_0 ?_
    refine g_ior (pc := 64) C dX10_full_64 ?_
    refine g_istore_n (pc := 65) C [(2, .int (y0 ||| 0)), (0, .ref (a0 0)), (1, .int n1), (3, .int x3)] dX10_full_65 rfl (by decide) rfl ?_
    refine g_iinc (pc := 66) C (j := 3) [(3, .int (x3 + 1)), (2, .int (y0 ||| 0)), (0, .ref (a0 0)), (1, .int n1)] dX10_full_66 rfl (ii_1 _) (by decide) rfl ?_
    refine g_goto (pc := 69) C (tgt := 26) dX10_full_69 rfl ?_
    refine g_lv [2, 3, 1, 0] rfl ?_
    exact hk26 (y0 ||| 0) (x3 + 1) m_thrown m_refused h
  · refine g_iconst (pc := 57) C dX10_full_57 ci_1 ?_
    refine g_iload_n (pc := 58) C 2 rfl dX10_full_58 ?_
    refine g_ishl (pc := 59) C dX10_full_59 ?_
    refine g_goto (pc := 60) C (tgt := 64) dX10_full_60 rfl ?_
    refine g_ior (pc := 64) C dX10_full_64 ?_
    refine g_istore_n (pc := 65) C [(2, .int (y0 ||| ((1 : Int32) <<< (x3 &&& 31)))), (0, .ref (a0 0)), (1, .int n1), (3, .int x3)] dX10_full_65 rfl (by decide) rfl ?_
    refine g_iinc (pc := 66) C (j := 3) [(3, .int (x3 + 1)), (2, .int (y0 ||| ((1 : Int32) <<< (x3 &&& 31)))), (0, .ref (a0 0)), (1, .int n1)] dX10_full_66 rfl (ii_1 _) (by decide) rfl ?_
    refine g_goto (pc := 69) C (tgt := 26) dX10_full_69 rfl ?_
    refine g_lv [2, 3, 1, 0] rfl ?_
    exact hk26 (y0 ||| ((1 : Int32) <<< (x3 &&& 31))) (x3 + 1) m_thrown m_refused h
set_option maxRecDepth 100000 in
set_option maxHeartbeats 4000000 in
theorem j_X10_full_26 {J : Jt} {Z : Zt} {a0 : Nat → Nat} {m_taped : Int32} {m_size : Int32} {m_at : Int32} {m_bad : Int32} {m_badKind : Int32} {m_opens : Int32} {m_faultAt : Int32} {m_tape : Nat → Int32} {m_newBed : Nat → Int32} {m_newLetter : Nat → Int32} {m_newReader : Nat → Int32} {m_bed : Nat → Int32} {m_letter : Nat → Int32} {m_reader : Nat → Int32} {m_newBeds : Int32} {m_newLetters : Int32} {m_newReaders : Int32} {m_beds : Int32} {m_letters : Int32} {m_readers : Int32} {m_newCode : Nat → Int32} {m_newOf : Nat → Int32} {m_code : Nat → Int32} {m_ofCode : Nat → Int32} {m_stack : Nat → Int32} {m_newCodes : Int32} {m_codes : Int32} {m_facts : Nat → Int32} {m_newStep : Nat → Int32} {m_step : Nat → Int32} {m_newSteps : Int32} {m_works : Int32} {m_refusedSteps : Int32} {m_begun : Int32} {m_done : Int32} {m_refusedNow : Int32} {m_now : Nat → Int32} {m_s : Nat → Int32} {m_past : Nat → Int32} {m_newBook : Nat → Int32} {m_book : Nat → Int32} {m_written : Int32} {m_mostBy : Nat → Int32} {m_stuffing : Nat → Int32} {m_stuffedMany : Int32} {m_lastBy : Nat → Int32} {m_leftBy : Nat → Int32} {m_splitBy : Nat → Int64} {m_seedNow : Int32} {m_image : Nat → Int32} {m_images : Int32} {n1 : Int32} {r : Int32} {o_m_thrown : Int32} {o_m_refused : Nat → Int32} (C : Cx J Z cX10_full 4 RX10 (some .int) rm_X10_full) (E : Ez J Z 0 0 (some (.int r)) (cs_X10 J.2.2.1 a0 o_m_thrown o_m_refused m_taped m_size m_at m_bad m_badKind m_opens m_faultAt m_tape m_newBed m_newLetter m_newReader m_bed m_letter m_reader m_newBeds m_newLetters m_newReaders m_beds m_letters m_readers m_newCode m_newOf m_code m_ofCode m_stack m_newCodes m_codes m_facts m_newStep m_step m_newSteps m_works m_refusedSteps m_begun m_done m_refusedNow m_now m_s m_past m_newBook m_book m_written m_mostBy m_stuffing m_stuffedMany m_lastBy m_leftBy m_splitBy m_seedNow m_image m_images)) : ∀ (n : Nat) (x2 : Int32) (x3 : Int32) (m_thrown : Int32) (m_refused : Nat → Int32), f_X10_full_26 m_beds m_now n1 n x2 x3 m_thrown m_refused = some (r, o_m_thrown, o_m_refused) → G J Z 0 0 (cs_X10 J.2.2.1 a0 m_thrown m_refused m_taped m_size m_at m_bad m_badKind m_opens m_faultAt m_tape m_newBed m_newLetter m_newReader m_bed m_letter m_reader m_newBeds m_newLetters m_newReaders m_beds m_letters m_readers m_newCode m_newOf m_code m_ofCode m_stack m_newCodes m_codes m_facts m_newStep m_step m_newSteps m_works m_refusedSteps m_begun m_done m_refusedNow m_now m_s m_past m_newBook m_book m_written m_mostBy m_stuffing m_stuffedMany m_lastBy m_leftBy m_splitBy m_seedNow m_image m_images) 4 [(0, .ref (a0 0)), (1, .int n1), (2, .int x2), (3, .int x3)] 26 [] := by
  intro n
  induction n with
  | zero =>
    intro x2 x3 m_thrown m_refused h
    rw [f_X10_full_26] at h
    cases h
  | succ n ih =>
    intro x2 x3 m_thrown m_refused h
    rw [f_X10_full_26] at h
    refine g_iload_n (pc := 26) C 3 rfl dX10_full_26 ?_
    refine g_aload_n (pc := 27) C 0 rfl dX10_full_27 ?_
    refine g_get (pc := 28) C FOK_X10 0 rfl rfl 19 (by decide) kw_1296 rfl dX10_full_28 ?_
    refine g_icmp_ge (pc := 31) C (tgt := 72) dX10_full_31 rfl h (fun h => ?_) (fun h => ?_)
    · refine g_iload_n (pc := 72) C 2 rfl dX10_full_72 ?_
      cases h
      exact g_iret C E dX10_full_73
    · refine g_iload_n (pc := 34) C 2 rfl dX10_full_34 ?_
      refine g_aload_n (pc := 35) C 0 rfl dX10_full_35 ?_
      refine g_get (pc := 36) C FOK_X10 0 rfl rfl 38 (by decide) kw_1315 rfl dX10_full_36 ?_
      refine g_bipush (pc := 39) C dX10_full_39 cb_84 ?_
      refine g_iload_n (pc := 41) C 3 rfl dX10_full_41 ?_
      refine g_iadd (pc := 42) C dX10_full_42 ?_
      obtain ⟨hi, h⟩ := ix_of h
      refine g_iald (pc := 43) C 17 rfl hi dX10_full_43 ?_
      refine g_iload_n (pc := 44) C 1 rfl dX10_full_44 ?_
      refine g_if_ne (pc := 45) C (tgt := 53) dX10_full_45 rfl h (fun h => ?_) (fun h => ?_)
      · refine g_iconst (pc := 53) C dX10_full_53 ci_0 ?_
        refine g_lv [0, 1, 3] rfl ?_
        exact j_X10_full_54 C E   ih x3 x2 (m_now (84 + x3).toNatClampNeg) 0 m_thrown m_refused h
      · refine g_bipush (pc := 48) C dX10_full_48 cb_12 ?_
        refine g_goto (pc := 50) C (tgt := 54) dX10_full_50 rfl ?_
        refine g_lv [0, 1, 3] rfl ?_
        exact j_X10_full_54 C E   ih x3 x2 (m_now (84 + x3).toNatClampNeg) 12 m_thrown m_refused h
set_option maxRecDepth 100000 in
set_option maxHeartbeats 4000000 in
theorem t_X10_full {J : Jt} {a0 : Nat → Nat} {m_thrown : Int32} {m_refused : Nat → Int32} {m_taped : Int32} {m_size : Int32} {m_at : Int32} {m_bad : Int32} {m_badKind : Int32} {m_opens : Int32} {m_faultAt : Int32} {m_tape : Nat → Int32} {m_newBed : Nat → Int32} {m_newLetter : Nat → Int32} {m_newReader : Nat → Int32} {m_bed : Nat → Int32} {m_letter : Nat → Int32} {m_reader : Nat → Int32} {m_newBeds : Int32} {m_newLetters : Int32} {m_newReaders : Int32} {m_beds : Int32} {m_letters : Int32} {m_readers : Int32} {m_newCode : Nat → Int32} {m_newOf : Nat → Int32} {m_code : Nat → Int32} {m_ofCode : Nat → Int32} {m_stack : Nat → Int32} {m_newCodes : Int32} {m_codes : Int32} {m_facts : Nat → Int32} {m_newStep : Nat → Int32} {m_step : Nat → Int32} {m_newSteps : Int32} {m_works : Int32} {m_refusedSteps : Int32} {m_begun : Int32} {m_done : Int32} {m_refusedNow : Int32} {m_now : Nat → Int32} {m_s : Nat → Int32} {m_past : Nat → Int32} {m_newBook : Nat → Int32} {m_book : Nat → Int32} {m_written : Int32} {m_mostBy : Nat → Int32} {m_stuffing : Nat → Int32} {m_stuffedMany : Int32} {m_lastBy : Nat → Int32} {m_leftBy : Nat → Int32} {m_splitBy : Nat → Int64} {m_seedNow : Int32} {m_image : Nat → Int32} {m_images : Int32} {n1 : Int32} {r : Int32} {o_m_thrown : Int32} {o_m_refused : Nat → Int32} (h : f_X10_full m_thrown m_refused m_beds m_now n1 = some (r, o_m_thrown, o_m_refused)) : Mt J yX10_full cX10_full 4 (some .int) rm_X10_full [.ref (a0 0), .int n1] (cs_X10 J.2.2.1 a0 m_thrown m_refused m_taped m_size m_at m_bad m_badKind m_opens m_faultAt m_tape m_newBed m_newLetter m_newReader m_bed m_letter m_reader m_newBeds m_newLetters m_newReaders m_beds m_letters m_readers m_newCode m_newOf m_code m_ofCode m_stack m_newCodes m_codes m_facts m_newStep m_step m_newSteps m_works m_refusedSteps m_begun m_done m_refusedNow m_now m_s m_past m_newBook m_book m_written m_mostBy m_stuffing m_stuffedMany m_lastBy m_leftBy m_splitBy m_seedNow m_image m_images) (some (.int r)) (cs_X10 J.2.2.1 a0 o_m_thrown o_m_refused m_taped m_size m_at m_bad m_badKind m_opens m_faultAt m_tape m_newBed m_newLetter m_newReader m_bed m_letter m_reader m_newBeds m_newLetters m_newReaders m_beds m_letters m_readers m_newCode m_newOf m_code m_ofCode m_stack m_newCodes m_codes m_facts m_newStep m_step m_newSteps m_works m_refusedSteps m_begun m_done m_refusedNow m_now m_s m_past m_newBook m_book m_written m_mostBy m_stuffing m_stuffedMany m_lastBy m_leftBy m_splitBy m_seedNow m_image m_images) := by
  refine Mt_of (own := RX10) (by decide) rfl (Nat.le_of_ble_eq_true rfl) rfl (fun Z C E => ?_)
  unfold f_X10_full at h
  show G J Z 0 0 (cs_X10 J.2.2.1 a0 m_thrown m_refused m_taped m_size m_at m_bad m_badKind m_opens m_faultAt m_tape m_newBed m_newLetter m_newReader m_bed m_letter m_reader m_newBeds m_newLetters m_newReaders m_beds m_letters m_readers m_newCode m_newOf m_code m_ofCode m_stack m_newCodes m_codes m_facts m_newStep m_step m_newSteps m_works m_refusedSteps m_begun m_done m_refusedNow m_now m_s m_past m_newBook m_book m_written m_mostBy m_stuffing m_stuffedMany m_lastBy m_leftBy m_splitBy m_seedNow m_image m_images) 4 [(0, .ref (a0 0)), (1, .int n1)] 0 []
  refine g_aload_n (pc := 0) C 0 rfl dX10_full_0 ?_
  refine g_iconst (pc := 1) C dX10_full_1 ci_0 ?_
  refine g_put (pc := 2) C (w' := cs_X10 J.2.2.1 a0 0 m_refused m_taped m_size m_at m_bad m_badKind m_opens m_faultAt m_tape m_newBed m_newLetter m_newReader m_bed m_letter m_reader m_newBeds m_newLetters m_newReaders m_beds m_letters m_readers m_newCode m_newOf m_code m_ofCode m_stack m_newCodes m_codes m_facts m_newStep m_step m_newSteps m_works m_refusedSteps m_begun m_done m_refusedNow m_now m_s m_past m_newBook m_book m_written m_mostBy m_stuffing m_stuffedMany m_lastBy m_leftBy m_splitBy m_seedNow m_image m_images) FOK_X10 0 rfl rfl 0 (by decide) kw_1277 rfl rfl rfl (Nat.le_of_ble_eq_true rfl) dX10_full_2 rfl ?_
  refine g_aload_n (pc := 5) C 0 rfl dX10_full_5 ?_
  refine g_iload_n (pc := 6) C 1 rfl dX10_full_6 ?_
  refine g_iconst (pc := 7) C dX10_full_7 ci_0 ?_
  refine g_iconst (pc := 8) C dX10_full_8 ci_1 ?_
  obtain ⟨v1, hc, h⟩ := b1_of h
  refine g_callS (pc := 9) C (w' := cs_X10 J.2.2.1 a0 0 m_refused m_taped m_size m_at m_bad m_badKind m_opens m_faultAt m_tape m_newBed m_newLetter m_newReader m_bed m_letter m_reader m_newBeds m_newLetters m_newReaders m_beds m_letters m_readers m_newCode m_newOf m_code m_ofCode m_stack m_newCodes m_codes m_facts m_newStep m_step m_newSteps m_works m_refusedSteps m_begun m_done m_refusedNow m_now m_s m_past m_newBook m_book m_written m_mostBy m_stuffing m_stuffedMany m_lastBy m_leftBy m_splitBy m_seedNow m_image m_images) (As := [.int n1, .int 0, .int 1]) (st := [.ref (a0 0)]) (t_X10_within hc) Sub.nil kw_1689 kw_1690 kw_95 hy_X10_within kw_1691 rfl (Nat.le_of_ble_eq_true rfl) (Nat.le_of_ble_eq_true rfl) (Nat.le_of_ble_eq_true rfl) (Nat.le_of_ble_eq_true rfl) (Nat.le_of_ble_eq_true rfl) dX10_full_9 ?_
  refine g_iconst (pc := 12) C dX10_full_12 ci_1 ?_
  refine g_iconst (pc := 13) C dX10_full_13 ci_1 ?_
  obtain ⟨v2, c3, c4, hc, h⟩ := b3_of h
  refine g_callV (pc := 14) C (w' := cs_X10 J.2.2.1 a0 c3 c4 m_taped m_size m_at m_bad m_badKind m_opens m_faultAt m_tape m_newBed m_newLetter m_newReader m_bed m_letter m_reader m_newBeds m_newLetters m_newReaders m_beds m_letters m_readers m_newCode m_newOf m_code m_ofCode m_stack m_newCodes m_codes m_facts m_newStep m_step m_newSteps m_works m_refusedSteps m_begun m_done m_refusedNow m_now m_s m_past m_newBook m_book m_written m_mostBy m_stuffing m_stuffedMany m_lastBy m_leftBy m_splitBy m_seedNow m_image m_images) (As := [.int v1, .int 1, .int 1]) (st := []) (ci := 10) (q0 := 0) rfl rfl (t_X10_may (a0 := a0) hc) Sub.same kw_1450 kw_1452 kw_20 kw_95 hy_X10_may kw_1453 rfl (Nat.le_of_ble_eq_true rfl) (Nat.le_of_ble_eq_true rfl) (Nat.le_of_ble_eq_true rfl) (Nat.le_of_ble_eq_true rfl) (Nat.le_of_ble_eq_true rfl) dX10_full_14 ?_
  refine g_if_ne (pc := 17) C (tgt := 22) dX10_full_17 rfl h (fun h => ?_) (fun h => ?_)
  · refine g_iconst (pc := 22) C dX10_full_22 ci_0 ?_
    refine g_istore_n (pc := 23) C [(2, .int 0), (0, .ref (a0 0)), (1, .int n1)] dX10_full_23 rfl (by decide) rfl ?_
    refine g_iconst (pc := 24) C dX10_full_24 ci_0 ?_
    refine g_istore_n (pc := 25) C [(3, .int 0), (2, .int 0), (0, .ref (a0 0)), (1, .int n1)] dX10_full_25 rfl (by decide) rfl ?_
    refine g_lv [2, 3, 1, 0] rfl ?_
    exact j_X10_full_26 C E    FU 0 0 c3 c4 h
  · refine g_iconst (pc := 20) C dX10_full_20 ci_0 ?_
    cases h
    exact g_iret C E dX10_full_21
noncomputable def f_X10_drains_24  (m_letter : Nat → Int32) (m_beds : Int32) (m_letters : Int32) (m_now : Nat → Int32) (n1 : Int32) : Nat → Int32 → Int32 → Int32 → (Nat → Int32) → (Nat → Int32) → Option (Int32 × Int32 × (Nat → Int32) × (Nat → Int32))
  | 0, _, _, _, _, _ => none
  | n + 1, x2, x3, m_thrown, m_refused, m_s => if m_letters ≤ x3 then some (x2, m_thrown, m_refused, m_s) else if ixb (10 * x3) 60 then if (m_letter (10 * x3).toNatClampNeg) = n1 then b1 (f_X10_leftOf m_letter m_s x3) (fun v1 => if v1 ≤ 0 then f_X10_drains_24 m_letter m_beds m_letters m_now n1 n (x2 ||| 0) (x3 + 1) m_thrown m_refused m_s else f_X10_drains_24 m_letter m_beds m_letters m_now n1 n (x2 ||| ((1 : Int32) <<< (x3 &&& 31))) (x3 + 1) m_thrown m_refused m_s) else f_X10_drains_24 m_letter m_beds m_letters m_now n1 n (x2 ||| 0) (x3 + 1) m_thrown m_refused m_s else none
noncomputable def f_X10_drains (m_thrown : Int32) (m_refused : Nat → Int32) (m_letter : Nat → Int32) (m_beds : Int32) (m_letters : Int32) (m_now : Nat → Int32) (m_s : Nat → Int32) (n1 : Int32) : Option (Int32 × Int32 × (Nat → Int32) × (Nat → Int32)) := b3 (f_X10_isBed 0 m_refused m_beds n1 1) (fun v2 c3 c4 => if v2 = 0 then some (0, c3, c4, m_s) else b1 (f_X10_take m_now m_s) (fun c5 => f_X10_drains_24 m_letter m_beds m_letters m_now n1 FU 0 0 c3 c4 c5))
def rm_X10_drains : Room := { frames := 2, cells := 0, slots := 0, locals := 45 }
set_option maxRecDepth 100000 in
set_option maxHeartbeats 4000000 in
theorem j_X10_drains_24 {J : Jt} {Z : Zt} {a0 : Nat → Nat} {m_taped : Int32} {m_size : Int32} {m_at : Int32} {m_bad : Int32} {m_badKind : Int32} {m_opens : Int32} {m_faultAt : Int32} {m_tape : Nat → Int32} {m_newBed : Nat → Int32} {m_newLetter : Nat → Int32} {m_newReader : Nat → Int32} {m_bed : Nat → Int32} {m_letter : Nat → Int32} {m_reader : Nat → Int32} {m_newBeds : Int32} {m_newLetters : Int32} {m_newReaders : Int32} {m_beds : Int32} {m_letters : Int32} {m_readers : Int32} {m_newCode : Nat → Int32} {m_newOf : Nat → Int32} {m_code : Nat → Int32} {m_ofCode : Nat → Int32} {m_stack : Nat → Int32} {m_newCodes : Int32} {m_codes : Int32} {m_facts : Nat → Int32} {m_newStep : Nat → Int32} {m_step : Nat → Int32} {m_newSteps : Int32} {m_works : Int32} {m_refusedSteps : Int32} {m_begun : Int32} {m_done : Int32} {m_refusedNow : Int32} {m_now : Nat → Int32} {m_past : Nat → Int32} {m_newBook : Nat → Int32} {m_book : Nat → Int32} {m_written : Int32} {m_mostBy : Nat → Int32} {m_stuffing : Nat → Int32} {m_stuffedMany : Int32} {m_lastBy : Nat → Int32} {m_leftBy : Nat → Int32} {m_splitBy : Nat → Int64} {m_seedNow : Int32} {m_image : Nat → Int32} {m_images : Int32} {n1 : Int32} {r : Int32} {o_m_thrown : Int32} {o_m_refused : Nat → Int32} {o_m_s : Nat → Int32} (C : Cx J Z cX10_drains 4 RX10 (some .int) rm_X10_drains) (E : Ez J Z 0 0 (some (.int r)) (cs_X10 J.2.2.1 a0 o_m_thrown o_m_refused m_taped m_size m_at m_bad m_badKind m_opens m_faultAt m_tape m_newBed m_newLetter m_newReader m_bed m_letter m_reader m_newBeds m_newLetters m_newReaders m_beds m_letters m_readers m_newCode m_newOf m_code m_ofCode m_stack m_newCodes m_codes m_facts m_newStep m_step m_newSteps m_works m_refusedSteps m_begun m_done m_refusedNow m_now o_m_s m_past m_newBook m_book m_written m_mostBy m_stuffing m_stuffedMany m_lastBy m_leftBy m_splitBy m_seedNow m_image m_images)) : ∀ (n : Nat) (x2 : Int32) (x3 : Int32) (m_thrown : Int32) (m_refused : Nat → Int32) (m_s : Nat → Int32), f_X10_drains_24 m_letter m_beds m_letters m_now n1 n x2 x3 m_thrown m_refused m_s = some (r, o_m_thrown, o_m_refused, o_m_s) → G J Z 0 0 (cs_X10 J.2.2.1 a0 m_thrown m_refused m_taped m_size m_at m_bad m_badKind m_opens m_faultAt m_tape m_newBed m_newLetter m_newReader m_bed m_letter m_reader m_newBeds m_newLetters m_newReaders m_beds m_letters m_readers m_newCode m_newOf m_code m_ofCode m_stack m_newCodes m_codes m_facts m_newStep m_step m_newSteps m_works m_refusedSteps m_begun m_done m_refusedNow m_now m_s m_past m_newBook m_book m_written m_mostBy m_stuffing m_stuffedMany m_lastBy m_leftBy m_splitBy m_seedNow m_image m_images) 4 [(0, .ref (a0 0)), (1, .int n1), (2, .int x2), (3, .int x3)] 24 [] := by
  intro n
  induction n with
  | zero =>
    intro x2 x3 m_thrown m_refused m_s h
    rw [f_X10_drains_24] at h
    cases h
  | succ n ih =>
    intro x2 x3 m_thrown m_refused m_s h
    rw [f_X10_drains_24] at h
    refine g_iload_n (pc := 24) C 3 rfl dX10_drains_24 ?_
    refine g_aload_n (pc := 25) C 0 rfl dX10_drains_25 ?_
    refine g_get (pc := 26) C FOK_X10 0 rfl rfl 20 (by decide) kw_1297 rfl dX10_drains_26 ?_
    refine g_icmp_ge (pc := 29) C (tgt := 69) dX10_drains_29 rfl h (fun h => ?_) (fun h => ?_)
    · refine g_iload_n (pc := 69) C 2 rfl dX10_drains_69 ?_
      cases h
      exact g_iret C E dX10_drains_70
    · refine g_iload_n (pc := 32) C 2 rfl dX10_drains_32 ?_
      refine g_aload_n (pc := 33) C 0 rfl dX10_drains_33 ?_
      refine g_get (pc := 34) C FOK_X10 0 rfl rfl 14 (by decide) kw_1291 rfl dX10_drains_34 ?_
      refine g_bipush (pc := 37) C dX10_drains_37 cb_10 ?_
      refine g_iload_n (pc := 39) C 3 rfl dX10_drains_39 ?_
      refine g_imul (pc := 40) C dX10_drains_40 ?_
      obtain ⟨hi, h⟩ := ix_of h
      refine g_iald (pc := 41) C 7 rfl hi dX10_drains_41 ?_
      refine g_iload_n (pc := 42) C 1 rfl dX10_drains_42 ?_
      refine g_icmp_ne (pc := 43) C (tgt := 60) dX10_drains_43 rfl h (fun h => ?_) (fun h => ?_)
      · refine g_iconst (pc := 60) C dX10_drains_60 ci_0 ?_
        refine g_ior (pc := 61) C dX10_drains_61 ?_
        refine g_istore_n (pc := 62) C [(2, .int (x2 ||| 0)), (0, .ref (a0 0)), (1, .int n1), (3, .int x3)] dX10_drains_62 rfl (by decide) rfl ?_
        refine g_iinc (pc := 63) C (j := 3) [(3, .int (x3 + 1)), (2, .int (x2 ||| 0)), (0, .ref (a0 0)), (1, .int n1)] dX10_drains_63 rfl (ii_1 _) (by decide) rfl ?_
        refine g_goto (pc := 66) C (tgt := 24) dX10_drains_66 rfl ?_
        refine g_lv [2, 3, 1, 0] rfl ?_
        exact ih (x2 ||| 0) (x3 + 1) m_thrown m_refused m_s h
      · refine g_aload_n (pc := 46) C 0 rfl dX10_drains_46 ?_
        refine g_iload_n (pc := 47) C 3 rfl dX10_drains_47 ?_
        obtain ⟨v1, hc, h⟩ := b1_of h
        refine g_callV (pc := 48) C (w' := cs_X10 J.2.2.1 a0 m_thrown m_refused m_taped m_size m_at m_bad m_badKind m_opens m_faultAt m_tape m_newBed m_newLetter m_newReader m_bed m_letter m_reader m_newBeds m_newLetters m_newReaders m_beds m_letters m_readers m_newCode m_newOf m_code m_ofCode m_stack m_newCodes m_codes m_facts m_newStep m_step m_newSteps m_works m_refusedSteps m_begun m_done m_refusedNow m_now m_s m_past m_newBook m_book m_written m_mostBy m_stuffing m_stuffedMany m_lastBy m_leftBy m_splitBy m_seedNow m_image m_images) (As := [.int x3]) (st := [.int x2]) (ci := 10) (q0 := 0) rfl rfl (t_X10_leftOf (a0 := a0) hc) Sub.same kw_1619 kw_1621 kw_52 kw_95 hy_X10_leftOf kw_1622 rfl (Nat.le_of_ble_eq_true rfl) (Nat.le_of_ble_eq_true rfl) (Nat.le_of_ble_eq_true rfl) (Nat.le_of_ble_eq_true rfl) (Nat.le_of_ble_eq_true rfl) dX10_drains_48 ?_
        refine g_if_le (pc := 51) C (tgt := 60) dX10_drains_51 rfl h (fun h => ?_) (fun h => ?_)
        · refine g_iconst (pc := 60) C dX10_drains_60 ci_0 ?_
          refine g_ior (pc := 61) C dX10_drains_61 ?_
          refine g_istore_n (pc := 62) C [(2, .int (x2 ||| 0)), (0, .ref (a0 0)), (1, .int n1), (3, .int x3)] dX10_drains_62 rfl (by decide) rfl ?_
          refine g_iinc (pc := 63) C (j := 3) [(3, .int (x3 + 1)), (2, .int (x2 ||| 0)), (0, .ref (a0 0)), (1, .int n1)] dX10_drains_63 rfl (ii_1 _) (by decide) rfl ?_
          refine g_goto (pc := 66) C (tgt := 24) dX10_drains_66 rfl ?_
          refine g_lv [2, 3, 1, 0] rfl ?_
          exact ih (x2 ||| 0) (x3 + 1) m_thrown m_refused m_s h
        · refine g_iconst (pc := 54) C dX10_drains_54 ci_1 ?_
          refine g_iload_n (pc := 55) C 3 rfl dX10_drains_55 ?_
          refine g_ishl (pc := 56) C dX10_drains_56 ?_
          refine g_goto (pc := 57) C (tgt := 61) dX10_drains_57 rfl ?_
          refine g_ior (pc := 61) C dX10_drains_61 ?_
          refine g_istore_n (pc := 62) C [(2, .int (x2 ||| ((1 : Int32) <<< (x3 &&& 31)))), (0, .ref (a0 0)), (1, .int n1), (3, .int x3)] dX10_drains_62 rfl (by decide) rfl ?_
          refine g_iinc (pc := 63) C (j := 3) [(3, .int (x3 + 1)), (2, .int (x2 ||| ((1 : Int32) <<< (x3 &&& 31)))), (0, .ref (a0 0)), (1, .int n1)] dX10_drains_63 rfl (ii_1 _) (by decide) rfl ?_
          refine g_goto (pc := 66) C (tgt := 24) dX10_drains_66 rfl ?_
          refine g_lv [2, 3, 1, 0] rfl ?_
          exact ih (x2 ||| ((1 : Int32) <<< (x3 &&& 31))) (x3 + 1) m_thrown m_refused m_s h
set_option maxRecDepth 100000 in
set_option maxHeartbeats 4000000 in
theorem t_X10_drains {J : Jt} {a0 : Nat → Nat} {m_thrown : Int32} {m_refused : Nat → Int32} {m_taped : Int32} {m_size : Int32} {m_at : Int32} {m_bad : Int32} {m_badKind : Int32} {m_opens : Int32} {m_faultAt : Int32} {m_tape : Nat → Int32} {m_newBed : Nat → Int32} {m_newLetter : Nat → Int32} {m_newReader : Nat → Int32} {m_bed : Nat → Int32} {m_letter : Nat → Int32} {m_reader : Nat → Int32} {m_newBeds : Int32} {m_newLetters : Int32} {m_newReaders : Int32} {m_beds : Int32} {m_letters : Int32} {m_readers : Int32} {m_newCode : Nat → Int32} {m_newOf : Nat → Int32} {m_code : Nat → Int32} {m_ofCode : Nat → Int32} {m_stack : Nat → Int32} {m_newCodes : Int32} {m_codes : Int32} {m_facts : Nat → Int32} {m_newStep : Nat → Int32} {m_step : Nat → Int32} {m_newSteps : Int32} {m_works : Int32} {m_refusedSteps : Int32} {m_begun : Int32} {m_done : Int32} {m_refusedNow : Int32} {m_now : Nat → Int32} {m_s : Nat → Int32} {m_past : Nat → Int32} {m_newBook : Nat → Int32} {m_book : Nat → Int32} {m_written : Int32} {m_mostBy : Nat → Int32} {m_stuffing : Nat → Int32} {m_stuffedMany : Int32} {m_lastBy : Nat → Int32} {m_leftBy : Nat → Int32} {m_splitBy : Nat → Int64} {m_seedNow : Int32} {m_image : Nat → Int32} {m_images : Int32} {n1 : Int32} {r : Int32} {o_m_thrown : Int32} {o_m_refused : Nat → Int32} {o_m_s : Nat → Int32} (h : f_X10_drains m_thrown m_refused m_letter m_beds m_letters m_now m_s n1 = some (r, o_m_thrown, o_m_refused, o_m_s)) : Mt J yX10_drains cX10_drains 4 (some .int) rm_X10_drains [.ref (a0 0), .int n1] (cs_X10 J.2.2.1 a0 m_thrown m_refused m_taped m_size m_at m_bad m_badKind m_opens m_faultAt m_tape m_newBed m_newLetter m_newReader m_bed m_letter m_reader m_newBeds m_newLetters m_newReaders m_beds m_letters m_readers m_newCode m_newOf m_code m_ofCode m_stack m_newCodes m_codes m_facts m_newStep m_step m_newSteps m_works m_refusedSteps m_begun m_done m_refusedNow m_now m_s m_past m_newBook m_book m_written m_mostBy m_stuffing m_stuffedMany m_lastBy m_leftBy m_splitBy m_seedNow m_image m_images) (some (.int r)) (cs_X10 J.2.2.1 a0 o_m_thrown o_m_refused m_taped m_size m_at m_bad m_badKind m_opens m_faultAt m_tape m_newBed m_newLetter m_newReader m_bed m_letter m_reader m_newBeds m_newLetters m_newReaders m_beds m_letters m_readers m_newCode m_newOf m_code m_ofCode m_stack m_newCodes m_codes m_facts m_newStep m_step m_newSteps m_works m_refusedSteps m_begun m_done m_refusedNow m_now o_m_s m_past m_newBook m_book m_written m_mostBy m_stuffing m_stuffedMany m_lastBy m_leftBy m_splitBy m_seedNow m_image m_images) := by
  refine Mt_of (own := RX10) (by decide) rfl (Nat.le_of_ble_eq_true rfl) rfl (fun Z C E => ?_)
  unfold f_X10_drains at h
  show G J Z 0 0 (cs_X10 J.2.2.1 a0 m_thrown m_refused m_taped m_size m_at m_bad m_badKind m_opens m_faultAt m_tape m_newBed m_newLetter m_newReader m_bed m_letter m_reader m_newBeds m_newLetters m_newReaders m_beds m_letters m_readers m_newCode m_newOf m_code m_ofCode m_stack m_newCodes m_codes m_facts m_newStep m_step m_newSteps m_works m_refusedSteps m_begun m_done m_refusedNow m_now m_s m_past m_newBook m_book m_written m_mostBy m_stuffing m_stuffedMany m_lastBy m_leftBy m_splitBy m_seedNow m_image m_images) 4 [(0, .ref (a0 0)), (1, .int n1)] 0 []
  refine g_aload_n (pc := 0) C 0 rfl dX10_drains_0 ?_
  refine g_iconst (pc := 1) C dX10_drains_1 ci_0 ?_
  refine g_put (pc := 2) C (w' := cs_X10 J.2.2.1 a0 0 m_refused m_taped m_size m_at m_bad m_badKind m_opens m_faultAt m_tape m_newBed m_newLetter m_newReader m_bed m_letter m_reader m_newBeds m_newLetters m_newReaders m_beds m_letters m_readers m_newCode m_newOf m_code m_ofCode m_stack m_newCodes m_codes m_facts m_newStep m_step m_newSteps m_works m_refusedSteps m_begun m_done m_refusedNow m_now m_s m_past m_newBook m_book m_written m_mostBy m_stuffing m_stuffedMany m_lastBy m_leftBy m_splitBy m_seedNow m_image m_images) FOK_X10 0 rfl rfl 0 (by decide) kw_1277 rfl rfl rfl (Nat.le_of_ble_eq_true rfl) dX10_drains_2 rfl ?_
  refine g_aload_n (pc := 5) C 0 rfl dX10_drains_5 ?_
  refine g_iload_n (pc := 6) C 1 rfl dX10_drains_6 ?_
  refine g_iconst (pc := 7) C dX10_drains_7 ci_1 ?_
  obtain ⟨v2, c3, c4, hc, h⟩ := b3_of h
  refine g_callV (pc := 8) C (w' := cs_X10 J.2.2.1 a0 c3 c4 m_taped m_size m_at m_bad m_badKind m_opens m_faultAt m_tape m_newBed m_newLetter m_newReader m_bed m_letter m_reader m_newBeds m_newLetters m_newReaders m_beds m_letters m_readers m_newCode m_newOf m_code m_ofCode m_stack m_newCodes m_codes m_facts m_newStep m_step m_newSteps m_works m_refusedSteps m_begun m_done m_refusedNow m_now m_s m_past m_newBook m_book m_written m_mostBy m_stuffing m_stuffedMany m_lastBy m_leftBy m_splitBy m_seedNow m_image m_images) (As := [.int n1, .int 1]) (st := []) (ci := 10) (q0 := 0) rfl rfl (t_X10_isBed (a0 := a0) hc) Sub.same kw_1716 kw_1718 kw_68 kw_95 hy_X10_isBed kw_1719 rfl (Nat.le_of_ble_eq_true rfl) (Nat.le_of_ble_eq_true rfl) (Nat.le_of_ble_eq_true rfl) (Nat.le_of_ble_eq_true rfl) (Nat.le_of_ble_eq_true rfl) dX10_drains_8 ?_
  refine g_if_ne (pc := 11) C (tgt := 16) dX10_drains_11 rfl h (fun h => ?_) (fun h => ?_)
  · refine g_aload_n (pc := 16) C 0 rfl dX10_drains_16 ?_
    obtain ⟨c5, hc, h⟩ := b1_of h
    refine g_callV (pc := 17) C (w' := cs_X10 J.2.2.1 a0 c3 c4 m_taped m_size m_at m_bad m_badKind m_opens m_faultAt m_tape m_newBed m_newLetter m_newReader m_bed m_letter m_reader m_newBeds m_newLetters m_newReaders m_beds m_letters m_readers m_newCode m_newOf m_code m_ofCode m_stack m_newCodes m_codes m_facts m_newStep m_step m_newSteps m_works m_refusedSteps m_begun m_done m_refusedNow m_now c5 m_past m_newBook m_book m_written m_mostBy m_stuffing m_stuffedMany m_lastBy m_leftBy m_splitBy m_seedNow m_image m_images) (As := []) (st := []) (ci := 10) (q0 := 0) rfl rfl (t_X10_take (a0 := a0) hc) Sub.same kw_1595 kw_1597 kw_46 kw_95 hy_X10_take kw_1598 rfl (Nat.le_of_ble_eq_true rfl) (Nat.le_of_ble_eq_true rfl) (Nat.le_of_ble_eq_true rfl) (Nat.le_of_ble_eq_true rfl) (Nat.le_of_ble_eq_true rfl) dX10_drains_17 ?_
    refine g_iconst (pc := 20) C dX10_drains_20 ci_0 ?_
    refine g_istore_n (pc := 21) C [(2, .int 0), (0, .ref (a0 0)), (1, .int n1)] dX10_drains_21 rfl (by decide) rfl ?_
    refine g_iconst (pc := 22) C dX10_drains_22 ci_0 ?_
    refine g_istore_n (pc := 23) C [(3, .int 0), (2, .int 0), (0, .ref (a0 0)), (1, .int n1)] dX10_drains_23 rfl (by decide) rfl ?_
    refine g_lv [2, 3, 1, 0] rfl ?_
    exact j_X10_drains_24 C E    FU 0 0 c3 c4 c5 h
  · refine g_iconst (pc := 14) C dX10_drains_14 ci_0 ?_
    cases h
    exact g_iret C E dX10_drains_15
noncomputable def f_X10_unread (m_thrown : Int32) (m_refused : Nat → Int32) (m_readers : Int32) (m_now : Nat → Int32) (m_s : Nat → Int32) (n1 : Int32) : Option (Int32 × Int32 × (Nat → Int32) × (Nat → Int32)) := b3 (f_X10_isReader 0 m_refused m_readers n1 1) (fun v1 c2 c3 => if v1 = 0 then some (0, c2, c3, m_s) else b1 (f_X10_take m_now m_s) (fun c4 => if ixb (90 + n1) 165 then b1 (f_X10_wordsIn c4 (c4 (90 + n1).toNatClampNeg)) (fun v5 => if ixb (95 + n1) 165 then some (v5 &&& ((c4 (95 + n1).toNatClampNeg) ^^^ (-1)), c2, c3, c4) else none) else none))
def rm_X10_unread : Room := { frames := 2, cells := 0, slots := 0, locals := 45 }
set_option maxRecDepth 100000 in
set_option maxHeartbeats 4000000 in
theorem t_X10_unread {J : Jt} {a0 : Nat → Nat} {m_thrown : Int32} {m_refused : Nat → Int32} {m_taped : Int32} {m_size : Int32} {m_at : Int32} {m_bad : Int32} {m_badKind : Int32} {m_opens : Int32} {m_faultAt : Int32} {m_tape : Nat → Int32} {m_newBed : Nat → Int32} {m_newLetter : Nat → Int32} {m_newReader : Nat → Int32} {m_bed : Nat → Int32} {m_letter : Nat → Int32} {m_reader : Nat → Int32} {m_newBeds : Int32} {m_newLetters : Int32} {m_newReaders : Int32} {m_beds : Int32} {m_letters : Int32} {m_readers : Int32} {m_newCode : Nat → Int32} {m_newOf : Nat → Int32} {m_code : Nat → Int32} {m_ofCode : Nat → Int32} {m_stack : Nat → Int32} {m_newCodes : Int32} {m_codes : Int32} {m_facts : Nat → Int32} {m_newStep : Nat → Int32} {m_step : Nat → Int32} {m_newSteps : Int32} {m_works : Int32} {m_refusedSteps : Int32} {m_begun : Int32} {m_done : Int32} {m_refusedNow : Int32} {m_now : Nat → Int32} {m_s : Nat → Int32} {m_past : Nat → Int32} {m_newBook : Nat → Int32} {m_book : Nat → Int32} {m_written : Int32} {m_mostBy : Nat → Int32} {m_stuffing : Nat → Int32} {m_stuffedMany : Int32} {m_lastBy : Nat → Int32} {m_leftBy : Nat → Int32} {m_splitBy : Nat → Int64} {m_seedNow : Int32} {m_image : Nat → Int32} {m_images : Int32} {n1 : Int32} {r : Int32} {o_m_thrown : Int32} {o_m_refused : Nat → Int32} {o_m_s : Nat → Int32} (h : f_X10_unread m_thrown m_refused m_readers m_now m_s n1 = some (r, o_m_thrown, o_m_refused, o_m_s)) : Mt J yX10_unread cX10_unread 2 (some .int) rm_X10_unread [.ref (a0 0), .int n1] (cs_X10 J.2.2.1 a0 m_thrown m_refused m_taped m_size m_at m_bad m_badKind m_opens m_faultAt m_tape m_newBed m_newLetter m_newReader m_bed m_letter m_reader m_newBeds m_newLetters m_newReaders m_beds m_letters m_readers m_newCode m_newOf m_code m_ofCode m_stack m_newCodes m_codes m_facts m_newStep m_step m_newSteps m_works m_refusedSteps m_begun m_done m_refusedNow m_now m_s m_past m_newBook m_book m_written m_mostBy m_stuffing m_stuffedMany m_lastBy m_leftBy m_splitBy m_seedNow m_image m_images) (some (.int r)) (cs_X10 J.2.2.1 a0 o_m_thrown o_m_refused m_taped m_size m_at m_bad m_badKind m_opens m_faultAt m_tape m_newBed m_newLetter m_newReader m_bed m_letter m_reader m_newBeds m_newLetters m_newReaders m_beds m_letters m_readers m_newCode m_newOf m_code m_ofCode m_stack m_newCodes m_codes m_facts m_newStep m_step m_newSteps m_works m_refusedSteps m_begun m_done m_refusedNow m_now o_m_s m_past m_newBook m_book m_written m_mostBy m_stuffing m_stuffedMany m_lastBy m_leftBy m_splitBy m_seedNow m_image m_images) := by
  refine Mt_of (own := RX10) (by decide) rfl (Nat.le_of_ble_eq_true rfl) rfl (fun Z C E => ?_)
  unfold f_X10_unread at h
  show G J Z 0 0 (cs_X10 J.2.2.1 a0 m_thrown m_refused m_taped m_size m_at m_bad m_badKind m_opens m_faultAt m_tape m_newBed m_newLetter m_newReader m_bed m_letter m_reader m_newBeds m_newLetters m_newReaders m_beds m_letters m_readers m_newCode m_newOf m_code m_ofCode m_stack m_newCodes m_codes m_facts m_newStep m_step m_newSteps m_works m_refusedSteps m_begun m_done m_refusedNow m_now m_s m_past m_newBook m_book m_written m_mostBy m_stuffing m_stuffedMany m_lastBy m_leftBy m_splitBy m_seedNow m_image m_images) 2 [(0, .ref (a0 0)), (1, .int n1)] 0 []
  refine g_aload_n (pc := 0) C 0 rfl dX10_unread_0 ?_
  refine g_iconst (pc := 1) C dX10_unread_1 ci_0 ?_
  refine g_put (pc := 2) C (w' := cs_X10 J.2.2.1 a0 0 m_refused m_taped m_size m_at m_bad m_badKind m_opens m_faultAt m_tape m_newBed m_newLetter m_newReader m_bed m_letter m_reader m_newBeds m_newLetters m_newReaders m_beds m_letters m_readers m_newCode m_newOf m_code m_ofCode m_stack m_newCodes m_codes m_facts m_newStep m_step m_newSteps m_works m_refusedSteps m_begun m_done m_refusedNow m_now m_s m_past m_newBook m_book m_written m_mostBy m_stuffing m_stuffedMany m_lastBy m_leftBy m_splitBy m_seedNow m_image m_images) FOK_X10 0 rfl rfl 0 (by decide) kw_1277 rfl rfl rfl (Nat.le_of_ble_eq_true rfl) dX10_unread_2 rfl ?_
  refine g_aload_n (pc := 5) C 0 rfl dX10_unread_5 ?_
  refine g_iload_n (pc := 6) C 1 rfl dX10_unread_6 ?_
  refine g_iconst (pc := 7) C dX10_unread_7 ci_1 ?_
  obtain ⟨v1, c2, c3, hc, h⟩ := b3_of h
  refine g_callV (pc := 8) C (w' := cs_X10 J.2.2.1 a0 c2 c3 m_taped m_size m_at m_bad m_badKind m_opens m_faultAt m_tape m_newBed m_newLetter m_newReader m_bed m_letter m_reader m_newBeds m_newLetters m_newReaders m_beds m_letters m_readers m_newCode m_newOf m_code m_ofCode m_stack m_newCodes m_codes m_facts m_newStep m_step m_newSteps m_works m_refusedSteps m_begun m_done m_refusedNow m_now m_s m_past m_newBook m_book m_written m_mostBy m_stuffing m_stuffedMany m_lastBy m_leftBy m_splitBy m_seedNow m_image m_images) (As := [.int n1, .int 1]) (st := []) (ci := 10) (q0 := 0) rfl rfl (t_X10_isReader (a0 := a0) hc) Sub.same kw_1732 kw_1734 kw_70 kw_95 hy_X10_isReader kw_1735 rfl (Nat.le_of_ble_eq_true rfl) (Nat.le_of_ble_eq_true rfl) (Nat.le_of_ble_eq_true rfl) (Nat.le_of_ble_eq_true rfl) (Nat.le_of_ble_eq_true rfl) dX10_unread_8 ?_
  refine g_if_ne (pc := 11) C (tgt := 16) dX10_unread_11 rfl h (fun h => ?_) (fun h => ?_)
  · refine g_aload_n (pc := 16) C 0 rfl dX10_unread_16 ?_
    obtain ⟨c4, hc, h⟩ := b1_of h
    refine g_callV (pc := 17) C (w' := cs_X10 J.2.2.1 a0 c2 c3 m_taped m_size m_at m_bad m_badKind m_opens m_faultAt m_tape m_newBed m_newLetter m_newReader m_bed m_letter m_reader m_newBeds m_newLetters m_newReaders m_beds m_letters m_readers m_newCode m_newOf m_code m_ofCode m_stack m_newCodes m_codes m_facts m_newStep m_step m_newSteps m_works m_refusedSteps m_begun m_done m_refusedNow m_now c4 m_past m_newBook m_book m_written m_mostBy m_stuffing m_stuffedMany m_lastBy m_leftBy m_splitBy m_seedNow m_image m_images) (As := []) (st := []) (ci := 10) (q0 := 0) rfl rfl (t_X10_take (a0 := a0) hc) Sub.same kw_1595 kw_1597 kw_46 kw_95 hy_X10_take kw_1598 rfl (Nat.le_of_ble_eq_true rfl) (Nat.le_of_ble_eq_true rfl) (Nat.le_of_ble_eq_true rfl) (Nat.le_of_ble_eq_true rfl) (Nat.le_of_ble_eq_true rfl) dX10_unread_17 ?_
    refine g_aload_n (pc := 20) C 0 rfl dX10_unread_20 ?_
    refine g_aload_n (pc := 21) C 0 rfl dX10_unread_21 ?_
    refine g_get (pc := 22) C FOK_X10 0 rfl rfl 39 (by decide) kw_1316 rfl dX10_unread_22 ?_
    refine g_bipush (pc := 25) C dX10_unread_25 cb_90 ?_
    refine g_iload_n (pc := 27) C 1 rfl dX10_unread_27 ?_
    refine g_iadd (pc := 28) C dX10_unread_28 ?_
    obtain ⟨hi, h⟩ := ix_of h
    refine g_iald (pc := 29) C 18 rfl hi dX10_unread_29 ?_
    obtain ⟨v5, hc, h⟩ := b1_of h
    refine g_callV (pc := 30) C (w' := cs_X10 J.2.2.1 a0 c2 c3 m_taped m_size m_at m_bad m_badKind m_opens m_faultAt m_tape m_newBed m_newLetter m_newReader m_bed m_letter m_reader m_newBeds m_newLetters m_newReaders m_beds m_letters m_readers m_newCode m_newOf m_code m_ofCode m_stack m_newCodes m_codes m_facts m_newStep m_step m_newSteps m_works m_refusedSteps m_begun m_done m_refusedNow m_now c4 m_past m_newBook m_book m_written m_mostBy m_stuffing m_stuffedMany m_lastBy m_leftBy m_splitBy m_seedNow m_image m_images) (As := [.int (c4 (90 + n1).toNatClampNeg)]) (st := []) (ci := 10) (q0 := 0) rfl rfl (t_X10_wordsIn (a0 := a0) hc) Sub.same kw_1631 kw_1633 kw_55 kw_95 hy_X10_wordsIn kw_1634 rfl (Nat.le_of_ble_eq_true rfl) (Nat.le_of_ble_eq_true rfl) (Nat.le_of_ble_eq_true rfl) (Nat.le_of_ble_eq_true rfl) (Nat.le_of_ble_eq_true rfl) dX10_unread_30 ?_
    refine g_aload_n (pc := 33) C 0 rfl dX10_unread_33 ?_
    refine g_get (pc := 34) C FOK_X10 0 rfl rfl 39 (by decide) kw_1316 rfl dX10_unread_34 ?_
    refine g_bipush (pc := 37) C dX10_unread_37 cb_95 ?_
    refine g_iload_n (pc := 39) C 1 rfl dX10_unread_39 ?_
    refine g_iadd (pc := 40) C dX10_unread_40 ?_
    obtain ⟨hi, h⟩ := ix_of h
    refine g_iald (pc := 41) C 18 rfl hi dX10_unread_41 ?_
    refine g_iconst (pc := 42) C dX10_unread_42 ci_m1 ?_
    refine g_ixor (pc := 43) C dX10_unread_43 ?_
    refine g_iand (pc := 44) C dX10_unread_44 ?_
    cases h
    exact g_iret C E dX10_unread_45
  · refine g_iconst (pc := 14) C dX10_unread_14 ci_0 ?_
    cases h
    exact g_iret C E dX10_unread_15
noncomputable def f_X10_coming_40  (m_letter : Nat → Int32) (m_beds : Int32) (m_letters : Int32) (m_now : Nat → Int32) (n1 : Int32) (n2 : Int32) : Nat → Int32 → Int32 → Int32 → (Nat → Int32) → (Nat → Int32) → Option (Int32 × Int32 × (Nat → Int32) × (Nat → Int32))
  | 0, _, _, _, _, _ => none
  | n + 1, x3, x4, m_thrown, m_refused, m_s => if m_letters ≤ x4 then some (x3, m_thrown, m_refused, m_s) else if ixb (10 * x4) 60 then if (m_letter (10 * x4).toNatClampNeg) = n1 then if ixb (6 + x4) 165 then if (m_s (6 + x4).toNatClampNeg) = (1 - n2) then b1 (f_X10_leftOf m_letter m_s x4) (fun v1 => f_X10_coming_40 m_letter m_beds m_letters m_now n1 n2 n (x3 + v1) (x4 + 1) m_thrown m_refused m_s) else f_X10_coming_40 m_letter m_beds m_letters m_now n1 n2 n (x3 + 0) (x4 + 1) m_thrown m_refused m_s else none else f_X10_coming_40 m_letter m_beds m_letters m_now n1 n2 n (x3 + 0) (x4 + 1) m_thrown m_refused m_s else none
noncomputable def f_X10_coming (m_thrown : Int32) (m_refused : Nat → Int32) (m_letter : Nat → Int32) (m_beds : Int32) (m_letters : Int32) (m_now : Nat → Int32) (m_s : Nat → Int32) (n1 : Int32) (n2 : Int32) : Option (Int32 × Int32 × (Nat → Int32) × (Nat → Int32)) := b3 (f_X10_isBed 0 m_refused m_beds n1 1) (fun v2 c3 c4 => if v2 = 0 then some (0, c3, c4, m_s) else b1 (f_X10_within n2 0 1) (fun v5 => b3 (f_X10_may c3 c4 v5 2 1) (fun v6 c7 c8 => if v6 = 0 then some (0, c7, c8, m_s) else b1 (f_X10_take m_now m_s) (fun c9 => f_X10_coming_40 m_letter m_beds m_letters m_now n1 n2 FU 0 0 c7 c8 c9))))
def rm_X10_coming : Room := { frames := 2, cells := 0, slots := 0, locals := 45 }
set_option maxRecDepth 100000 in
set_option maxHeartbeats 4000000 in
theorem j_X10_coming_40 {J : Jt} {Z : Zt} {a0 : Nat → Nat} {m_taped : Int32} {m_size : Int32} {m_at : Int32} {m_bad : Int32} {m_badKind : Int32} {m_opens : Int32} {m_faultAt : Int32} {m_tape : Nat → Int32} {m_newBed : Nat → Int32} {m_newLetter : Nat → Int32} {m_newReader : Nat → Int32} {m_bed : Nat → Int32} {m_letter : Nat → Int32} {m_reader : Nat → Int32} {m_newBeds : Int32} {m_newLetters : Int32} {m_newReaders : Int32} {m_beds : Int32} {m_letters : Int32} {m_readers : Int32} {m_newCode : Nat → Int32} {m_newOf : Nat → Int32} {m_code : Nat → Int32} {m_ofCode : Nat → Int32} {m_stack : Nat → Int32} {m_newCodes : Int32} {m_codes : Int32} {m_facts : Nat → Int32} {m_newStep : Nat → Int32} {m_step : Nat → Int32} {m_newSteps : Int32} {m_works : Int32} {m_refusedSteps : Int32} {m_begun : Int32} {m_done : Int32} {m_refusedNow : Int32} {m_now : Nat → Int32} {m_past : Nat → Int32} {m_newBook : Nat → Int32} {m_book : Nat → Int32} {m_written : Int32} {m_mostBy : Nat → Int32} {m_stuffing : Nat → Int32} {m_stuffedMany : Int32} {m_lastBy : Nat → Int32} {m_leftBy : Nat → Int32} {m_splitBy : Nat → Int64} {m_seedNow : Int32} {m_image : Nat → Int32} {m_images : Int32} {n1 : Int32} {n2 : Int32} {r : Int32} {o_m_thrown : Int32} {o_m_refused : Nat → Int32} {o_m_s : Nat → Int32} (C : Cx J Z cX10_coming 5 RX10 (some .int) rm_X10_coming) (E : Ez J Z 0 0 (some (.int r)) (cs_X10 J.2.2.1 a0 o_m_thrown o_m_refused m_taped m_size m_at m_bad m_badKind m_opens m_faultAt m_tape m_newBed m_newLetter m_newReader m_bed m_letter m_reader m_newBeds m_newLetters m_newReaders m_beds m_letters m_readers m_newCode m_newOf m_code m_ofCode m_stack m_newCodes m_codes m_facts m_newStep m_step m_newSteps m_works m_refusedSteps m_begun m_done m_refusedNow m_now o_m_s m_past m_newBook m_book m_written m_mostBy m_stuffing m_stuffedMany m_lastBy m_leftBy m_splitBy m_seedNow m_image m_images)) : ∀ (n : Nat) (x3 : Int32) (x4 : Int32) (m_thrown : Int32) (m_refused : Nat → Int32) (m_s : Nat → Int32), f_X10_coming_40 m_letter m_beds m_letters m_now n1 n2 n x3 x4 m_thrown m_refused m_s = some (r, o_m_thrown, o_m_refused, o_m_s) → G J Z 0 0 (cs_X10 J.2.2.1 a0 m_thrown m_refused m_taped m_size m_at m_bad m_badKind m_opens m_faultAt m_tape m_newBed m_newLetter m_newReader m_bed m_letter m_reader m_newBeds m_newLetters m_newReaders m_beds m_letters m_readers m_newCode m_newOf m_code m_ofCode m_stack m_newCodes m_codes m_facts m_newStep m_step m_newSteps m_works m_refusedSteps m_begun m_done m_refusedNow m_now m_s m_past m_newBook m_book m_written m_mostBy m_stuffing m_stuffedMany m_lastBy m_leftBy m_splitBy m_seedNow m_image m_images) 5 [(0, .ref (a0 0)), (1, .int n1), (2, .int n2), (3, .int x3), (4, .int x4)] 40 [] := by
  intro n
  induction n with
  | zero =>
    intro x3 x4 m_thrown m_refused m_s h
    rw [f_X10_coming_40] at h
    cases h
  | succ n ih =>
    intro x3 x4 m_thrown m_refused m_s h
    rw [f_X10_coming_40] at h
    refine g_iload (pc := 40) C 4 rfl dX10_coming_40 ?_
    refine g_aload_n (pc := 42) C 0 rfl dX10_coming_42 ?_
    refine g_get (pc := 43) C FOK_X10 0 rfl rfl 20 (by decide) kw_1297 rfl dX10_coming_43 ?_
    refine g_icmp_ge (pc := 46) C (tgt := 98) dX10_coming_46 rfl h (fun h => ?_) (fun h => ?_)
    · refine g_iload_n (pc := 98) C 3 rfl dX10_coming_98 ?_
      cases h
      exact g_iret C E dX10_coming_99
    · refine g_iload_n (pc := 49) C 3 rfl dX10_coming_49 ?_
      refine g_aload_n (pc := 50) C 0 rfl dX10_coming_50 ?_
      refine g_get (pc := 51) C FOK_X10 0 rfl rfl 14 (by decide) kw_1291 rfl dX10_coming_51 ?_
      refine g_bipush (pc := 54) C dX10_coming_54 cb_10 ?_
      refine g_iload (pc := 56) C 4 rfl dX10_coming_56 ?_
      refine g_imul (pc := 58) C dX10_coming_58 ?_
      obtain ⟨hi, h⟩ := ix_of h
      refine g_iald (pc := 59) C 7 rfl hi dX10_coming_59 ?_
      refine g_iload_n (pc := 60) C 1 rfl dX10_coming_60 ?_
      refine g_icmp_ne (pc := 61) C (tgt := 89) dX10_coming_61 rfl h (fun h => ?_) (fun h => ?_)
      · refine g_iconst (pc := 89) C dX10_coming_89 ci_0 ?_
        refine g_iadd (pc := 90) C dX10_coming_90 ?_
        refine g_istore_n (pc := 91) C [(3, .int (x3 + 0)), (0, .ref (a0 0)), (1, .int n1), (2, .int n2), (4, .int x4)] dX10_coming_91 rfl (by decide) rfl ?_
        refine g_iinc (pc := 92) C (j := 4) [(4, .int (x4 + 1)), (3, .int (x3 + 0)), (0, .ref (a0 0)), (1, .int n1), (2, .int n2)] dX10_coming_92 rfl (ii_1 _) (by decide) rfl ?_
        refine g_goto (pc := 95) C (tgt := 40) dX10_coming_95 rfl ?_
        refine g_lv [2, 3, 4, 1, 0] rfl ?_
        exact ih (x3 + 0) (x4 + 1) m_thrown m_refused m_s h
      · refine g_aload_n (pc := 64) C 0 rfl dX10_coming_64 ?_
        refine g_get (pc := 65) C FOK_X10 0 rfl rfl 39 (by decide) kw_1316 rfl dX10_coming_65 ?_
        refine g_bipush (pc := 68) C dX10_coming_68 cb_6 ?_
        refine g_iload (pc := 70) C 4 rfl dX10_coming_70 ?_
        refine g_iadd (pc := 72) C dX10_coming_72 ?_
        obtain ⟨hi, h⟩ := ix_of h
        refine g_iald (pc := 73) C 18 rfl hi dX10_coming_73 ?_
        refine g_iconst (pc := 74) C dX10_coming_74 ci_1 ?_
        refine g_iload_n (pc := 75) C 2 rfl dX10_coming_75 ?_
        refine g_isub (pc := 76) C dX10_coming_76 ?_
        refine g_icmp_ne (pc := 77) C (tgt := 89) dX10_coming_77 rfl h (fun h => ?_) (fun h => ?_)
        · refine g_iconst (pc := 89) C dX10_coming_89 ci_0 ?_
          refine g_iadd (pc := 90) C dX10_coming_90 ?_
          refine g_istore_n (pc := 91) C [(3, .int (x3 + 0)), (0, .ref (a0 0)), (1, .int n1), (2, .int n2), (4, .int x4)] dX10_coming_91 rfl (by decide) rfl ?_
          refine g_iinc (pc := 92) C (j := 4) [(4, .int (x4 + 1)), (3, .int (x3 + 0)), (0, .ref (a0 0)), (1, .int n1), (2, .int n2)] dX10_coming_92 rfl (ii_1 _) (by decide) rfl ?_
          refine g_goto (pc := 95) C (tgt := 40) dX10_coming_95 rfl ?_
          refine g_lv [2, 3, 4, 1, 0] rfl ?_
          exact ih (x3 + 0) (x4 + 1) m_thrown m_refused m_s h
        · refine g_aload_n (pc := 80) C 0 rfl dX10_coming_80 ?_
          refine g_iload (pc := 81) C 4 rfl dX10_coming_81 ?_
          obtain ⟨v1, hc, h⟩ := b1_of h
          refine g_callV (pc := 83) C (w' := cs_X10 J.2.2.1 a0 m_thrown m_refused m_taped m_size m_at m_bad m_badKind m_opens m_faultAt m_tape m_newBed m_newLetter m_newReader m_bed m_letter m_reader m_newBeds m_newLetters m_newReaders m_beds m_letters m_readers m_newCode m_newOf m_code m_ofCode m_stack m_newCodes m_codes m_facts m_newStep m_step m_newSteps m_works m_refusedSteps m_begun m_done m_refusedNow m_now m_s m_past m_newBook m_book m_written m_mostBy m_stuffing m_stuffedMany m_lastBy m_leftBy m_splitBy m_seedNow m_image m_images) (As := [.int x4]) (st := [.int x3]) (ci := 10) (q0 := 0) rfl rfl (t_X10_leftOf (a0 := a0) hc) Sub.same kw_1619 kw_1621 kw_52 kw_95 hy_X10_leftOf kw_1622 rfl (Nat.le_of_ble_eq_true rfl) (Nat.le_of_ble_eq_true rfl) (Nat.le_of_ble_eq_true rfl) (Nat.le_of_ble_eq_true rfl) (Nat.le_of_ble_eq_true rfl) dX10_coming_83 ?_
          refine g_goto (pc := 86) C (tgt := 90) dX10_coming_86 rfl ?_
          refine g_iadd (pc := 90) C dX10_coming_90 ?_
          refine g_istore_n (pc := 91) C [(3, .int (x3 + v1)), (0, .ref (a0 0)), (1, .int n1), (2, .int n2), (4, .int x4)] dX10_coming_91 rfl (by decide) rfl ?_
          refine g_iinc (pc := 92) C (j := 4) [(4, .int (x4 + 1)), (3, .int (x3 + v1)), (0, .ref (a0 0)), (1, .int n1), (2, .int n2)] dX10_coming_92 rfl (ii_1 _) (by decide) rfl ?_
          refine g_goto (pc := 95) C (tgt := 40) dX10_coming_95 rfl ?_
          refine g_lv [2, 3, 4, 1, 0] rfl ?_
          exact ih (x3 + v1) (x4 + 1) m_thrown m_refused m_s h
set_option maxRecDepth 100000 in
set_option maxHeartbeats 4000000 in
theorem t_X10_coming {J : Jt} {a0 : Nat → Nat} {m_thrown : Int32} {m_refused : Nat → Int32} {m_taped : Int32} {m_size : Int32} {m_at : Int32} {m_bad : Int32} {m_badKind : Int32} {m_opens : Int32} {m_faultAt : Int32} {m_tape : Nat → Int32} {m_newBed : Nat → Int32} {m_newLetter : Nat → Int32} {m_newReader : Nat → Int32} {m_bed : Nat → Int32} {m_letter : Nat → Int32} {m_reader : Nat → Int32} {m_newBeds : Int32} {m_newLetters : Int32} {m_newReaders : Int32} {m_beds : Int32} {m_letters : Int32} {m_readers : Int32} {m_newCode : Nat → Int32} {m_newOf : Nat → Int32} {m_code : Nat → Int32} {m_ofCode : Nat → Int32} {m_stack : Nat → Int32} {m_newCodes : Int32} {m_codes : Int32} {m_facts : Nat → Int32} {m_newStep : Nat → Int32} {m_step : Nat → Int32} {m_newSteps : Int32} {m_works : Int32} {m_refusedSteps : Int32} {m_begun : Int32} {m_done : Int32} {m_refusedNow : Int32} {m_now : Nat → Int32} {m_s : Nat → Int32} {m_past : Nat → Int32} {m_newBook : Nat → Int32} {m_book : Nat → Int32} {m_written : Int32} {m_mostBy : Nat → Int32} {m_stuffing : Nat → Int32} {m_stuffedMany : Int32} {m_lastBy : Nat → Int32} {m_leftBy : Nat → Int32} {m_splitBy : Nat → Int64} {m_seedNow : Int32} {m_image : Nat → Int32} {m_images : Int32} {n1 : Int32} {n2 : Int32} {r : Int32} {o_m_thrown : Int32} {o_m_refused : Nat → Int32} {o_m_s : Nat → Int32} (h : f_X10_coming m_thrown m_refused m_letter m_beds m_letters m_now m_s n1 n2 = some (r, o_m_thrown, o_m_refused, o_m_s)) : Mt J yX10_coming cX10_coming 5 (some .int) rm_X10_coming [.ref (a0 0), .int n1, .int n2] (cs_X10 J.2.2.1 a0 m_thrown m_refused m_taped m_size m_at m_bad m_badKind m_opens m_faultAt m_tape m_newBed m_newLetter m_newReader m_bed m_letter m_reader m_newBeds m_newLetters m_newReaders m_beds m_letters m_readers m_newCode m_newOf m_code m_ofCode m_stack m_newCodes m_codes m_facts m_newStep m_step m_newSteps m_works m_refusedSteps m_begun m_done m_refusedNow m_now m_s m_past m_newBook m_book m_written m_mostBy m_stuffing m_stuffedMany m_lastBy m_leftBy m_splitBy m_seedNow m_image m_images) (some (.int r)) (cs_X10 J.2.2.1 a0 o_m_thrown o_m_refused m_taped m_size m_at m_bad m_badKind m_opens m_faultAt m_tape m_newBed m_newLetter m_newReader m_bed m_letter m_reader m_newBeds m_newLetters m_newReaders m_beds m_letters m_readers m_newCode m_newOf m_code m_ofCode m_stack m_newCodes m_codes m_facts m_newStep m_step m_newSteps m_works m_refusedSteps m_begun m_done m_refusedNow m_now o_m_s m_past m_newBook m_book m_written m_mostBy m_stuffing m_stuffedMany m_lastBy m_leftBy m_splitBy m_seedNow m_image m_images) := by
  refine Mt_of (own := RX10) (by decide) rfl (Nat.le_of_ble_eq_true rfl) rfl (fun Z C E => ?_)
  unfold f_X10_coming at h
  show G J Z 0 0 (cs_X10 J.2.2.1 a0 m_thrown m_refused m_taped m_size m_at m_bad m_badKind m_opens m_faultAt m_tape m_newBed m_newLetter m_newReader m_bed m_letter m_reader m_newBeds m_newLetters m_newReaders m_beds m_letters m_readers m_newCode m_newOf m_code m_ofCode m_stack m_newCodes m_codes m_facts m_newStep m_step m_newSteps m_works m_refusedSteps m_begun m_done m_refusedNow m_now m_s m_past m_newBook m_book m_written m_mostBy m_stuffing m_stuffedMany m_lastBy m_leftBy m_splitBy m_seedNow m_image m_images) 5 [(0, .ref (a0 0)), (1, .int n1), (2, .int n2)] 0 []
  refine g_aload_n (pc := 0) C 0 rfl dX10_coming_0 ?_
  refine g_iconst (pc := 1) C dX10_coming_1 ci_0 ?_
  refine g_put (pc := 2) C (w' := cs_X10 J.2.2.1 a0 0 m_refused m_taped m_size m_at m_bad m_badKind m_opens m_faultAt m_tape m_newBed m_newLetter m_newReader m_bed m_letter m_reader m_newBeds m_newLetters m_newReaders m_beds m_letters m_readers m_newCode m_newOf m_code m_ofCode m_stack m_newCodes m_codes m_facts m_newStep m_step m_newSteps m_works m_refusedSteps m_begun m_done m_refusedNow m_now m_s m_past m_newBook m_book m_written m_mostBy m_stuffing m_stuffedMany m_lastBy m_leftBy m_splitBy m_seedNow m_image m_images) FOK_X10 0 rfl rfl 0 (by decide) kw_1277 rfl rfl rfl (Nat.le_of_ble_eq_true rfl) dX10_coming_2 rfl ?_
  refine g_aload_n (pc := 5) C 0 rfl dX10_coming_5 ?_
  refine g_iload_n (pc := 6) C 1 rfl dX10_coming_6 ?_
  refine g_iconst (pc := 7) C dX10_coming_7 ci_1 ?_
  obtain ⟨v2, c3, c4, hc, h⟩ := b3_of h
  refine g_callV (pc := 8) C (w' := cs_X10 J.2.2.1 a0 c3 c4 m_taped m_size m_at m_bad m_badKind m_opens m_faultAt m_tape m_newBed m_newLetter m_newReader m_bed m_letter m_reader m_newBeds m_newLetters m_newReaders m_beds m_letters m_readers m_newCode m_newOf m_code m_ofCode m_stack m_newCodes m_codes m_facts m_newStep m_step m_newSteps m_works m_refusedSteps m_begun m_done m_refusedNow m_now m_s m_past m_newBook m_book m_written m_mostBy m_stuffing m_stuffedMany m_lastBy m_leftBy m_splitBy m_seedNow m_image m_images) (As := [.int n1, .int 1]) (st := []) (ci := 10) (q0 := 0) rfl rfl (t_X10_isBed (a0 := a0) hc) Sub.same kw_1716 kw_1718 kw_68 kw_95 hy_X10_isBed kw_1719 rfl (Nat.le_of_ble_eq_true rfl) (Nat.le_of_ble_eq_true rfl) (Nat.le_of_ble_eq_true rfl) (Nat.le_of_ble_eq_true rfl) (Nat.le_of_ble_eq_true rfl) dX10_coming_8 ?_
  refine g_if_eq (pc := 11) C (tgt := 29) dX10_coming_11 rfl h (fun h => ?_) (fun h => ?_)
  · refine g_iconst (pc := 29) C dX10_coming_29 ci_0 ?_
    cases h
    exact g_iret C E dX10_coming_30
  · refine g_aload_n (pc := 14) C 0 rfl dX10_coming_14 ?_
    refine g_iload_n (pc := 15) C 2 rfl dX10_coming_15 ?_
    refine g_iconst (pc := 16) C dX10_coming_16 ci_0 ?_
    refine g_iconst (pc := 17) C dX10_coming_17 ci_1 ?_
    obtain ⟨v5, hc, h⟩ := b1_of h
    refine g_callS (pc := 18) C (w' := cs_X10 J.2.2.1 a0 c3 c4 m_taped m_size m_at m_bad m_badKind m_opens m_faultAt m_tape m_newBed m_newLetter m_newReader m_bed m_letter m_reader m_newBeds m_newLetters m_newReaders m_beds m_letters m_readers m_newCode m_newOf m_code m_ofCode m_stack m_newCodes m_codes m_facts m_newStep m_step m_newSteps m_works m_refusedSteps m_begun m_done m_refusedNow m_now m_s m_past m_newBook m_book m_written m_mostBy m_stuffing m_stuffedMany m_lastBy m_leftBy m_splitBy m_seedNow m_image m_images) (As := [.int n2, .int 0, .int 1]) (st := [.ref (a0 0)]) (t_X10_within hc) Sub.nil kw_1689 kw_1690 kw_95 hy_X10_within kw_1691 rfl (Nat.le_of_ble_eq_true rfl) (Nat.le_of_ble_eq_true rfl) (Nat.le_of_ble_eq_true rfl) (Nat.le_of_ble_eq_true rfl) (Nat.le_of_ble_eq_true rfl) dX10_coming_18 ?_
    refine g_iconst (pc := 21) C dX10_coming_21 ci_2 ?_
    refine g_iconst (pc := 22) C dX10_coming_22 ci_1 ?_
    obtain ⟨v6, c7, c8, hc, h⟩ := b3_of h
    refine g_callV (pc := 23) C (w' := cs_X10 J.2.2.1 a0 c7 c8 m_taped m_size m_at m_bad m_badKind m_opens m_faultAt m_tape m_newBed m_newLetter m_newReader m_bed m_letter m_reader m_newBeds m_newLetters m_newReaders m_beds m_letters m_readers m_newCode m_newOf m_code m_ofCode m_stack m_newCodes m_codes m_facts m_newStep m_step m_newSteps m_works m_refusedSteps m_begun m_done m_refusedNow m_now m_s m_past m_newBook m_book m_written m_mostBy m_stuffing m_stuffedMany m_lastBy m_leftBy m_splitBy m_seedNow m_image m_images) (As := [.int v5, .int 2, .int 1]) (st := []) (ci := 10) (q0 := 0) rfl rfl (t_X10_may (a0 := a0) hc) Sub.same kw_1450 kw_1452 kw_20 kw_95 hy_X10_may kw_1453 rfl (Nat.le_of_ble_eq_true rfl) (Nat.le_of_ble_eq_true rfl) (Nat.le_of_ble_eq_true rfl) (Nat.le_of_ble_eq_true rfl) (Nat.le_of_ble_eq_true rfl) dX10_coming_23 ?_
    refine g_if_ne (pc := 26) C (tgt := 31) dX10_coming_26 rfl h (fun h => ?_) (fun h => ?_)
    · refine g_aload_n (pc := 31) C 0 rfl dX10_coming_31 ?_
      obtain ⟨c9, hc, h⟩ := b1_of h
      refine g_callV (pc := 32) C (w' := cs_X10 J.2.2.1 a0 c7 c8 m_taped m_size m_at m_bad m_badKind m_opens m_faultAt m_tape m_newBed m_newLetter m_newReader m_bed m_letter m_reader m_newBeds m_newLetters m_newReaders m_beds m_letters m_readers m_newCode m_newOf m_code m_ofCode m_stack m_newCodes m_codes m_facts m_newStep m_step m_newSteps m_works m_refusedSteps m_begun m_done m_refusedNow m_now c9 m_past m_newBook m_book m_written m_mostBy m_stuffing m_stuffedMany m_lastBy m_leftBy m_splitBy m_seedNow m_image m_images) (As := []) (st := []) (ci := 10) (q0 := 0) rfl rfl (t_X10_take (a0 := a0) hc) Sub.same kw_1595 kw_1597 kw_46 kw_95 hy_X10_take kw_1598 rfl (Nat.le_of_ble_eq_true rfl) (Nat.le_of_ble_eq_true rfl) (Nat.le_of_ble_eq_true rfl) (Nat.le_of_ble_eq_true rfl) (Nat.le_of_ble_eq_true rfl) dX10_coming_32 ?_
      refine g_iconst (pc := 35) C dX10_coming_35 ci_0 ?_
      refine g_istore_n (pc := 36) C [(3, .int 0), (0, .ref (a0 0)), (1, .int n1), (2, .int n2)] dX10_coming_36 rfl (by decide) rfl ?_
      refine g_iconst (pc := 37) C dX10_coming_37 ci_0 ?_
      refine g_istore (pc := 38) C [(4, .int 0), (3, .int 0), (0, .ref (a0 0)), (1, .int n1), (2, .int n2)] dX10_coming_38 (by decide) rfl ?_
      refine g_lv [2, 3, 4, 1, 0] rfl ?_
      exact j_X10_coming_40 C E    FU 0 0 c7 c8 c9 h
    · refine g_iconst (pc := 29) C dX10_coming_29 ci_0 ?_
      cases h
      exact g_iret C E dX10_coming_30
noncomputable def f_X10_shared (m_thrown : Int32) (m_refused : Nat → Int32) (m_readers : Int32) (m_now : Nat → Int32) (n1 : Int32) (n2 : Int32) : Option (Int32 × Int32 × (Nat → Int32)) := b3 (f_X10_isReader 0 m_refused m_readers n1 1) (fun v1 c2 c3 => if v1 = 0 then some (0, c2, c3) else b3 (f_X10_isReader c2 c3 m_readers n2 1) (fun v4 c5 c6 => if v4 = 0 then some (0, c5, c6) else if ixb (95 + n1) 165 then if ixb (95 + n2) 165 then b1 (f_X10_ones ((m_now (95 + n1).toNatClampNeg) &&& (m_now (95 + n2).toNatClampNeg))) (fun v7 => some (v7, c5, c6)) else none else none))
def rm_X10_shared : Room := { frames := 2, cells := 0, slots := 0, locals := 45 }
set_option maxRecDepth 100000 in
set_option maxHeartbeats 4000000 in
theorem t_X10_shared {J : Jt} {a0 : Nat → Nat} {m_thrown : Int32} {m_refused : Nat → Int32} {m_taped : Int32} {m_size : Int32} {m_at : Int32} {m_bad : Int32} {m_badKind : Int32} {m_opens : Int32} {m_faultAt : Int32} {m_tape : Nat → Int32} {m_newBed : Nat → Int32} {m_newLetter : Nat → Int32} {m_newReader : Nat → Int32} {m_bed : Nat → Int32} {m_letter : Nat → Int32} {m_reader : Nat → Int32} {m_newBeds : Int32} {m_newLetters : Int32} {m_newReaders : Int32} {m_beds : Int32} {m_letters : Int32} {m_readers : Int32} {m_newCode : Nat → Int32} {m_newOf : Nat → Int32} {m_code : Nat → Int32} {m_ofCode : Nat → Int32} {m_stack : Nat → Int32} {m_newCodes : Int32} {m_codes : Int32} {m_facts : Nat → Int32} {m_newStep : Nat → Int32} {m_step : Nat → Int32} {m_newSteps : Int32} {m_works : Int32} {m_refusedSteps : Int32} {m_begun : Int32} {m_done : Int32} {m_refusedNow : Int32} {m_now : Nat → Int32} {m_s : Nat → Int32} {m_past : Nat → Int32} {m_newBook : Nat → Int32} {m_book : Nat → Int32} {m_written : Int32} {m_mostBy : Nat → Int32} {m_stuffing : Nat → Int32} {m_stuffedMany : Int32} {m_lastBy : Nat → Int32} {m_leftBy : Nat → Int32} {m_splitBy : Nat → Int64} {m_seedNow : Int32} {m_image : Nat → Int32} {m_images : Int32} {n1 : Int32} {n2 : Int32} {r : Int32} {o_m_thrown : Int32} {o_m_refused : Nat → Int32} (h : f_X10_shared m_thrown m_refused m_readers m_now n1 n2 = some (r, o_m_thrown, o_m_refused)) : Mt J yX10_shared cX10_shared 3 (some .int) rm_X10_shared [.ref (a0 0), .int n1, .int n2] (cs_X10 J.2.2.1 a0 m_thrown m_refused m_taped m_size m_at m_bad m_badKind m_opens m_faultAt m_tape m_newBed m_newLetter m_newReader m_bed m_letter m_reader m_newBeds m_newLetters m_newReaders m_beds m_letters m_readers m_newCode m_newOf m_code m_ofCode m_stack m_newCodes m_codes m_facts m_newStep m_step m_newSteps m_works m_refusedSteps m_begun m_done m_refusedNow m_now m_s m_past m_newBook m_book m_written m_mostBy m_stuffing m_stuffedMany m_lastBy m_leftBy m_splitBy m_seedNow m_image m_images) (some (.int r)) (cs_X10 J.2.2.1 a0 o_m_thrown o_m_refused m_taped m_size m_at m_bad m_badKind m_opens m_faultAt m_tape m_newBed m_newLetter m_newReader m_bed m_letter m_reader m_newBeds m_newLetters m_newReaders m_beds m_letters m_readers m_newCode m_newOf m_code m_ofCode m_stack m_newCodes m_codes m_facts m_newStep m_step m_newSteps m_works m_refusedSteps m_begun m_done m_refusedNow m_now m_s m_past m_newBook m_book m_written m_mostBy m_stuffing m_stuffedMany m_lastBy m_leftBy m_splitBy m_seedNow m_image m_images) := by
  refine Mt_of (own := RX10) (by decide) rfl (Nat.le_of_ble_eq_true rfl) rfl (fun Z C E => ?_)
  unfold f_X10_shared at h
  show G J Z 0 0 (cs_X10 J.2.2.1 a0 m_thrown m_refused m_taped m_size m_at m_bad m_badKind m_opens m_faultAt m_tape m_newBed m_newLetter m_newReader m_bed m_letter m_reader m_newBeds m_newLetters m_newReaders m_beds m_letters m_readers m_newCode m_newOf m_code m_ofCode m_stack m_newCodes m_codes m_facts m_newStep m_step m_newSteps m_works m_refusedSteps m_begun m_done m_refusedNow m_now m_s m_past m_newBook m_book m_written m_mostBy m_stuffing m_stuffedMany m_lastBy m_leftBy m_splitBy m_seedNow m_image m_images) 3 [(0, .ref (a0 0)), (1, .int n1), (2, .int n2)] 0 []
  refine g_aload_n (pc := 0) C 0 rfl dX10_shared_0 ?_
  refine g_iconst (pc := 1) C dX10_shared_1 ci_0 ?_
  refine g_put (pc := 2) C (w' := cs_X10 J.2.2.1 a0 0 m_refused m_taped m_size m_at m_bad m_badKind m_opens m_faultAt m_tape m_newBed m_newLetter m_newReader m_bed m_letter m_reader m_newBeds m_newLetters m_newReaders m_beds m_letters m_readers m_newCode m_newOf m_code m_ofCode m_stack m_newCodes m_codes m_facts m_newStep m_step m_newSteps m_works m_refusedSteps m_begun m_done m_refusedNow m_now m_s m_past m_newBook m_book m_written m_mostBy m_stuffing m_stuffedMany m_lastBy m_leftBy m_splitBy m_seedNow m_image m_images) FOK_X10 0 rfl rfl 0 (by decide) kw_1277 rfl rfl rfl (Nat.le_of_ble_eq_true rfl) dX10_shared_2 rfl ?_
  refine g_aload_n (pc := 5) C 0 rfl dX10_shared_5 ?_
  refine g_iload_n (pc := 6) C 1 rfl dX10_shared_6 ?_
  refine g_iconst (pc := 7) C dX10_shared_7 ci_1 ?_
  obtain ⟨v1, c2, c3, hc, h⟩ := b3_of h
  refine g_callV (pc := 8) C (w' := cs_X10 J.2.2.1 a0 c2 c3 m_taped m_size m_at m_bad m_badKind m_opens m_faultAt m_tape m_newBed m_newLetter m_newReader m_bed m_letter m_reader m_newBeds m_newLetters m_newReaders m_beds m_letters m_readers m_newCode m_newOf m_code m_ofCode m_stack m_newCodes m_codes m_facts m_newStep m_step m_newSteps m_works m_refusedSteps m_begun m_done m_refusedNow m_now m_s m_past m_newBook m_book m_written m_mostBy m_stuffing m_stuffedMany m_lastBy m_leftBy m_splitBy m_seedNow m_image m_images) (As := [.int n1, .int 1]) (st := []) (ci := 10) (q0 := 0) rfl rfl (t_X10_isReader (a0 := a0) hc) Sub.same kw_1732 kw_1734 kw_70 kw_95 hy_X10_isReader kw_1735 rfl (Nat.le_of_ble_eq_true rfl) (Nat.le_of_ble_eq_true rfl) (Nat.le_of_ble_eq_true rfl) (Nat.le_of_ble_eq_true rfl) (Nat.le_of_ble_eq_true rfl) dX10_shared_8 ?_
  refine g_if_eq (pc := 11) C (tgt := 23) dX10_shared_11 rfl h (fun h => ?_) (fun h => ?_)
  · refine g_iconst (pc := 23) C dX10_shared_23 ci_0 ?_
    cases h
    exact g_iret C E dX10_shared_24
  · refine g_aload_n (pc := 14) C 0 rfl dX10_shared_14 ?_
    refine g_iload_n (pc := 15) C 2 rfl dX10_shared_15 ?_
    refine g_iconst (pc := 16) C dX10_shared_16 ci_1 ?_
    obtain ⟨v4, c5, c6, hc, h⟩ := b3_of h
    refine g_callV (pc := 17) C (w' := cs_X10 J.2.2.1 a0 c5 c6 m_taped m_size m_at m_bad m_badKind m_opens m_faultAt m_tape m_newBed m_newLetter m_newReader m_bed m_letter m_reader m_newBeds m_newLetters m_newReaders m_beds m_letters m_readers m_newCode m_newOf m_code m_ofCode m_stack m_newCodes m_codes m_facts m_newStep m_step m_newSteps m_works m_refusedSteps m_begun m_done m_refusedNow m_now m_s m_past m_newBook m_book m_written m_mostBy m_stuffing m_stuffedMany m_lastBy m_leftBy m_splitBy m_seedNow m_image m_images) (As := [.int n2, .int 1]) (st := []) (ci := 10) (q0 := 0) rfl rfl (t_X10_isReader (a0 := a0) hc) Sub.same kw_1732 kw_1734 kw_70 kw_95 hy_X10_isReader kw_1735 rfl (Nat.le_of_ble_eq_true rfl) (Nat.le_of_ble_eq_true rfl) (Nat.le_of_ble_eq_true rfl) (Nat.le_of_ble_eq_true rfl) (Nat.le_of_ble_eq_true rfl) dX10_shared_17 ?_
    refine g_if_ne (pc := 20) C (tgt := 25) dX10_shared_20 rfl h (fun h => ?_) (fun h => ?_)
    · refine g_aload_n (pc := 25) C 0 rfl dX10_shared_25 ?_
      refine g_get (pc := 26) C FOK_X10 0 rfl rfl 38 (by decide) kw_1315 rfl dX10_shared_26 ?_
      refine g_bipush (pc := 29) C dX10_shared_29 cb_95 ?_
      refine g_iload_n (pc := 31) C 1 rfl dX10_shared_31 ?_
      refine g_iadd (pc := 32) C dX10_shared_32 ?_
      obtain ⟨hi, h⟩ := ix_of h
      refine g_iald (pc := 33) C 17 rfl hi dX10_shared_33 ?_
      refine g_aload_n (pc := 34) C 0 rfl dX10_shared_34 ?_
      refine g_get (pc := 35) C FOK_X10 0 rfl rfl 38 (by decide) kw_1315 rfl dX10_shared_35 ?_
      refine g_bipush (pc := 38) C dX10_shared_38 cb_95 ?_
      refine g_iload_n (pc := 40) C 2 rfl dX10_shared_40 ?_
      refine g_iadd (pc := 41) C dX10_shared_41 ?_
      obtain ⟨hi, h⟩ := ix_of h
      refine g_iald (pc := 42) C 17 rfl hi dX10_shared_42 ?_
      refine g_iand (pc := 43) C dX10_shared_43 ?_
      obtain ⟨v7, hc, h⟩ := b1_of h
      refine g_callS (pc := 44) C (w' := cs_X10 J.2.2.1 a0 c5 c6 m_taped m_size m_at m_bad m_badKind m_opens m_faultAt m_tape m_newBed m_newLetter m_newReader m_bed m_letter m_reader m_newBeds m_newLetters m_newReaders m_beds m_letters m_readers m_newCode m_newOf m_code m_ofCode m_stack m_newCodes m_codes m_facts m_newStep m_step m_newSteps m_works m_refusedSteps m_begun m_done m_refusedNow m_now m_s m_past m_newBook m_book m_written m_mostBy m_stuffing m_stuffedMany m_lastBy m_leftBy m_splitBy m_seedNow m_image m_images) (As := [.int ((m_now (95 + n1).toNatClampNeg) &&& (m_now (95 + n2).toNatClampNeg))]) (st := []) (t_X10_ones hc) Sub.nil kw_1785 kw_1786 kw_95 hy_X10_ones kw_1787 rfl (Nat.le_of_ble_eq_true rfl) (Nat.le_of_ble_eq_true rfl) (Nat.le_of_ble_eq_true rfl) (Nat.le_of_ble_eq_true rfl) (Nat.le_of_ble_eq_true rfl) dX10_shared_44 ?_
      cases h
      exact g_iret C E dX10_shared_47
    · refine g_iconst (pc := 23) C dX10_shared_23 ci_0 ?_
      cases h
      exact g_iret C E dX10_shared_24
noncomputable def f_X10_draws (m_seedNow : Int32) (n1 : Int32) : Option (Int32 × Int32) := if n1 = 0 then none else some (((((m_seedNow * 1103515245) + 12345) >>> ((16 : Int32) &&& 31)) &&& 32767) - ((((m_seedNow * 1103515245) + 12345) >>> ((16 : Int32) &&& 31)) &&& 32767) / n1 * n1, (m_seedNow * 1103515245) + 12345)
def rm_X10_draws : Room := { frames := 0, cells := 0, slots := 0, locals := 0 }
set_option maxRecDepth 100000 in
set_option maxHeartbeats 4000000 in
theorem t_X10_draws {J : Jt} {a0 : Nat → Nat} {m_thrown : Int32} {m_refused : Nat → Int32} {m_taped : Int32} {m_size : Int32} {m_at : Int32} {m_bad : Int32} {m_badKind : Int32} {m_opens : Int32} {m_faultAt : Int32} {m_tape : Nat → Int32} {m_newBed : Nat → Int32} {m_newLetter : Nat → Int32} {m_newReader : Nat → Int32} {m_bed : Nat → Int32} {m_letter : Nat → Int32} {m_reader : Nat → Int32} {m_newBeds : Int32} {m_newLetters : Int32} {m_newReaders : Int32} {m_beds : Int32} {m_letters : Int32} {m_readers : Int32} {m_newCode : Nat → Int32} {m_newOf : Nat → Int32} {m_code : Nat → Int32} {m_ofCode : Nat → Int32} {m_stack : Nat → Int32} {m_newCodes : Int32} {m_codes : Int32} {m_facts : Nat → Int32} {m_newStep : Nat → Int32} {m_step : Nat → Int32} {m_newSteps : Int32} {m_works : Int32} {m_refusedSteps : Int32} {m_begun : Int32} {m_done : Int32} {m_refusedNow : Int32} {m_now : Nat → Int32} {m_s : Nat → Int32} {m_past : Nat → Int32} {m_newBook : Nat → Int32} {m_book : Nat → Int32} {m_written : Int32} {m_mostBy : Nat → Int32} {m_stuffing : Nat → Int32} {m_stuffedMany : Int32} {m_lastBy : Nat → Int32} {m_leftBy : Nat → Int32} {m_splitBy : Nat → Int64} {m_seedNow : Int32} {m_image : Nat → Int32} {m_images : Int32} {n1 : Int32} {r : Int32} {o_m_seedNow : Int32} (h : f_X10_draws m_seedNow n1 = some (r, o_m_seedNow)) : Mt J yX10_draws cX10_draws 2 (some .int) rm_X10_draws [.ref (a0 0), .int n1] (cs_X10 J.2.2.1 a0 m_thrown m_refused m_taped m_size m_at m_bad m_badKind m_opens m_faultAt m_tape m_newBed m_newLetter m_newReader m_bed m_letter m_reader m_newBeds m_newLetters m_newReaders m_beds m_letters m_readers m_newCode m_newOf m_code m_ofCode m_stack m_newCodes m_codes m_facts m_newStep m_step m_newSteps m_works m_refusedSteps m_begun m_done m_refusedNow m_now m_s m_past m_newBook m_book m_written m_mostBy m_stuffing m_stuffedMany m_lastBy m_leftBy m_splitBy m_seedNow m_image m_images) (some (.int r)) (cs_X10 J.2.2.1 a0 m_thrown m_refused m_taped m_size m_at m_bad m_badKind m_opens m_faultAt m_tape m_newBed m_newLetter m_newReader m_bed m_letter m_reader m_newBeds m_newLetters m_newReaders m_beds m_letters m_readers m_newCode m_newOf m_code m_ofCode m_stack m_newCodes m_codes m_facts m_newStep m_step m_newSteps m_works m_refusedSteps m_begun m_done m_refusedNow m_now m_s m_past m_newBook m_book m_written m_mostBy m_stuffing m_stuffedMany m_lastBy m_leftBy m_splitBy o_m_seedNow m_image m_images) := by
  refine Mt_of (own := RX10) (by decide) rfl (Nat.le_of_ble_eq_true rfl) rfl (fun Z C E => ?_)
  unfold f_X10_draws at h
  show G J Z 0 0 (cs_X10 J.2.2.1 a0 m_thrown m_refused m_taped m_size m_at m_bad m_badKind m_opens m_faultAt m_tape m_newBed m_newLetter m_newReader m_bed m_letter m_reader m_newBeds m_newLetters m_newReaders m_beds m_letters m_readers m_newCode m_newOf m_code m_ofCode m_stack m_newCodes m_codes m_facts m_newStep m_step m_newSteps m_works m_refusedSteps m_begun m_done m_refusedNow m_now m_s m_past m_newBook m_book m_written m_mostBy m_stuffing m_stuffedMany m_lastBy m_leftBy m_splitBy m_seedNow m_image m_images) 2 [(0, .ref (a0 0)), (1, .int n1)] 0 []
  refine g_aload_n (pc := 0) C 0 rfl dX10_draws_0 ?_
  refine g_aload_n (pc := 1) C 0 rfl dX10_draws_1 ?_
  refine g_get (pc := 2) C FOK_X10 0 rfl rfl 50 (by decide) kw_1327 rfl dX10_draws_2 ?_
  refine g_ldcw (pc := 5) C dX10_draws_5 kw_1886 ?_
  refine g_imul (pc := 8) C dX10_draws_8 ?_
  refine g_sipush (pc := 9) C dX10_draws_9 cs_12345 ?_
  refine g_iadd (pc := 12) C dX10_draws_12 ?_
  refine g_put (pc := 13) C (w' := cs_X10 J.2.2.1 a0 m_thrown m_refused m_taped m_size m_at m_bad m_badKind m_opens m_faultAt m_tape m_newBed m_newLetter m_newReader m_bed m_letter m_reader m_newBeds m_newLetters m_newReaders m_beds m_letters m_readers m_newCode m_newOf m_code m_ofCode m_stack m_newCodes m_codes m_facts m_newStep m_step m_newSteps m_works m_refusedSteps m_begun m_done m_refusedNow m_now m_s m_past m_newBook m_book m_written m_mostBy m_stuffing m_stuffedMany m_lastBy m_leftBy m_splitBy ((m_seedNow * 1103515245) + 12345) m_image m_images) FOK_X10 0 rfl rfl 50 (by decide) kw_1327 rfl rfl rfl (Nat.le_of_ble_eq_true rfl) dX10_draws_13 rfl ?_
  refine g_aload_n (pc := 16) C 0 rfl dX10_draws_16 ?_
  refine g_get (pc := 17) C FOK_X10 0 rfl rfl 50 (by decide) kw_1327 rfl dX10_draws_17 ?_
  refine g_bipush (pc := 20) C dX10_draws_20 cb_16 ?_
  refine g_ishr (pc := 22) C dX10_draws_22 ?_
  refine g_sipush (pc := 23) C dX10_draws_23 cs_32767 ?_
  refine g_iand (pc := 26) C dX10_draws_26 ?_
  refine g_iload_n (pc := 27) C 1 rfl dX10_draws_27 ?_
  obtain ⟨hz, h⟩ := nz_of h
  refine g_irem (pc := 28) C dX10_draws_28 hz ?_
  cases h
  exact g_iret C E dX10_draws_29
noncomputable def f_X10_summerGoes_90  (m_bed : Nat → Int32) (m_letter : Nat → Int32) (m_beds : Int32) (m_letters : Int32) (m_readers : Int32) (m_code : Nat → Int32) (m_ofCode : Nat → Int32) (m_codes : Int32) (m_now : Nat → Int32) (n1 : Int32) (n2 : Int32) (n3 : Int32) (k12 : Int32 → (Nat → Int32) → (Nat → Int32) → (Nat → Int32) → Int32 → Option ((Nat → Int32) × (Nat → Int32) × (Nat → Int32) × Int32)) (x4 : Int32) (m_stack : Nat → Int32) (m_facts : Nat → Int32) (m_s : Nat → Int32) (m_seedNow : Int32) : Option ((Nat → Int32) × (Nat → Int32) × (Nat → Int32) × Int32) := if (x4 - x4 / 2 * 2) = 1 then b1 (f_X10_passes m_beds m_s) (fun c1 => k12 (x4 + 1) m_stack m_facts c1 m_seedNow) else k12 (x4 + 1) m_stack m_facts m_s m_seedNow
noncomputable def f_X10_summerGoes_58  (m_bed : Nat → Int32) (m_letter : Nat → Int32) (m_beds : Int32) (m_letters : Int32) (m_readers : Int32) (m_code : Nat → Int32) (m_ofCode : Nat → Int32) (m_codes : Int32) (m_now : Nat → Int32) (n1 : Int32) (n2 : Int32) (n3 : Int32) (k12 : Int32 → (Nat → Int32) → (Nat → Int32) → (Nat → Int32) → Int32 → Option ((Nat → Int32) × (Nat → Int32) × (Nat → Int32) × Int32)) (x4 : Int32) (m_stack : Nat → Int32) (m_facts : Nat → Int32) (m_s : Nat → Int32) (m_seedNow : Int32) : Option ((Nat → Int32) × (Nat → Int32) × (Nat → Int32) × Int32) := if m_readers ≤ 0 then f_X10_summerGoes_90 m_bed m_letter m_beds m_letters m_readers m_code m_ofCode m_codes m_now n1 n2 n3 k12 x4 m_stack m_facts m_s m_seedNow else b2 (f_X10_draws m_seedNow m_readers) (fun v2 c3 => b2 (f_X10_draws c3 m_beds) (fun v4 c5 => b2 (f_X10_isWalked m_s v2 v4) (fun v6 c7 => f_X10_summerGoes_90 m_bed m_letter m_beds m_letters m_readers m_code m_ofCode m_codes m_now n1 n2 n3 k12 x4 m_stack m_facts c7 c5)))
noncomputable def f_X10_summerGoes_12  (m_bed : Nat → Int32) (m_letter : Nat → Int32) (m_beds : Int32) (m_letters : Int32) (m_readers : Int32) (m_code : Nat → Int32) (m_ofCode : Nat → Int32) (m_codes : Int32) (m_now : Nat → Int32) (n1 : Int32) (n2 : Int32) (n3 : Int32) : Nat → Int32 → (Nat → Int32) → (Nat → Int32) → (Nat → Int32) → Int32 → Option ((Nat → Int32) × (Nat → Int32) × (Nat → Int32) × Int32)
  | 0, _, _, _, _, _ => none
  | n + 1, x4, m_stack, m_facts, m_s, m_seedNow => if (2 * n3) ≤ x4 then some (m_stack, m_facts, m_s, m_seedNow) else b2 (f_X10_draws m_seedNow 16) (fun v8 c9 => if n2 ≤ v8 then b2 (f_X10_draws c9 30) (fun v10 c11 => b2 (f_X10_isBlown m_bed m_letter m_letters m_readers m_s (1 + v10)) (fun v12 c13 => f_X10_summerGoes_58 m_bed m_letter m_beds m_letters m_readers m_code m_ofCode m_codes m_now n1 n2 n3 (f_X10_summerGoes_12 m_bed m_letter m_beds m_letters m_readers m_code m_ofCode m_codes m_now n1 n2 n3 n) x4 m_stack m_facts c13 c11)) else b2 (f_X10_draws c9 20) (fun v14 c15 => b3 (f_X10_pours m_bed m_letter m_letters m_code m_ofCode m_stack m_codes m_facts m_s (1 + v14)) (fun c16 c17 c18 => f_X10_summerGoes_58 m_bed m_letter m_beds m_letters m_readers m_code m_ofCode m_codes m_now n1 n2 n3 (f_X10_summerGoes_12 m_bed m_letter m_beds m_letters m_readers m_code m_ofCode m_codes m_now n1 n2 n3 n) x4 c16 c17 c18 c15)))
noncomputable def f_X10_summerGoes (m_bed : Nat → Int32) (m_letter : Nat → Int32) (m_beds : Int32) (m_letters : Int32) (m_readers : Int32) (m_code : Nat → Int32) (m_ofCode : Nat → Int32) (m_stack : Nat → Int32) (m_codes : Int32) (m_facts : Nat → Int32) (m_now : Nat → Int32) (m_s : Nat → Int32) (m_seedNow : Int32) (n1 : Int32) (n2 : Int32) (n3 : Int32) : Option ((Nat → Int32) × (Nat → Int32) × (Nat → Int32) × Int32) := b1 (f_X10_take m_now m_s) (fun c19 => f_X10_summerGoes_12 m_bed m_letter m_beds m_letters m_readers m_code m_ofCode m_codes m_now n1 n2 n3 FU 0 m_stack m_facts c19 n1)
def rm_X10_summerGoes : Room := { frames := 6, cells := 0, slots := 0, locals := 139 }
set_option maxRecDepth 100000 in
set_option maxHeartbeats 4000000 in
theorem j_X10_summerGoes_90 {J : Jt} {Z : Zt} {a0 : Nat → Nat} {m_thrown : Int32} {m_refused : Nat → Int32} {m_taped : Int32} {m_size : Int32} {m_at : Int32} {m_bad : Int32} {m_badKind : Int32} {m_opens : Int32} {m_faultAt : Int32} {m_tape : Nat → Int32} {m_newBed : Nat → Int32} {m_newLetter : Nat → Int32} {m_newReader : Nat → Int32} {m_bed : Nat → Int32} {m_letter : Nat → Int32} {m_reader : Nat → Int32} {m_newBeds : Int32} {m_newLetters : Int32} {m_newReaders : Int32} {m_beds : Int32} {m_letters : Int32} {m_readers : Int32} {m_newCode : Nat → Int32} {m_newOf : Nat → Int32} {m_code : Nat → Int32} {m_ofCode : Nat → Int32} {m_newCodes : Int32} {m_codes : Int32} {m_newStep : Nat → Int32} {m_step : Nat → Int32} {m_newSteps : Int32} {m_works : Int32} {m_refusedSteps : Int32} {m_begun : Int32} {m_done : Int32} {m_refusedNow : Int32} {m_now : Nat → Int32} {m_past : Nat → Int32} {m_newBook : Nat → Int32} {m_book : Nat → Int32} {m_written : Int32} {m_mostBy : Nat → Int32} {m_stuffing : Nat → Int32} {m_stuffedMany : Int32} {m_lastBy : Nat → Int32} {m_leftBy : Nat → Int32} {m_splitBy : Nat → Int64} {m_image : Nat → Int32} {m_images : Int32} {n1 : Int32} {n2 : Int32} {n3 : Int32} {o_m_stack : Nat → Int32} {o_m_facts : Nat → Int32} {o_m_s : Nat → Int32} {o_m_seedNow : Int32} {k12 : Int32 → (Nat → Int32) → (Nat → Int32) → (Nat → Int32) → Int32 → Option ((Nat → Int32) × (Nat → Int32) × (Nat → Int32) × Int32)} (C : Cx J Z cX10_summerGoes 6 RX10 none rm_X10_summerGoes) (E : Ez J Z 0 0 none (cs_X10 J.2.2.1 a0 m_thrown m_refused m_taped m_size m_at m_bad m_badKind m_opens m_faultAt m_tape m_newBed m_newLetter m_newReader m_bed m_letter m_reader m_newBeds m_newLetters m_newReaders m_beds m_letters m_readers m_newCode m_newOf m_code m_ofCode o_m_stack m_newCodes m_codes o_m_facts m_newStep m_step m_newSteps m_works m_refusedSteps m_begun m_done m_refusedNow m_now o_m_s m_past m_newBook m_book m_written m_mostBy m_stuffing m_stuffedMany m_lastBy m_leftBy m_splitBy o_m_seedNow m_image m_images)) (hk12 : ∀ (x4 : Int32) (m_stack : Nat → Int32) (m_facts : Nat → Int32) (m_s : Nat → Int32) (m_seedNow : Int32), k12 x4 m_stack m_facts m_s m_seedNow = some (o_m_stack, o_m_facts, o_m_s, o_m_seedNow) → G J Z 0 0 (cs_X10 J.2.2.1 a0 m_thrown m_refused m_taped m_size m_at m_bad m_badKind m_opens m_faultAt m_tape m_newBed m_newLetter m_newReader m_bed m_letter m_reader m_newBeds m_newLetters m_newReaders m_beds m_letters m_readers m_newCode m_newOf m_code m_ofCode m_stack m_newCodes m_codes m_facts m_newStep m_step m_newSteps m_works m_refusedSteps m_begun m_done m_refusedNow m_now m_s m_past m_newBook m_book m_written m_mostBy m_stuffing m_stuffedMany m_lastBy m_leftBy m_splitBy m_seedNow m_image m_images) 6 [(0, .ref (a0 0)), (2, .int n2), (3, .int n3), (4, .int x4)] 12 []) : ∀ (x4 : Int32) (m_stack : Nat → Int32) (m_facts : Nat → Int32) (m_s : Nat → Int32) (m_seedNow : Int32), f_X10_summerGoes_90 m_bed m_letter m_beds m_letters m_readers m_code m_ofCode m_codes m_now n1 n2 n3 k12 x4 m_stack m_facts m_s m_seedNow = some (o_m_stack, o_m_facts, o_m_s, o_m_seedNow) → G J Z 0 0 (cs_X10 J.2.2.1 a0 m_thrown m_refused m_taped m_size m_at m_bad m_badKind m_opens m_faultAt m_tape m_newBed m_newLetter m_newReader m_bed m_letter m_reader m_newBeds m_newLetters m_newReaders m_beds m_letters m_readers m_newCode m_newOf m_code m_ofCode m_stack m_newCodes m_codes m_facts m_newStep m_step m_newSteps m_works m_refusedSteps m_begun m_done m_refusedNow m_now m_s m_past m_newBook m_book m_written m_mostBy m_stuffing m_stuffedMany m_lastBy m_leftBy m_splitBy m_seedNow m_image m_images) 6 [(0, .ref (a0 0)), (2, .int n2), (3, .int n3), (4, .int x4)] 90 [] := by
  intro x4 m_stack m_facts m_s m_seedNow h
  unfold f_X10_summerGoes_90 at h
  refine g_iload (pc := 90) C 3 rfl dX10_summerGoes_90 ?_
  refine g_iconst (pc := 92) C dX10_summerGoes_92 ci_2 ?_
  refine g_irem (pc := 93) C dX10_summerGoes_93 (by decide) ?_
  refine g_iconst (pc := 94) C dX10_summerGoes_94 ci_1 ?_
  refine g_icmp_ne (pc := 95) C (tgt := 102) dX10_summerGoes_95 rfl h (fun h => ?_) (fun h => ?_)
  · refine g_iinc (pc := 102) C (j := 3) [(4, .int (x4 + 1)), (0, .ref (a0 0)), (2, .int n2), (3, .int n3)] dX10_summerGoes_102 rfl (ii_1 _) (by decide) rfl ?_
    refine g_goto (pc := 105) C (tgt := 12) dX10_summerGoes_105 rfl ?_
    refine g_lv [1, 2, 3, 0] rfl ?_
    exact hk12 (x4 + 1) m_stack m_facts m_s m_seedNow h
  · refine g_aload_n (pc := 98) C 0 rfl dX10_summerGoes_98 ?_
    obtain ⟨c1, hc, h⟩ := b1_of h
    refine g_callV (pc := 99) C (w' := cs_X10 J.2.2.1 a0 m_thrown m_refused m_taped m_size m_at m_bad m_badKind m_opens m_faultAt m_tape m_newBed m_newLetter m_newReader m_bed m_letter m_reader m_newBeds m_newLetters m_newReaders m_beds m_letters m_readers m_newCode m_newOf m_code m_ofCode m_stack m_newCodes m_codes m_facts m_newStep m_step m_newSteps m_works m_refusedSteps m_begun m_done m_refusedNow m_now c1 m_past m_newBook m_book m_written m_mostBy m_stuffing m_stuffedMany m_lastBy m_leftBy m_splitBy m_seedNow m_image m_images) (As := []) (st := []) (ci := 10) (q0 := 0) rfl rfl (t_X10_passes (a0 := a0) hc) Sub.same kw_1669 kw_1671 kw_63 kw_95 hy_X10_passes kw_1672 rfl (Nat.le_of_ble_eq_true rfl) (Nat.le_of_ble_eq_true rfl) (Nat.le_of_ble_eq_true rfl) (Nat.le_of_ble_eq_true rfl) (Nat.le_of_ble_eq_true rfl) dX10_summerGoes_99 ?_
    refine g_iinc (pc := 102) C (j := 3) [(4, .int (x4 + 1)), (0, .ref (a0 0)), (2, .int n2), (3, .int n3)] dX10_summerGoes_102 rfl (ii_1 _) (by decide) rfl ?_
    refine g_goto (pc := 105) C (tgt := 12) dX10_summerGoes_105 rfl ?_
    refine g_lv [1, 2, 3, 0] rfl ?_
    exact hk12 (x4 + 1) m_stack m_facts c1 m_seedNow h
set_option maxRecDepth 100000 in
set_option maxHeartbeats 4000000 in
theorem j_X10_summerGoes_58 {J : Jt} {Z : Zt} {a0 : Nat → Nat} {m_thrown : Int32} {m_refused : Nat → Int32} {m_taped : Int32} {m_size : Int32} {m_at : Int32} {m_bad : Int32} {m_badKind : Int32} {m_opens : Int32} {m_faultAt : Int32} {m_tape : Nat → Int32} {m_newBed : Nat → Int32} {m_newLetter : Nat → Int32} {m_newReader : Nat → Int32} {m_bed : Nat → Int32} {m_letter : Nat → Int32} {m_reader : Nat → Int32} {m_newBeds : Int32} {m_newLetters : Int32} {m_newReaders : Int32} {m_beds : Int32} {m_letters : Int32} {m_readers : Int32} {m_newCode : Nat → Int32} {m_newOf : Nat → Int32} {m_code : Nat → Int32} {m_ofCode : Nat → Int32} {m_newCodes : Int32} {m_codes : Int32} {m_newStep : Nat → Int32} {m_step : Nat → Int32} {m_newSteps : Int32} {m_works : Int32} {m_refusedSteps : Int32} {m_begun : Int32} {m_done : Int32} {m_refusedNow : Int32} {m_now : Nat → Int32} {m_past : Nat → Int32} {m_newBook : Nat → Int32} {m_book : Nat → Int32} {m_written : Int32} {m_mostBy : Nat → Int32} {m_stuffing : Nat → Int32} {m_stuffedMany : Int32} {m_lastBy : Nat → Int32} {m_leftBy : Nat → Int32} {m_splitBy : Nat → Int64} {m_image : Nat → Int32} {m_images : Int32} {n1 : Int32} {n2 : Int32} {n3 : Int32} {o_m_stack : Nat → Int32} {o_m_facts : Nat → Int32} {o_m_s : Nat → Int32} {o_m_seedNow : Int32} {k12 : Int32 → (Nat → Int32) → (Nat → Int32) → (Nat → Int32) → Int32 → Option ((Nat → Int32) × (Nat → Int32) × (Nat → Int32) × Int32)} (C : Cx J Z cX10_summerGoes 6 RX10 none rm_X10_summerGoes) (E : Ez J Z 0 0 none (cs_X10 J.2.2.1 a0 m_thrown m_refused m_taped m_size m_at m_bad m_badKind m_opens m_faultAt m_tape m_newBed m_newLetter m_newReader m_bed m_letter m_reader m_newBeds m_newLetters m_newReaders m_beds m_letters m_readers m_newCode m_newOf m_code m_ofCode o_m_stack m_newCodes m_codes o_m_facts m_newStep m_step m_newSteps m_works m_refusedSteps m_begun m_done m_refusedNow m_now o_m_s m_past m_newBook m_book m_written m_mostBy m_stuffing m_stuffedMany m_lastBy m_leftBy m_splitBy o_m_seedNow m_image m_images)) (hk12 : ∀ (x4 : Int32) (m_stack : Nat → Int32) (m_facts : Nat → Int32) (m_s : Nat → Int32) (m_seedNow : Int32), k12 x4 m_stack m_facts m_s m_seedNow = some (o_m_stack, o_m_facts, o_m_s, o_m_seedNow) → G J Z 0 0 (cs_X10 J.2.2.1 a0 m_thrown m_refused m_taped m_size m_at m_bad m_badKind m_opens m_faultAt m_tape m_newBed m_newLetter m_newReader m_bed m_letter m_reader m_newBeds m_newLetters m_newReaders m_beds m_letters m_readers m_newCode m_newOf m_code m_ofCode m_stack m_newCodes m_codes m_facts m_newStep m_step m_newSteps m_works m_refusedSteps m_begun m_done m_refusedNow m_now m_s m_past m_newBook m_book m_written m_mostBy m_stuffing m_stuffedMany m_lastBy m_leftBy m_splitBy m_seedNow m_image m_images) 6 [(0, .ref (a0 0)), (2, .int n2), (3, .int n3), (4, .int x4)] 12 []) : ∀ (x4 : Int32) (m_stack : Nat → Int32) (m_facts : Nat → Int32) (m_s : Nat → Int32) (m_seedNow : Int32), f_X10_summerGoes_58 m_bed m_letter m_beds m_letters m_readers m_code m_ofCode m_codes m_now n1 n2 n3 k12 x4 m_stack m_facts m_s m_seedNow = some (o_m_stack, o_m_facts, o_m_s, o_m_seedNow) → G J Z 0 0 (cs_X10 J.2.2.1 a0 m_thrown m_refused m_taped m_size m_at m_bad m_badKind m_opens m_faultAt m_tape m_newBed m_newLetter m_newReader m_bed m_letter m_reader m_newBeds m_newLetters m_newReaders m_beds m_letters m_readers m_newCode m_newOf m_code m_ofCode m_stack m_newCodes m_codes m_facts m_newStep m_step m_newSteps m_works m_refusedSteps m_begun m_done m_refusedNow m_now m_s m_past m_newBook m_book m_written m_mostBy m_stuffing m_stuffedMany m_lastBy m_leftBy m_splitBy m_seedNow m_image m_images) 6 [(0, .ref (a0 0)), (2, .int n2), (3, .int n3), (4, .int x4)] 58 [] := by
  intro x4 m_stack m_facts m_s m_seedNow h
  unfold f_X10_summerGoes_58 at h
  refine g_aload_n (pc := 58) C 0 rfl dX10_summerGoes_58 ?_
  refine g_get (pc := 59) C FOK_X10 0 rfl rfl 21 (by decide) kw_1298 rfl dX10_summerGoes_59 ?_
  refine g_if_le (pc := 62) C (tgt := 90) dX10_summerGoes_62 rfl h (fun h => ?_) (fun h => ?_)
  · exact j_X10_summerGoes_90 C E   hk12 x4 m_stack m_facts m_s m_seedNow h
  · refine g_aload_n (pc := 65) C 0 rfl dX10_summerGoes_65 ?_
    refine g_aload_n (pc := 66) C 0 rfl dX10_summerGoes_66 ?_
    refine g_get (pc := 67) C FOK_X10 0 rfl rfl 21 (by decide) kw_1298 rfl dX10_summerGoes_67 ?_
    obtain ⟨v2, c3, hc, h⟩ := b2_of h
    refine g_callV (pc := 70) C (w' := cs_X10 J.2.2.1 a0 m_thrown m_refused m_taped m_size m_at m_bad m_badKind m_opens m_faultAt m_tape m_newBed m_newLetter m_newReader m_bed m_letter m_reader m_newBeds m_newLetters m_newReaders m_beds m_letters m_readers m_newCode m_newOf m_code m_ofCode m_stack m_newCodes m_codes m_facts m_newStep m_step m_newSteps m_works m_refusedSteps m_begun m_done m_refusedNow m_now m_s m_past m_newBook m_book m_written m_mostBy m_stuffing m_stuffedMany m_lastBy m_leftBy m_splitBy c3 m_image m_images) (As := [.int m_readers]) (st := []) (ci := 10) (q0 := 0) rfl rfl (t_X10_draws (a0 := a0) hc) Sub.same kw_1882 kw_1884 kw_81 kw_95 hy_X10_draws kw_1885 rfl (Nat.le_of_ble_eq_true rfl) (Nat.le_of_ble_eq_true rfl) (Nat.le_of_ble_eq_true rfl) (Nat.le_of_ble_eq_true rfl) (Nat.le_of_ble_eq_true rfl) dX10_summerGoes_70 ?_
    refine g_istore (pc := 73) C [(5, .int v2), (0, .ref (a0 0)), (2, .int n2), (3, .int n3), (4, .int x4)] dX10_summerGoes_73 (by decide) rfl ?_
    refine g_aload_n (pc := 75) C 1 rfl dX10_summerGoes_75 ?_
    refine g_iload (pc := 76) C 0 rfl dX10_summerGoes_76 ?_
    refine g_aload_n (pc := 78) C 1 rfl dX10_summerGoes_78 ?_
    refine g_aload_n (pc := 79) C 1 rfl dX10_summerGoes_79 ?_
    refine g_get (pc := 80) C FOK_X10 0 rfl rfl 19 (by decide) kw_1296 rfl dX10_summerGoes_80 ?_
    obtain ⟨v4, c5, hc, h⟩ := b2_of h
    refine g_callV (pc := 83) C (w' := cs_X10 J.2.2.1 a0 m_thrown m_refused m_taped m_size m_at m_bad m_badKind m_opens m_faultAt m_tape m_newBed m_newLetter m_newReader m_bed m_letter m_reader m_newBeds m_newLetters m_newReaders m_beds m_letters m_readers m_newCode m_newOf m_code m_ofCode m_stack m_newCodes m_codes m_facts m_newStep m_step m_newSteps m_works m_refusedSteps m_begun m_done m_refusedNow m_now m_s m_past m_newBook m_book m_written m_mostBy m_stuffing m_stuffedMany m_lastBy m_leftBy m_splitBy c5 m_image m_images) (As := [.int m_beds]) (st := [.int v2, .ref (a0 0)]) (ci := 10) (q0 := 0) rfl rfl (t_X10_draws (a0 := a0) hc) Sub.same kw_1882 kw_1884 kw_81 kw_95 hy_X10_draws kw_1885 rfl (Nat.le_of_ble_eq_true rfl) (Nat.le_of_ble_eq_true rfl) (Nat.le_of_ble_eq_true rfl) (Nat.le_of_ble_eq_true rfl) (Nat.le_of_ble_eq_true rfl) dX10_summerGoes_83 ?_
    obtain ⟨v6, c7, hc, h⟩ := b2_of h
    refine g_callV (pc := 86) C (w' := cs_X10 J.2.2.1 a0 m_thrown m_refused m_taped m_size m_at m_bad m_badKind m_opens m_faultAt m_tape m_newBed m_newLetter m_newReader m_bed m_letter m_reader m_newBeds m_newLetters m_newReaders m_beds m_letters m_readers m_newCode m_newOf m_code m_ofCode m_stack m_newCodes m_codes m_facts m_newStep m_step m_newSteps m_works m_refusedSteps m_begun m_done m_refusedNow m_now c7 m_past m_newBook m_book m_written m_mostBy m_stuffing m_stuffedMany m_lastBy m_leftBy m_splitBy c5 m_image m_images) (As := [.int v2, .int v4]) (st := []) (ci := 10) (q0 := 0) rfl rfl (t_X10_isWalked (a0 := a0) hc) Sub.same kw_1627 kw_1629 kw_54 kw_95 hy_X10_isWalked kw_1630 rfl (Nat.le_of_ble_eq_true rfl) (Nat.le_of_ble_eq_true rfl) (Nat.le_of_ble_eq_true rfl) (Nat.le_of_ble_eq_true rfl) (Nat.le_of_ble_eq_true rfl) dX10_summerGoes_86 ?_
    refine g_pop (pc := 89) C dX10_summerGoes_89 rfl ?_
    refine g_lv [1, 2, 3, 4] rfl ?_
    exact j_X10_summerGoes_90 C E   hk12 x4 m_stack m_facts c7 c5 h
set_option maxRecDepth 100000 in
set_option maxHeartbeats 4000000 in
theorem j_X10_summerGoes_12 {J : Jt} {Z : Zt} {a0 : Nat → Nat} {m_thrown : Int32} {m_refused : Nat → Int32} {m_taped : Int32} {m_size : Int32} {m_at : Int32} {m_bad : Int32} {m_badKind : Int32} {m_opens : Int32} {m_faultAt : Int32} {m_tape : Nat → Int32} {m_newBed : Nat → Int32} {m_newLetter : Nat → Int32} {m_newReader : Nat → Int32} {m_bed : Nat → Int32} {m_letter : Nat → Int32} {m_reader : Nat → Int32} {m_newBeds : Int32} {m_newLetters : Int32} {m_newReaders : Int32} {m_beds : Int32} {m_letters : Int32} {m_readers : Int32} {m_newCode : Nat → Int32} {m_newOf : Nat → Int32} {m_code : Nat → Int32} {m_ofCode : Nat → Int32} {m_newCodes : Int32} {m_codes : Int32} {m_newStep : Nat → Int32} {m_step : Nat → Int32} {m_newSteps : Int32} {m_works : Int32} {m_refusedSteps : Int32} {m_begun : Int32} {m_done : Int32} {m_refusedNow : Int32} {m_now : Nat → Int32} {m_past : Nat → Int32} {m_newBook : Nat → Int32} {m_book : Nat → Int32} {m_written : Int32} {m_mostBy : Nat → Int32} {m_stuffing : Nat → Int32} {m_stuffedMany : Int32} {m_lastBy : Nat → Int32} {m_leftBy : Nat → Int32} {m_splitBy : Nat → Int64} {m_image : Nat → Int32} {m_images : Int32} {n1 : Int32} {n2 : Int32} {n3 : Int32} {o_m_stack : Nat → Int32} {o_m_facts : Nat → Int32} {o_m_s : Nat → Int32} {o_m_seedNow : Int32} (C : Cx J Z cX10_summerGoes 6 RX10 none rm_X10_summerGoes) (E : Ez J Z 0 0 none (cs_X10 J.2.2.1 a0 m_thrown m_refused m_taped m_size m_at m_bad m_badKind m_opens m_faultAt m_tape m_newBed m_newLetter m_newReader m_bed m_letter m_reader m_newBeds m_newLetters m_newReaders m_beds m_letters m_readers m_newCode m_newOf m_code m_ofCode o_m_stack m_newCodes m_codes o_m_facts m_newStep m_step m_newSteps m_works m_refusedSteps m_begun m_done m_refusedNow m_now o_m_s m_past m_newBook m_book m_written m_mostBy m_stuffing m_stuffedMany m_lastBy m_leftBy m_splitBy o_m_seedNow m_image m_images)) : ∀ (n : Nat) (x4 : Int32) (m_stack : Nat → Int32) (m_facts : Nat → Int32) (m_s : Nat → Int32) (m_seedNow : Int32), f_X10_summerGoes_12 m_bed m_letter m_beds m_letters m_readers m_code m_ofCode m_codes m_now n1 n2 n3 n x4 m_stack m_facts m_s m_seedNow = some (o_m_stack, o_m_facts, o_m_s, o_m_seedNow) → G J Z 0 0 (cs_X10 J.2.2.1 a0 m_thrown m_refused m_taped m_size m_at m_bad m_badKind m_opens m_faultAt m_tape m_newBed m_newLetter m_newReader m_bed m_letter m_reader m_newBeds m_newLetters m_newReaders m_beds m_letters m_readers m_newCode m_newOf m_code m_ofCode m_stack m_newCodes m_codes m_facts m_newStep m_step m_newSteps m_works m_refusedSteps m_begun m_done m_refusedNow m_now m_s m_past m_newBook m_book m_written m_mostBy m_stuffing m_stuffedMany m_lastBy m_leftBy m_splitBy m_seedNow m_image m_images) 6 [(0, .ref (a0 0)), (2, .int n2), (3, .int n3), (4, .int x4)] 12 [] := by
  intro n
  induction n with
  | zero =>
    intro x4 m_stack m_facts m_s m_seedNow h
    rw [f_X10_summerGoes_12] at h
    cases h
  | succ n ih =>
    intro x4 m_stack m_facts m_s m_seedNow h
    rw [f_X10_summerGoes_12] at h
    refine g_iload (pc := 12) C 3 rfl dX10_summerGoes_12 ?_
    refine g_iconst (pc := 14) C dX10_summerGoes_14 ci_2 ?_
    refine g_iload_n (pc := 15) C 2 rfl dX10_summerGoes_15 ?_
    refine g_imul (pc := 16) C dX10_summerGoes_16 ?_
    refine g_icmp_ge (pc := 17) C (tgt := 108) dX10_summerGoes_17 rfl h (fun h => ?_) (fun h => ?_)
    · cases h
      exact g_vret C E dX10_summerGoes_108
    · refine g_aload_n (pc := 20) C 0 rfl dX10_summerGoes_20 ?_
      refine g_bipush (pc := 21) C dX10_summerGoes_21 cb_16 ?_
      obtain ⟨v8, c9, hc, h⟩ := b2_of h
      refine g_callV (pc := 23) C (w' := cs_X10 J.2.2.1 a0 m_thrown m_refused m_taped m_size m_at m_bad m_badKind m_opens m_faultAt m_tape m_newBed m_newLetter m_newReader m_bed m_letter m_reader m_newBeds m_newLetters m_newReaders m_beds m_letters m_readers m_newCode m_newOf m_code m_ofCode m_stack m_newCodes m_codes m_facts m_newStep m_step m_newSteps m_works m_refusedSteps m_begun m_done m_refusedNow m_now m_s m_past m_newBook m_book m_written m_mostBy m_stuffing m_stuffedMany m_lastBy m_leftBy m_splitBy c9 m_image m_images) (As := [.int 16]) (st := []) (ci := 10) (q0 := 0) rfl rfl (t_X10_draws (a0 := a0) hc) Sub.same kw_1882 kw_1884 kw_81 kw_95 hy_X10_draws kw_1885 rfl (Nat.le_of_ble_eq_true rfl) (Nat.le_of_ble_eq_true rfl) (Nat.le_of_ble_eq_true rfl) (Nat.le_of_ble_eq_true rfl) (Nat.le_of_ble_eq_true rfl) dX10_summerGoes_23 ?_
      refine g_iload_n (pc := 26) C 1 rfl dX10_summerGoes_26 ?_
      refine g_icmp_ge (pc := 27) C (tgt := 45) dX10_summerGoes_27 rfl h (fun h => ?_) (fun h => ?_)
      · refine g_aload_n (pc := 45) C 0 rfl dX10_summerGoes_45 ?_
        refine g_iconst (pc := 46) C dX10_summerGoes_46 ci_1 ?_
        refine g_aload_n (pc := 47) C 0 rfl dX10_summerGoes_47 ?_
        refine g_bipush (pc := 48) C dX10_summerGoes_48 cb_30 ?_
        obtain ⟨v10, c11, hc, h⟩ := b2_of h
        refine g_callV (pc := 50) C (w' := cs_X10 J.2.2.1 a0 m_thrown m_refused m_taped m_size m_at m_bad m_badKind m_opens m_faultAt m_tape m_newBed m_newLetter m_newReader m_bed m_letter m_reader m_newBeds m_newLetters m_newReaders m_beds m_letters m_readers m_newCode m_newOf m_code m_ofCode m_stack m_newCodes m_codes m_facts m_newStep m_step m_newSteps m_works m_refusedSteps m_begun m_done m_refusedNow m_now m_s m_past m_newBook m_book m_written m_mostBy m_stuffing m_stuffedMany m_lastBy m_leftBy m_splitBy c11 m_image m_images) (As := [.int 30]) (st := [.int 1, .ref (a0 0)]) (ci := 10) (q0 := 0) rfl rfl (t_X10_draws (a0 := a0) hc) Sub.same kw_1882 kw_1884 kw_81 kw_95 hy_X10_draws kw_1885 rfl (Nat.le_of_ble_eq_true rfl) (Nat.le_of_ble_eq_true rfl) (Nat.le_of_ble_eq_true rfl) (Nat.le_of_ble_eq_true rfl) (Nat.le_of_ble_eq_true rfl) dX10_summerGoes_50 ?_
        refine g_iadd (pc := 53) C dX10_summerGoes_53 ?_
        obtain ⟨v12, c13, hc, h⟩ := b2_of h
        refine g_callV (pc := 54) C (w' := cs_X10 J.2.2.1 a0 m_thrown m_refused m_taped m_size m_at m_bad m_badKind m_opens m_faultAt m_tape m_newBed m_newLetter m_newReader m_bed m_letter m_reader m_newBeds m_newLetters m_newReaders m_beds m_letters m_readers m_newCode m_newOf m_code m_ofCode m_stack m_newCodes m_codes m_facts m_newStep m_step m_newSteps m_works m_refusedSteps m_begun m_done m_refusedNow m_now c13 m_past m_newBook m_book m_written m_mostBy m_stuffing m_stuffedMany m_lastBy m_leftBy m_splitBy c11 m_image m_images) (As := [.int (1 + v10)]) (st := []) (ci := 10) (q0 := 0) rfl rfl (t_X10_isBlown (a0 := a0) hc) Sub.same kw_1607 kw_1609 kw_49 kw_95 hy_X10_isBlown kw_1610 rfl (Nat.le_of_ble_eq_true rfl) (Nat.le_of_ble_eq_true rfl) (Nat.le_of_ble_eq_true rfl) (Nat.le_of_ble_eq_true rfl) (Nat.le_of_ble_eq_true rfl) dX10_summerGoes_54 ?_
        refine g_pop (pc := 57) C dX10_summerGoes_57 rfl ?_
        exact j_X10_summerGoes_58 C E   ih x4 m_stack m_facts c13 c11 h
      · refine g_aload_n (pc := 30) C 0 rfl dX10_summerGoes_30 ?_
        refine g_iconst (pc := 31) C dX10_summerGoes_31 ci_1 ?_
        refine g_aload_n (pc := 32) C 0 rfl dX10_summerGoes_32 ?_
        refine g_bipush (pc := 33) C dX10_summerGoes_33 cb_20 ?_
        obtain ⟨v14, c15, hc, h⟩ := b2_of h
        refine g_callV (pc := 35) C (w' := cs_X10 J.2.2.1 a0 m_thrown m_refused m_taped m_size m_at m_bad m_badKind m_opens m_faultAt m_tape m_newBed m_newLetter m_newReader m_bed m_letter m_reader m_newBeds m_newLetters m_newReaders m_beds m_letters m_readers m_newCode m_newOf m_code m_ofCode m_stack m_newCodes m_codes m_facts m_newStep m_step m_newSteps m_works m_refusedSteps m_begun m_done m_refusedNow m_now m_s m_past m_newBook m_book m_written m_mostBy m_stuffing m_stuffedMany m_lastBy m_leftBy m_splitBy c15 m_image m_images) (As := [.int 20]) (st := [.int 1, .ref (a0 0)]) (ci := 10) (q0 := 0) rfl rfl (t_X10_draws (a0 := a0) hc) Sub.same kw_1882 kw_1884 kw_81 kw_95 hy_X10_draws kw_1885 rfl (Nat.le_of_ble_eq_true rfl) (Nat.le_of_ble_eq_true rfl) (Nat.le_of_ble_eq_true rfl) (Nat.le_of_ble_eq_true rfl) (Nat.le_of_ble_eq_true rfl) dX10_summerGoes_35 ?_
        refine g_iadd (pc := 38) C dX10_summerGoes_38 ?_
        obtain ⟨c16, c17, c18, hc, h⟩ := b3_of h
        refine g_callV (pc := 39) C (w' := cs_X10 J.2.2.1 a0 m_thrown m_refused m_taped m_size m_at m_bad m_badKind m_opens m_faultAt m_tape m_newBed m_newLetter m_newReader m_bed m_letter m_reader m_newBeds m_newLetters m_newReaders m_beds m_letters m_readers m_newCode m_newOf m_code m_ofCode c16 m_newCodes m_codes c17 m_newStep m_step m_newSteps m_works m_refusedSteps m_begun m_done m_refusedNow m_now c18 m_past m_newBook m_book m_written m_mostBy m_stuffing m_stuffedMany m_lastBy m_leftBy m_splitBy c15 m_image m_images) (As := [.int (1 + v14)]) (st := []) (ci := 10) (q0 := 0) rfl rfl (t_X10_pours (a0 := a0) hc) Sub.same kw_1639 kw_1641 kw_57 kw_95 hy_X10_pours kw_1642 rfl (Nat.le_of_ble_eq_true rfl) (Nat.le_of_ble_eq_true rfl) (Nat.le_of_ble_eq_true rfl) (Nat.le_of_ble_eq_true rfl) (Nat.le_of_ble_eq_true rfl) dX10_summerGoes_39 ?_
        refine g_goto (pc := 42) C (tgt := 58) dX10_summerGoes_42 rfl ?_
        exact j_X10_summerGoes_58 C E   ih x4 c16 c17 c18 c15 h
set_option maxRecDepth 100000 in
set_option maxHeartbeats 4000000 in
theorem t_X10_summerGoes {J : Jt} {a0 : Nat → Nat} {m_thrown : Int32} {m_refused : Nat → Int32} {m_taped : Int32} {m_size : Int32} {m_at : Int32} {m_bad : Int32} {m_badKind : Int32} {m_opens : Int32} {m_faultAt : Int32} {m_tape : Nat → Int32} {m_newBed : Nat → Int32} {m_newLetter : Nat → Int32} {m_newReader : Nat → Int32} {m_bed : Nat → Int32} {m_letter : Nat → Int32} {m_reader : Nat → Int32} {m_newBeds : Int32} {m_newLetters : Int32} {m_newReaders : Int32} {m_beds : Int32} {m_letters : Int32} {m_readers : Int32} {m_newCode : Nat → Int32} {m_newOf : Nat → Int32} {m_code : Nat → Int32} {m_ofCode : Nat → Int32} {m_stack : Nat → Int32} {m_newCodes : Int32} {m_codes : Int32} {m_facts : Nat → Int32} {m_newStep : Nat → Int32} {m_step : Nat → Int32} {m_newSteps : Int32} {m_works : Int32} {m_refusedSteps : Int32} {m_begun : Int32} {m_done : Int32} {m_refusedNow : Int32} {m_now : Nat → Int32} {m_s : Nat → Int32} {m_past : Nat → Int32} {m_newBook : Nat → Int32} {m_book : Nat → Int32} {m_written : Int32} {m_mostBy : Nat → Int32} {m_stuffing : Nat → Int32} {m_stuffedMany : Int32} {m_lastBy : Nat → Int32} {m_leftBy : Nat → Int32} {m_splitBy : Nat → Int64} {m_seedNow : Int32} {m_image : Nat → Int32} {m_images : Int32} {n1 : Int32} {n2 : Int32} {n3 : Int32} {o_m_stack : Nat → Int32} {o_m_facts : Nat → Int32} {o_m_s : Nat → Int32} {o_m_seedNow : Int32} (h : f_X10_summerGoes m_bed m_letter m_beds m_letters m_readers m_code m_ofCode m_stack m_codes m_facts m_now m_s m_seedNow n1 n2 n3 = some (o_m_stack, o_m_facts, o_m_s, o_m_seedNow)) : Mt J yX10_summerGoes cX10_summerGoes 6 none rm_X10_summerGoes [.ref (a0 0), .int n1, .int n2, .int n3] (cs_X10 J.2.2.1 a0 m_thrown m_refused m_taped m_size m_at m_bad m_badKind m_opens m_faultAt m_tape m_newBed m_newLetter m_newReader m_bed m_letter m_reader m_newBeds m_newLetters m_newReaders m_beds m_letters m_readers m_newCode m_newOf m_code m_ofCode m_stack m_newCodes m_codes m_facts m_newStep m_step m_newSteps m_works m_refusedSteps m_begun m_done m_refusedNow m_now m_s m_past m_newBook m_book m_written m_mostBy m_stuffing m_stuffedMany m_lastBy m_leftBy m_splitBy m_seedNow m_image m_images) none (cs_X10 J.2.2.1 a0 m_thrown m_refused m_taped m_size m_at m_bad m_badKind m_opens m_faultAt m_tape m_newBed m_newLetter m_newReader m_bed m_letter m_reader m_newBeds m_newLetters m_newReaders m_beds m_letters m_readers m_newCode m_newOf m_code m_ofCode o_m_stack m_newCodes m_codes o_m_facts m_newStep m_step m_newSteps m_works m_refusedSteps m_begun m_done m_refusedNow m_now o_m_s m_past m_newBook m_book m_written m_mostBy m_stuffing m_stuffedMany m_lastBy m_leftBy m_splitBy o_m_seedNow m_image m_images) := by
  refine Mt_of (own := RX10) (by decide) rfl (Nat.le_of_ble_eq_true rfl) rfl (fun Z C E => ?_)
  unfold f_X10_summerGoes at h
  show G J Z 0 0 (cs_X10 J.2.2.1 a0 m_thrown m_refused m_taped m_size m_at m_bad m_badKind m_opens m_faultAt m_tape m_newBed m_newLetter m_newReader m_bed m_letter m_reader m_newBeds m_newLetters m_newReaders m_beds m_letters m_readers m_newCode m_newOf m_code m_ofCode m_stack m_newCodes m_codes m_facts m_newStep m_step m_newSteps m_works m_refusedSteps m_begun m_done m_refusedNow m_now m_s m_past m_newBook m_book m_written m_mostBy m_stuffing m_stuffedMany m_lastBy m_leftBy m_splitBy m_seedNow m_image m_images) 6 [(0, .ref (a0 0)), (1, .int n1), (2, .int n2), (3, .int n3)] 0 []
  refine g_aload_n (pc := 0) C 0 rfl dX10_summerGoes_0 ?_
  obtain ⟨c19, hc, h⟩ := b1_of h
  refine g_callV (pc := 1) C (w' := cs_X10 J.2.2.1 a0 m_thrown m_refused m_taped m_size m_at m_bad m_badKind m_opens m_faultAt m_tape m_newBed m_newLetter m_newReader m_bed m_letter m_reader m_newBeds m_newLetters m_newReaders m_beds m_letters m_readers m_newCode m_newOf m_code m_ofCode m_stack m_newCodes m_codes m_facts m_newStep m_step m_newSteps m_works m_refusedSteps m_begun m_done m_refusedNow m_now c19 m_past m_newBook m_book m_written m_mostBy m_stuffing m_stuffedMany m_lastBy m_leftBy m_splitBy m_seedNow m_image m_images) (As := []) (st := []) (ci := 10) (q0 := 0) rfl rfl (t_X10_take (a0 := a0) hc) Sub.same kw_1595 kw_1597 kw_46 kw_95 hy_X10_take kw_1598 rfl (Nat.le_of_ble_eq_true rfl) (Nat.le_of_ble_eq_true rfl) (Nat.le_of_ble_eq_true rfl) (Nat.le_of_ble_eq_true rfl) (Nat.le_of_ble_eq_true rfl) dX10_summerGoes_1 ?_
  refine g_aload_n (pc := 4) C 0 rfl dX10_summerGoes_4 ?_
  refine g_iload_n (pc := 5) C 1 rfl dX10_summerGoes_5 ?_
  refine g_put (pc := 6) C (w' := cs_X10 J.2.2.1 a0 m_thrown m_refused m_taped m_size m_at m_bad m_badKind m_opens m_faultAt m_tape m_newBed m_newLetter m_newReader m_bed m_letter m_reader m_newBeds m_newLetters m_newReaders m_beds m_letters m_readers m_newCode m_newOf m_code m_ofCode m_stack m_newCodes m_codes m_facts m_newStep m_step m_newSteps m_works m_refusedSteps m_begun m_done m_refusedNow m_now c19 m_past m_newBook m_book m_written m_mostBy m_stuffing m_stuffedMany m_lastBy m_leftBy m_splitBy n1 m_image m_images) FOK_X10 0 rfl rfl 50 (by decide) kw_1327 rfl rfl rfl (Nat.le_of_ble_eq_true rfl) dX10_summerGoes_6 rfl ?_
  refine g_iconst (pc := 9) C dX10_summerGoes_9 ci_0 ?_
  refine g_istore (pc := 10) C [(4, .int 0), (0, .ref (a0 0)), (1, .int n1), (2, .int n2), (3, .int n3)] dX10_summerGoes_10 (by decide) rfl ?_
  refine g_lv [1, 3, 4, 0] rfl ?_
  exact j_X10_summerGoes_12 C E    FU 0 m_stack m_facts c19 n1 h
noncomputable def f_X10_isSummer  (n1 : Int32) (n2 : Int32) : Option (Int32) := if n1 < 0 then some 0 else if 16 < n1 then some 0 else if n2 < 1 then some 0 else if 48 < n2 then some 0 else some 1
def rm_X10_isSummer : Room := { frames := 0, cells := 0, slots := 0, locals := 0 }
set_option maxRecDepth 100000 in
set_option maxHeartbeats 4000000 in
theorem t_X10_isSummer {J : Jt}  {n1 : Int32} {n2 : Int32} {r : Int32} (h : f_X10_isSummer n1 n2 = some r) : Mt J yX10_isSummer cX10_isSummer 2 (some .boolean) rm_X10_isSummer [.int n1, .int n2] ([]) (some (.int r)) ([]) := by
  refine Mt_of (own := RX10) (by decide) rfl (Nat.le_of_ble_eq_true rfl) rfl (fun Z C E => ?_)
  unfold f_X10_isSummer at h
  show G J Z 0 0 ([]) 2 [(0, .int n1), (1, .int n2)] 0 []
  refine g_iload_n (pc := 0) C 0 rfl dX10_isSummer_0 ?_
  refine g_if_lt (pc := 1) C (tgt := 25) dX10_isSummer_1 rfl h (fun h => ?_) (fun h => ?_)
  · refine g_iconst (pc := 25) C dX10_isSummer_25 ci_0 ?_
    cases h
    exact g_zret C rfl E dX10_isSummer_26
  · refine g_iload_n (pc := 4) C 0 rfl dX10_isSummer_4 ?_
    refine g_bipush (pc := 5) C dX10_isSummer_5 cb_16 ?_
    refine g_icmp_gt (pc := 7) C (tgt := 25) dX10_isSummer_7 rfl h (fun h => ?_) (fun h => ?_)
    · refine g_iconst (pc := 25) C dX10_isSummer_25 ci_0 ?_
      cases h
      exact g_zret C rfl E dX10_isSummer_26
    · refine g_iload_n (pc := 10) C 1 rfl dX10_isSummer_10 ?_
      refine g_iconst (pc := 11) C dX10_isSummer_11 ci_1 ?_
      refine g_icmp_lt (pc := 12) C (tgt := 25) dX10_isSummer_12 rfl h (fun h => ?_) (fun h => ?_)
      · refine g_iconst (pc := 25) C dX10_isSummer_25 ci_0 ?_
        cases h
        exact g_zret C rfl E dX10_isSummer_26
      · refine g_iload_n (pc := 15) C 1 rfl dX10_isSummer_15 ?_
        refine g_bipush (pc := 16) C dX10_isSummer_16 cb_48 ?_
        refine g_icmp_gt (pc := 18) C (tgt := 25) dX10_isSummer_18 rfl h (fun h => ?_) (fun h => ?_)
        · refine g_iconst (pc := 25) C dX10_isSummer_25 ci_0 ?_
          cases h
          exact g_zret C rfl E dX10_isSummer_26
        · refine g_iconst (pc := 21) C dX10_isSummer_21 ci_1 ?_
          refine g_goto (pc := 22) C (tgt := 26) dX10_isSummer_22 rfl ?_
          cases h
          exact g_zret C rfl E dX10_isSummer_26
noncomputable def f_X10_heardAny_4  (m_readers : Int32) (m_s : Nat → Int32) : Nat → Int32 → Int32 → Option (Int32)
  | 0, _, _ => none
  | n + 1, x1, x2 => if m_readers ≤ x2 then some x1 else if ixb (95 + x2) 165 then f_X10_heardAny_4 m_readers m_s n (x1 ||| (m_s (95 + x2).toNatClampNeg)) (x2 + 1) else none
noncomputable def f_X10_heardAny (m_readers : Int32) (m_s : Nat → Int32) : Option (Int32) := f_X10_heardAny_4 m_readers m_s FU 0 0
def rm_X10_heardAny : Room := { frames := 0, cells := 0, slots := 0, locals := 0 }
set_option maxRecDepth 100000 in
set_option maxHeartbeats 4000000 in
theorem j_X10_heardAny_4 {J : Jt} {Z : Zt} {a0 : Nat → Nat} {m_thrown : Int32} {m_refused : Nat → Int32} {m_taped : Int32} {m_size : Int32} {m_at : Int32} {m_bad : Int32} {m_badKind : Int32} {m_opens : Int32} {m_faultAt : Int32} {m_tape : Nat → Int32} {m_newBed : Nat → Int32} {m_newLetter : Nat → Int32} {m_newReader : Nat → Int32} {m_bed : Nat → Int32} {m_letter : Nat → Int32} {m_reader : Nat → Int32} {m_newBeds : Int32} {m_newLetters : Int32} {m_newReaders : Int32} {m_beds : Int32} {m_letters : Int32} {m_readers : Int32} {m_newCode : Nat → Int32} {m_newOf : Nat → Int32} {m_code : Nat → Int32} {m_ofCode : Nat → Int32} {m_stack : Nat → Int32} {m_newCodes : Int32} {m_codes : Int32} {m_facts : Nat → Int32} {m_newStep : Nat → Int32} {m_step : Nat → Int32} {m_newSteps : Int32} {m_works : Int32} {m_refusedSteps : Int32} {m_begun : Int32} {m_done : Int32} {m_refusedNow : Int32} {m_now : Nat → Int32} {m_s : Nat → Int32} {m_past : Nat → Int32} {m_newBook : Nat → Int32} {m_book : Nat → Int32} {m_written : Int32} {m_mostBy : Nat → Int32} {m_stuffing : Nat → Int32} {m_stuffedMany : Int32} {m_lastBy : Nat → Int32} {m_leftBy : Nat → Int32} {m_splitBy : Nat → Int64} {m_seedNow : Int32} {m_image : Nat → Int32} {m_images : Int32} {r : Int32} (C : Cx J Z cX10_heardAny 3 RX10 (some .int) rm_X10_heardAny) (E : Ez J Z 0 0 (some (.int r)) (cs_X10 J.2.2.1 a0 m_thrown m_refused m_taped m_size m_at m_bad m_badKind m_opens m_faultAt m_tape m_newBed m_newLetter m_newReader m_bed m_letter m_reader m_newBeds m_newLetters m_newReaders m_beds m_letters m_readers m_newCode m_newOf m_code m_ofCode m_stack m_newCodes m_codes m_facts m_newStep m_step m_newSteps m_works m_refusedSteps m_begun m_done m_refusedNow m_now m_s m_past m_newBook m_book m_written m_mostBy m_stuffing m_stuffedMany m_lastBy m_leftBy m_splitBy m_seedNow m_image m_images)) : ∀ (n : Nat) (x1 : Int32) (x2 : Int32), f_X10_heardAny_4 m_readers m_s n x1 x2 = some r → G J Z 0 0 (cs_X10 J.2.2.1 a0 m_thrown m_refused m_taped m_size m_at m_bad m_badKind m_opens m_faultAt m_tape m_newBed m_newLetter m_newReader m_bed m_letter m_reader m_newBeds m_newLetters m_newReaders m_beds m_letters m_readers m_newCode m_newOf m_code m_ofCode m_stack m_newCodes m_codes m_facts m_newStep m_step m_newSteps m_works m_refusedSteps m_begun m_done m_refusedNow m_now m_s m_past m_newBook m_book m_written m_mostBy m_stuffing m_stuffedMany m_lastBy m_leftBy m_splitBy m_seedNow m_image m_images) 3 [(0, .ref (a0 0)), (1, .int x1), (2, .int x2)] 4 [] := by
  intro n
  induction n with
  | zero =>
    intro x1 x2 h
    rw [f_X10_heardAny_4] at h
    cases h
  | succ n ih =>
    intro x1 x2 h
    rw [f_X10_heardAny_4] at h
    refine g_iload_n (pc := 4) C 2 rfl dX10_heardAny_4 ?_
    refine g_aload_n (pc := 5) C 0 rfl dX10_heardAny_5 ?_
    refine g_get (pc := 6) C FOK_X10 0 rfl rfl 21 (by decide) kw_1298 rfl dX10_heardAny_6 ?_
    refine g_icmp_ge (pc := 9) C (tgt := 30) dX10_heardAny_9 rfl h (fun h => ?_) (fun h => ?_)
    · refine g_iload_n (pc := 30) C 1 rfl dX10_heardAny_30 ?_
      cases h
      exact g_iret C E dX10_heardAny_31
    · refine g_iload_n (pc := 12) C 1 rfl dX10_heardAny_12 ?_
      refine g_aload_n (pc := 13) C 0 rfl dX10_heardAny_13 ?_
      refine g_get (pc := 14) C FOK_X10 0 rfl rfl 39 (by decide) kw_1316 rfl dX10_heardAny_14 ?_
      refine g_bipush (pc := 17) C dX10_heardAny_17 cb_95 ?_
      refine g_iload_n (pc := 19) C 2 rfl dX10_heardAny_19 ?_
      refine g_iadd (pc := 20) C dX10_heardAny_20 ?_
      obtain ⟨hi, h⟩ := ix_of h
      refine g_iald (pc := 21) C 18 rfl hi dX10_heardAny_21 ?_
      refine g_ior (pc := 22) C dX10_heardAny_22 ?_
      refine g_istore_n (pc := 23) C [(1, .int (x1 ||| (m_s (95 + x2).toNatClampNeg))), (0, .ref (a0 0)), (2, .int x2)] dX10_heardAny_23 rfl (by decide) rfl ?_
      refine g_iinc (pc := 24) C (j := 2) [(2, .int (x2 + 1)), (1, .int (x1 ||| (m_s (95 + x2).toNatClampNeg))), (0, .ref (a0 0))] dX10_heardAny_24 rfl (ii_1 _) (by decide) rfl ?_
      refine g_goto (pc := 27) C (tgt := 4) dX10_heardAny_27 rfl ?_
      refine g_lv [2, 1, 0] rfl ?_
      exact ih (x1 ||| (m_s (95 + x2).toNatClampNeg)) (x2 + 1) h
set_option maxRecDepth 100000 in
set_option maxHeartbeats 4000000 in
theorem t_X10_heardAny {J : Jt} {a0 : Nat → Nat} {m_thrown : Int32} {m_refused : Nat → Int32} {m_taped : Int32} {m_size : Int32} {m_at : Int32} {m_bad : Int32} {m_badKind : Int32} {m_opens : Int32} {m_faultAt : Int32} {m_tape : Nat → Int32} {m_newBed : Nat → Int32} {m_newLetter : Nat → Int32} {m_newReader : Nat → Int32} {m_bed : Nat → Int32} {m_letter : Nat → Int32} {m_reader : Nat → Int32} {m_newBeds : Int32} {m_newLetters : Int32} {m_newReaders : Int32} {m_beds : Int32} {m_letters : Int32} {m_readers : Int32} {m_newCode : Nat → Int32} {m_newOf : Nat → Int32} {m_code : Nat → Int32} {m_ofCode : Nat → Int32} {m_stack : Nat → Int32} {m_newCodes : Int32} {m_codes : Int32} {m_facts : Nat → Int32} {m_newStep : Nat → Int32} {m_step : Nat → Int32} {m_newSteps : Int32} {m_works : Int32} {m_refusedSteps : Int32} {m_begun : Int32} {m_done : Int32} {m_refusedNow : Int32} {m_now : Nat → Int32} {m_s : Nat → Int32} {m_past : Nat → Int32} {m_newBook : Nat → Int32} {m_book : Nat → Int32} {m_written : Int32} {m_mostBy : Nat → Int32} {m_stuffing : Nat → Int32} {m_stuffedMany : Int32} {m_lastBy : Nat → Int32} {m_leftBy : Nat → Int32} {m_splitBy : Nat → Int64} {m_seedNow : Int32} {m_image : Nat → Int32} {m_images : Int32} {r : Int32} (h : f_X10_heardAny m_readers m_s = some r) : Mt J yX10_heardAny cX10_heardAny 3 (some .int) rm_X10_heardAny [.ref (a0 0)] (cs_X10 J.2.2.1 a0 m_thrown m_refused m_taped m_size m_at m_bad m_badKind m_opens m_faultAt m_tape m_newBed m_newLetter m_newReader m_bed m_letter m_reader m_newBeds m_newLetters m_newReaders m_beds m_letters m_readers m_newCode m_newOf m_code m_ofCode m_stack m_newCodes m_codes m_facts m_newStep m_step m_newSteps m_works m_refusedSteps m_begun m_done m_refusedNow m_now m_s m_past m_newBook m_book m_written m_mostBy m_stuffing m_stuffedMany m_lastBy m_leftBy m_splitBy m_seedNow m_image m_images) (some (.int r)) (cs_X10 J.2.2.1 a0 m_thrown m_refused m_taped m_size m_at m_bad m_badKind m_opens m_faultAt m_tape m_newBed m_newLetter m_newReader m_bed m_letter m_reader m_newBeds m_newLetters m_newReaders m_beds m_letters m_readers m_newCode m_newOf m_code m_ofCode m_stack m_newCodes m_codes m_facts m_newStep m_step m_newSteps m_works m_refusedSteps m_begun m_done m_refusedNow m_now m_s m_past m_newBook m_book m_written m_mostBy m_stuffing m_stuffedMany m_lastBy m_leftBy m_splitBy m_seedNow m_image m_images) := by
  refine Mt_of (own := RX10) (by decide) rfl (Nat.le_of_ble_eq_true rfl) rfl (fun Z C E => ?_)
  unfold f_X10_heardAny at h
  show G J Z 0 0 (cs_X10 J.2.2.1 a0 m_thrown m_refused m_taped m_size m_at m_bad m_badKind m_opens m_faultAt m_tape m_newBed m_newLetter m_newReader m_bed m_letter m_reader m_newBeds m_newLetters m_newReaders m_beds m_letters m_readers m_newCode m_newOf m_code m_ofCode m_stack m_newCodes m_codes m_facts m_newStep m_step m_newSteps m_works m_refusedSteps m_begun m_done m_refusedNow m_now m_s m_past m_newBook m_book m_written m_mostBy m_stuffing m_stuffedMany m_lastBy m_leftBy m_splitBy m_seedNow m_image m_images) 3 [(0, .ref (a0 0))] 0 []
  refine g_iconst (pc := 0) C dX10_heardAny_0 ci_0 ?_
  refine g_istore_n (pc := 1) C [(1, .int 0), (0, .ref (a0 0))] dX10_heardAny_1 rfl (by decide) rfl ?_
  refine g_iconst (pc := 2) C dX10_heardAny_2 ci_0 ?_
  refine g_istore_n (pc := 3) C [(2, .int 0), (1, .int 0), (0, .ref (a0 0))] dX10_heardAny_3 rfl (by decide) rfl ?_
  refine g_lv [2, 1, 0] rfl ?_
  exact j_X10_heardAny_4 C E    FU 0 0 h
noncomputable def f_X10_summer_29  (m_bed : Nat → Int32) (m_letter : Nat → Int32) (m_beds : Int32) (m_letters : Int32) (m_readers : Int32) (m_code : Nat → Int32) (m_ofCode : Nat → Int32) (m_codes : Int32) (m_now : Nat → Int32) (n1 : Int32) (n2 : Int32) (n3 : Int32) (n4 : Int32) (y1 : Int32) (m_thrown : Int32) (m_refused : Nat → Int32) (m_stack : Nat → Int32) (m_facts : Nat → Int32) (m_s : Nat → Int32) (m_seedNow : Int32) : Option (Int32 × Int32 × (Nat → Int32) × (Nat → Int32) × (Nat → Int32) × (Nat → Int32) × Int32) := b3 (f_X10_may m_thrown m_refused y1 1 1) (fun v1 c2 c3 => if v1 = 0 then some (0, c2, c3, m_stack, m_facts, m_s, m_seedNow) else b4 (f_X10_summerGoes m_bed m_letter m_beds m_letters m_readers m_code m_ofCode m_stack m_codes m_facts m_now m_s m_seedNow n1 n2 n3) (fun c4 c5 c6 c7 => if n4 = 0 then b1 (f_X10_leftAll m_letter m_letters c6) (fun v10 => some (v10, c2, c3, c4, c5, c6, c7)) else if n4 = 1 then if ixb 160 165 then some (c6 (160 : Int32).toNatClampNeg, c2, c3, c4, c5, c6, c7) else none else if n4 = 2 then b1 (f_X10_sumOf c6 84 6) (fun v9 => some (v9, c2, c3, c4, c5, c6, c7)) else b1 (f_X10_heardAny m_readers c6) (fun v8 => some (v8, c2, c3, c4, c5, c6, c7))))
noncomputable def f_X10_summer (m_thrown : Int32) (m_refused : Nat → Int32) (m_bed : Nat → Int32) (m_letter : Nat → Int32) (m_beds : Int32) (m_letters : Int32) (m_readers : Int32) (m_code : Nat → Int32) (m_ofCode : Nat → Int32) (m_stack : Nat → Int32) (m_codes : Int32) (m_facts : Nat → Int32) (m_now : Nat → Int32) (m_s : Nat → Int32) (m_seedNow : Int32) (n1 : Int32) (n2 : Int32) (n3 : Int32) (n4 : Int32) : Option (Int32 × Int32 × (Nat → Int32) × (Nat → Int32) × (Nat → Int32) × (Nat → Int32) × Int32) := b1 (f_X10_isSummer n2 n3) (fun v11 => if v11 = 0 then f_X10_summer_29 m_bed m_letter m_beds m_letters m_readers m_code m_ofCode m_codes m_now n1 n2 n3 n4 0 0 m_refused m_stack m_facts m_s m_seedNow else b1 (f_X10_within n4 0 3) (fun v12 => if v12 = 0 then f_X10_summer_29 m_bed m_letter m_beds m_letters m_readers m_code m_ofCode m_codes m_now n1 n2 n3 n4 0 0 m_refused m_stack m_facts m_s m_seedNow else f_X10_summer_29 m_bed m_letter m_beds m_letters m_readers m_code m_ofCode m_codes m_now n1 n2 n3 n4 1 0 m_refused m_stack m_facts m_s m_seedNow))
def rm_X10_summer : Room := { frames := 7, cells := 0, slots := 0, locals := 164 }
set_option maxRecDepth 100000 in
set_option maxHeartbeats 4000000 in
theorem j_X10_summer_29 {J : Jt} {Z : Zt} {a0 : Nat → Nat} {m_taped : Int32} {m_size : Int32} {m_at : Int32} {m_bad : Int32} {m_badKind : Int32} {m_opens : Int32} {m_faultAt : Int32} {m_tape : Nat → Int32} {m_newBed : Nat → Int32} {m_newLetter : Nat → Int32} {m_newReader : Nat → Int32} {m_bed : Nat → Int32} {m_letter : Nat → Int32} {m_reader : Nat → Int32} {m_newBeds : Int32} {m_newLetters : Int32} {m_newReaders : Int32} {m_beds : Int32} {m_letters : Int32} {m_readers : Int32} {m_newCode : Nat → Int32} {m_newOf : Nat → Int32} {m_code : Nat → Int32} {m_ofCode : Nat → Int32} {m_newCodes : Int32} {m_codes : Int32} {m_newStep : Nat → Int32} {m_step : Nat → Int32} {m_newSteps : Int32} {m_works : Int32} {m_refusedSteps : Int32} {m_begun : Int32} {m_done : Int32} {m_refusedNow : Int32} {m_now : Nat → Int32} {m_past : Nat → Int32} {m_newBook : Nat → Int32} {m_book : Nat → Int32} {m_written : Int32} {m_mostBy : Nat → Int32} {m_stuffing : Nat → Int32} {m_stuffedMany : Int32} {m_lastBy : Nat → Int32} {m_leftBy : Nat → Int32} {m_splitBy : Nat → Int64} {m_image : Nat → Int32} {m_images : Int32} {n1 : Int32} {n2 : Int32} {n3 : Int32} {n4 : Int32} {r : Int32} {o_m_thrown : Int32} {o_m_refused : Nat → Int32} {o_m_stack : Nat → Int32} {o_m_facts : Nat → Int32} {o_m_s : Nat → Int32} {o_m_seedNow : Int32} (C : Cx J Z cX10_summer 5 RX10 (some .int) rm_X10_summer) (E : Ez J Z 0 0 (some (.int r)) (cs_X10 J.2.2.1 a0 o_m_thrown o_m_refused m_taped m_size m_at m_bad m_badKind m_opens m_faultAt m_tape m_newBed m_newLetter m_newReader m_bed m_letter m_reader m_newBeds m_newLetters m_newReaders m_beds m_letters m_readers m_newCode m_newOf m_code m_ofCode o_m_stack m_newCodes m_codes o_m_facts m_newStep m_step m_newSteps m_works m_refusedSteps m_begun m_done m_refusedNow m_now o_m_s m_past m_newBook m_book m_written m_mostBy m_stuffing m_stuffedMany m_lastBy m_leftBy m_splitBy o_m_seedNow m_image m_images)) : ∀ (y1 : Int32) (m_thrown : Int32) (m_refused : Nat → Int32) (m_stack : Nat → Int32) (m_facts : Nat → Int32) (m_s : Nat → Int32) (m_seedNow : Int32), f_X10_summer_29 m_bed m_letter m_beds m_letters m_readers m_code m_ofCode m_codes m_now n1 n2 n3 n4 y1 m_thrown m_refused m_stack m_facts m_s m_seedNow = some (r, o_m_thrown, o_m_refused, o_m_stack, o_m_facts, o_m_s, o_m_seedNow) → G J Z 0 0 (cs_X10 J.2.2.1 a0 m_thrown m_refused m_taped m_size m_at m_bad m_badKind m_opens m_faultAt m_tape m_newBed m_newLetter m_newReader m_bed m_letter m_reader m_newBeds m_newLetters m_newReaders m_beds m_letters m_readers m_newCode m_newOf m_code m_ofCode m_stack m_newCodes m_codes m_facts m_newStep m_step m_newSteps m_works m_refusedSteps m_begun m_done m_refusedNow m_now m_s m_past m_newBook m_book m_written m_mostBy m_stuffing m_stuffedMany m_lastBy m_leftBy m_splitBy m_seedNow m_image m_images) 5 [(0, .ref (a0 0)), (1, .int n1), (2, .int n2), (3, .int n3), (4, .int n4)] 29 [.int y1, .ref (a0 0)] := by
  intro y1 m_thrown m_refused m_stack m_facts m_s m_seedNow h
  unfold f_X10_summer_29 at h
  refine g_iconst (pc := 29) C dX10_summer_29 ci_1 ?_
  refine g_iconst (pc := 30) C dX10_summer_30 ci_1 ?_
  obtain ⟨v1, c2, c3, hc, h⟩ := b3_of h
  refine g_callV (pc := 31) C (w' := cs_X10 J.2.2.1 a0 c2 c3 m_taped m_size m_at m_bad m_badKind m_opens m_faultAt m_tape m_newBed m_newLetter m_newReader m_bed m_letter m_reader m_newBeds m_newLetters m_newReaders m_beds m_letters m_readers m_newCode m_newOf m_code m_ofCode m_stack m_newCodes m_codes m_facts m_newStep m_step m_newSteps m_works m_refusedSteps m_begun m_done m_refusedNow m_now m_s m_past m_newBook m_book m_written m_mostBy m_stuffing m_stuffedMany m_lastBy m_leftBy m_splitBy m_seedNow m_image m_images) (As := [.int y1, .int 1, .int 1]) (st := []) (ci := 10) (q0 := 0) rfl rfl (t_X10_may (a0 := a0) hc) Sub.same kw_1450 kw_1452 kw_20 kw_95 hy_X10_may kw_1453 rfl (Nat.le_of_ble_eq_true rfl) (Nat.le_of_ble_eq_true rfl) (Nat.le_of_ble_eq_true rfl) (Nat.le_of_ble_eq_true rfl) (Nat.le_of_ble_eq_true rfl) dX10_summer_31 ?_
  refine g_if_ne (pc := 34) C (tgt := 39) dX10_summer_34 rfl h (fun h => ?_) (fun h => ?_)
  · refine g_aload_n (pc := 39) C 0 rfl dX10_summer_39 ?_
    refine g_iload_n (pc := 40) C 1 rfl dX10_summer_40 ?_
    refine g_iload_n (pc := 41) C 2 rfl dX10_summer_41 ?_
    refine g_iload_n (pc := 42) C 3 rfl dX10_summer_42 ?_
    obtain ⟨c4, c5, c6, c7, hc, h⟩ := b4_of h
    refine g_callV (pc := 43) C (w' := cs_X10 J.2.2.1 a0 c2 c3 m_taped m_size m_at m_bad m_badKind m_opens m_faultAt m_tape m_newBed m_newLetter m_newReader m_bed m_letter m_reader m_newBeds m_newLetters m_newReaders m_beds m_letters m_readers m_newCode m_newOf m_code m_ofCode c4 m_newCodes m_codes c5 m_newStep m_step m_newSteps m_works m_refusedSteps m_begun m_done m_refusedNow m_now c6 m_past m_newBook m_book m_written m_mostBy m_stuffing m_stuffedMany m_lastBy m_leftBy m_splitBy c7 m_image m_images) (As := [.int n1, .int n2, .int n3]) (st := []) (ci := 10) (q0 := 0) rfl rfl (t_X10_summerGoes (a0 := a0) hc) Sub.same kw_1878 kw_1880 kw_80 kw_95 hy_X10_summerGoes kw_1881 rfl (Nat.le_of_ble_eq_true rfl) (Nat.le_of_ble_eq_true rfl) (Nat.le_of_ble_eq_true rfl) (Nat.le_of_ble_eq_true rfl) (Nat.le_of_ble_eq_true rfl) dX10_summer_43 ?_
    refine g_iload (pc := 46) C 4 rfl dX10_summer_46 ?_
    refine g_if_ne (pc := 48) C (tgt := 58) dX10_summer_48 rfl h (fun h => ?_) (fun h => ?_)
    · refine g_iload (pc := 58) C 4 rfl dX10_summer_58 ?_
      refine g_iconst (pc := 60) C dX10_summer_60 ci_1 ?_
      refine g_icmp_ne (pc := 61) C (tgt := 75) dX10_summer_61 rfl h (fun h => ?_) (fun h => ?_)
      · refine g_iload (pc := 75) C 4 rfl dX10_summer_75 ?_
        refine g_iconst (pc := 77) C dX10_summer_77 ci_2 ?_
        refine g_icmp_ne (pc := 78) C (tgt := 92) dX10_summer_78 rfl h (fun h => ?_) (fun h => ?_)
        · refine g_aload_n (pc := 92) C 0 rfl dX10_summer_92 ?_
          obtain ⟨v8, hc, h⟩ := b1_of h
          refine g_callV (pc := 93) C (w' := cs_X10 J.2.2.1 a0 c2 c3 m_taped m_size m_at m_bad m_badKind m_opens m_faultAt m_tape m_newBed m_newLetter m_newReader m_bed m_letter m_reader m_newBeds m_newLetters m_newReaders m_beds m_letters m_readers m_newCode m_newOf m_code m_ofCode c4 m_newCodes m_codes c5 m_newStep m_step m_newSteps m_works m_refusedSteps m_begun m_done m_refusedNow m_now c6 m_past m_newBook m_book m_written m_mostBy m_stuffing m_stuffedMany m_lastBy m_leftBy m_splitBy c7 m_image m_images) (As := []) (st := []) (ci := 10) (q0 := 0) rfl rfl (t_X10_heardAny (a0 := a0) hc) Sub.same kw_1887 kw_1889 kw_82 kw_95 hy_X10_heardAny kw_1890 rfl (Nat.le_of_ble_eq_true rfl) (Nat.le_of_ble_eq_true rfl) (Nat.le_of_ble_eq_true rfl) (Nat.le_of_ble_eq_true rfl) (Nat.le_of_ble_eq_true rfl) dX10_summer_93 ?_
          cases h
          exact g_iret C E dX10_summer_96
        · refine g_aload_n (pc := 81) C 0 rfl dX10_summer_81 ?_
          refine g_bipush (pc := 82) C dX10_summer_82 cb_84 ?_
          refine g_bipush (pc := 84) C dX10_summer_84 cb_6 ?_
          obtain ⟨v9, hc, h⟩ := b1_of h
          refine g_callV (pc := 86) C (w' := cs_X10 J.2.2.1 a0 c2 c3 m_taped m_size m_at m_bad m_badKind m_opens m_faultAt m_tape m_newBed m_newLetter m_newReader m_bed m_letter m_reader m_newBeds m_newLetters m_newReaders m_beds m_letters m_readers m_newCode m_newOf m_code m_ofCode c4 m_newCodes m_codes c5 m_newStep m_step m_newSteps m_works m_refusedSteps m_begun m_done m_refusedNow m_now c6 m_past m_newBook m_book m_written m_mostBy m_stuffing m_stuffedMany m_lastBy m_leftBy m_splitBy c7 m_image m_images) (As := [.int 84, .int 6]) (st := []) (ci := 10) (q0 := 0) rfl rfl (t_X10_sumOf (a0 := a0) hc) Sub.same kw_1696 kw_1698 kw_66 kw_95 hy_X10_sumOf kw_1699 rfl (Nat.le_of_ble_eq_true rfl) (Nat.le_of_ble_eq_true rfl) (Nat.le_of_ble_eq_true rfl) (Nat.le_of_ble_eq_true rfl) (Nat.le_of_ble_eq_true rfl) dX10_summer_86 ?_
          refine g_goto (pc := 89) C (tgt := 96) dX10_summer_89 rfl ?_
          cases h
          exact g_iret C E dX10_summer_96
      · refine g_aload_n (pc := 64) C 0 rfl dX10_summer_64 ?_
        refine g_get (pc := 65) C FOK_X10 0 rfl rfl 39 (by decide) kw_1316 rfl dX10_summer_65 ?_
        refine g_sipush (pc := 68) C dX10_summer_68 cs_160 ?_
        obtain ⟨hi, h⟩ := ix_of h
        refine g_iald (pc := 71) C 18 rfl hi dX10_summer_71 ?_
        refine g_goto (pc := 72) C (tgt := 96) dX10_summer_72 rfl ?_
        cases h
        exact g_iret C E dX10_summer_96
    · refine g_aload_n (pc := 51) C 0 rfl dX10_summer_51 ?_
      obtain ⟨v10, hc, h⟩ := b1_of h
      refine g_callV (pc := 52) C (w' := cs_X10 J.2.2.1 a0 c2 c3 m_taped m_size m_at m_bad m_badKind m_opens m_faultAt m_tape m_newBed m_newLetter m_newReader m_bed m_letter m_reader m_newBeds m_newLetters m_newReaders m_beds m_letters m_readers m_newCode m_newOf m_code m_ofCode c4 m_newCodes m_codes c5 m_newStep m_step m_newSteps m_works m_refusedSteps m_begun m_done m_refusedNow m_now c6 m_past m_newBook m_book m_written m_mostBy m_stuffing m_stuffedMany m_lastBy m_leftBy m_splitBy c7 m_image m_images) (As := []) (st := []) (ci := 10) (q0 := 0) rfl rfl (t_X10_leftAll (a0 := a0) hc) Sub.same kw_1692 kw_1694 kw_65 kw_95 hy_X10_leftAll kw_1695 rfl (Nat.le_of_ble_eq_true rfl) (Nat.le_of_ble_eq_true rfl) (Nat.le_of_ble_eq_true rfl) (Nat.le_of_ble_eq_true rfl) (Nat.le_of_ble_eq_true rfl) dX10_summer_52 ?_
      refine g_goto (pc := 55) C (tgt := 96) dX10_summer_55 rfl ?_
      cases h
      exact g_iret C E dX10_summer_96
  · refine g_iconst (pc := 37) C dX10_summer_37 ci_0 ?_
    cases h
    exact g_iret C E dX10_summer_38
set_option maxRecDepth 100000 in
set_option maxHeartbeats 4000000 in
theorem t_X10_summer {J : Jt} {a0 : Nat → Nat} {m_thrown : Int32} {m_refused : Nat → Int32} {m_taped : Int32} {m_size : Int32} {m_at : Int32} {m_bad : Int32} {m_badKind : Int32} {m_opens : Int32} {m_faultAt : Int32} {m_tape : Nat → Int32} {m_newBed : Nat → Int32} {m_newLetter : Nat → Int32} {m_newReader : Nat → Int32} {m_bed : Nat → Int32} {m_letter : Nat → Int32} {m_reader : Nat → Int32} {m_newBeds : Int32} {m_newLetters : Int32} {m_newReaders : Int32} {m_beds : Int32} {m_letters : Int32} {m_readers : Int32} {m_newCode : Nat → Int32} {m_newOf : Nat → Int32} {m_code : Nat → Int32} {m_ofCode : Nat → Int32} {m_stack : Nat → Int32} {m_newCodes : Int32} {m_codes : Int32} {m_facts : Nat → Int32} {m_newStep : Nat → Int32} {m_step : Nat → Int32} {m_newSteps : Int32} {m_works : Int32} {m_refusedSteps : Int32} {m_begun : Int32} {m_done : Int32} {m_refusedNow : Int32} {m_now : Nat → Int32} {m_s : Nat → Int32} {m_past : Nat → Int32} {m_newBook : Nat → Int32} {m_book : Nat → Int32} {m_written : Int32} {m_mostBy : Nat → Int32} {m_stuffing : Nat → Int32} {m_stuffedMany : Int32} {m_lastBy : Nat → Int32} {m_leftBy : Nat → Int32} {m_splitBy : Nat → Int64} {m_seedNow : Int32} {m_image : Nat → Int32} {m_images : Int32} {n1 : Int32} {n2 : Int32} {n3 : Int32} {n4 : Int32} {r : Int32} {o_m_thrown : Int32} {o_m_refused : Nat → Int32} {o_m_stack : Nat → Int32} {o_m_facts : Nat → Int32} {o_m_s : Nat → Int32} {o_m_seedNow : Int32} (h : f_X10_summer m_thrown m_refused m_bed m_letter m_beds m_letters m_readers m_code m_ofCode m_stack m_codes m_facts m_now m_s m_seedNow n1 n2 n3 n4 = some (r, o_m_thrown, o_m_refused, o_m_stack, o_m_facts, o_m_s, o_m_seedNow)) : Mt J yX10_summer cX10_summer 5 (some .int) rm_X10_summer [.ref (a0 0), .int n1, .int n2, .int n3, .int n4] (cs_X10 J.2.2.1 a0 m_thrown m_refused m_taped m_size m_at m_bad m_badKind m_opens m_faultAt m_tape m_newBed m_newLetter m_newReader m_bed m_letter m_reader m_newBeds m_newLetters m_newReaders m_beds m_letters m_readers m_newCode m_newOf m_code m_ofCode m_stack m_newCodes m_codes m_facts m_newStep m_step m_newSteps m_works m_refusedSteps m_begun m_done m_refusedNow m_now m_s m_past m_newBook m_book m_written m_mostBy m_stuffing m_stuffedMany m_lastBy m_leftBy m_splitBy m_seedNow m_image m_images) (some (.int r)) (cs_X10 J.2.2.1 a0 o_m_thrown o_m_refused m_taped m_size m_at m_bad m_badKind m_opens m_faultAt m_tape m_newBed m_newLetter m_newReader m_bed m_letter m_reader m_newBeds m_newLetters m_newReaders m_beds m_letters m_readers m_newCode m_newOf m_code m_ofCode o_m_stack m_newCodes m_codes o_m_facts m_newStep m_step m_newSteps m_works m_refusedSteps m_begun m_done m_refusedNow m_now o_m_s m_past m_newBook m_book m_written m_mostBy m_stuffing m_stuffedMany m_lastBy m_leftBy m_splitBy o_m_seedNow m_image m_images) := by
  refine Mt_of (own := RX10) (by decide) rfl (Nat.le_of_ble_eq_true rfl) rfl (fun Z C E => ?_)
  unfold f_X10_summer at h
  show G J Z 0 0 (cs_X10 J.2.2.1 a0 m_thrown m_refused m_taped m_size m_at m_bad m_badKind m_opens m_faultAt m_tape m_newBed m_newLetter m_newReader m_bed m_letter m_reader m_newBeds m_newLetters m_newReaders m_beds m_letters m_readers m_newCode m_newOf m_code m_ofCode m_stack m_newCodes m_codes m_facts m_newStep m_step m_newSteps m_works m_refusedSteps m_begun m_done m_refusedNow m_now m_s m_past m_newBook m_book m_written m_mostBy m_stuffing m_stuffedMany m_lastBy m_leftBy m_splitBy m_seedNow m_image m_images) 5 [(0, .ref (a0 0)), (1, .int n1), (2, .int n2), (3, .int n3), (4, .int n4)] 0 []
  refine g_aload_n (pc := 0) C 0 rfl dX10_summer_0 ?_
  refine g_iconst (pc := 1) C dX10_summer_1 ci_0 ?_
  refine g_put (pc := 2) C (w' := cs_X10 J.2.2.1 a0 0 m_refused m_taped m_size m_at m_bad m_badKind m_opens m_faultAt m_tape m_newBed m_newLetter m_newReader m_bed m_letter m_reader m_newBeds m_newLetters m_newReaders m_beds m_letters m_readers m_newCode m_newOf m_code m_ofCode m_stack m_newCodes m_codes m_facts m_newStep m_step m_newSteps m_works m_refusedSteps m_begun m_done m_refusedNow m_now m_s m_past m_newBook m_book m_written m_mostBy m_stuffing m_stuffedMany m_lastBy m_leftBy m_splitBy m_seedNow m_image m_images) FOK_X10 0 rfl rfl 0 (by decide) kw_1277 rfl rfl rfl (Nat.le_of_ble_eq_true rfl) dX10_summer_2 rfl ?_
  refine g_aload_n (pc := 5) C 0 rfl dX10_summer_5 ?_
  refine g_iload_n (pc := 6) C 2 rfl dX10_summer_6 ?_
  refine g_iload_n (pc := 7) C 3 rfl dX10_summer_7 ?_
  obtain ⟨v11, hc, h⟩ := b1_of h
  refine g_callS (pc := 8) C (w' := cs_X10 J.2.2.1 a0 0 m_refused m_taped m_size m_at m_bad m_badKind m_opens m_faultAt m_tape m_newBed m_newLetter m_newReader m_bed m_letter m_reader m_newBeds m_newLetters m_newReaders m_beds m_letters m_readers m_newCode m_newOf m_code m_ofCode m_stack m_newCodes m_codes m_facts m_newStep m_step m_newSteps m_works m_refusedSteps m_begun m_done m_refusedNow m_now m_s m_past m_newBook m_book m_written m_mostBy m_stuffing m_stuffedMany m_lastBy m_leftBy m_splitBy m_seedNow m_image m_images) (As := [.int n2, .int n3]) (st := [.ref (a0 0)]) (t_X10_isSummer hc) Sub.nil kw_1875 kw_1876 kw_95 hy_X10_isSummer kw_1877 rfl (Nat.le_of_ble_eq_true rfl) (Nat.le_of_ble_eq_true rfl) (Nat.le_of_ble_eq_true rfl) (Nat.le_of_ble_eq_true rfl) (Nat.le_of_ble_eq_true rfl) dX10_summer_8 ?_
  refine g_if_eq (pc := 11) C (tgt := 28) dX10_summer_11 rfl h (fun h => ?_) (fun h => ?_)
  · refine g_iconst (pc := 28) C dX10_summer_28 ci_0 ?_
    exact j_X10_summer_29 C E    0 0 m_refused m_stack m_facts m_s m_seedNow h
  · refine g_iload (pc := 14) C 4 rfl dX10_summer_14 ?_
    refine g_iconst (pc := 16) C dX10_summer_16 ci_0 ?_
    refine g_iconst (pc := 17) C dX10_summer_17 ci_3 ?_
    obtain ⟨v12, hc, h⟩ := b1_of h
    refine g_callS (pc := 18) C (w' := cs_X10 J.2.2.1 a0 0 m_refused m_taped m_size m_at m_bad m_badKind m_opens m_faultAt m_tape m_newBed m_newLetter m_newReader m_bed m_letter m_reader m_newBeds m_newLetters m_newReaders m_beds m_letters m_readers m_newCode m_newOf m_code m_ofCode m_stack m_newCodes m_codes m_facts m_newStep m_step m_newSteps m_works m_refusedSteps m_begun m_done m_refusedNow m_now m_s m_past m_newBook m_book m_written m_mostBy m_stuffing m_stuffedMany m_lastBy m_leftBy m_splitBy m_seedNow m_image m_images) (As := [.int n4, .int 0, .int 3]) (st := [.ref (a0 0)]) (t_X10_within hc) Sub.nil kw_1689 kw_1690 kw_95 hy_X10_within kw_1691 rfl (Nat.le_of_ble_eq_true rfl) (Nat.le_of_ble_eq_true rfl) (Nat.le_of_ble_eq_true rfl) (Nat.le_of_ble_eq_true rfl) (Nat.le_of_ble_eq_true rfl) dX10_summer_18 ?_
    refine g_if_eq (pc := 21) C (tgt := 28) dX10_summer_21 rfl h (fun h => ?_) (fun h => ?_)
    · refine g_iconst (pc := 28) C dX10_summer_28 ci_0 ?_
      exact j_X10_summer_29 C E    0 0 m_refused m_stack m_facts m_s m_seedNow h
    · refine g_iconst (pc := 24) C dX10_summer_24 ci_1 ?_
      refine g_goto (pc := 25) C (tgt := 29) dX10_summer_25 rfl ?_
      exact j_X10_summer_29 C E    1 0 m_refused m_stack m_facts m_s m_seedNow h
