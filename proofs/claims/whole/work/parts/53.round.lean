/-! ===== a round of the law's loop ===== -/
theorem and63 (x : Int32) : ∃ k, k < 64 ∧ x &&& 63 = nI k := by
  refine ⟨(x &&& 63).toBitVec.toNat, ?_, ?_⟩
  · rw [Int32.toBitVec_and, BitVec.toNat_and]
    exact Nat.lt_of_le_of_lt Nat.and_le_right (by decide)
  · apply Int32.toBitVec_inj.mp
    show _ = BitVec.ofNat 32 (x &&& 63).toBitVec.toNat
    rw [BitVec.ofNat_toNat, BitVec.setWidth_eq]
set_option maxRecDepth 100000 in
set_option maxHeartbeats 4000000 in
theorem la_round {J : Jt} {Z : Zt} {n k b L i x oa : Nat} {xs : Nat → Int32} {mo : Nat → Nat} {w : va_W} (hJ : J.1.stackTraces = false) (C : Cx J Z cL_law_ 8 RL (some .boolean) room_1) (hX : ScrZ Z b L xs) (hL : L ≤ 4096) (hi : i + 8 ≤ L) (hn : n + 20 ≤ room_1.cells) (hk : k + 400 ≤ room_1.slots) (hI : Inv J x oa mo w) (kk : ∀ w', Inv J x oa mo w' → G J Z (n + 20) (k + 400) w' 8 [(4, .int (nI i)), (0, .ref b), (1, .ref x), (2, .ref (mo 0)), (3, .ref oa)] 2657 []) : G J Z n k w 8 [(4, .int (nI i)), (0, .ref b), (1, .ref x), (2, .ref (mo 0)), (3, .ref oa)] 33 [] := by
  refine hI _ (fun π σ c Ls Im T S ad_tape ad_now ad_trial ad_task ad_season ad_stuffing ad_images ad_row ad_plan ad_sparePlan ad_rule ad_spareRule ad_notes ad_spareNotes x_latest x_imageMany x_refusedSteps x_missing x_misused t_bytes t_held t_end t_at t_start t_faultKind t_faultPlace s_year s_wet s_lost s_eaten s_tied s_ripeMany s_gone s_place s_heard s_many s_lying s_ripe s2_year s2_wet s2_lost s2_eaten s2_tied s2_ripeMany s2_gone s2_place s2_heard s2_many s2_lying s2_ripe w_kind w_first w_second w_rounds w_length w_begun w_refused u_drawn f_order f_seam f_toCome f_places f_seams i_v r_v p_beds p_letters p_readers p_far p_drain p_length p_words p_home p2_beds p2_letters p2_readers p2_far p2_drain p2_length p2_words p2_home l_code l_values l_stack l_length l2_code l2_values l2_stack l2_length b_last b_lines b2_last b2_lines m_thrown m_refused m_taped m_size m_at m_bad m_badKind m_opens m_faultAt m_tape m_newBed m_newLetter m_newReader m_bed m_letter m_reader m_newBeds m_newLetters m_newReaders m_beds m_letters m_readers m_newCode m_newOf m_code m_ofCode m_stack m_newCodes m_codes m_facts m_newStep m_step m_newSteps m_works m_refusedSteps m_begun m_done m_refusedNow m_now m_s m_past m_newBook m_book m_written m_mostBy m_stuffing m_stuffedMany m_lastBy m_leftBy m_splitBy m_seedNow m_image m_images ofn hp hr => ?_)
  refine g_perm hp ?_
  refine g_aload_n (pc := 33) C 1 rfl dL_law__33 ?_
  refine g_iload (pc := 34) C 0 rfl dL_law__34 ?_
  refine g_sld (pc := 36) (c := 0) C hX (by omega) hL rfl dL_law__36 ?_
  refine g_bipush (pc := 37) C dL_law__37 (show (Int8.ofInt 63).toInt32 = 63 by decide) ?_
  refine g_iand (pc := 39) C dL_law__39 ?_
  obtain ⟨q, hq, e⟩ := and63 (xs (i + 0))
  rw [show xs (i + 0) &&& 63 = nI q from e]
  obtain rfl | rfl | rfl | rfl | rfl | rfl | rfl | rfl | rfl | rfl | rfl | rfl | rfl | rfl | rfl | rfl | rfl | rfl | rfl | rfl | rfl | rfl | rfl | rfl | rfl | rfl | rfl | rfl | rfl | rfl | rfl | rfl | rfl | rfl | rfl | rfl | rfl | rfl | rfl | rfl | rfl | h41 : q = 0 ∨ q = 1 ∨ q = 2 ∨ q = 3 ∨ q = 4 ∨ q = 5 ∨ q = 6 ∨ q = 7 ∨ q = 8 ∨ q = 9 ∨ q = 10 ∨ q = 11 ∨ q = 12 ∨ q = 13 ∨ q = 14 ∨ q = 15 ∨ q = 16 ∨ q = 17 ∨ q = 18 ∨ q = 19 ∨ q = 20 ∨ q = 21 ∨ q = 22 ∨ q = 23 ∨ q = 24 ∨ q = 25 ∨ q = 26 ∨ q = 27 ∨ q = 28 ∨ q = 29 ∨ q = 30 ∨ q = 31 ∨ q = 32 ∨ q = 33 ∨ q = 34 ∨ q = 35 ∨ q = 36 ∨ q = 37 ∨ q = 38 ∨ q = 39 ∨ q = 40 ∨ 41 ≤ q := by omega
  · exact g_tsIn (pc := 40) (off := 180) C dL_law__40 (by decide) (by decide) (by decide) (by decide) (la_0 hJ C hX hL hi hn hk hr kk)
  · exact g_tsIn (pc := 40) (off := 253) C dL_law__40 (by decide) (by decide) (by decide) (by decide) (la_1 hJ C hX hL hi hn hk hr kk)
  · exact g_tsIn (pc := 40) (off := 309) C dL_law__40 (by decide) (by decide) (by decide) (by decide) (la_2 hJ C hX hL hi hn hk hr kk)
  · exact g_tsIn (pc := 40) (off := 365) C dL_law__40 (by decide) (by decide) (by decide) (by decide) (la_3 hJ C hX hL hi hn hk hr kk)
  · exact g_tsIn (pc := 40) (off := 421) C dL_law__40 (by decide) (by decide) (by decide) (by decide) (la_4 hJ C hX hL hi hn hk hr kk)
  · exact g_tsIn (pc := 40) (off := 477) C dL_law__40 (by decide) (by decide) (by decide) (by decide) (la_5 hJ C hX hL hi hn hk hr kk)
  · exact g_tsIn (pc := 40) (off := 490) C dL_law__40 (by decide) (by decide) (by decide) (by decide) (la_6 hJ C hX hL hi hn hk hr kk)
  · exact g_tsIn (pc := 40) (off := 503) C dL_law__40 (by decide) (by decide) (by decide) (by decide) (la_7 hJ C hX hL hi hn hk hr kk)
  · exact g_tsIn (pc := 40) (off := 559) C dL_law__40 (by decide) (by decide) (by decide) (by decide) (la_8 hJ C hX hL hi hn hk hr kk)
  · exact g_tsIn (pc := 40) (off := 627) C dL_law__40 (by decide) (by decide) (by decide) (by decide) (la_9 hJ C hX hL hi hn hk hr kk)
  · exact g_tsIn (pc := 40) (off := 695) C dL_law__40 (by decide) (by decide) (by decide) (by decide) (la_10 hJ C hX hL hi hn hk hr kk)
  · exact g_tsIn (pc := 40) (off := 763) C dL_law__40 (by decide) (by decide) (by decide) (by decide) (la_11 hJ C hX hL hi hn hk hr kk)
  · exact g_tsIn (pc := 40) (off := 831) C dL_law__40 (by decide) (by decide) (by decide) (by decide) (la_12 hJ C hX hL hi hn hk hr kk)
  · exact g_tsIn (pc := 40) (off := 899) C dL_law__40 (by decide) (by decide) (by decide) (by decide) (la_13 hJ C hX hL hi hn hk hr kk)
  · exact g_tsIn (pc := 40) (off := 955) C dL_law__40 (by decide) (by decide) (by decide) (by decide) (la_14 hJ C hX hL hi hn hk hr kk)
  · exact g_tsIn (pc := 40) (off := 1023) C dL_law__40 (by decide) (by decide) (by decide) (by decide) (la_15 hJ C hX hL hi hn hk hr kk)
  · exact g_tsIn (pc := 40) (off := 1155) C dL_law__40 (by decide) (by decide) (by decide) (by decide) (la_16 hJ C hX hL hi hn hk hr kk)
  · exact g_tsIn (pc := 40) (off := 1223) C dL_law__40 (by decide) (by decide) (by decide) (by decide) (la_17 hJ C hX hL hi hn hk hr kk)
  · exact g_tsIn (pc := 40) (off := 1303) C dL_law__40 (by decide) (by decide) (by decide) (by decide) (la_18 hJ C hX hL hi hn hk hr kk)
  · exact g_tsIn (pc := 40) (off := 1316) C dL_law__40 (by decide) (by decide) (by decide) (by decide) (la_19 hJ C hX hL hi hn hk hr kk)
  · exact g_tsIn (pc := 40) (off := 1372) C dL_law__40 (by decide) (by decide) (by decide) (by decide) (la_20 hJ C hX hL hi hn hk hr kk)
  · exact g_tsIn (pc := 40) (off := 1428) C dL_law__40 (by decide) (by decide) (by decide) (by decide) (la_21 hJ C hX hL hi hn hk hr kk)
  · exact g_tsIn (pc := 40) (off := 1484) C dL_law__40 (by decide) (by decide) (by decide) (by decide) (la_22 hJ C hX hL hi hn hk hr kk)
  · exact g_tsIn (pc := 40) (off := 1540) C dL_law__40 (by decide) (by decide) (by decide) (by decide) (la_23 hJ C hX hL hi hn hk hr kk)
  · exact g_tsIn (pc := 40) (off := 1596) C dL_law__40 (by decide) (by decide) (by decide) (by decide) (la_24 hJ C hX hL hi hn hk hr kk)
  · exact g_tsIn (pc := 40) (off := 1687) C dL_law__40 (by decide) (by decide) (by decide) (by decide) (la_25 hJ C hX hL hi hn hk hr kk)
  · exact g_tsIn (pc := 40) (off := 1767) C dL_law__40 (by decide) (by decide) (by decide) (by decide) (la_26 hJ C hX hL hi hn hk hr kk)
  · exact g_tsIn (pc := 40) (off := 1847) C dL_law__40 (by decide) (by decide) (by decide) (by decide) (la_27 hJ C hX hL hi hn hk hr kk)
  · exact g_tsIn (pc := 40) (off := 1903) C dL_law__40 (by decide) (by decide) (by decide) (by decide) (la_28 hJ C hX hL hi hn hk hr kk)
  · exact g_tsIn (pc := 40) (off := 1959) C dL_law__40 (by decide) (by decide) (by decide) (by decide) (la_29 hJ C hX hL hi hn hk hr kk)
  · exact g_tsIn (pc := 40) (off := 2027) C dL_law__40 (by decide) (by decide) (by decide) (by decide) (la_30 hJ C hX hL hi hn hk hr kk)
  · exact g_tsIn (pc := 40) (off := 2083) C dL_law__40 (by decide) (by decide) (by decide) (by decide) (la_31 hJ C hX hL hi hn hk hr kk)
  · exact g_tsIn (pc := 40) (off := 2139) C dL_law__40 (by decide) (by decide) (by decide) (by decide) (la_32 hJ C hX hL hi hn hk hr kk)
  · exact g_tsIn (pc := 40) (off := 2195) C dL_law__40 (by decide) (by decide) (by decide) (by decide) (la_33 hJ C hX hL hi hn hk hr kk)
  · exact g_tsIn (pc := 40) (off := 2263) C dL_law__40 (by decide) (by decide) (by decide) (by decide) (la_34 hJ C hX hL hi hn hk hr kk)
  · exact g_tsIn (pc := 40) (off := 2331) C dL_law__40 (by decide) (by decide) (by decide) (by decide) (la_35 hJ C hX hL hi hn hk hr kk)
  · exact g_tsIn (pc := 40) (off := 2423) C dL_law__40 (by decide) (by decide) (by decide) (by decide) (la_36 hJ C hX hL hi hn hk hr kk)
  · exact g_tsIn (pc := 40) (off := 2541) C dL_law__40 (by decide) (by decide) (by decide) (by decide) (la_37 hJ C hX hL hi hn hk hr kk)
  · exact g_tsIn (pc := 40) (off := 2554) C dL_law__40 (by decide) (by decide) (by decide) (by decide) (la_38 hJ C hX hL hi hn hk hr kk)
  · exact g_tsIn (pc := 40) (off := 2567) C dL_law__40 (by decide) (by decide) (by decide) (by decide) (la_39 hJ C hX hL hi hn hk hr kk)
  · exact g_tsIn (pc := 40) (off := 2592) C dL_law__40 (by decide) (by decide) (by decide) (by decide) (la_40 hJ C hX hL hi hn hk hr kk)
  · have h1 : (nI q).toInt = (q : Int) := nI_toInt (by omega)
    refine g_tsOut (pc := 40) C dL_law__40 (Or.inr (by rw [h1]; omega)) (tgt := 2657) (by decide) (g_wid (n' := n + 20) (k' := k + 400) (by omega) (by omega) (kk _ (inv_mk hr)))
