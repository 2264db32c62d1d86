noncomputable def f_X9_stuff (s_gone : Nat → Int32) (f_order : Nat → Int32) (f_seam : Nat → Int32) (f_toCome : Nat → Int32) (f_places : Int32) (f_seams : Int32) (p_letters : Int32) (p_length : Nat → Int32) (p_words : Nat → Int32) : Option (Int32 × (Nat → Int32) × (Nat → Int32) × (Nat → Int32) × Int32 × Int32) := b5 (f_X5_find f_order f_seam f_toCome f_places f_seams s_gone p_letters p_length p_words) (fun c1 c2 c3 c4 c5 => some (c5, c1, c2, c3, c4, c5))
def rm_X9_stuff : Room := { frames := 4, cells := 0, slots := 0, locals := 99 }
set_option maxRecDepth 100000 in
set_option maxHeartbeats 4000000 in
theorem t_X9_stuff {J : Jt} {a0 : Nat → Nat} {a1 : Nat → Nat} {a2 : Nat → Nat} {a3 : Nat → Nat} {k_tape : Nat} {k_trial : Nat} {k_task : Nat} {k_season : Nat} {k_images : Nat} {k_row : Nat} {k_sparePlan : Nat} {k_rule : Nat} {k_spareRule : Nat} {k_notes : Nat} {k_spareNotes : Nat} {x_latest : Value} {x_imageMany : Int32} {x_refusedSteps : Int32} {x_missing : Int32} {x_misused : Int32} {s_year : Int32} {s_wet : Int32} {s_lost : Int32} {s_eaten : Int32} {s_tied : Int32} {s_ripeMany : Int32} {s_gone : Nat → Int32} {s_place : Nat → Int32} {s_heard : Nat → Int32} {s_many : Nat → Int32} {s_lying : Nat → Int32} {s_ripe : Nat → Int32} {f_order : Nat → Int32} {f_seam : Nat → Int32} {f_toCome : Nat → Int32} {f_places : Int32} {f_seams : Int32} {p_beds : Int32} {p_letters : Int32} {p_readers : Int32} {p_far : Nat → Int32} {p_drain : Nat → Int32} {p_length : Nat → Int32} {p_words : Nat → Int32} {p_home : Nat → Int32} {r : Int32} {o_f_order : Nat → Int32} {o_f_seam : Nat → Int32} {o_f_toCome : Nat → Int32} {o_f_places : Int32} {o_f_seams : Int32} (h : f_X9_stuff s_gone f_order f_seam f_toCome f_places f_seams p_letters p_length p_words = some (r, o_f_order, o_f_seam, o_f_toCome, o_f_places, o_f_seams)) : Mt J yX9_stuff cX9_stuff 1 (some .int) rm_X9_stuff [.ref (a0 0)] (cs_X9 (a0 0) k_tape (a1 0) k_trial k_task k_season (a2 0) k_images k_row (a3 0) k_sparePlan k_rule k_spareRule k_notes k_spareNotes x_latest x_imageMany x_refusedSteps x_missing x_misused ++ cs_X4 J.2.2.1 a1 s_year s_wet s_lost s_eaten s_tied s_ripeMany s_gone s_place s_heard s_many s_lying s_ripe ++ cs_X5 J.2.2.1 a2 f_order f_seam f_toCome f_places f_seams ++ cs_X2 J.2.2.1 a3 p_beds p_letters p_readers p_far p_drain p_length p_words p_home) (some (.int r)) (cs_X9 (a0 0) k_tape (a1 0) k_trial k_task k_season (a2 0) k_images k_row (a3 0) k_sparePlan k_rule k_spareRule k_notes k_spareNotes x_latest x_imageMany x_refusedSteps x_missing x_misused ++ cs_X4 J.2.2.1 a1 s_year s_wet s_lost s_eaten s_tied s_ripeMany s_gone s_place s_heard s_many s_lying s_ripe ++ cs_X5 J.2.2.1 a2 o_f_order o_f_seam o_f_toCome o_f_places o_f_seams ++ cs_X2 J.2.2.1 a3 p_beds p_letters p_readers p_far p_drain p_length p_words p_home) := by
  refine Mt_of (own := RX9) (by decide) rfl (Nat.le_of_ble_eq_true rfl) rfl (fun Z C E => ?_)
  unfold f_X9_stuff at h
  show G J Z 0 0 (cs_X9 (a0 0) k_tape (a1 0) k_trial k_task k_season (a2 0) k_images k_row (a3 0) k_sparePlan k_rule k_spareRule k_notes k_spareNotes x_latest x_imageMany x_refusedSteps x_missing x_misused ++ cs_X4 J.2.2.1 a1 s_year s_wet s_lost s_eaten s_tied s_ripeMany s_gone s_place s_heard s_many s_lying s_ripe ++ cs_X5 J.2.2.1 a2 f_order f_seam f_toCome f_places f_seams ++ cs_X2 J.2.2.1 a3 p_beds p_letters p_readers p_far p_drain p_length p_words p_home) 1 [(0, .ref (a0 0))] 0 []
  refine g_aload_n (pc := 0) C 0 rfl dX9_stuff_0 ?_
  refine g_get (pc := 1) C FOK_X9 0 rfl rfl 5 (by decide) kw_372 rfl dX9_stuff_1 ?_
  refine g_aload_n (pc := 4) C 0 rfl dX9_stuff_4 ?_
  refine g_get (pc := 5) C FOK_X9 0 rfl rfl 1 (by decide) kw_368 rfl dX9_stuff_5 ?_
  refine g_aload_n (pc := 8) C 0 rfl dX9_stuff_8 ?_
  refine g_get (pc := 9) C FOK_X9 0 rfl rfl 8 (by decide) kw_375 rfl dX9_stuff_9 ?_
  obtain ⟨c1, c2, c3, c4, c5, hc, h⟩ := b5_of h
  refine g_callV (pc := 12) C (w' := cs_X9 (a0 0) k_tape (a1 0) k_trial k_task k_season (a2 0) k_images k_row (a3 0) k_sparePlan k_rule k_spareRule k_notes k_spareNotes x_latest x_imageMany x_refusedSteps x_missing x_misused ++ cs_X4 J.2.2.1 a1 s_year s_wet s_lost s_eaten s_tied s_ripeMany s_gone s_place s_heard s_many s_lying s_ripe ++ cs_X5 J.2.2.1 a2 c1 c2 c3 c4 c5 ++ cs_X2 J.2.2.1 a3 p_beds p_letters p_readers p_far p_drain p_length p_words p_home) (As := [.ref (a1 0), .ref (a3 0)]) (st := []) (ci := 5) (q0 := 8) rfl rfl (t_X5_find (a0 := a2) (a1 := a1) (a2 := a3) (f_order := f_order) (f_seam := f_seam) (f_toCome := f_toCome) (f_places := f_places) (f_seams := f_seams) (s_year := s_year) (s_wet := s_wet) (s_lost := s_lost) (s_eaten := s_eaten) (s_tied := s_tied) (s_ripeMany := s_ripeMany) (s_gone := s_gone) (s_place := s_place) (s_heard := s_heard) (s_many := s_many) (s_lying := s_lying) (s_ripe := s_ripe) (p_beds := p_beds) (p_letters := p_letters) (p_readers := p_readers) (p_far := p_far) (p_drain := p_drain) (p_length := p_length) (p_words := p_words) (p_home := p_home) hc) (Sub.blk 4 [cs_X9 (a0 0) k_tape (a1 0) k_trial k_task k_season (a2 0) k_images k_row (a3 0) k_sparePlan k_rule k_spareRule k_notes k_spareNotes x_latest x_imageMany x_refusedSteps x_missing x_misused, cs_X4 J.2.2.1 a1 s_year s_wet s_lost s_eaten s_tied s_ripeMany s_gone s_place s_heard s_many s_lying s_ripe, cs_X5 J.2.2.1 a2 f_order f_seam f_toCome f_places f_seams, cs_X2 J.2.2.1 a3 p_beds p_letters p_readers p_far p_drain p_length p_words p_home] [cs_X9 (a0 0) k_tape (a1 0) k_trial k_task k_season (a2 0) k_images k_row (a3 0) k_sparePlan k_rule k_spareRule k_notes k_spareNotes x_latest x_imageMany x_refusedSteps x_missing x_misused, cs_X4 J.2.2.1 a1 s_year s_wet s_lost s_eaten s_tied s_ripeMany s_gone s_place s_heard s_many s_lying s_ripe, cs_X5 J.2.2.1 a2 c1 c2 c3 c4 c5, cs_X2 J.2.2.1 a3 p_beds p_letters p_readers p_far p_drain p_length p_words p_home] [0] [2, 1, 3] rfl (by simp only [List.flatten_cons, List.flatten_nil, List.append_nil, List.append_assoc]) (by simp only [List.flatten_cons, List.flatten_nil, List.append_nil, List.append_assoc]) rfl rfl rfl (by decide) (by simp only [List.map_cons, List.map_nil, List.getD_cons_zero, List.getD_cons_succ, List.flatten_cons, List.flatten_nil, List.append_nil, List.append_assoc]) (by simp only [List.map_cons, List.map_nil, List.getD_cons_zero, List.getD_cons_succ, List.flatten_cons, List.flatten_nil, List.append_nil, List.append_assoc])) kw_460 kw_461 kw_462 kw_91 hy_X5_find kw_463 rfl (Nat.le_of_ble_eq_true rfl) (Nat.le_of_ble_eq_true rfl) (Nat.le_of_ble_eq_true rfl) (Nat.le_of_ble_eq_true rfl) (Nat.le_of_ble_eq_true rfl) dX9_stuff_12 ?_
  refine g_aload_n (pc := 15) C 0 rfl dX9_stuff_15 ?_
  refine g_get (pc := 16) C FOK_X9 0 rfl rfl 5 (by decide) kw_372 rfl dX9_stuff_16 ?_
  refine g_get (pc := 19) C FOK_X5 8 rfl rfl 4 (by decide) kw_255 rfl dX9_stuff_19 ?_
  cases h
  exact g_iret C E dX9_stuff_22
noncomputable def f_X9_stuffed (x_misused : Int32) (s_gone : Nat → Int32) (f_order : Nat → Int32) (f_seam : Nat → Int32) (f_toCome : Nat → Int32) (f_places : Int32) (f_seams : Int32) (p_letters : Int32) (p_length : Nat → Int32) (p_words : Nat → Int32) (n1 : Int32) : Option (Nat × Int32 × Int32 × (Nat → Int32) × (Nat → Int32) × (Nat → Int32) × Int32 × Int32) := b2 (f_X9_needPlace x_misused n1) (fun e1 c2 => if e1 = 0 then b5 (f_X5_find f_order f_seam f_toCome f_places f_seams s_gone p_letters p_length p_words) (fun c3 c4 c5 c6 c7 => if c6 ≤ n1 then some (0, (-1), c2, c3, c4, c5, c6, c7) else if 6 ≤ n1 then some (0, (-1), c2, c3, c4, c5, c6, c7) else if ixb n1 6 then some (0, c3 n1.toNatClampNeg, c2, c3, c4, c5, c6, c7) else none) else some (e1, 0, c2, f_order, f_seam, f_toCome, f_places, f_seams))
def rm_X9_stuffed : Room := { frames := 10, cells := 1, slots := 6, locals := 141 }
set_option maxRecDepth 100000 in
set_option maxHeartbeats 4000000 in
theorem t_X9_stuffed {J : Jt} {a0 : Nat → Nat} {a1 : Nat → Nat} {a2 : Nat → Nat} {a3 : Nat → Nat} {k_tape : Nat} {k_trial : Nat} {k_task : Nat} {k_season : Nat} {k_images : Nat} {k_row : Nat} {k_sparePlan : Nat} {k_rule : Nat} {k_spareRule : Nat} {k_notes : Nat} {k_spareNotes : Nat} {x_latest : Value} {x_imageMany : Int32} {x_refusedSteps : Int32} {x_missing : Int32} {x_misused : Int32} {s_year : Int32} {s_wet : Int32} {s_lost : Int32} {s_eaten : Int32} {s_tied : Int32} {s_ripeMany : Int32} {s_gone : Nat → Int32} {s_place : Nat → Int32} {s_heard : Nat → Int32} {s_many : Nat → Int32} {s_lying : Nat → Int32} {s_ripe : Nat → Int32} {f_order : Nat → Int32} {f_seam : Nat → Int32} {f_toCome : Nat → Int32} {f_places : Int32} {f_seams : Int32} {p_beds : Int32} {p_letters : Int32} {p_readers : Int32} {p_far : Nat → Int32} {p_drain : Nat → Int32} {p_length : Nat → Int32} {p_words : Nat → Int32} {p_home : Nat → Int32} {n1 : Int32} {ex : Nat} {r : Int32} {o_x_misused : Int32} {o_f_order : Nat → Int32} {o_f_seam : Nat → Int32} {o_f_toCome : Nat → Int32} {o_f_places : Int32} {o_f_seams : Int32} (hJ : J.1.stackTraces = false) (h : f_X9_stuffed x_misused s_gone f_order f_seam f_toCome f_places f_seams p_letters p_length p_words n1 = some (ex, r, o_x_misused, o_f_order, o_f_seam, o_f_toCome, o_f_places, o_f_seams)) : MtX J yX9_stuffed cX9_stuffed 2 (some .int) rm_X9_stuffed [.ref (a0 0), .int n1] (cs_X9 (a0 0) k_tape (a1 0) k_trial k_task k_season (a2 0) k_images k_row (a3 0) k_sparePlan k_rule k_spareRule k_notes k_spareNotes x_latest x_imageMany x_refusedSteps x_missing x_misused ++ cs_X4 J.2.2.1 a1 s_year s_wet s_lost s_eaten s_tied s_ripeMany s_gone s_place s_heard s_many s_lying s_ripe ++ cs_X5 J.2.2.1 a2 f_order f_seam f_toCome f_places f_seams ++ cs_X2 J.2.2.1 a3 p_beds p_letters p_readers p_far p_drain p_length p_words p_home) ex (some (.int r)) (fun _ : Unit => cs_X9 (a0 0) k_tape (a1 0) k_trial k_task k_season (a2 0) k_images k_row (a3 0) k_sparePlan k_rule k_spareRule k_notes k_spareNotes x_latest x_imageMany x_refusedSteps x_missing o_x_misused ++ cs_X4 J.2.2.1 a1 s_year s_wet s_lost s_eaten s_tied s_ripeMany s_gone s_place s_heard s_many s_lying s_ripe ++ cs_X5 J.2.2.1 a2 o_f_order o_f_seam o_f_toCome o_f_places o_f_seams ++ cs_X2 J.2.2.1 a3 p_beds p_letters p_readers p_far p_drain p_length p_words p_home) := by
  refine MtX_of (own := RX9) (by decide) rfl (Nat.le_of_ble_eq_true rfl) rfl (fun Z C E => ?_)
  unfold f_X9_stuffed at h
  show G J Z 0 0 (cs_X9 (a0 0) k_tape (a1 0) k_trial k_task k_season (a2 0) k_images k_row (a3 0) k_sparePlan k_rule k_spareRule k_notes k_spareNotes x_latest x_imageMany x_refusedSteps x_missing x_misused ++ cs_X4 J.2.2.1 a1 s_year s_wet s_lost s_eaten s_tied s_ripeMany s_gone s_place s_heard s_many s_lying s_ripe ++ cs_X5 J.2.2.1 a2 f_order f_seam f_toCome f_places f_seams ++ cs_X2 J.2.2.1 a3 p_beds p_letters p_readers p_far p_drain p_length p_words p_home) 2 [(0, .ref (a0 0)), (1, .int n1)] 0 []
  refine g_aload_n (pc := 0) C 0 rfl dX9_stuffed_0 ?_
  refine g_iload_n (pc := 1) C 1 rfl dX9_stuffed_1 ?_
  obtain ⟨e1, c2, hc, h⟩ := b2_of h
  refine g_xcallU (pc := 2) C (w' := cs_X9 (a0 0) k_tape (a1 0) k_trial k_task k_season (a2 0) k_images k_row (a3 0) k_sparePlan k_rule k_spareRule k_notes k_spareNotes x_latest x_imageMany x_refusedSteps x_missing c2 ++ cs_X4 J.2.2.1 a1 s_year s_wet s_lost s_eaten s_tied s_ripeMany s_gone s_place s_heard s_many s_lying s_ripe ++ cs_X5 J.2.2.1 a2 f_order f_seam f_toCome f_places f_seams ++ cs_X2 J.2.2.1 a3 p_beds p_letters p_readers p_far p_drain p_length p_words p_home) (As := [.int n1]) (st := []) (ci := 9) (q0 := 0) rfl rfl (t_X9_needPlace (k_tape := k_tape) (k_now := (a1 0)) (k_trial := k_trial) (k_task := k_task) (k_season := k_season) (k_stuffing := (a2 0)) (k_images := k_images) (k_row := k_row) (k_plan := (a3 0)) (k_sparePlan := k_sparePlan) (k_rule := k_rule) (k_spareRule := k_spareRule) (k_notes := k_notes) (k_spareNotes := k_spareNotes) (a0 := a0) (x_latest := x_latest) (x_imageMany := x_imageMany) (x_refusedSteps := x_refusedSteps) (x_missing := x_missing) (x_misused := x_misused) hJ hc) (Sub.blk 4 [cs_X9 (a0 0) k_tape (a1 0) k_trial k_task k_season (a2 0) k_images k_row (a3 0) k_sparePlan k_rule k_spareRule k_notes k_spareNotes x_latest x_imageMany x_refusedSteps x_missing x_misused, cs_X4 J.2.2.1 a1 s_year s_wet s_lost s_eaten s_tied s_ripeMany s_gone s_place s_heard s_many s_lying s_ripe, cs_X5 J.2.2.1 a2 f_order f_seam f_toCome f_places f_seams, cs_X2 J.2.2.1 a3 p_beds p_letters p_readers p_far p_drain p_length p_words p_home] [cs_X9 (a0 0) k_tape (a1 0) k_trial k_task k_season (a2 0) k_images k_row (a3 0) k_sparePlan k_rule k_spareRule k_notes k_spareNotes x_latest x_imageMany x_refusedSteps x_missing c2, cs_X4 J.2.2.1 a1 s_year s_wet s_lost s_eaten s_tied s_ripeMany s_gone s_place s_heard s_many s_lying s_ripe, cs_X5 J.2.2.1 a2 f_order f_seam f_toCome f_places f_seams, cs_X2 J.2.2.1 a3 p_beds p_letters p_readers p_far p_drain p_length p_words p_home] [1, 2, 3] [0] rfl (by simp only [List.flatten_cons, List.flatten_nil, List.append_nil, List.append_assoc]) (by simp only [List.flatten_cons, List.flatten_nil, List.append_nil, List.append_assoc]) rfl rfl rfl (by decide) (by simp only [List.map_cons, List.map_nil, List.getD_cons_zero, List.getD_cons_succ, List.flatten_cons, List.flatten_nil, List.append_nil, List.append_assoc]) (by simp only [List.map_cons, List.map_nil, List.getD_cons_zero, List.getD_cons_succ, List.flatten_cons, List.flatten_nil, List.append_nil, List.append_assoc])) kw_1006 kw_1008 kw_13 kw_86 hy_X9_needPlace kw_1009 rfl (Nat.le_of_ble_eq_true rfl) (Nat.le_of_ble_eq_true rfl) (Nat.le_of_ble_eq_true rfl) (Nat.le_of_ble_eq_true rfl) (Nat.le_of_ble_eq_true rfl) dX9_stuffed_2 (fun he => ?_) (fun he => ?_)
  · subst he
    rw [if_pos rfl] at h
    refine g_wid (n' := 1) (k' := 6) (Nat.le_of_ble_eq_true rfl) (Nat.le_of_ble_eq_true rfl) ?_
    refine g_aload_n (pc := 5) C 0 rfl dX9_stuffed_5 ?_
    refine g_get (pc := 6) C FOK_X9 0 rfl rfl 5 (by decide) kw_372 rfl dX9_stuffed_6 ?_
    refine g_aload_n (pc := 9) C 0 rfl dX9_stuffed_9 ?_
    refine g_get (pc := 10) C FOK_X9 0 rfl rfl 1 (by decide) kw_368 rfl dX9_stuffed_10 ?_
    refine g_aload_n (pc := 13) C 0 rfl dX9_stuffed_13 ?_
    refine g_get (pc := 14) C FOK_X9 0 rfl rfl 8 (by decide) kw_375 rfl dX9_stuffed_14 ?_
    obtain ⟨c3, c4, c5, c6, c7, hc, h⟩ := b5_of h
    refine g_callV (pc := 17) C (w' := cs_X9 (a0 0) k_tape (a1 0) k_trial k_task k_season (a2 0) k_images k_row (a3 0) k_sparePlan k_rule k_spareRule k_notes k_spareNotes x_latest x_imageMany x_refusedSteps x_missing c2 ++ cs_X4 J.2.2.1 a1 s_year s_wet s_lost s_eaten s_tied s_ripeMany s_gone s_place s_heard s_many s_lying s_ripe ++ cs_X5 J.2.2.1 a2 c3 c4 c5 c6 c7 ++ cs_X2 J.2.2.1 a3 p_beds p_letters p_readers p_far p_drain p_length p_words p_home) (As := [.ref (a1 0), .ref (a3 0)]) (st := []) (ci := 5) (q0 := 8) rfl rfl (t_X5_find (a0 := a2) (a1 := a1) (a2 := a3) (f_order := f_order) (f_seam := f_seam) (f_toCome := f_toCome) (f_places := f_places) (f_seams := f_seams) (s_year := s_year) (s_wet := s_wet) (s_lost := s_lost) (s_eaten := s_eaten) (s_tied := s_tied) (s_ripeMany := s_ripeMany) (s_gone := s_gone) (s_place := s_place) (s_heard := s_heard) (s_many := s_many) (s_lying := s_lying) (s_ripe := s_ripe) (p_beds := p_beds) (p_letters := p_letters) (p_readers := p_readers) (p_far := p_far) (p_drain := p_drain) (p_length := p_length) (p_words := p_words) (p_home := p_home) hc) (Sub.blk 4 [cs_X9 (a0 0) k_tape (a1 0) k_trial k_task k_season (a2 0) k_images k_row (a3 0) k_sparePlan k_rule k_spareRule k_notes k_spareNotes x_latest x_imageMany x_refusedSteps x_missing c2, cs_X4 J.2.2.1 a1 s_year s_wet s_lost s_eaten s_tied s_ripeMany s_gone s_place s_heard s_many s_lying s_ripe, cs_X5 J.2.2.1 a2 f_order f_seam f_toCome f_places f_seams, cs_X2 J.2.2.1 a3 p_beds p_letters p_readers p_far p_drain p_length p_words p_home] [cs_X9 (a0 0) k_tape (a1 0) k_trial k_task k_season (a2 0) k_images k_row (a3 0) k_sparePlan k_rule k_spareRule k_notes k_spareNotes x_latest x_imageMany x_refusedSteps x_missing c2, cs_X4 J.2.2.1 a1 s_year s_wet s_lost s_eaten s_tied s_ripeMany s_gone s_place s_heard s_many s_lying s_ripe, cs_X5 J.2.2.1 a2 c3 c4 c5 c6 c7, cs_X2 J.2.2.1 a3 p_beds p_letters p_readers p_far p_drain p_length p_words p_home] [0] [2, 1, 3] rfl (by simp only [List.flatten_cons, List.flatten_nil, List.append_nil, List.append_assoc]) (by simp only [List.flatten_cons, List.flatten_nil, List.append_nil, List.append_assoc]) rfl rfl rfl (by decide) (by simp only [List.map_cons, List.map_nil, List.getD_cons_zero, List.getD_cons_succ, List.flatten_cons, List.flatten_nil, List.append_nil, List.append_assoc]) (by simp only [List.map_cons, List.map_nil, List.getD_cons_zero, List.getD_cons_succ, List.flatten_cons, List.flatten_nil, List.append_nil, List.append_assoc])) kw_460 kw_461 kw_462 kw_91 hy_X5_find kw_463 rfl (Nat.le_of_ble_eq_true rfl) (Nat.le_of_ble_eq_true rfl) (Nat.le_of_ble_eq_true rfl) (Nat.le_of_ble_eq_true rfl) (Nat.le_of_ble_eq_true rfl) dX9_stuffed_17 ?_
    refine g_iload_n (pc := 20) C 1 rfl dX9_stuffed_20 ?_
    refine g_aload_n (pc := 21) C 0 rfl dX9_stuffed_21 ?_
    refine g_get (pc := 22) C FOK_X9 0 rfl rfl 5 (by decide) kw_372 rfl dX9_stuffed_22 ?_
    refine g_get (pc := 25) C FOK_X5 8 rfl rfl 3 (by decide) kw_253 rfl dX9_stuffed_25 ?_
    refine g_icmp_ge (pc := 28) C (tgt := 49) dX9_stuffed_28 rfl h (fun h => ?_) (fun h => ?_)
    · refine g_iconst (pc := 49) C dX9_stuffed_49 ci_m1 ?_
      cases h
      exact g_iretX C E () rfl dX9_stuffed_50
    · refine g_iload_n (pc := 31) C 1 rfl dX9_stuffed_31 ?_
      refine g_bipush (pc := 32) C dX9_stuffed_32 cb_6 ?_
      refine g_icmp_ge (pc := 34) C (tgt := 49) dX9_stuffed_34 rfl h (fun h => ?_) (fun h => ?_)
      · refine g_iconst (pc := 49) C dX9_stuffed_49 ci_m1 ?_
        cases h
        exact g_iretX C E () rfl dX9_stuffed_50
      · refine g_aload_n (pc := 37) C 0 rfl dX9_stuffed_37 ?_
        refine g_get (pc := 38) C FOK_X9 0 rfl rfl 5 (by decide) kw_372 rfl dX9_stuffed_38 ?_
        refine g_get (pc := 41) C FOK_X5 8 rfl rfl 0 (by decide) kw_249 rfl dX9_stuffed_41 ?_
        refine g_iload_n (pc := 44) C 1 rfl dX9_stuffed_44 ?_
        obtain ⟨hi, h⟩ := ix_of h
        refine g_iald (pc := 45) C 9 rfl hi dX9_stuffed_45 ?_
        refine g_goto (pc := 46) C (tgt := 50) dX9_stuffed_46 rfl ?_
        cases h
        exact g_iretX C E () rfl dX9_stuffed_50
  · rw [if_neg he] at h
    cases h
    exact gt_out C he E (Nat.le_of_ble_eq_true rfl) (Nat.le_of_ble_eq_true rfl) () rfl
noncomputable def f_J6_bitCount_0f7a4  (n1 : Int32) : Option (Int32) := some ((((((((n1 - (((n1.toUInt32 >>> ((1 : Int32).toUInt32 &&& Int32.toUInt32 31)).toInt32) &&& 1431655765)) &&& 858993459) + ((((n1 - (((n1.toUInt32 >>> ((1 : Int32).toUInt32 &&& Int32.toUInt32 31)).toInt32) &&& 1431655765)).toUInt32 >>> ((2 : Int32).toUInt32 &&& Int32.toUInt32 31)).toInt32) &&& 858993459)) + (((((n1 - (((n1.toUInt32 >>> ((1 : Int32).toUInt32 &&& Int32.toUInt32 31)).toInt32) &&& 1431655765)) &&& 858993459) + ((((n1 - (((n1.toUInt32 >>> ((1 : Int32).toUInt32 &&& Int32.toUInt32 31)).toInt32) &&& 1431655765)).toUInt32 >>> ((2 : Int32).toUInt32 &&& Int32.toUInt32 31)).toInt32) &&& 858993459)).toUInt32 >>> ((4 : Int32).toUInt32 &&& Int32.toUInt32 31)).toInt32)) &&& 252645135) + (((((((n1 - (((n1.toUInt32 >>> ((1 : Int32).toUInt32 &&& Int32.toUInt32 31)).toInt32) &&& 1431655765)) &&& 858993459) + ((((n1 - (((n1.toUInt32 >>> ((1 : Int32).toUInt32 &&& Int32.toUInt32 31)).toInt32) &&& 1431655765)).toUInt32 >>> ((2 : Int32).toUInt32 &&& Int32.toUInt32 31)).toInt32) &&& 858993459)) + (((((n1 - (((n1.toUInt32 >>> ((1 : Int32).toUInt32 &&& Int32.toUInt32 31)).toInt32) &&& 1431655765)) &&& 858993459) + ((((n1 - (((n1.toUInt32 >>> ((1 : Int32).toUInt32 &&& Int32.toUInt32 31)).toInt32) &&& 1431655765)).toUInt32 >>> ((2 : Int32).toUInt32 &&& Int32.toUInt32 31)).toInt32) &&& 858993459)).toUInt32 >>> ((4 : Int32).toUInt32 &&& Int32.toUInt32 31)).toInt32)) &&& 252645135).toUInt32 >>> ((8 : Int32).toUInt32 &&& Int32.toUInt32 31)).toInt32)) + ((((((((n1 - (((n1.toUInt32 >>> ((1 : Int32).toUInt32 &&& Int32.toUInt32 31)).toInt32) &&& 1431655765)) &&& 858993459) + ((((n1 - (((n1.toUInt32 >>> ((1 : Int32).toUInt32 &&& Int32.toUInt32 31)).toInt32) &&& 1431655765)).toUInt32 >>> ((2 : Int32).toUInt32 &&& Int32.toUInt32 31)).toInt32) &&& 858993459)) + (((((n1 - (((n1.toUInt32 >>> ((1 : Int32).toUInt32 &&& Int32.toUInt32 31)).toInt32) &&& 1431655765)) &&& 858993459) + ((((n1 - (((n1.toUInt32 >>> ((1 : Int32).toUInt32 &&& Int32.toUInt32 31)).toInt32) &&& 1431655765)).toUInt32 >>> ((2 : Int32).toUInt32 &&& Int32.toUInt32 31)).toInt32) &&& 858993459)).toUInt32 >>> ((4 : Int32).toUInt32 &&& Int32.toUInt32 31)).toInt32)) &&& 252645135) + (((((((n1 - (((n1.toUInt32 >>> ((1 : Int32).toUInt32 &&& Int32.toUInt32 31)).toInt32) &&& 1431655765)) &&& 858993459) + ((((n1 - (((n1.toUInt32 >>> ((1 : Int32).toUInt32 &&& Int32.toUInt32 31)).toInt32) &&& 1431655765)).toUInt32 >>> ((2 : Int32).toUInt32 &&& Int32.toUInt32 31)).toInt32) &&& 858993459)) + (((((n1 - (((n1.toUInt32 >>> ((1 : Int32).toUInt32 &&& Int32.toUInt32 31)).toInt32) &&& 1431655765)) &&& 858993459) + ((((n1 - (((n1.toUInt32 >>> ((1 : Int32).toUInt32 &&& Int32.toUInt32 31)).toInt32) &&& 1431655765)).toUInt32 >>> ((2 : Int32).toUInt32 &&& Int32.toUInt32 31)).toInt32) &&& 858993459)).toUInt32 >>> ((4 : Int32).toUInt32 &&& Int32.toUInt32 31)).toInt32)) &&& 252645135).toUInt32 >>> ((8 : Int32).toUInt32 &&& Int32.toUInt32 31)).toInt32)).toUInt32 >>> ((16 : Int32).toUInt32 &&& Int32.toUInt32 31)).toInt32)) &&& 63)
def rm_J6_bitCount_0f7a4 : Room := { frames := 0, cells := 0, slots := 0, locals := 0 }
set_option maxRecDepth 100000 in
set_option maxHeartbeats 4000000 in
theorem t_J6_bitCount_0f7a4 {J : Jt}  {n1 : Int32} {r : Int32} (h : f_J6_bitCount_0f7a4 n1 = some r) : Mt J yJ6_bitCount_0f7a4 cJ6_bitCount_0f7a4 1 (some .int) rm_J6_bitCount_0f7a4 [.int n1] ([]) (some (.int r)) ([]) := by
  refine Mt_of (own := RJ6) (by decide) rfl (Nat.le_of_ble_eq_true rfl) rfl (fun Z C E => ?_)
  unfold f_J6_bitCount_0f7a4 at h
  show G J Z 0 0 ([]) 1 [(0, .int n1)] 0 []
  refine g_iload_n (pc := 0) C 0 rfl dJ6_bitCount_0f7a4_0 ?_
  refine g_iload_n (pc := 1) C 0 rfl dJ6_bitCount_0f7a4_1 ?_
  refine g_iconst (pc := 2) C dJ6_bitCount_0f7a4_2 ci_1 ?_
  refine g_iushr (pc := 3) C dJ6_bitCount_0f7a4_3 ?_
  refine g_ldcw (pc := 4) C dJ6_bitCount_0f7a4_4 kw_1080 ?_
  refine g_iand (pc := 7) C dJ6_bitCount_0f7a4_7 ?_
  refine g_isub (pc := 8) C dJ6_bitCount_0f7a4_8 ?_
  refine g_istore_n (pc := 9) C [(0, .int (n1 - (((n1.toUInt32 >>> ((1 : Int32).toUInt32 &&& Int32.toUInt32 31)).toInt32) &&& 1431655765)))] dJ6_bitCount_0f7a4_9 rfl (by decide) rfl ?_
  refine g_iload_n (pc := 10) C 0 rfl dJ6_bitCount_0f7a4_10 ?_
  refine g_ldcw (pc := 11) C dJ6_bitCount_0f7a4_11 kw_1081 ?_
  refine g_iand (pc := 14) C dJ6_bitCount_0f7a4_14 ?_
  refine g_iload_n (pc := 15) C 0 rfl dJ6_bitCount_0f7a4_15 ?_
  refine g_iconst (pc := 16) C dJ6_bitCount_0f7a4_16 ci_2 ?_
  refine g_iushr (pc := 17) C dJ6_bitCount_0f7a4_17 ?_
  refine g_ldcw (pc := 18) C dJ6_bitCount_0f7a4_18 kw_1081 ?_
  refine g_iand (pc := 21) C dJ6_bitCount_0f7a4_21 ?_
  refine g_iadd (pc := 22) C dJ6_bitCount_0f7a4_22 ?_
  refine g_istore_n (pc := 23) C [(0, .int (((n1 - (((n1.toUInt32 >>> ((1 : Int32).toUInt32 &&& Int32.toUInt32 31)).toInt32) &&& 1431655765)) &&& 858993459) + ((((n1 - (((n1.toUInt32 >>> ((1 : Int32).toUInt32 &&& Int32.toUInt32 31)).toInt32) &&& 1431655765)).toUInt32 >>> ((2 : Int32).toUInt32 &&& Int32.toUInt32 31)).toInt32) &&& 858993459)))] dJ6_bitCount_0f7a4_23 rfl (by decide) rfl ?_
  refine g_iload_n (pc := 24) C 0 rfl dJ6_bitCount_0f7a4_24 ?_
  refine g_iload_n (pc := 25) C 0 rfl dJ6_bitCount_0f7a4_25 ?_
  refine g_iconst (pc := 26) C dJ6_bitCount_0f7a4_26 ci_4 ?_
  refine g_iushr (pc := 27) C dJ6_bitCount_0f7a4_27 ?_
  refine g_iadd (pc := 28) C dJ6_bitCount_0f7a4_28 ?_
  refine g_ldcw (pc := 29) C dJ6_bitCount_0f7a4_29 kw_1082 ?_
  refine g_iand (pc := 32) C dJ6_bitCount_0f7a4_32 ?_
  refine g_istore_n (pc := 33) C [(0, .int (((((n1 - (((n1.toUInt32 >>> ((1 : Int32).toUInt32 &&& Int32.toUInt32 31)).toInt32) &&& 1431655765)) &&& 858993459) + ((((n1 - (((n1.toUInt32 >>> ((1 : Int32).toUInt32 &&& Int32.toUInt32 31)).toInt32) &&& 1431655765)).toUInt32 >>> ((2 : Int32).toUInt32 &&& Int32.toUInt32 31)).toInt32) &&& 858993459)) + (((((n1 - (((n1.toUInt32 >>> ((1 : Int32).toUInt32 &&& Int32.toUInt32 31)).toInt32) &&& 1431655765)) &&& 858993459) + ((((n1 - (((n1.toUInt32 >>> ((1 : Int32).toUInt32 &&& Int32.toUInt32 31)).toInt32) &&& 1431655765)).toUInt32 >>> ((2 : Int32).toUInt32 &&& Int32.toUInt32 31)).toInt32) &&& 858993459)).toUInt32 >>> ((4 : Int32).toUInt32 &&& Int32.toUInt32 31)).toInt32)) &&& 252645135))] dJ6_bitCount_0f7a4_33 rfl (by decide) rfl ?_
  refine g_iload_n (pc := 34) C 0 rfl dJ6_bitCount_0f7a4_34 ?_
  refine g_iload_n (pc := 35) C 0 rfl dJ6_bitCount_0f7a4_35 ?_
  refine g_bipush (pc := 36) C dJ6_bitCount_0f7a4_36 cb_8 ?_
  refine g_iushr (pc := 38) C dJ6_bitCount_0f7a4_38 ?_
  refine g_iadd (pc := 39) C dJ6_bitCount_0f7a4_39 ?_
  refine g_istore_n (pc := 40) C [(0, .int ((((((n1 - (((n1.toUInt32 >>> ((1 : Int32).toUInt32 &&& Int32.toUInt32 31)).toInt32) &&& 1431655765)) &&& 858993459) + ((((n1 - (((n1.toUInt32 >>> ((1 : Int32).toUInt32 &&& Int32.toUInt32 31)).toInt32) &&& 1431655765)).toUInt32 >>> ((2 : Int32).toUInt32 &&& Int32.toUInt32 31)).toInt32) &&& 858993459)) + (((((n1 - (((n1.toUInt32 >>> ((1 : Int32).toUInt32 &&& Int32.toUInt32 31)).toInt32) &&& 1431655765)) &&& 858993459) + ((((n1 - (((n1.toUInt32 >>> ((1 : Int32).toUInt32 &&& Int32.toUInt32 31)).toInt32) &&& 1431655765)).toUInt32 >>> ((2 : Int32).toUInt32 &&& Int32.toUInt32 31)).toInt32) &&& 858993459)).toUInt32 >>> ((4 : Int32).toUInt32 &&& Int32.toUInt32 31)).toInt32)) &&& 252645135) + (((((((n1 - (((n1.toUInt32 >>> ((1 : Int32).toUInt32 &&& Int32.toUInt32 31)).toInt32) &&& 1431655765)) &&& 858993459) + ((((n1 - (((n1.toUInt32 >>> ((1 : Int32).toUInt32 &&& Int32.toUInt32 31)).toInt32) &&& 1431655765)).toUInt32 >>> ((2 : Int32).toUInt32 &&& Int32.toUInt32 31)).toInt32) &&& 858993459)) + (((((n1 - (((n1.toUInt32 >>> ((1 : Int32).toUInt32 &&& Int32.toUInt32 31)).toInt32) &&& 1431655765)) &&& 858993459) + ((((n1 - (((n1.toUInt32 >>> ((1 : Int32).toUInt32 &&& Int32.toUInt32 31)).toInt32) &&& 1431655765)).toUInt32 >>> ((2 : Int32).toUInt32 &&& Int32.toUInt32 31)).toInt32) &&& 858993459)).toUInt32 >>> ((4 : Int32).toUInt32 &&& Int32.toUInt32 31)).toInt32)) &&& 252645135).toUInt32 >>> ((8 : Int32).toUInt32 &&& Int32.toUInt32 31)).toInt32)))] dJ6_bitCount_0f7a4_40 rfl (by decide) rfl ?_
  refine g_iload_n (pc := 41) C 0 rfl dJ6_bitCount_0f7a4_41 ?_
  refine g_iload_n (pc := 42) C 0 rfl dJ6_bitCount_0f7a4_42 ?_
  refine g_bipush (pc := 43) C dJ6_bitCount_0f7a4_43 cb_16 ?_
  refine g_iushr (pc := 45) C dJ6_bitCount_0f7a4_45 ?_
  refine g_iadd (pc := 46) C dJ6_bitCount_0f7a4_46 ?_
  refine g_istore_n (pc := 47) C [(0, .int (((((((n1 - (((n1.toUInt32 >>> ((1 : Int32).toUInt32 &&& Int32.toUInt32 31)).toInt32) &&& 1431655765)) &&& 858993459) + ((((n1 - (((n1.toUInt32 >>> ((1 : Int32).toUInt32 &&& Int32.toUInt32 31)).toInt32) &&& 1431655765)).toUInt32 >>> ((2 : Int32).toUInt32 &&& Int32.toUInt32 31)).toInt32) &&& 858993459)) + (((((n1 - (((n1.toUInt32 >>> ((1 : Int32).toUInt32 &&& Int32.toUInt32 31)).toInt32) &&& 1431655765)) &&& 858993459) + ((((n1 - (((n1.toUInt32 >>> ((1 : Int32).toUInt32 &&& Int32.toUInt32 31)).toInt32) &&& 1431655765)).toUInt32 >>> ((2 : Int32).toUInt32 &&& Int32.toUInt32 31)).toInt32) &&& 858993459)).toUInt32 >>> ((4 : Int32).toUInt32 &&& Int32.toUInt32 31)).toInt32)) &&& 252645135) + (((((((n1 - (((n1.toUInt32 >>> ((1 : Int32).toUInt32 &&& Int32.toUInt32 31)).toInt32) &&& 1431655765)) &&& 858993459) + ((((n1 - (((n1.toUInt32 >>> ((1 : Int32).toUInt32 &&& Int32.toUInt32 31)).toInt32) &&& 1431655765)).toUInt32 >>> ((2 : Int32).toUInt32 &&& Int32.toUInt32 31)).toInt32) &&& 858993459)) + (((((n1 - (((n1.toUInt32 >>> ((1 : Int32).toUInt32 &&& Int32.toUInt32 31)).toInt32) &&& 1431655765)) &&& 858993459) + ((((n1 - (((n1.toUInt32 >>> ((1 : Int32).toUInt32 &&& Int32.toUInt32 31)).toInt32) &&& 1431655765)).toUInt32 >>> ((2 : Int32).toUInt32 &&& Int32.toUInt32 31)).toInt32) &&& 858993459)).toUInt32 >>> ((4 : Int32).toUInt32 &&& Int32.toUInt32 31)).toInt32)) &&& 252645135).toUInt32 >>> ((8 : Int32).toUInt32 &&& Int32.toUInt32 31)).toInt32)) + ((((((((n1 - (((n1.toUInt32 >>> ((1 : Int32).toUInt32 &&& Int32.toUInt32 31)).toInt32) &&& 1431655765)) &&& 858993459) + ((((n1 - (((n1.toUInt32 >>> ((1 : Int32).toUInt32 &&& Int32.toUInt32 31)).toInt32) &&& 1431655765)).toUInt32 >>> ((2 : Int32).toUInt32 &&& Int32.toUInt32 31)).toInt32) &&& 858993459)) + (((((n1 - (((n1.toUInt32 >>> ((1 : Int32).toUInt32 &&& Int32.toUInt32 31)).toInt32) &&& 1431655765)) &&& 858993459) + ((((n1 - (((n1.toUInt32 >>> ((1 : Int32).toUInt32 &&& Int32.toUInt32 31)).toInt32) &&& 1431655765)).toUInt32 >>> ((2 : Int32).toUInt32 &&& Int32.toUInt32 31)).toInt32) &&& 858993459)).toUInt32 >>> ((4 : Int32).toUInt32 &&& Int32.toUInt32 31)).toInt32)) &&& 252645135) + (((((((n1 - (((n1.toUInt32 >>> ((1 : Int32).toUInt32 &&& Int32.toUInt32 31)).toInt32) &&& 1431655765)) &&& 858993459) + ((((n1 - (((n1.toUInt32 >>> ((1 : Int32).toUInt32 &&& Int32.toUInt32 31)).toInt32) &&& 1431655765)).toUInt32 >>> ((2 : Int32).toUInt32 &&& Int32.toUInt32 31)).toInt32) &&& 858993459)) + (((((n1 - (((n1.toUInt32 >>> ((1 : Int32).toUInt32 &&& Int32.toUInt32 31)).toInt32) &&& 1431655765)) &&& 858993459) + ((((n1 - (((n1.toUInt32 >>> ((1 : Int32).toUInt32 &&& Int32.toUInt32 31)).toInt32) &&& 1431655765)).toUInt32 >>> ((2 : Int32).toUInt32 &&& Int32.toUInt32 31)).toInt32) &&& 858993459)).toUInt32 >>> ((4 : Int32).toUInt32 &&& Int32.toUInt32 31)).toInt32)) &&& 252645135).toUInt32 >>> ((8 : Int32).toUInt32 &&& Int32.toUInt32 31)).toInt32)).toUInt32 >>> ((16 : Int32).toUInt32 &&& Int32.toUInt32 31)).toInt32)))] dJ6_bitCount_0f7a4_47 rfl (by decide) rfl ?_
  refine g_iload_n (pc := 48) C 0 rfl dJ6_bitCount_0f7a4_48 ?_
  refine g_bipush (pc := 49) C dJ6_bitCount_0f7a4_49 cb_63 ?_
  refine g_iand (pc := 51) C dJ6_bitCount_0f7a4_51 ?_
  cases h
  exact g_iret C E dJ6_bitCount_0f7a4_52
noncomputable def f_X9_fewestBeds_61  (s_many : Nat → Int32) (s_lying : Nat → Int32) (r_n : Nat) (p_beds : Int32) (n1 : Int32) (k41 : Int32 → Int32 → Int32 → (Nat → Int32) → Option (Int32 × (Nat → Int32))) : Nat → Int32 → Int32 → Int32 → Int32 → Int32 → (Nat → Int32) → Option (Int32 × (Nat → Int32))
  | 0, _, _, _, _, _, _ => none
  | n + 1, x2, x3, x4, x5, x6, r_v => if p_beds ≤ x6 then if x5 = 0 then b1 (f_J6_bitCount_0f7a4 x4) (fun v1 => if x3 ≤ v1 then k41 x2 x3 (x4 + 1) r_v else b1 (f_J6_bitCount_0f7a4 x4) (fun v2 => k41 x4 v2 (x4 + 1) r_v)) else k41 x2 x3 (x4 + 1) r_v else b1 (f_X9_has x4 x6) (fun v3 => if v3 = 0 then f_X9_fewestBeds_61 s_many s_lying r_n p_beds n1 k41 n x2 x3 x4 (x5 &&& (-1)) (x6 + 1) r_v else if ixb x6 r_n then f_X9_fewestBeds_61 s_many s_lying r_n p_beds n1 k41 n x2 x3 x4 (x5 &&& ((r_v x6.toNatClampNeg) ^^^ (-1))) (x6 + 1) r_v else none)
noncomputable def f_X9_fewestBeds_41  (s_many : Nat → Int32) (s_lying : Nat → Int32) (r_n : Nat) (p_beds : Int32) (n1 : Int32) : Nat → Int32 → Int32 → Int32 → (Nat → Int32) → Option (Int32 × (Nat → Int32))
  | 0, _, _, _, _ => none
  | n + 1, x2, x3, x4, r_v => if ((1 : Int32) <<< (p_beds &&& 31)) ≤ x4 then some (x2, r_v) else f_X9_fewestBeds_61 s_many s_lying r_n p_beds n1 (f_X9_fewestBeds_41 s_many s_lying r_n p_beds n1 n) FU x2 x3 x4 n1 0 r_v
noncomputable def f_X9_fewestBeds_2  (s_many : Nat → Int32) (s_lying : Nat → Int32) (r_n : Nat) (p_beds : Int32) (n1 : Int32) : Nat → Int32 → (Nat → Int32) → Option (Int32 × (Nat → Int32))
  | 0, _, _ => none
  | n + 1, x2, r_v => if p_beds ≤ x2 then f_X9_fewestBeds_41 s_many s_lying r_n p_beds n1 FU (-1) 7 0 r_v else b1 (f_X4_wordsIn s_many s_lying x2) (fun v4 => if ixb x2 r_n then f_X9_fewestBeds_2 s_many s_lying r_n p_beds n1 n (x2 + 1) (upd r_v x2.toNatClampNeg v4) else none)
noncomputable def f_X9_fewestBeds (s_many : Nat → Int32) (s_lying : Nat → Int32) (r_n : Nat) (r_v : Nat → Int32) (p_beds : Int32) (n1 : Int32) : Option (Int32 × (Nat → Int32)) := f_X9_fewestBeds_2 s_many s_lying r_n p_beds n1 FU 0 r_v
def rm_X9_fewestBeds : Room := { frames := 2, cells := 0, slots := 0, locals := 45 }
set_option maxRecDepth 100000 in
set_option maxHeartbeats 4000000 in
theorem j_X9_fewestBeds_61 {J : Jt} {Z : Zt} {a0 : Nat → Nat} {a1 : Nat → Nat} {a2 : Nat → Nat} {a3 : Nat → Nat} {k_tape : Nat} {k_trial : Nat} {k_task : Nat} {k_season : Nat} {k_stuffing : Nat} {k_images : Nat} {k_sparePlan : Nat} {k_rule : Nat} {k_spareRule : Nat} {k_notes : Nat} {k_spareNotes : Nat} {x_latest : Value} {x_imageMany : Int32} {x_refusedSteps : Int32} {x_missing : Int32} {x_misused : Int32} {s_year : Int32} {s_wet : Int32} {s_lost : Int32} {s_eaten : Int32} {s_tied : Int32} {s_ripeMany : Int32} {s_gone : Nat → Int32} {s_place : Nat → Int32} {s_heard : Nat → Int32} {s_many : Nat → Int32} {s_lying : Nat → Int32} {s_ripe : Nat → Int32} {r_n : Nat} {p_beds : Int32} {p_letters : Int32} {p_readers : Int32} {p_far : Nat → Int32} {p_drain : Nat → Int32} {p_length : Nat → Int32} {p_words : Nat → Int32} {p_home : Nat → Int32} {n1 : Int32} {r : Int32} {o_r_v : Nat → Int32} {k41 : Int32 → Int32 → Int32 → (Nat → Int32) → Option (Int32 × (Nat → Int32))} (C : Cx J Z cX9_fewestBeds 7 RX9 (some .int) rm_X9_fewestBeds) (E : Ez J Z 0 0 (some (.int r)) (cs_X9 (a0 0) k_tape (a1 0) k_trial k_task k_season k_stuffing k_images (a2 0) (a3 0) k_sparePlan k_rule k_spareRule k_notes k_spareNotes x_latest x_imageMany x_refusedSteps x_missing x_misused ++ cs_X4 J.2.2.1 a1 s_year s_wet s_lost s_eaten s_tied s_ripeMany s_gone s_place s_heard s_many s_lying s_ripe ++ cs_A J.2.2.1 a2 r_n o_r_v ++ cs_X2 J.2.2.1 a3 p_beds p_letters p_readers p_far p_drain p_length p_words p_home)) (hk41 : ∀ (x2 : Int32) (x3 : Int32) (x4 : Int32) (r_v : Nat → Int32), k41 x2 x3 x4 r_v = some (r, o_r_v) → G J Z 0 0 (cs_X9 (a0 0) k_tape (a1 0) k_trial k_task k_season k_stuffing k_images (a2 0) (a3 0) k_sparePlan k_rule k_spareRule k_notes k_spareNotes x_latest x_imageMany x_refusedSteps x_missing x_misused ++ cs_X4 J.2.2.1 a1 s_year s_wet s_lost s_eaten s_tied s_ripeMany s_gone s_place s_heard s_many s_lying s_ripe ++ cs_A J.2.2.1 a2 r_n r_v ++ cs_X2 J.2.2.1 a3 p_beds p_letters p_readers p_far p_drain p_length p_words p_home) 7 [(0, .ref (a0 0)), (1, .int n1), (2, .int x2), (3, .int x3), (4, .int x4)] 41 []) : ∀ (n : Nat) (x2 : Int32) (x3 : Int32) (x4 : Int32) (x5 : Int32) (x6 : Int32) (r_v : Nat → Int32), f_X9_fewestBeds_61 s_many s_lying r_n p_beds n1 k41 n x2 x3 x4 x5 x6 r_v = some (r, o_r_v) → G J Z 0 0 (cs_X9 (a0 0) k_tape (a1 0) k_trial k_task k_season k_stuffing k_images (a2 0) (a3 0) k_sparePlan k_rule k_spareRule k_notes k_spareNotes x_latest x_imageMany x_refusedSteps x_missing x_misused ++ cs_X4 J.2.2.1 a1 s_year s_wet s_lost s_eaten s_tied s_ripeMany s_gone s_place s_heard s_many s_lying s_ripe ++ cs_A J.2.2.1 a2 r_n r_v ++ cs_X2 J.2.2.1 a3 p_beds p_letters p_readers p_far p_drain p_length p_words p_home) 7 [(0, .ref (a0 0)), (1, .int n1), (2, .int x2), (3, .int x3), (4, .int x4), (5, .int x5), (6, .int x6)] 61 [] := by
  intro n
  induction n with
  | zero =>
    intro x2 x3 x4 x5 x6 r_v h
    rw [f_X9_fewestBeds_61] at h
    cases h
  | succ n ih =>
    intro x2 x3 x4 x5 x6 r_v h
    rw [f_X9_fewestBeds_61] at h
    refine g_iload (pc := 61) C 6 rfl dX9_fewestBeds_61 ?_
    refine g_aload_n (pc := 63) C 0 rfl dX9_fewestBeds_63 ?_
    refine g_get (pc := 64) C FOK_X9 0 rfl rfl 8 (by decide) kw_375 rfl dX9_fewestBeds_64 ?_
    refine g_get (pc := 67) C FOK_X2 9 rfl rfl 0 (by decide) kw_279 rfl dX9_fewestBeds_67 ?_
    refine g_icmp_ge (pc := 70) C (tgt := 107) dX9_fewestBeds_70 rfl h (fun h => ?_) (fun h => ?_)
    · refine g_iload (pc := 107) C 5 rfl dX9_fewestBeds_107 ?_
      refine g_if_ne (pc := 109) C (tgt := 130) dX9_fewestBeds_109 rfl h (fun h => ?_) (fun h => ?_)
      · refine g_iinc (pc := 130) C (j := 4) [(4, .int (x4 + 1)), (0, .ref (a0 0)), (1, .int n1), (2, .int x2), (3, .int x3), (5, .int x5), (6, .int x6)] dX9_fewestBeds_130 rfl (ii_1 _) (by decide) rfl ?_
        refine g_goto (pc := 133) C (tgt := 41) dX9_fewestBeds_133 rfl ?_
        refine g_lv [1, 2, 3, 4, 0] rfl ?_
        exact hk41 x2 x3 (x4 + 1) r_v h
      · refine g_iload (pc := 112) C 4 rfl dX9_fewestBeds_112 ?_
        obtain ⟨v1, hc, h⟩ := b1_of h
        refine g_callSX (pc := 114) C (w' := cs_X9 (a0 0) k_tape (a1 0) k_trial k_task k_season k_stuffing k_images (a2 0) (a3 0) k_sparePlan k_rule k_spareRule k_notes k_spareNotes x_latest x_imageMany x_refusedSteps x_missing x_misused ++ cs_X4 J.2.2.1 a1 s_year s_wet s_lost s_eaten s_tied s_ripeMany s_gone s_place s_heard s_many s_lying s_ripe ++ cs_A J.2.2.1 a2 r_n r_v ++ cs_X2 J.2.2.1 a3 p_beds p_letters p_readers p_far p_drain p_length p_words p_home) (As := [.int x4]) (st := []) (t_J6_bitCount_0f7a4 hc) Sub.nil kw_1077 kw_1078 kw_108 hn_J6_bitCount_0f7a4 kw_1079 rfl (Nat.le_of_ble_eq_true rfl) (Nat.le_of_ble_eq_true rfl) (Nat.le_of_ble_eq_true rfl) (Nat.le_of_ble_eq_true rfl) (Nat.le_of_ble_eq_true rfl) dX9_fewestBeds_114 ?_
        refine g_iload_n (pc := 117) C 3 rfl dX9_fewestBeds_117 ?_
        refine g_icmp_ge (pc := 118) C (tgt := 130) dX9_fewestBeds_118 rfl h (fun h => ?_) (fun h => ?_)
        · refine g_iinc (pc := 130) C (j := 4) [(4, .int (x4 + 1)), (0, .ref (a0 0)), (1, .int n1), (2, .int x2), (3, .int x3), (5, .int x5), (6, .int x6)] dX9_fewestBeds_130 rfl (ii_1 _) (by decide) rfl ?_
          refine g_goto (pc := 133) C (tgt := 41) dX9_fewestBeds_133 rfl ?_
          refine g_lv [1, 2, 3, 4, 0] rfl ?_
          exact hk41 x2 x3 (x4 + 1) r_v h
        · refine g_iload (pc := 121) C 4 rfl dX9_fewestBeds_121 ?_
          refine g_istore_n (pc := 123) C [(2, .int x4), (0, .ref (a0 0)), (1, .int n1), (3, .int x3), (4, .int x4), (5, .int x5), (6, .int x6)] dX9_fewestBeds_123 rfl (by decide) rfl ?_
          refine g_iload (pc := 124) C 4 rfl dX9_fewestBeds_124 ?_
          obtain ⟨v2, hc, h⟩ := b1_of h
          refine g_callSX (pc := 126) C (w' := cs_X9 (a0 0) k_tape (a1 0) k_trial k_task k_season k_stuffing k_images (a2 0) (a3 0) k_sparePlan k_rule k_spareRule k_notes k_spareNotes x_latest x_imageMany x_refusedSteps x_missing x_misused ++ cs_X4 J.2.2.1 a1 s_year s_wet s_lost s_eaten s_tied s_ripeMany s_gone s_place s_heard s_many s_lying s_ripe ++ cs_A J.2.2.1 a2 r_n r_v ++ cs_X2 J.2.2.1 a3 p_beds p_letters p_readers p_far p_drain p_length p_words p_home) (As := [.int x4]) (st := []) (t_J6_bitCount_0f7a4 hc) Sub.nil kw_1077 kw_1078 kw_108 hn_J6_bitCount_0f7a4 kw_1079 rfl (Nat.le_of_ble_eq_true rfl) (Nat.le_of_ble_eq_true rfl) (Nat.le_of_ble_eq_true rfl) (Nat.le_of_ble_eq_true rfl) (Nat.le_of_ble_eq_true rfl) dX9_fewestBeds_126 ?_
          refine g_istore_n (pc := 129) C [(3, .int v2), (2, .int x4), (0, .ref (a0 0)), (1, .int n1), (4, .int x4), (5, .int x5), (6, .int x6)] dX9_fewestBeds_129 rfl (by decide) rfl ?_
          refine g_iinc (pc := 130) C (j := 4) [(4, .int (x4 + 1)), (3, .int v2), (2, .int x4), (0, .ref (a0 0)), (1, .int n1), (5, .int x5), (6, .int x6)] dX9_fewestBeds_130 rfl (ii_1 _) (by decide) rfl ?_
          refine g_goto (pc := 133) C (tgt := 41) dX9_fewestBeds_133 rfl ?_
          refine g_lv [3, 4, 2, 1, 0] rfl ?_
          exact hk41 x4 v2 (x4 + 1) r_v h
    · refine g_iload (pc := 73) C 5 rfl dX9_fewestBeds_73 ?_
      refine g_iload (pc := 75) C 4 rfl dX9_fewestBeds_75 ?_
      refine g_iload (pc := 77) C 6 rfl dX9_fewestBeds_77 ?_
      obtain ⟨v3, hc, h⟩ := b1_of h
      refine g_callS (pc := 79) C (w' := cs_X9 (a0 0) k_tape (a1 0) k_trial k_task k_season k_stuffing k_images (a2 0) (a3 0) k_sparePlan k_rule k_spareRule k_notes k_spareNotes x_latest x_imageMany x_refusedSteps x_missing x_misused ++ cs_X4 J.2.2.1 a1 s_year s_wet s_lost s_eaten s_tied s_ripeMany s_gone s_place s_heard s_many s_lying s_ripe ++ cs_A J.2.2.1 a2 r_n r_v ++ cs_X2 J.2.2.1 a3 p_beds p_letters p_readers p_far p_drain p_length p_words p_home) (As := [.int x4, .int x6]) (st := [.int x5]) (t_X9_has hc) Sub.nil kw_1056 kw_483 kw_86 hy_X9_has kw_484 rfl (Nat.le_of_ble_eq_true rfl) (Nat.le_of_ble_eq_true rfl) (Nat.le_of_ble_eq_true rfl) (Nat.le_of_ble_eq_true rfl) (Nat.le_of_ble_eq_true rfl) dX9_fewestBeds_79 ?_
      refine g_if_eq (pc := 82) C (tgt := 97) dX9_fewestBeds_82 rfl h (fun h => ?_) (fun h => ?_)
      · refine g_iconst (pc := 97) C dX9_fewestBeds_97 ci_m1 ?_
        refine g_iand (pc := 98) C dX9_fewestBeds_98 ?_
        refine g_istore (pc := 99) C [(5, .int (x5 &&& (-1))), (0, .ref (a0 0)), (1, .int n1), (2, .int x2), (3, .int x3), (4, .int x4), (6, .int x6)] dX9_fewestBeds_99 (by decide) rfl ?_
        refine g_iinc (pc := 101) C (j := 6) [(6, .int (x6 + 1)), (5, .int (x5 &&& (-1))), (0, .ref (a0 0)), (1, .int n1), (2, .int x2), (3, .int x3), (4, .int x4)] dX9_fewestBeds_101 rfl (ii_1 _) (by decide) rfl ?_
        refine g_goto (pc := 104) C (tgt := 61) dX9_fewestBeds_104 rfl ?_
        refine g_lv [2, 3, 4, 5, 6, 1, 0] rfl ?_
        exact ih x2 x3 x4 (x5 &&& (-1)) (x6 + 1) r_v h
      · refine g_aload_n (pc := 85) C 0 rfl dX9_fewestBeds_85 ?_
        refine g_get (pc := 86) C FOK_X9 0 rfl rfl 7 (by decide) kw_374 rfl dX9_fewestBeds_86 ?_
        refine g_iload (pc := 89) C 6 rfl dX9_fewestBeds_89 ?_
        obtain ⟨hi, h⟩ := ix_of h
        refine g_iald (pc := 91) C 8 rfl hi dX9_fewestBeds_91 ?_
        refine g_iconst (pc := 92) C dX9_fewestBeds_92 ci_m1 ?_
        refine g_ixor (pc := 93) C dX9_fewestBeds_93 ?_
        refine g_goto (pc := 94) C (tgt := 98) dX9_fewestBeds_94 rfl ?_
        refine g_iand (pc := 98) C dX9_fewestBeds_98 ?_
        refine g_istore (pc := 99) C [(5, .int (x5 &&& ((r_v x6.toNatClampNeg) ^^^ (-1)))), (0, .ref (a0 0)), (1, .int n1), (2, .int x2), (3, .int x3), (4, .int x4), (6, .int x6)] dX9_fewestBeds_99 (by decide) rfl ?_
        refine g_iinc (pc := 101) C (j := 6) [(6, .int (x6 + 1)), (5, .int (x5 &&& ((r_v x6.toNatClampNeg) ^^^ (-1)))), (0, .ref (a0 0)), (1, .int n1), (2, .int x2), (3, .int x3), (4, .int x4)] dX9_fewestBeds_101 rfl (ii_1 _) (by decide) rfl ?_
        refine g_goto (pc := 104) C (tgt := 61) dX9_fewestBeds_104 rfl ?_
        refine g_lv [2, 3, 4, 5, 6, 1, 0] rfl ?_
        exact ih x2 x3 x4 (x5 &&& ((r_v x6.toNatClampNeg) ^^^ (-1))) (x6 + 1) r_v h
set_option maxRecDepth 100000 in
set_option maxHeartbeats 4000000 in
theorem j_X9_fewestBeds_41 {J : Jt} {Z : Zt} {a0 : Nat → Nat} {a1 : Nat → Nat} {a2 : Nat → Nat} {a3 : Nat → Nat} {k_tape : Nat} {k_trial : Nat} {k_task : Nat} {k_season : Nat} {k_stuffing : Nat} {k_images : Nat} {k_sparePlan : Nat} {k_rule : Nat} {k_spareRule : Nat} {k_notes : Nat} {k_spareNotes : Nat} {x_latest : Value} {x_imageMany : Int32} {x_refusedSteps : Int32} {x_missing : Int32} {x_misused : Int32} {s_year : Int32} {s_wet : Int32} {s_lost : Int32} {s_eaten : Int32} {s_tied : Int32} {s_ripeMany : Int32} {s_gone : Nat → Int32} {s_place : Nat → Int32} {s_heard : Nat → Int32} {s_many : Nat → Int32} {s_lying : Nat → Int32} {s_ripe : Nat → Int32} {r_n : Nat} {p_beds : Int32} {p_letters : Int32} {p_readers : Int32} {p_far : Nat → Int32} {p_drain : Nat → Int32} {p_length : Nat → Int32} {p_words : Nat → Int32} {p_home : Nat → Int32} {n1 : Int32} {r : Int32} {o_r_v : Nat → Int32} (C : Cx J Z cX9_fewestBeds 7 RX9 (some .int) rm_X9_fewestBeds) (E : Ez J Z 0 0 (some (.int r)) (cs_X9 (a0 0) k_tape (a1 0) k_trial k_task k_season k_stuffing k_images (a2 0) (a3 0) k_sparePlan k_rule k_spareRule k_notes k_spareNotes x_latest x_imageMany x_refusedSteps x_missing x_misused ++ cs_X4 J.2.2.1 a1 s_year s_wet s_lost s_eaten s_tied s_ripeMany s_gone s_place s_heard s_many s_lying s_ripe ++ cs_A J.2.2.1 a2 r_n o_r_v ++ cs_X2 J.2.2.1 a3 p_beds p_letters p_readers p_far p_drain p_length p_words p_home)) : ∀ (n : Nat) (x2 : Int32) (x3 : Int32) (x4 : Int32) (r_v : Nat → Int32), f_X9_fewestBeds_41 s_many s_lying r_n p_beds n1 n x2 x3 x4 r_v = some (r, o_r_v) → G J Z 0 0 (cs_X9 (a0 0) k_tape (a1 0) k_trial k_task k_season k_stuffing k_images (a2 0) (a3 0) k_sparePlan k_rule k_spareRule k_notes k_spareNotes x_latest x_imageMany x_refusedSteps x_missing x_misused ++ cs_X4 J.2.2.1 a1 s_year s_wet s_lost s_eaten s_tied s_ripeMany s_gone s_place s_heard s_many s_lying s_ripe ++ cs_A J.2.2.1 a2 r_n r_v ++ cs_X2 J.2.2.1 a3 p_beds p_letters p_readers p_far p_drain p_length p_words p_home) 7 [(0, .ref (a0 0)), (1, .int n1), (2, .int x2), (3, .int x3), (4, .int x4)] 41 [] := by
  intro n
  induction n with
  | zero =>
    intro x2 x3 x4 r_v h
    rw [f_X9_fewestBeds_41] at h
    cases h
  | succ n ih =>
    intro x2 x3 x4 r_v h
    rw [f_X9_fewestBeds_41] at h
    refine g_iload (pc := 41) C 4 rfl dX9_fewestBeds_41 ?_
    refine g_iconst (pc := 43) C dX9_fewestBeds_43 ci_1 ?_
    refine g_aload_n (pc := 44) C 0 rfl dX9_fewestBeds_44 ?_
    refine g_get (pc := 45) C FOK_X9 0 rfl rfl 8 (by decide) kw_375 rfl dX9_fewestBeds_45 ?_
    refine g_get (pc := 48) C FOK_X2 9 rfl rfl 0 (by decide) kw_279 rfl dX9_fewestBeds_48 ?_
    refine g_ishl (pc := 51) C dX9_fewestBeds_51 ?_
    refine g_icmp_ge (pc := 52) C (tgt := 136) dX9_fewestBeds_52 rfl h (fun h => ?_) (fun h => ?_)
    · refine g_iload_n (pc := 136) C 2 rfl dX9_fewestBeds_136 ?_
      cases h
      exact g_iret C E dX9_fewestBeds_137
    · refine g_iload_n (pc := 55) C 1 rfl dX9_fewestBeds_55 ?_
      refine g_istore (pc := 56) C [(5, .int n1), (0, .ref (a0 0)), (1, .int n1), (2, .int x2), (3, .int x3), (4, .int x4)] dX9_fewestBeds_56 (by decide) rfl ?_
      refine g_iconst (pc := 58) C dX9_fewestBeds_58 ci_0 ?_
      refine g_istore (pc := 59) C [(6, .int 0), (5, .int n1), (0, .ref (a0 0)), (1, .int n1), (2, .int x2), (3, .int x3), (4, .int x4)] dX9_fewestBeds_59 (by decide) rfl ?_
      refine g_lv [2, 3, 4, 5, 6, 1, 0] rfl ?_
      exact j_X9_fewestBeds_61 C E   ih FU x2 x3 x4 n1 0 r_v h
set_option maxRecDepth 100000 in
set_option maxHeartbeats 4000000 in
theorem j_X9_fewestBeds_2 {J : Jt} {Z : Zt} {a0 : Nat → Nat} {a1 : Nat → Nat} {a2 : Nat → Nat} {a3 : Nat → Nat} {k_tape : Nat} {k_trial : Nat} {k_task : Nat} {k_season : Nat} {k_stuffing : Nat} {k_images : Nat} {k_sparePlan : Nat} {k_rule : Nat} {k_spareRule : Nat} {k_notes : Nat} {k_spareNotes : Nat} {x_latest : Value} {x_imageMany : Int32} {x_refusedSteps : Int32} {x_missing : Int32} {x_misused : Int32} {s_year : Int32} {s_wet : Int32} {s_lost : Int32} {s_eaten : Int32} {s_tied : Int32} {s_ripeMany : Int32} {s_gone : Nat → Int32} {s_place : Nat → Int32} {s_heard : Nat → Int32} {s_many : Nat → Int32} {s_lying : Nat → Int32} {s_ripe : Nat → Int32} {r_n : Nat} {p_beds : Int32} {p_letters : Int32} {p_readers : Int32} {p_far : Nat → Int32} {p_drain : Nat → Int32} {p_length : Nat → Int32} {p_words : Nat → Int32} {p_home : Nat → Int32} {n1 : Int32} {r : Int32} {o_r_v : Nat → Int32} (C : Cx J Z cX9_fewestBeds 7 RX9 (some .int) rm_X9_fewestBeds) (E : Ez J Z 0 0 (some (.int r)) (cs_X9 (a0 0) k_tape (a1 0) k_trial k_task k_season k_stuffing k_images (a2 0) (a3 0) k_sparePlan k_rule k_spareRule k_notes k_spareNotes x_latest x_imageMany x_refusedSteps x_missing x_misused ++ cs_X4 J.2.2.1 a1 s_year s_wet s_lost s_eaten s_tied s_ripeMany s_gone s_place s_heard s_many s_lying s_ripe ++ cs_A J.2.2.1 a2 r_n o_r_v ++ cs_X2 J.2.2.1 a3 p_beds p_letters p_readers p_far p_drain p_length p_words p_home)) : ∀ (n : Nat) (x2 : Int32) (r_v : Nat → Int32), f_X9_fewestBeds_2 s_many s_lying r_n p_beds n1 n x2 r_v = some (r, o_r_v) → G J Z 0 0 (cs_X9 (a0 0) k_tape (a1 0) k_trial k_task k_season k_stuffing k_images (a2 0) (a3 0) k_sparePlan k_rule k_spareRule k_notes k_spareNotes x_latest x_imageMany x_refusedSteps x_missing x_misused ++ cs_X4 J.2.2.1 a1 s_year s_wet s_lost s_eaten s_tied s_ripeMany s_gone s_place s_heard s_many s_lying s_ripe ++ cs_A J.2.2.1 a2 r_n r_v ++ cs_X2 J.2.2.1 a3 p_beds p_letters p_readers p_far p_drain p_length p_words p_home) 7 [(0, .ref (a0 0)), (1, .int n1), (2, .int x2)] 2 [] := by
  intro n
  induction n with
  | zero =>
    intro x2 r_v h
    rw [f_X9_fewestBeds_2] at h
    cases h
  | succ n ih =>
    intro x2 r_v h
    rw [f_X9_fewestBeds_2] at h
    refine g_iload_n (pc := 2) C 2 rfl dX9_fewestBeds_2 ?_
    refine g_aload_n (pc := 3) C 0 rfl dX9_fewestBeds_3 ?_
    refine g_get (pc := 4) C FOK_X9 0 rfl rfl 8 (by decide) kw_375 rfl dX9_fewestBeds_4 ?_
    refine g_get (pc := 7) C FOK_X2 9 rfl rfl 0 (by decide) kw_279 rfl dX9_fewestBeds_7 ?_
    refine g_icmp_ge (pc := 10) C (tgt := 33) dX9_fewestBeds_10 rfl h (fun h => ?_) (fun h => ?_)
    · refine g_iconst (pc := 33) C dX9_fewestBeds_33 ci_m1 ?_
      refine g_istore_n (pc := 34) C [(2, .int (-1)), (0, .ref (a0 0)), (1, .int n1)] dX9_fewestBeds_34 rfl (by decide) rfl ?_
      refine g_bipush (pc := 35) C dX9_fewestBeds_35 cb_7 ?_
      refine g_istore_n (pc := 37) C [(3, .int 7), (2, .int (-1)), (0, .ref (a0 0)), (1, .int n1)] dX9_fewestBeds_37 rfl (by decide) rfl ?_
      refine g_iconst (pc := 38) C dX9_fewestBeds_38 ci_0 ?_
      refine g_istore (pc := 39) C [(4, .int 0), (3, .int 7), (2, .int (-1)), (0, .ref (a0 0)), (1, .int n1)] dX9_fewestBeds_39 (by decide) rfl ?_
      refine g_lv [3, 4, 2, 1, 0] rfl ?_
      exact j_X9_fewestBeds_41 C E    FU (-1) 7 0 r_v h
    · refine g_aload_n (pc := 13) C 0 rfl dX9_fewestBeds_13 ?_
      refine g_get (pc := 14) C FOK_X9 0 rfl rfl 7 (by decide) kw_374 rfl dX9_fewestBeds_14 ?_
      refine g_iload_n (pc := 17) C 2 rfl dX9_fewestBeds_17 ?_
      refine g_aload_n (pc := 18) C 0 rfl dX9_fewestBeds_18 ?_
      refine g_get (pc := 19) C FOK_X9 0 rfl rfl 1 (by decide) kw_368 rfl dX9_fewestBeds_19 ?_
      refine g_iload_n (pc := 22) C 2 rfl dX9_fewestBeds_22 ?_
      obtain ⟨v4, hc, h⟩ := b1_of h
      refine g_callV (pc := 23) C (w' := cs_X9 (a0 0) k_tape (a1 0) k_trial k_task k_season k_stuffing k_images (a2 0) (a3 0) k_sparePlan k_rule k_spareRule k_notes k_spareNotes x_latest x_imageMany x_refusedSteps x_missing x_misused ++ cs_X4 J.2.2.1 a1 s_year s_wet s_lost s_eaten s_tied s_ripeMany s_gone s_place s_heard s_many s_lying s_ripe ++ cs_A J.2.2.1 a2 r_n r_v ++ cs_X2 J.2.2.1 a3 p_beds p_letters p_readers p_far p_drain p_length p_words p_home) (As := [.int x2]) (st := [.int x2, .ref (a2 0)]) (ci := 4) (q0 := 1) rfl rfl (t_X4_wordsIn (a0 := a1) (s_year := s_year) (s_wet := s_wet) (s_lost := s_lost) (s_eaten := s_eaten) (s_tied := s_tied) (s_ripeMany := s_ripeMany) (s_gone := s_gone) (s_place := s_place) (s_heard := s_heard) (s_many := s_many) (s_lying := s_lying) (s_ripe := s_ripe) hc) (Sub.blk 4 [cs_X9 (a0 0) k_tape (a1 0) k_trial k_task k_season k_stuffing k_images (a2 0) (a3 0) k_sparePlan k_rule k_spareRule k_notes k_spareNotes x_latest x_imageMany x_refusedSteps x_missing x_misused, cs_X4 J.2.2.1 a1 s_year s_wet s_lost s_eaten s_tied s_ripeMany s_gone s_place s_heard s_many s_lying s_ripe, cs_A J.2.2.1 a2 r_n r_v, cs_X2 J.2.2.1 a3 p_beds p_letters p_readers p_far p_drain p_length p_words p_home] [cs_X9 (a0 0) k_tape (a1 0) k_trial k_task k_season k_stuffing k_images (a2 0) (a3 0) k_sparePlan k_rule k_spareRule k_notes k_spareNotes x_latest x_imageMany x_refusedSteps x_missing x_misused, cs_X4 J.2.2.1 a1 s_year s_wet s_lost s_eaten s_tied s_ripeMany s_gone s_place s_heard s_many s_lying s_ripe, cs_A J.2.2.1 a2 r_n r_v, cs_X2 J.2.2.1 a3 p_beds p_letters p_readers p_far p_drain p_length p_words p_home] [0, 2, 3] [1] rfl (by simp only [List.flatten_cons, List.flatten_nil, List.append_nil, List.append_assoc]) (by simp only [List.flatten_cons, List.flatten_nil, List.append_nil, List.append_assoc]) rfl rfl rfl (by decide) (by simp only [List.map_cons, List.map_nil, List.getD_cons_zero, List.getD_cons_succ, List.flatten_cons, List.flatten_nil, List.append_nil, List.append_assoc]) (by simp only [List.map_cons, List.map_nil, List.getD_cons_zero, List.getD_cons_succ, List.flatten_cons, List.flatten_nil, List.append_nil, List.append_assoc])) kw_993 kw_870 kw_871 kw_88 hy_X4_wordsIn kw_872 rfl (Nat.le_of_ble_eq_true rfl) (Nat.le_of_ble_eq_true rfl) (Nat.le_of_ble_eq_true rfl) (Nat.le_of_ble_eq_true rfl) (Nat.le_of_ble_eq_true rfl) dX9_fewestBeds_23 ?_
      obtain ⟨hi, h⟩ := ix_of h
      refine g_iast (pc := 26) C (w' := cs_X9 (a0 0) k_tape (a1 0) k_trial k_task k_season k_stuffing k_images (a2 0) (a3 0) k_sparePlan k_rule k_spareRule k_notes k_spareNotes x_latest x_imageMany x_refusedSteps x_missing x_misused ++ cs_X4 J.2.2.1 a1 s_year s_wet s_lost s_eaten s_tied s_ripeMany s_gone s_place s_heard s_many s_lying s_ripe ++ cs_A J.2.2.1 a2 r_n (upd r_v x2.toNatClampNeg v4) ++ cs_X2 J.2.2.1 a3 p_beds p_letters p_readers p_far p_drain p_length p_words p_home) 8 rfl hi dX9_fewestBeds_26 rfl ?_
      refine g_iinc (pc := 27) C (j := 2) [(2, .int (x2 + 1)), (0, .ref (a0 0)), (1, .int n1)] dX9_fewestBeds_27 rfl (ii_1 _) (by decide) rfl ?_
      refine g_goto (pc := 30) C (tgt := 2) dX9_fewestBeds_30 rfl ?_
      refine g_lv [1, 2, 0] rfl ?_
      exact ih (x2 + 1) (upd r_v x2.toNatClampNeg v4) h
set_option maxRecDepth 100000 in
set_option maxHeartbeats 4000000 in
theorem t_X9_fewestBeds {J : Jt} {a0 : Nat → Nat} {a1 : Nat → Nat} {a2 : Nat → Nat} {a3 : Nat → Nat} {k_tape : Nat} {k_trial : Nat} {k_task : Nat} {k_season : Nat} {k_stuffing : Nat} {k_images : Nat} {k_sparePlan : Nat} {k_rule : Nat} {k_spareRule : Nat} {k_notes : Nat} {k_spareNotes : Nat} {x_latest : Value} {x_imageMany : Int32} {x_refusedSteps : Int32} {x_missing : Int32} {x_misused : Int32} {s_year : Int32} {s_wet : Int32} {s_lost : Int32} {s_eaten : Int32} {s_tied : Int32} {s_ripeMany : Int32} {s_gone : Nat → Int32} {s_place : Nat → Int32} {s_heard : Nat → Int32} {s_many : Nat → Int32} {s_lying : Nat → Int32} {s_ripe : Nat → Int32} {r_n : Nat} {r_v : Nat → Int32} {p_beds : Int32} {p_letters : Int32} {p_readers : Int32} {p_far : Nat → Int32} {p_drain : Nat → Int32} {p_length : Nat → Int32} {p_words : Nat → Int32} {p_home : Nat → Int32} {n1 : Int32} {r : Int32} {o_r_v : Nat → Int32} (h : f_X9_fewestBeds s_many s_lying r_n r_v p_beds n1 = some (r, o_r_v)) : Mt J yX9_fewestBeds cX9_fewestBeds 7 (some .int) rm_X9_fewestBeds [.ref (a0 0), .int n1] (cs_X9 (a0 0) k_tape (a1 0) k_trial k_task k_season k_stuffing k_images (a2 0) (a3 0) k_sparePlan k_rule k_spareRule k_notes k_spareNotes x_latest x_imageMany x_refusedSteps x_missing x_misused ++ cs_X4 J.2.2.1 a1 s_year s_wet s_lost s_eaten s_tied s_ripeMany s_gone s_place s_heard s_many s_lying s_ripe ++ cs_A J.2.2.1 a2 r_n r_v ++ cs_X2 J.2.2.1 a3 p_beds p_letters p_readers p_far p_drain p_length p_words p_home) (some (.int r)) (cs_X9 (a0 0) k_tape (a1 0) k_trial k_task k_season k_stuffing k_images (a2 0) (a3 0) k_sparePlan k_rule k_spareRule k_notes k_spareNotes x_latest x_imageMany x_refusedSteps x_missing x_misused ++ cs_X4 J.2.2.1 a1 s_year s_wet s_lost s_eaten s_tied s_ripeMany s_gone s_place s_heard s_many s_lying s_ripe ++ cs_A J.2.2.1 a2 r_n o_r_v ++ cs_X2 J.2.2.1 a3 p_beds p_letters p_readers p_far p_drain p_length p_words p_home) := by
  refine Mt_of (own := RX9) (by decide) rfl (Nat.le_of_ble_eq_true rfl) rfl (fun Z C E => ?_)
  unfold f_X9_fewestBeds at h
  show G J Z 0 0 (cs_X9 (a0 0) k_tape (a1 0) k_trial k_task k_season k_stuffing k_images (a2 0) (a3 0) k_sparePlan k_rule k_spareRule k_notes k_spareNotes x_latest x_imageMany x_refusedSteps x_missing x_misused ++ cs_X4 J.2.2.1 a1 s_year s_wet s_lost s_eaten s_tied s_ripeMany s_gone s_place s_heard s_many s_lying s_ripe ++ cs_A J.2.2.1 a2 r_n r_v ++ cs_X2 J.2.2.1 a3 p_beds p_letters p_readers p_far p_drain p_length p_words p_home) 7 [(0, .ref (a0 0)), (1, .int n1)] 0 []
  refine g_iconst (pc := 0) C dX9_fewestBeds_0 ci_0 ?_
  refine g_istore_n (pc := 1) C [(2, .int 0), (0, .ref (a0 0)), (1, .int n1)] dX9_fewestBeds_1 rfl (by decide) rfl ?_
  refine g_lv [1, 2, 0] rfl ?_
  exact j_X9_fewestBeds_2 C E    FU 0 r_v h
noncomputable def f_X9_all (x_misused : Int32) (s_many : Nat → Int32) (s_lying : Nat → Int32) (r_n : Nat) (r_v : Nat → Int32) (p_beds : Int32) (n1 : Int32) : Option (Nat × Int32 × Int32 × (Nat → Int32)) := b2 (f_X9_needRange x_misused n1 0 65535) (fun e1 c2 => if e1 = 0 then b2 (f_X9_fewestBeds s_many s_lying r_n r_v p_beds n1) (fun v3 c4 => some (0, v3, c2, c4)) else some (e1, 0, c2, r_v))
def rm_X9_all : Room := { frames := 10, cells := 1, slots := 6, locals := 143 }
set_option maxRecDepth 100000 in
set_option maxHeartbeats 4000000 in
theorem t_X9_all {J : Jt} {a0 : Nat → Nat} {a1 : Nat → Nat} {a2 : Nat → Nat} {a3 : Nat → Nat} {k_tape : Nat} {k_trial : Nat} {k_task : Nat} {k_season : Nat} {k_stuffing : Nat} {k_images : Nat} {k_sparePlan : Nat} {k_rule : Nat} {k_spareRule : Nat} {k_notes : Nat} {k_spareNotes : Nat} {x_latest : Value} {x_imageMany : Int32} {x_refusedSteps : Int32} {x_missing : Int32} {x_misused : Int32} {s_year : Int32} {s_wet : Int32} {s_lost : Int32} {s_eaten : Int32} {s_tied : Int32} {s_ripeMany : Int32} {s_gone : Nat → Int32} {s_place : Nat → Int32} {s_heard : Nat → Int32} {s_many : Nat → Int32} {s_lying : Nat → Int32} {s_ripe : Nat → Int32} {r_n : Nat} {r_v : Nat → Int32} {p_beds : Int32} {p_letters : Int32} {p_readers : Int32} {p_far : Nat → Int32} {p_drain : Nat → Int32} {p_length : Nat → Int32} {p_words : Nat → Int32} {p_home : Nat → Int32} {n1 : Int32} {ex : Nat} {r : Int32} {o_x_misused : Int32} {o_r_v : Nat → Int32} (hJ : J.1.stackTraces = false) (h : f_X9_all x_misused s_many s_lying r_n r_v p_beds n1 = some (ex, r, o_x_misused, o_r_v)) : MtX J yX9_all cX9_all 2 (some .int) rm_X9_all [.ref (a0 0), .int n1] (cs_X9 (a0 0) k_tape (a1 0) k_trial k_task k_season k_stuffing k_images (a2 0) (a3 0) k_sparePlan k_rule k_spareRule k_notes k_spareNotes x_latest x_imageMany x_refusedSteps x_missing x_misused ++ cs_X4 J.2.2.1 a1 s_year s_wet s_lost s_eaten s_tied s_ripeMany s_gone s_place s_heard s_many s_lying s_ripe ++ cs_A J.2.2.1 a2 r_n r_v ++ cs_X2 J.2.2.1 a3 p_beds p_letters p_readers p_far p_drain p_length p_words p_home) ex (some (.int r)) (fun _ : Unit => cs_X9 (a0 0) k_tape (a1 0) k_trial k_task k_season k_stuffing k_images (a2 0) (a3 0) k_sparePlan k_rule k_spareRule k_notes k_spareNotes x_latest x_imageMany x_refusedSteps x_missing o_x_misused ++ cs_X4 J.2.2.1 a1 s_year s_wet s_lost s_eaten s_tied s_ripeMany s_gone s_place s_heard s_many s_lying s_ripe ++ cs_A J.2.2.1 a2 r_n o_r_v ++ cs_X2 J.2.2.1 a3 p_beds p_letters p_readers p_far p_drain p_length p_words p_home) := by
  refine MtX_of (own := RX9) (by decide) rfl (Nat.le_of_ble_eq_true rfl) rfl (fun Z C E => ?_)
  unfold f_X9_all at h
  show G J Z 0 0 (cs_X9 (a0 0) k_tape (a1 0) k_trial k_task k_season k_stuffing k_images (a2 0) (a3 0) k_sparePlan k_rule k_spareRule k_notes k_spareNotes x_latest x_imageMany x_refusedSteps x_missing x_misused ++ cs_X4 J.2.2.1 a1 s_year s_wet s_lost s_eaten s_tied s_ripeMany s_gone s_place s_heard s_many s_lying s_ripe ++ cs_A J.2.2.1 a2 r_n r_v ++ cs_X2 J.2.2.1 a3 p_beds p_letters p_readers p_far p_drain p_length p_words p_home) 2 [(0, .ref (a0 0)), (1, .int n1)] 0 []
  refine g_aload_n (pc := 0) C 0 rfl dX9_all_0 ?_
  refine g_iload_n (pc := 1) C 1 rfl dX9_all_1 ?_
  refine g_iconst (pc := 2) C dX9_all_2 ci_0 ?_
  refine g_ldcw (pc := 3) C dX9_all_3 kw_1072 ?_
  obtain ⟨e1, c2, hc, h⟩ := b2_of h
  refine g_xcallU (pc := 6) C (w' := cs_X9 (a0 0) k_tape (a1 0) k_trial k_task k_season k_stuffing k_images (a2 0) (a3 0) k_sparePlan k_rule k_spareRule k_notes k_spareNotes x_latest x_imageMany x_refusedSteps x_missing c2 ++ cs_X4 J.2.2.1 a1 s_year s_wet s_lost s_eaten s_tied s_ripeMany s_gone s_place s_heard s_many s_lying s_ripe ++ cs_A J.2.2.1 a2 r_n r_v ++ cs_X2 J.2.2.1 a3 p_beds p_letters p_readers p_far p_drain p_length p_words p_home) (As := [.int n1, .int 0, .int 65535]) (st := []) (ci := 9) (q0 := 0) rfl rfl (t_X9_needRange (k_tape := k_tape) (k_now := (a1 0)) (k_trial := k_trial) (k_task := k_task) (k_season := k_season) (k_stuffing := k_stuffing) (k_images := k_images) (k_row := (a2 0)) (k_plan := (a3 0)) (k_sparePlan := k_sparePlan) (k_rule := k_rule) (k_spareRule := k_spareRule) (k_notes := k_notes) (k_spareNotes := k_spareNotes) (a0 := a0) (x_latest := x_latest) (x_imageMany := x_imageMany) (x_refusedSteps := x_refusedSteps) (x_missing := x_missing) (x_misused := x_misused) hJ hc) (Sub.blk 4 [cs_X9 (a0 0) k_tape (a1 0) k_trial k_task k_season k_stuffing k_images (a2 0) (a3 0) k_sparePlan k_rule k_spareRule k_notes k_spareNotes x_latest x_imageMany x_refusedSteps x_missing x_misused, cs_X4 J.2.2.1 a1 s_year s_wet s_lost s_eaten s_tied s_ripeMany s_gone s_place s_heard s_many s_lying s_ripe, cs_A J.2.2.1 a2 r_n r_v, cs_X2 J.2.2.1 a3 p_beds p_letters p_readers p_far p_drain p_length p_words p_home] [cs_X9 (a0 0) k_tape (a1 0) k_trial k_task k_season k_stuffing k_images (a2 0) (a3 0) k_sparePlan k_rule k_spareRule k_notes k_spareNotes x_latest x_imageMany x_refusedSteps x_missing c2, cs_X4 J.2.2.1 a1 s_year s_wet s_lost s_eaten s_tied s_ripeMany s_gone s_place s_heard s_many s_lying s_ripe, cs_A J.2.2.1 a2 r_n r_v, cs_X2 J.2.2.1 a3 p_beds p_letters p_readers p_far p_drain p_length p_words p_home] [1, 2, 3] [0] rfl (by simp only [List.flatten_cons, List.flatten_nil, List.append_nil, List.append_assoc]) (by simp only [List.flatten_cons, List.flatten_nil, List.append_nil, List.append_assoc]) rfl rfl rfl (by decide) (by simp only [List.map_cons, List.map_nil, List.getD_cons_zero, List.getD_cons_succ, List.flatten_cons, List.flatten_nil, List.append_nil, List.append_assoc]) (by simp only [List.map_cons, List.map_nil, List.getD_cons_zero, List.getD_cons_succ, List.flatten_cons, List.flatten_nil, List.append_nil, List.append_assoc])) kw_545 kw_547 kw_2 kw_86 hy_X9_needRange kw_548 rfl (Nat.le_of_ble_eq_true rfl) (Nat.le_of_ble_eq_true rfl) (Nat.le_of_ble_eq_true rfl) (Nat.le_of_ble_eq_true rfl) (Nat.le_of_ble_eq_true rfl) dX9_all_6 (fun he => ?_) (fun he => ?_)
  · subst he
    rw [if_pos rfl] at h
    refine g_wid (n' := 1) (k' := 6) (Nat.le_of_ble_eq_true rfl) (Nat.le_of_ble_eq_true rfl) ?_
    refine g_aload_n (pc := 9) C 0 rfl dX9_all_9 ?_
    refine g_iload_n (pc := 10) C 1 rfl dX9_all_10 ?_
    obtain ⟨v3, c4, hc, h⟩ := b2_of h
    refine g_callV (pc := 11) C (w' := cs_X9 (a0 0) k_tape (a1 0) k_trial k_task k_season k_stuffing k_images (a2 0) (a3 0) k_sparePlan k_rule k_spareRule k_notes k_spareNotes x_latest x_imageMany x_refusedSteps x_missing c2 ++ cs_X4 J.2.2.1 a1 s_year s_wet s_lost s_eaten s_tied s_ripeMany s_gone s_place s_heard s_many s_lying s_ripe ++ cs_A J.2.2.1 a2 r_n c4 ++ cs_X2 J.2.2.1 a3 p_beds p_letters p_readers p_far p_drain p_length p_words p_home) (As := [.int n1]) (st := []) (ci := 9) (q0 := 0) rfl rfl (t_X9_fewestBeds (k_tape := k_tape) (k_trial := k_trial) (k_task := k_task) (k_season := k_season) (k_stuffing := k_stuffing) (k_images := k_images) (k_sparePlan := k_sparePlan) (k_rule := k_rule) (k_spareRule := k_spareRule) (k_notes := k_notes) (k_spareNotes := k_spareNotes) (a0 := a0) (a1 := a1) (a2 := a2) (a3 := a3) (x_latest := x_latest) (x_imageMany := x_imageMany) (x_refusedSteps := x_refusedSteps) (x_missing := x_missing) (x_misused := c2) (s_year := s_year) (s_wet := s_wet) (s_lost := s_lost) (s_eaten := s_eaten) (s_tied := s_tied) (s_ripeMany := s_ripeMany) (s_gone := s_gone) (s_place := s_place) (s_heard := s_heard) (s_many := s_many) (s_lying := s_lying) (s_ripe := s_ripe) (r_n := r_n) (r_v := r_v) (p_beds := p_beds) (p_letters := p_letters) (p_readers := p_readers) (p_far := p_far) (p_drain := p_drain) (p_length := p_length) (p_words := p_words) (p_home := p_home) hc) Sub.same kw_1073 kw_1075 kw_14 kw_86 hy_X9_fewestBeds kw_1076 rfl (Nat.le_of_ble_eq_true rfl) (Nat.le_of_ble_eq_true rfl) (Nat.le_of_ble_eq_true rfl) (Nat.le_of_ble_eq_true rfl) (Nat.le_of_ble_eq_true rfl) dX9_all_11 ?_
    cases h
    exact g_iretX C E () rfl dX9_all_14
  · rw [if_neg he] at h
    cases h
    exact gt_out C he E (Nat.le_of_ble_eq_true rfl) (Nat.le_of_ble_eq_true rfl) () rfl
noncomputable def f_X9_tour (x_missing : Int32) (s_heard : Nat → Int32) (s_many : Nat → Int32) (s_lying : Nat → Int32) (r_n : Nat) (r_v : Nat → Int32) (p_beds : Int32) (p_readers : Int32) (n1 : Int32) : Option (Nat × Int32 × Int32 × (Nat → Int32)) := b2 (f_X9_needOneOf x_missing n1 p_readers) (fun e1 c2 => if e1 = 0 then b1 (f_X4_wordsInAll s_many s_lying p_beds) (fun v3 => if ixb n1 5 then b2 (f_X9_fewestBeds s_many s_lying r_n r_v p_beds (v3 &&& ((s_heard n1.toNatClampNeg) ^^^ (-1)))) (fun v4 c5 => some (0, v4, c2, c5)) else none) else some (e1, 0, c2, r_v))
def rm_X9_tour : Room := { frames := 10, cells := 1, slots := 6, locals := 142 }
set_option maxRecDepth 100000 in
set_option maxHeartbeats 4000000 in
theorem t_X9_tour {J : Jt} {a0 : Nat → Nat} {a1 : Nat → Nat} {a2 : Nat → Nat} {a3 : Nat → Nat} {k_tape : Nat} {k_trial : Nat} {k_task : Nat} {k_season : Nat} {k_stuffing : Nat} {k_images : Nat} {k_sparePlan : Nat} {k_rule : Nat} {k_spareRule : Nat} {k_notes : Nat} {k_spareNotes : Nat} {x_latest : Value} {x_imageMany : Int32} {x_refusedSteps : Int32} {x_missing : Int32} {x_misused : Int32} {s_year : Int32} {s_wet : Int32} {s_lost : Int32} {s_eaten : Int32} {s_tied : Int32} {s_ripeMany : Int32} {s_gone : Nat → Int32} {s_place : Nat → Int32} {s_heard : Nat → Int32} {s_many : Nat → Int32} {s_lying : Nat → Int32} {s_ripe : Nat → Int32} {r_n : Nat} {r_v : Nat → Int32} {p_beds : Int32} {p_letters : Int32} {p_readers : Int32} {p_far : Nat → Int32} {p_drain : Nat → Int32} {p_length : Nat → Int32} {p_words : Nat → Int32} {p_home : Nat → Int32} {n1 : Int32} {ex : Nat} {r : Int32} {o_x_missing : Int32} {o_r_v : Nat → Int32} (hJ : J.1.stackTraces = false) (h : f_X9_tour x_missing s_heard s_many s_lying r_n r_v p_beds p_readers n1 = some (ex, r, o_x_missing, o_r_v)) : MtX J yX9_tour cX9_tour 2 (some .int) rm_X9_tour [.ref (a0 0), .int n1] (cs_X9 (a0 0) k_tape (a1 0) k_trial k_task k_season k_stuffing k_images (a2 0) (a3 0) k_sparePlan k_rule k_spareRule k_notes k_spareNotes x_latest x_imageMany x_refusedSteps x_missing x_misused ++ cs_X4 J.2.2.1 a1 s_year s_wet s_lost s_eaten s_tied s_ripeMany s_gone s_place s_heard s_many s_lying s_ripe ++ cs_A J.2.2.1 a2 r_n r_v ++ cs_X2 J.2.2.1 a3 p_beds p_letters p_readers p_far p_drain p_length p_words p_home) ex (some (.int r)) (fun _ : Unit => cs_X9 (a0 0) k_tape (a1 0) k_trial k_task k_season k_stuffing k_images (a2 0) (a3 0) k_sparePlan k_rule k_spareRule k_notes k_spareNotes x_latest x_imageMany x_refusedSteps o_x_missing x_misused ++ cs_X4 J.2.2.1 a1 s_year s_wet s_lost s_eaten s_tied s_ripeMany s_gone s_place s_heard s_many s_lying s_ripe ++ cs_A J.2.2.1 a2 r_n o_r_v ++ cs_X2 J.2.2.1 a3 p_beds p_letters p_readers p_far p_drain p_length p_words p_home) := by
  refine MtX_of (own := RX9) (by decide) rfl (Nat.le_of_ble_eq_true rfl) rfl (fun Z C E => ?_)
  unfold f_X9_tour at h
  show G J Z 0 0 (cs_X9 (a0 0) k_tape (a1 0) k_trial k_task k_season k_stuffing k_images (a2 0) (a3 0) k_sparePlan k_rule k_spareRule k_notes k_spareNotes x_latest x_imageMany x_refusedSteps x_missing x_misused ++ cs_X4 J.2.2.1 a1 s_year s_wet s_lost s_eaten s_tied s_ripeMany s_gone s_place s_heard s_many s_lying s_ripe ++ cs_A J.2.2.1 a2 r_n r_v ++ cs_X2 J.2.2.1 a3 p_beds p_letters p_readers p_far p_drain p_length p_words p_home) 2 [(0, .ref (a0 0)), (1, .int n1)] 0 []
  refine g_aload_n (pc := 0) C 0 rfl dX9_tour_0 ?_
  refine g_iload_n (pc := 1) C 1 rfl dX9_tour_1 ?_
  refine g_aload_n (pc := 2) C 0 rfl dX9_tour_2 ?_
  refine g_get (pc := 3) C FOK_X9 0 rfl rfl 8 (by decide) kw_375 rfl dX9_tour_3 ?_
  refine g_get (pc := 6) C FOK_X2 9 rfl rfl 2 (by decide) kw_289 rfl dX9_tour_6 ?_
  obtain ⟨e1, c2, hc, h⟩ := b2_of h
  refine g_xcallU (pc := 9) C (w' := cs_X9 (a0 0) k_tape (a1 0) k_trial k_task k_season k_stuffing k_images (a2 0) (a3 0) k_sparePlan k_rule k_spareRule k_notes k_spareNotes x_latest x_imageMany x_refusedSteps c2 x_misused ++ cs_X4 J.2.2.1 a1 s_year s_wet s_lost s_eaten s_tied s_ripeMany s_gone s_place s_heard s_many s_lying s_ripe ++ cs_A J.2.2.1 a2 r_n r_v ++ cs_X2 J.2.2.1 a3 p_beds p_letters p_readers p_far p_drain p_length p_words p_home) (As := [.int n1, .int p_readers]) (st := []) (ci := 9) (q0 := 0) rfl rfl (t_X9_needOneOf (k_tape := k_tape) (k_now := (a1 0)) (k_trial := k_trial) (k_task := k_task) (k_season := k_season) (k_stuffing := k_stuffing) (k_images := k_images) (k_row := (a2 0)) (k_plan := (a3 0)) (k_sparePlan := k_sparePlan) (k_rule := k_rule) (k_spareRule := k_spareRule) (k_notes := k_notes) (k_spareNotes := k_spareNotes) (a0 := a0) (x_latest := x_latest) (x_imageMany := x_imageMany) (x_refusedSteps := x_refusedSteps) (x_missing := x_missing) (x_misused := x_misused) hJ hc) (Sub.blk 4 [cs_X9 (a0 0) k_tape (a1 0) k_trial k_task k_season k_stuffing k_images (a2 0) (a3 0) k_sparePlan k_rule k_spareRule k_notes k_spareNotes x_latest x_imageMany x_refusedSteps x_missing x_misused, cs_X4 J.2.2.1 a1 s_year s_wet s_lost s_eaten s_tied s_ripeMany s_gone s_place s_heard s_many s_lying s_ripe, cs_A J.2.2.1 a2 r_n r_v, cs_X2 J.2.2.1 a3 p_beds p_letters p_readers p_far p_drain p_length p_words p_home] [cs_X9 (a0 0) k_tape (a1 0) k_trial k_task k_season k_stuffing k_images (a2 0) (a3 0) k_sparePlan k_rule k_spareRule k_notes k_spareNotes x_latest x_imageMany x_refusedSteps c2 x_misused, cs_X4 J.2.2.1 a1 s_year s_wet s_lost s_eaten s_tied s_ripeMany s_gone s_place s_heard s_many s_lying s_ripe, cs_A J.2.2.1 a2 r_n r_v, cs_X2 J.2.2.1 a3 p_beds p_letters p_readers p_far p_drain p_length p_words p_home] [1, 2, 3] [0] rfl (by simp only [List.flatten_cons, List.flatten_nil, List.append_nil, List.append_assoc]) (by simp only [List.flatten_cons, List.flatten_nil, List.append_nil, List.append_assoc]) rfl rfl rfl (by decide) (by simp only [List.map_cons, List.map_nil, List.getD_cons_zero, List.getD_cons_succ, List.flatten_cons, List.flatten_nil, List.append_nil, List.append_assoc]) (by simp only [List.map_cons, List.map_nil, List.getD_cons_zero, List.getD_cons_succ, List.flatten_cons, List.flatten_nil, List.append_nil, List.append_assoc])) kw_956 kw_958 kw_12 kw_86 hy_X9_needOneOf kw_959 rfl (Nat.le_of_ble_eq_true rfl) (Nat.le_of_ble_eq_true rfl) (Nat.le_of_ble_eq_true rfl) (Nat.le_of_ble_eq_true rfl) (Nat.le_of_ble_eq_true rfl) dX9_tour_9 (fun he => ?_) (fun he => ?_)
  · subst he
    rw [if_pos rfl] at h
    refine g_wid (n' := 1) (k' := 6) (Nat.le_of_ble_eq_true rfl) (Nat.le_of_ble_eq_true rfl) ?_
    refine g_aload_n (pc := 12) C 0 rfl dX9_tour_12 ?_
    refine g_aload_n (pc := 13) C 0 rfl dX9_tour_13 ?_
    refine g_get (pc := 14) C FOK_X9 0 rfl rfl 1 (by decide) kw_368 rfl dX9_tour_14 ?_
    refine g_aload_n (pc := 17) C 0 rfl dX9_tour_17 ?_
    refine g_get (pc := 18) C FOK_X9 0 rfl rfl 8 (by decide) kw_375 rfl dX9_tour_18 ?_
    obtain ⟨v3, hc, h⟩ := b1_of h
    refine g_callV (pc := 21) C (w' := cs_X9 (a0 0) k_tape (a1 0) k_trial k_task k_season k_stuffing k_images (a2 0) (a3 0) k_sparePlan k_rule k_spareRule k_notes k_spareNotes x_latest x_imageMany x_refusedSteps c2 x_misused ++ cs_X4 J.2.2.1 a1 s_year s_wet s_lost s_eaten s_tied s_ripeMany s_gone s_place s_heard s_many s_lying s_ripe ++ cs_A J.2.2.1 a2 r_n r_v ++ cs_X2 J.2.2.1 a3 p_beds p_letters p_readers p_far p_drain p_length p_words p_home) (As := [.ref (a3 0)]) (st := [.ref (a0 0)]) (ci := 4) (q0 := 1) rfl rfl (t_X4_wordsInAll (a0 := a1) (a1 := a3) (s_year := s_year) (s_wet := s_wet) (s_lost := s_lost) (s_eaten := s_eaten) (s_tied := s_tied) (s_ripeMany := s_ripeMany) (s_gone := s_gone) (s_place := s_place) (s_heard := s_heard) (s_many := s_many) (s_lying := s_lying) (s_ripe := s_ripe) (p_beds := p_beds) (p_letters := p_letters) (p_readers := p_readers) (p_far := p_far) (p_drain := p_drain) (p_length := p_length) (p_words := p_words) (p_home := p_home) hc) (Sub.blk 4 [cs_X9 (a0 0) k_tape (a1 0) k_trial k_task k_season k_stuffing k_images (a2 0) (a3 0) k_sparePlan k_rule k_spareRule k_notes k_spareNotes x_latest x_imageMany x_refusedSteps c2 x_misused, cs_X4 J.2.2.1 a1 s_year s_wet s_lost s_eaten s_tied s_ripeMany s_gone s_place s_heard s_many s_lying s_ripe, cs_A J.2.2.1 a2 r_n r_v, cs_X2 J.2.2.1 a3 p_beds p_letters p_readers p_far p_drain p_length p_words p_home] [cs_X9 (a0 0) k_tape (a1 0) k_trial k_task k_season k_stuffing k_images (a2 0) (a3 0) k_sparePlan k_rule k_spareRule k_notes k_spareNotes x_latest x_imageMany x_refusedSteps c2 x_misused, cs_X4 J.2.2.1 a1 s_year s_wet s_lost s_eaten s_tied s_ripeMany s_gone s_place s_heard s_many s_lying s_ripe, cs_A J.2.2.1 a2 r_n r_v, cs_X2 J.2.2.1 a3 p_beds p_letters p_readers p_far p_drain p_length p_words p_home] [0, 2] [1, 3] rfl (by simp only [List.flatten_cons, List.flatten_nil, List.append_nil, List.append_assoc]) (by simp only [List.flatten_cons, List.flatten_nil, List.append_nil, List.append_assoc]) rfl rfl rfl (by decide) (by simp only [List.map_cons, List.map_nil, List.getD_cons_zero, List.getD_cons_succ, List.flatten_cons, List.flatten_nil, List.append_nil, List.append_assoc]) (by simp only [List.map_cons, List.map_nil, List.getD_cons_zero, List.getD_cons_succ, List.flatten_cons, List.flatten_nil, List.append_nil, List.append_assoc])) kw_1090 kw_1091 kw_1092 kw_88 hy_X4_wordsInAll kw_1093 rfl (Nat.le_of_ble_eq_true rfl) (Nat.le_of_ble_eq_true rfl) (Nat.le_of_ble_eq_true rfl) (Nat.le_of_ble_eq_true rfl) (Nat.le_of_ble_eq_true rfl) dX9_tour_21 ?_
    refine g_aload_n (pc := 24) C 0 rfl dX9_tour_24 ?_
    refine g_get (pc := 25) C FOK_X9 0 rfl rfl 1 (by decide) kw_368 rfl dX9_tour_25 ?_
    refine g_get (pc := 28) C FOK_X4 1 rfl rfl 8 (by decide) kw_171 rfl dX9_tour_28 ?_
    refine g_iload_n (pc := 31) C 1 rfl dX9_tour_31 ?_
    obtain ⟨hi, h⟩ := ix_of h
    refine g_iald (pc := 32) C 4 rfl hi dX9_tour_32 ?_
    refine g_iconst (pc := 33) C dX9_tour_33 ci_m1 ?_
    refine g_ixor (pc := 34) C dX9_tour_34 ?_
    refine g_iand (pc := 35) C dX9_tour_35 ?_
    obtain ⟨v4, c5, hc, h⟩ := b2_of h
    refine g_callV (pc := 36) C (w' := cs_X9 (a0 0) k_tape (a1 0) k_trial k_task k_season k_stuffing k_images (a2 0) (a3 0) k_sparePlan k_rule k_spareRule k_notes k_spareNotes x_latest x_imageMany x_refusedSteps c2 x_misused ++ cs_X4 J.2.2.1 a1 s_year s_wet s_lost s_eaten s_tied s_ripeMany s_gone s_place s_heard s_many s_lying s_ripe ++ cs_A J.2.2.1 a2 r_n c5 ++ cs_X2 J.2.2.1 a3 p_beds p_letters p_readers p_far p_drain p_length p_words p_home) (As := [.int (v3 &&& ((s_heard n1.toNatClampNeg) ^^^ (-1)))]) (st := []) (ci := 9) (q0 := 0) rfl rfl (t_X9_fewestBeds (k_tape := k_tape) (k_trial := k_trial) (k_task := k_task) (k_season := k_season) (k_stuffing := k_stuffing) (k_images := k_images) (k_sparePlan := k_sparePlan) (k_rule := k_rule) (k_spareRule := k_spareRule) (k_notes := k_notes) (k_spareNotes := k_spareNotes) (a0 := a0) (a1 := a1) (a2 := a2) (a3 := a3) (x_latest := x_latest) (x_imageMany := x_imageMany) (x_refusedSteps := x_refusedSteps) (x_missing := c2) (x_misused := x_misused) (s_year := s_year) (s_wet := s_wet) (s_lost := s_lost) (s_eaten := s_eaten) (s_tied := s_tied) (s_ripeMany := s_ripeMany) (s_gone := s_gone) (s_place := s_place) (s_heard := s_heard) (s_many := s_many) (s_lying := s_lying) (s_ripe := s_ripe) (r_n := r_n) (r_v := r_v) (p_beds := p_beds) (p_letters := p_letters) (p_readers := p_readers) (p_far := p_far) (p_drain := p_drain) (p_length := p_length) (p_words := p_words) (p_home := p_home) hc) Sub.same kw_1073 kw_1075 kw_14 kw_86 hy_X9_fewestBeds kw_1076 rfl (Nat.le_of_ble_eq_true rfl) (Nat.le_of_ble_eq_true rfl) (Nat.le_of_ble_eq_true rfl) (Nat.le_of_ble_eq_true rfl) (Nat.le_of_ble_eq_true rfl) dX9_tour_36 ?_
    cases h
    exact g_iretX C E () rfl dX9_tour_39
  · rw [if_neg he] at h
    cases h
    exact gt_out C he E (Nat.le_of_ble_eq_true rfl) (Nat.le_of_ble_eq_true rfl) () rfl
noncomputable def f_X9_fits_29  (s_gone : Nat → Int32) (s_many : Nat → Int32) (s_lying : Nat → Int32) (p_beds : Int32) (p_letters : Int32) (p_drain : Nat → Int32) (p_length : Nat → Int32) (p_words : Nat → Int32) (b_last : Nat → Int32) (n1 : Int32) (k14 : Int32 → Int32 → Int32 → Int32 → Option (Nat × Int32 × Int32)) : Nat → Int32 → Int32 → Int32 → Int32 → Int32 → Option (Nat × Int32 × Int32)
  | 0, _, _, _, _, _ => none
  | n + 1, x2, x3, x4, x5, x_misused => if 9 < x5 then k14 x2 x3 (x4 + 1) x_misused else b1 (f_X0_isRight b_last s_gone s_many s_lying p_beds p_drain p_length p_words x4 x5) (fun v1 => if v1 = 0 then f_X9_fits_29 s_gone s_many s_lying p_beds p_letters p_drain p_length p_words b_last n1 k14 n x2 x3 x4 (x5 + 1) x_misused else if x3 = (-1) then f_X9_fits_29 s_gone s_many s_lying p_beds p_letters p_drain p_length p_words b_last n1 k14 n (x2 + 1) ((10 * x4) + x5) x4 (x5 + 1) x_misused else f_X9_fits_29 s_gone s_many s_lying p_beds p_letters p_drain p_length p_words b_last n1 k14 n (x2 + 1) x3 x4 (x5 + 1) x_misused)
noncomputable def f_X9_fits_14  (s_gone : Nat → Int32) (s_many : Nat → Int32) (s_lying : Nat → Int32) (p_beds : Int32) (p_letters : Int32) (p_drain : Nat → Int32) (p_length : Nat → Int32) (p_words : Nat → Int32) (b_last : Nat → Int32) (n1 : Int32) : Nat → Int32 → Int32 → Int32 → Int32 → Option (Nat × Int32 × Int32)
  | 0, _, _, _, _ => none
  | n + 1, x2, x3, x4, x_misused => if p_letters ≤ x4 then if n1 = 0 then some (0, x2, x_misused) else some (0, x3, x_misused) else f_X9_fits_29 s_gone s_many s_lying p_beds p_letters p_drain p_length p_words b_last n1 (f_X9_fits_14 s_gone s_many s_lying p_beds p_letters p_drain p_length p_words b_last n1 n) FU x2 x3 x4 1 x_misused
noncomputable def f_X9_fits (x_misused : Int32) (s_gone : Nat → Int32) (s_many : Nat → Int32) (s_lying : Nat → Int32) (p_beds : Int32) (p_letters : Int32) (p_drain : Nat → Int32) (p_length : Nat → Int32) (p_words : Nat → Int32) (b_last : Nat → Int32) (n1 : Int32) : Option (Nat × Int32 × Int32) := b2 (f_X9_needRange x_misused n1 0 1) (fun e2 c3 => if e2 = 0 then f_X9_fits_14 s_gone s_many s_lying p_beds p_letters p_drain p_length p_words b_last n1 FU 0 (-1) 0 c3 else some (e2, 0, c3))
def rm_X9_fits : Room := { frames := 10, cells := 1, slots := 6, locals := 143 }
set_option maxRecDepth 100000 in
set_option maxHeartbeats 4000000 in
theorem j_X9_fits_29 {J : Jt} {Z : Zt} {a0 : Nat → Nat} {a1 : Nat → Nat} {a2 : Nat → Nat} {a3 : Nat → Nat} {k_tape : Nat} {k_trial : Nat} {k_task : Nat} {k_season : Nat} {k_stuffing : Nat} {k_images : Nat} {k_row : Nat} {k_sparePlan : Nat} {k_rule : Nat} {k_spareRule : Nat} {k_spareNotes : Nat} {x_latest : Value} {x_imageMany : Int32} {x_refusedSteps : Int32} {x_missing : Int32} {s_year : Int32} {s_wet : Int32} {s_lost : Int32} {s_eaten : Int32} {s_tied : Int32} {s_ripeMany : Int32} {s_gone : Nat → Int32} {s_place : Nat → Int32} {s_heard : Nat → Int32} {s_many : Nat → Int32} {s_lying : Nat → Int32} {s_ripe : Nat → Int32} {p_beds : Int32} {p_letters : Int32} {p_readers : Int32} {p_far : Nat → Int32} {p_drain : Nat → Int32} {p_length : Nat → Int32} {p_words : Nat → Int32} {p_home : Nat → Int32} {b_last : Nat → Int32} {b_lines : Int32} {n1 : Int32} {ex : Nat} {r : Int32} {o_x_misused : Int32} {k14 : Int32 → Int32 → Int32 → Int32 → Option (Nat × Int32 × Int32)} (C : Cx J Z cX9_fits 6 RX9 (some .int) rm_X9_fits) (hJ : J.1.stackTraces = false) (E : EzX J Z 1 6 ex (some (.int r)) (fun _ : Unit => cs_X9 (a0 0) k_tape (a1 0) k_trial k_task k_season k_stuffing k_images k_row (a2 0) k_sparePlan k_rule k_spareRule (a3 0) k_spareNotes x_latest x_imageMany x_refusedSteps x_missing o_x_misused ++ cs_X4 J.2.2.1 a1 s_year s_wet s_lost s_eaten s_tied s_ripeMany s_gone s_place s_heard s_many s_lying s_ripe ++ cs_X2 J.2.2.1 a2 p_beds p_letters p_readers p_far p_drain p_length p_words p_home ++ cs_X0 J.2.2.1 a3 b_last b_lines)) (hk14 : ∀ (x2 : Int32) (x3 : Int32) (x4 : Int32) (x_misused : Int32), k14 x2 x3 x4 x_misused = some (ex, r, o_x_misused) → G J Z 1 6 (cs_X9 (a0 0) k_tape (a1 0) k_trial k_task k_season k_stuffing k_images k_row (a2 0) k_sparePlan k_rule k_spareRule (a3 0) k_spareNotes x_latest x_imageMany x_refusedSteps x_missing x_misused ++ cs_X4 J.2.2.1 a1 s_year s_wet s_lost s_eaten s_tied s_ripeMany s_gone s_place s_heard s_many s_lying s_ripe ++ cs_X2 J.2.2.1 a2 p_beds p_letters p_readers p_far p_drain p_length p_words p_home ++ cs_X0 J.2.2.1 a3 b_last b_lines) 6 [(0, .ref (a0 0)), (1, .int n1), (2, .int x2), (3, .int x3), (4, .int x4)] 14 []) : ∀ (n : Nat) (x2 : Int32) (x3 : Int32) (x4 : Int32) (x5 : Int32) (x_misused : Int32), f_X9_fits_29 s_gone s_many s_lying p_beds p_letters p_drain p_length p_words b_last n1 k14 n x2 x3 x4 x5 x_misused = some (ex, r, o_x_misused) → G J Z 1 6 (cs_X9 (a0 0) k_tape (a1 0) k_trial k_task k_season k_stuffing k_images k_row (a2 0) k_sparePlan k_rule k_spareRule (a3 0) k_spareNotes x_latest x_imageMany x_refusedSteps x_missing x_misused ++ cs_X4 J.2.2.1 a1 s_year s_wet s_lost s_eaten s_tied s_ripeMany s_gone s_place s_heard s_many s_lying s_ripe ++ cs_X2 J.2.2.1 a2 p_beds p_letters p_readers p_far p_drain p_length p_words p_home ++ cs_X0 J.2.2.1 a3 b_last b_lines) 6 [(0, .ref (a0 0)), (1, .int n1), (2, .int x2), (3, .int x3), (4, .int x4), (5, .int x5)] 29 [] := by
  intro n
  induction n with
  | zero =>
    intro x2 x3 x4 x5 x_misused h
    rw [f_X9_fits_29] at h
    cases h
  | succ n ih =>
    intro x2 x3 x4 x5 x_misused h
    rw [f_X9_fits_29] at h
    refine g_iload (pc := 29) C 5 rfl dX9_fits_29 ?_
    refine g_bipush (pc := 31) C dX9_fits_31 cb_9 ?_
    refine g_icmp_gt (pc := 33) C (tgt := 85) dX9_fits_33 rfl h (fun h => ?_) (fun h => ?_)
    · refine g_iinc (pc := 85) C (j := 4) [(4, .int (x4 + 1)), (0, .ref (a0 0)), (1, .int n1), (2, .int x2), (3, .int x3), (5, .int x5)] dX9_fits_85 rfl (ii_1 _) (by decide) rfl ?_
      refine g_goto (pc := 88) C (tgt := 14) dX9_fits_88 rfl ?_
      refine g_lv [1, 2, 3, 4, 0] rfl ?_
      exact hk14 x2 x3 (x4 + 1) x_misused h
    · refine g_aload_n (pc := 36) C 0 rfl dX9_fits_36 ?_
      refine g_get (pc := 37) C FOK_X9 0 rfl rfl 12 (by decide) kw_379 rfl dX9_fits_37 ?_
      refine g_aload_n (pc := 40) C 0 rfl dX9_fits_40 ?_
      refine g_get (pc := 41) C FOK_X9 0 rfl rfl 1 (by decide) kw_368 rfl dX9_fits_41 ?_
      refine g_aload_n (pc := 44) C 0 rfl dX9_fits_44 ?_
      refine g_get (pc := 45) C FOK_X9 0 rfl rfl 8 (by decide) kw_375 rfl dX9_fits_45 ?_
      refine g_iload (pc := 48) C 4 rfl dX9_fits_48 ?_
      refine g_iload (pc := 50) C 5 rfl dX9_fits_50 ?_
      obtain ⟨v1, hc, h⟩ := b1_of h
      refine g_callV (pc := 52) C (w' := cs_X9 (a0 0) k_tape (a1 0) k_trial k_task k_season k_stuffing k_images k_row (a2 0) k_sparePlan k_rule k_spareRule (a3 0) k_spareNotes x_latest x_imageMany x_refusedSteps x_missing x_misused ++ cs_X4 J.2.2.1 a1 s_year s_wet s_lost s_eaten s_tied s_ripeMany s_gone s_place s_heard s_many s_lying s_ripe ++ cs_X2 J.2.2.1 a2 p_beds p_letters p_readers p_far p_drain p_length p_words p_home ++ cs_X0 J.2.2.1 a3 b_last b_lines) (As := [.ref (a1 0), .ref (a2 0), .int x4, .int x5]) (st := []) (ci := 0) (q0 := 14) rfl rfl (t_X0_isRight (a0 := a3) (a1 := a1) (a2 := a2) (b_last := b_last) (b_lines := b_lines) (s_year := s_year) (s_wet := s_wet) (s_lost := s_lost) (s_eaten := s_eaten) (s_tied := s_tied) (s_ripeMany := s_ripeMany) (s_gone := s_gone) (s_place := s_place) (s_heard := s_heard) (s_many := s_many) (s_lying := s_lying) (s_ripe := s_ripe) (p_beds := p_beds) (p_letters := p_letters) (p_readers := p_readers) (p_far := p_far) (p_drain := p_drain) (p_length := p_length) (p_words := p_words) (p_home := p_home) hc) (Sub.blk 4 [cs_X9 (a0 0) k_tape (a1 0) k_trial k_task k_season k_stuffing k_images k_row (a2 0) k_sparePlan k_rule k_spareRule (a3 0) k_spareNotes x_latest x_imageMany x_refusedSteps x_missing x_misused, cs_X4 J.2.2.1 a1 s_year s_wet s_lost s_eaten s_tied s_ripeMany s_gone s_place s_heard s_many s_lying s_ripe, cs_X2 J.2.2.1 a2 p_beds p_letters p_readers p_far p_drain p_length p_words p_home, cs_X0 J.2.2.1 a3 b_last b_lines] [cs_X9 (a0 0) k_tape (a1 0) k_trial k_task k_season k_stuffing k_images k_row (a2 0) k_sparePlan k_rule k_spareRule (a3 0) k_spareNotes x_latest x_imageMany x_refusedSteps x_missing x_misused, cs_X4 J.2.2.1 a1 s_year s_wet s_lost s_eaten s_tied s_ripeMany s_gone s_place s_heard s_many s_lying s_ripe, cs_X2 J.2.2.1 a2 p_beds p_letters p_readers p_far p_drain p_length p_words p_home, cs_X0 J.2.2.1 a3 b_last b_lines] [0] [3, 1, 2] rfl (by simp only [List.flatten_cons, List.flatten_nil, List.append_nil, List.append_assoc]) (by simp only [List.flatten_cons, List.flatten_nil, List.append_nil, List.append_assoc]) rfl rfl rfl (by decide) (by simp only [List.map_cons, List.map_nil, List.getD_cons_zero, List.getD_cons_succ, List.flatten_cons, List.flatten_nil, List.append_nil, List.append_assoc]) (by simp only [List.map_cons, List.map_nil, List.getD_cons_zero, List.getD_cons_succ, List.flatten_cons, List.flatten_nil, List.append_nil, List.append_assoc])) kw_1101 kw_1102 kw_1103 kw_94 hy_X0_isRight kw_1104 rfl (Nat.le_of_ble_eq_true rfl) (Nat.le_of_ble_eq_true rfl) (Nat.le_of_ble_eq_true rfl) (Nat.le_of_ble_eq_true rfl) (Nat.le_of_ble_eq_true rfl) dX9_fits_52 ?_
      refine g_if_eq (pc := 55) C (tgt := 79) dX9_fits_55 rfl h (fun h => ?_) (fun h => ?_)
      · refine g_iinc (pc := 79) C (j := 5) [(5, .int (x5 + 1)), (0, .ref (a0 0)), (1, .int n1), (2, .int x2), (3, .int x3), (4, .int x4)] dX9_fits_79 rfl (ii_1 _) (by decide) rfl ?_
        refine g_goto (pc := 82) C (tgt := 29) dX9_fits_82 rfl ?_
        refine g_lv [1, 2, 3, 4, 5, 0] rfl ?_
        exact ih x2 x3 x4 (x5 + 1) x_misused h
      · refine g_iinc (pc := 58) C (j := 2) [(2, .int (x2 + 1)), (0, .ref (a0 0)), (1, .int n1), (3, .int x3), (4, .int x4), (5, .int x5)] dX9_fits_58 rfl (ii_1 _) (by decide) rfl ?_
        refine g_iload_n (pc := 61) C 3 rfl dX9_fits_61 ?_
        refine g_iconst (pc := 62) C dX9_fits_62 ci_m1 ?_
        refine g_icmp_ne (pc := 63) C (tgt := 77) dX9_fits_63 rfl h (fun h => ?_) (fun h => ?_)
        · refine g_iload_n (pc := 77) C 3 rfl dX9_fits_77 ?_
          refine g_istore_n (pc := 78) C [(3, .int x3), (2, .int (x2 + 1)), (0, .ref (a0 0)), (1, .int n1), (4, .int x4), (5, .int x5)] dX9_fits_78 rfl (by decide) rfl ?_
          refine g_iinc (pc := 79) C (j := 5) [(5, .int (x5 + 1)), (3, .int x3), (2, .int (x2 + 1)), (0, .ref (a0 0)), (1, .int n1), (4, .int x4)] dX9_fits_79 rfl (ii_1 _) (by decide) rfl ?_
          refine g_goto (pc := 82) C (tgt := 29) dX9_fits_82 rfl ?_
          refine g_lv [3, 4, 2, 1, 5, 0] rfl ?_
          exact ih (x2 + 1) x3 x4 (x5 + 1) x_misused h
        · refine g_bipush (pc := 66) C dX9_fits_66 cb_10 ?_
          refine g_iload (pc := 68) C 4 rfl dX9_fits_68 ?_
          refine g_imul (pc := 70) C dX9_fits_70 ?_
          refine g_iload (pc := 71) C 5 rfl dX9_fits_71 ?_
          refine g_iadd (pc := 73) C dX9_fits_73 ?_
          refine g_goto (pc := 74) C (tgt := 78) dX9_fits_74 rfl ?_
          refine g_istore_n (pc := 78) C [(3, .int ((10 * x4) + x5)), (2, .int (x2 + 1)), (0, .ref (a0 0)), (1, .int n1), (4, .int x4), (5, .int x5)] dX9_fits_78 rfl (by decide) rfl ?_
          refine g_iinc (pc := 79) C (j := 5) [(5, .int (x5 + 1)), (3, .int ((10 * x4) + x5)), (2, .int (x2 + 1)), (0, .ref (a0 0)), (1, .int n1), (4, .int x4)] dX9_fits_79 rfl (ii_1 _) (by decide) rfl ?_
          refine g_goto (pc := 82) C (tgt := 29) dX9_fits_82 rfl ?_
          refine g_lv [3, 4, 2, 1, 5, 0] rfl ?_
          exact ih (x2 + 1) ((10 * x4) + x5) x4 (x5 + 1) x_misused h
set_option maxRecDepth 100000 in
set_option maxHeartbeats 4000000 in
theorem j_X9_fits_14 {J : Jt} {Z : Zt} {a0 : Nat → Nat} {a1 : Nat → Nat} {a2 : Nat → Nat} {a3 : Nat → Nat} {k_tape : Nat} {k_trial : Nat} {k_task : Nat} {k_season : Nat} {k_stuffing : Nat} {k_images : Nat} {k_row : Nat} {k_sparePlan : Nat} {k_rule : Nat} {k_spareRule : Nat} {k_spareNotes : Nat} {x_latest : Value} {x_imageMany : Int32} {x_refusedSteps : Int32} {x_missing : Int32} {s_year : Int32} {s_wet : Int32} {s_lost : Int32} {s_eaten : Int32} {s_tied : Int32} {s_ripeMany : Int32} {s_gone : Nat → Int32} {s_place : Nat → Int32} {s_heard : Nat → Int32} {s_many : Nat → Int32} {s_lying : Nat → Int32} {s_ripe : Nat → Int32} {p_beds : Int32} {p_letters : Int32} {p_readers : Int32} {p_far : Nat → Int32} {p_drain : Nat → Int32} {p_length : Nat → Int32} {p_words : Nat → Int32} {p_home : Nat → Int32} {b_last : Nat → Int32} {b_lines : Int32} {n1 : Int32} {ex : Nat} {r : Int32} {o_x_misused : Int32} (C : Cx J Z cX9_fits 6 RX9 (some .int) rm_X9_fits) (hJ : J.1.stackTraces = false) (E : EzX J Z 1 6 ex (some (.int r)) (fun _ : Unit => cs_X9 (a0 0) k_tape (a1 0) k_trial k_task k_season k_stuffing k_images k_row (a2 0) k_sparePlan k_rule k_spareRule (a3 0) k_spareNotes x_latest x_imageMany x_refusedSteps x_missing o_x_misused ++ cs_X4 J.2.2.1 a1 s_year s_wet s_lost s_eaten s_tied s_ripeMany s_gone s_place s_heard s_many s_lying s_ripe ++ cs_X2 J.2.2.1 a2 p_beds p_letters p_readers p_far p_drain p_length p_words p_home ++ cs_X0 J.2.2.1 a3 b_last b_lines)) : ∀ (n : Nat) (x2 : Int32) (x3 : Int32) (x4 : Int32) (x_misused : Int32), f_X9_fits_14 s_gone s_many s_lying p_beds p_letters p_drain p_length p_words b_last n1 n x2 x3 x4 x_misused = some (ex, r, o_x_misused) → G J Z 1 6 (cs_X9 (a0 0) k_tape (a1 0) k_trial k_task k_season k_stuffing k_images k_row (a2 0) k_sparePlan k_rule k_spareRule (a3 0) k_spareNotes x_latest x_imageMany x_refusedSteps x_missing x_misused ++ cs_X4 J.2.2.1 a1 s_year s_wet s_lost s_eaten s_tied s_ripeMany s_gone s_place s_heard s_many s_lying s_ripe ++ cs_X2 J.2.2.1 a2 p_beds p_letters p_readers p_far p_drain p_length p_words p_home ++ cs_X0 J.2.2.1 a3 b_last b_lines) 6 [(0, .ref (a0 0)), (1, .int n1), (2, .int x2), (3, .int x3), (4, .int x4)] 14 [] := by
  intro n
  induction n with
  | zero =>
    intro x2 x3 x4 x_misused h
    rw [f_X9_fits_14] at h
    cases h
  | succ n ih =>
    intro x2 x3 x4 x_misused h
    rw [f_X9_fits_14] at h
    refine g_iload (pc := 14) C 4 rfl dX9_fits_14 ?_
    refine g_aload_n (pc := 16) C 0 rfl dX9_fits_16 ?_
    refine g_get (pc := 17) C FOK_X9 0 rfl rfl 8 (by decide) kw_375 rfl dX9_fits_17 ?_
    refine g_get (pc := 20) C FOK_X2 8 rfl rfl 1 (by decide) kw_283 rfl dX9_fits_20 ?_
    refine g_icmp_ge (pc := 23) C (tgt := 91) dX9_fits_23 rfl h (fun h => ?_) (fun h => ?_)
    · refine g_iload_n (pc := 91) C 1 rfl dX9_fits_91 ?_
      refine g_if_ne (pc := 92) C (tgt := 99) dX9_fits_92 rfl h (fun h => ?_) (fun h => ?_)
      · refine g_iload_n (pc := 99) C 3 rfl dX9_fits_99 ?_
        cases h
        exact g_iretX C E () rfl dX9_fits_100
      · refine g_iload_n (pc := 95) C 2 rfl dX9_fits_95 ?_
        refine g_goto (pc := 96) C (tgt := 100) dX9_fits_96 rfl ?_
        cases h
        exact g_iretX C E () rfl dX9_fits_100
    · refine g_iconst (pc := 26) C dX9_fits_26 ci_1 ?_
      refine g_istore (pc := 27) C [(5, .int 1), (0, .ref (a0 0)), (1, .int n1), (2, .int x2), (3, .int x3), (4, .int x4)] dX9_fits_27 (by decide) rfl ?_
      refine g_lv [1, 2, 3, 4, 5, 0] rfl ?_
      exact j_X9_fits_29 C hJ E   ih FU x2 x3 x4 1 x_misused h
set_option maxRecDepth 100000 in
set_option maxHeartbeats 4000000 in
theorem t_X9_fits {J : Jt} {a0 : Nat → Nat} {a1 : Nat → Nat} {a2 : Nat → Nat} {a3 : Nat → Nat} {k_tape : Nat} {k_trial : Nat} {k_task : Nat} {k_season : Nat} {k_stuffing : Nat} {k_images : Nat} {k_row : Nat} {k_sparePlan : Nat} {k_rule : Nat} {k_spareRule : Nat} {k_spareNotes : Nat} {x_latest : Value} {x_imageMany : Int32} {x_refusedSteps : Int32} {x_missing : Int32} {x_misused : Int32} {s_year : Int32} {s_wet : Int32} {s_lost : Int32} {s_eaten : Int32} {s_tied : Int32} {s_ripeMany : Int32} {s_gone : Nat → Int32} {s_place : Nat → Int32} {s_heard : Nat → Int32} {s_many : Nat → Int32} {s_lying : Nat → Int32} {s_ripe : Nat → Int32} {p_beds : Int32} {p_letters : Int32} {p_readers : Int32} {p_far : Nat → Int32} {p_drain : Nat → Int32} {p_length : Nat → Int32} {p_words : Nat → Int32} {p_home : Nat → Int32} {b_last : Nat → Int32} {b_lines : Int32} {n1 : Int32} {ex : Nat} {r : Int32} {o_x_misused : Int32} (hJ : J.1.stackTraces = false) (h : f_X9_fits x_misused s_gone s_many s_lying p_beds p_letters p_drain p_length p_words b_last n1 = some (ex, r, o_x_misused)) : MtX J yX9_fits cX9_fits 6 (some .int) rm_X9_fits [.ref (a0 0), .int n1] (cs_X9 (a0 0) k_tape (a1 0) k_trial k_task k_season k_stuffing k_images k_row (a2 0) k_sparePlan k_rule k_spareRule (a3 0) k_spareNotes x_latest x_imageMany x_refusedSteps x_missing x_misused ++ cs_X4 J.2.2.1 a1 s_year s_wet s_lost s_eaten s_tied s_ripeMany s_gone s_place s_heard s_many s_lying s_ripe ++ cs_X2 J.2.2.1 a2 p_beds p_letters p_readers p_far p_drain p_length p_words p_home ++ cs_X0 J.2.2.1 a3 b_last b_lines) ex (some (.int r)) (fun _ : Unit => cs_X9 (a0 0) k_tape (a1 0) k_trial k_task k_season k_stuffing k_images k_row (a2 0) k_sparePlan k_rule k_spareRule (a3 0) k_spareNotes x_latest x_imageMany x_refusedSteps x_missing o_x_misused ++ cs_X4 J.2.2.1 a1 s_year s_wet s_lost s_eaten s_tied s_ripeMany s_gone s_place s_heard s_many s_lying s_ripe ++ cs_X2 J.2.2.1 a2 p_beds p_letters p_readers p_far p_drain p_length p_words p_home ++ cs_X0 J.2.2.1 a3 b_last b_lines) := by
  refine MtX_of (own := RX9) (by decide) rfl (Nat.le_of_ble_eq_true rfl) rfl (fun Z C E => ?_)
  unfold f_X9_fits at h
  show G J Z 0 0 (cs_X9 (a0 0) k_tape (a1 0) k_trial k_task k_season k_stuffing k_images k_row (a2 0) k_sparePlan k_rule k_spareRule (a3 0) k_spareNotes x_latest x_imageMany x_refusedSteps x_missing x_misused ++ cs_X4 J.2.2.1 a1 s_year s_wet s_lost s_eaten s_tied s_ripeMany s_gone s_place s_heard s_many s_lying s_ripe ++ cs_X2 J.2.2.1 a2 p_beds p_letters p_readers p_far p_drain p_length p_words p_home ++ cs_X0 J.2.2.1 a3 b_last b_lines) 6 [(0, .ref (a0 0)), (1, .int n1)] 0 []
  refine g_aload_n (pc := 0) C 0 rfl dX9_fits_0 ?_
  refine g_iload_n (pc := 1) C 1 rfl dX9_fits_1 ?_
  refine g_iconst (pc := 2) C dX9_fits_2 ci_0 ?_
  refine g_iconst (pc := 3) C dX9_fits_3 ci_1 ?_
  obtain ⟨e2, c3, hc, h⟩ := b2_of h
  refine g_xcallU (pc := 4) C (w' := cs_X9 (a0 0) k_tape (a1 0) k_trial k_task k_season k_stuffing k_images k_row (a2 0) k_sparePlan k_rule k_spareRule (a3 0) k_spareNotes x_latest x_imageMany x_refusedSteps x_missing c3 ++ cs_X4 J.2.2.1 a1 s_year s_wet s_lost s_eaten s_tied s_ripeMany s_gone s_place s_heard s_many s_lying s_ripe ++ cs_X2 J.2.2.1 a2 p_beds p_letters p_readers p_far p_drain p_length p_words p_home ++ cs_X0 J.2.2.1 a3 b_last b_lines) (As := [.int n1, .int 0, .int 1]) (st := []) (ci := 9) (q0 := 0) rfl rfl (t_X9_needRange (k_tape := k_tape) (k_now := (a1 0)) (k_trial := k_trial) (k_task := k_task) (k_season := k_season) (k_stuffing := k_stuffing) (k_images := k_images) (k_row := k_row) (k_plan := (a2 0)) (k_sparePlan := k_sparePlan) (k_rule := k_rule) (k_spareRule := k_spareRule) (k_notes := (a3 0)) (k_spareNotes := k_spareNotes) (a0 := a0) (x_latest := x_latest) (x_imageMany := x_imageMany) (x_refusedSteps := x_refusedSteps) (x_missing := x_missing) (x_misused := x_misused) hJ hc) (Sub.blk 4 [cs_X9 (a0 0) k_tape (a1 0) k_trial k_task k_season k_stuffing k_images k_row (a2 0) k_sparePlan k_rule k_spareRule (a3 0) k_spareNotes x_latest x_imageMany x_refusedSteps x_missing x_misused, cs_X4 J.2.2.1 a1 s_year s_wet s_lost s_eaten s_tied s_ripeMany s_gone s_place s_heard s_many s_lying s_ripe, cs_X2 J.2.2.1 a2 p_beds p_letters p_readers p_far p_drain p_length p_words p_home, cs_X0 J.2.2.1 a3 b_last b_lines] [cs_X9 (a0 0) k_tape (a1 0) k_trial k_task k_season k_stuffing k_images k_row (a2 0) k_sparePlan k_rule k_spareRule (a3 0) k_spareNotes x_latest x_imageMany x_refusedSteps x_missing c3, cs_X4 J.2.2.1 a1 s_year s_wet s_lost s_eaten s_tied s_ripeMany s_gone s_place s_heard s_many s_lying s_ripe, cs_X2 J.2.2.1 a2 p_beds p_letters p_readers p_far p_drain p_length p_words p_home, cs_X0 J.2.2.1 a3 b_last b_lines] [1, 2, 3] [0] rfl (by simp only [List.flatten_cons, List.flatten_nil, List.append_nil, List.append_assoc]) (by simp only [List.flatten_cons, List.flatten_nil, List.append_nil, List.append_assoc]) rfl rfl rfl (by decide) (by simp only [List.map_cons, List.map_nil, List.getD_cons_zero, List.getD_cons_succ, List.flatten_cons, List.flatten_nil, List.append_nil, List.append_assoc]) (by simp only [List.map_cons, List.map_nil, List.getD_cons_zero, List.getD_cons_succ, List.flatten_cons, List.flatten_nil, List.append_nil, List.append_assoc])) kw_545 kw_547 kw_2 kw_86 hy_X9_needRange kw_548 rfl (Nat.le_of_ble_eq_true rfl) (Nat.le_of_ble_eq_true rfl) (Nat.le_of_ble_eq_true rfl) (Nat.le_of_ble_eq_true rfl) (Nat.le_of_ble_eq_true rfl) dX9_fits_4 (fun he => ?_) (fun he => ?_)
  · subst he
    rw [if_pos rfl] at h
    refine g_wid (n' := 1) (k' := 6) (Nat.le_of_ble_eq_true rfl) (Nat.le_of_ble_eq_true rfl) ?_
    refine g_iconst (pc := 7) C dX9_fits_7 ci_0 ?_
    refine g_istore_n (pc := 8) C [(2, .int 0), (0, .ref (a0 0)), (1, .int n1)] dX9_fits_8 rfl (by decide) rfl ?_
    refine g_iconst (pc := 9) C dX9_fits_9 ci_m1 ?_
    refine g_istore_n (pc := 10) C [(3, .int (-1)), (2, .int 0), (0, .ref (a0 0)), (1, .int n1)] dX9_fits_10 rfl (by decide) rfl ?_
    refine g_iconst (pc := 11) C dX9_fits_11 ci_0 ?_
    refine g_istore (pc := 12) C [(4, .int 0), (3, .int (-1)), (2, .int 0), (0, .ref (a0 0)), (1, .int n1)] dX9_fits_12 (by decide) rfl ?_
    refine g_lv [3, 4, 2, 1, 0] rfl ?_
    exact j_X9_fits_14 C hJ E    FU 0 (-1) 0 c3 h
  · rw [if_neg he] at h
    cases h
    exact gt_out C he E (Nat.le_of_ble_eq_true rfl) (Nat.le_of_ble_eq_true rfl) () rfl
noncomputable def f_X9_mostLeftBy_39  (s_gone : Nat → Int32) (s_many : Nat → Int32) (s_lying : Nat → Int32) (r_n : Nat) (p_beds : Int32) (p_letters : Int32) (p_drain : Nat → Int32) (p_length : Nat → Int32) (p_words : Nat → Int32) (b_last : Nat → Int32) (n1 : Int32) (k25 : Int32 → Int32 → (Nat → Int32) → Option (Int32 × (Nat → Int32))) : Nat → Int32 → Int32 → Int32 → (Nat → Int32) → Option (Int32 × (Nat → Int32))
  | 0, _, _, _, _ => none
  | n + 1, x2, x3, x4, r_v => if 9 < x4 then k25 x2 (x3 + 1) r_v else b1 (f_X0_isRight b_last s_gone s_many s_lying p_beds p_drain p_length p_words x3 x4) (fun v1 => if v1 = 0 then f_X9_mostLeftBy_39 s_gone s_many s_lying r_n p_beds p_letters p_drain p_length p_words b_last n1 k25 n x2 x3 (x4 + 1) r_v else b1 (f_X4_lastAfter s_gone s_many s_lying p_drain p_length p_words n1 x3 x4) (fun v2 => if v2 < 0 then f_X9_mostLeftBy_39 s_gone s_many s_lying r_n p_beds p_letters p_drain p_length p_words b_last n1 k25 n x2 x3 (x4 + 1) r_v else if 16 < v2 then f_X9_mostLeftBy_39 s_gone s_many s_lying r_n p_beds p_letters p_drain p_length p_words b_last n1 k25 n x2 x3 (x4 + 1) r_v else if ixb v2 r_n then if ixb v2 r_n then if ixb v2 r_n then f_X9_mostLeftBy_39 s_gone s_many s_lying r_n p_beds p_letters p_drain p_length p_words b_last n1 k25 n (imax x2 ((upd r_v v2.toNatClampNeg ((r_v v2.toNatClampNeg) + 1)) v2.toNatClampNeg)) x3 (x4 + 1) (upd r_v v2.toNatClampNeg ((r_v v2.toNatClampNeg) + 1)) else none else none else none))
noncomputable def f_X9_mostLeftBy_25  (s_gone : Nat → Int32) (s_many : Nat → Int32) (s_lying : Nat → Int32) (r_n : Nat) (p_beds : Int32) (p_letters : Int32) (p_drain : Nat → Int32) (p_length : Nat → Int32) (p_words : Nat → Int32) (b_last : Nat → Int32) (n1 : Int32) : Nat → Int32 → Int32 → (Nat → Int32) → Option (Int32 × (Nat → Int32))
  | 0, _, _, _ => none
  | n + 1, x2, x3, r_v => if p_letters ≤ x3 then some (x2, r_v) else f_X9_mostLeftBy_39 s_gone s_many s_lying r_n p_beds p_letters p_drain p_length p_words b_last n1 (f_X9_mostLeftBy_25 s_gone s_many s_lying r_n p_beds p_letters p_drain p_length p_words b_last n1 n) FU x2 x3 1 r_v
noncomputable def f_X9_mostLeftBy_2  (s_gone : Nat → Int32) (s_many : Nat → Int32) (s_lying : Nat → Int32) (r_n : Nat) (p_beds : Int32) (p_letters : Int32) (p_drain : Nat → Int32) (p_length : Nat → Int32) (p_words : Nat → Int32) (b_last : Nat → Int32) (n1 : Int32) : Nat → Int32 → (Nat → Int32) → Option (Int32 × (Nat → Int32))
  | 0, _, _ => none
  | n + 1, x2, r_v => if 16 < x2 then f_X9_mostLeftBy_25 s_gone s_many s_lying r_n p_beds p_letters p_drain p_length p_words b_last n1 FU 0 0 r_v else if ixb x2 r_n then f_X9_mostLeftBy_2 s_gone s_many s_lying r_n p_beds p_letters p_drain p_length p_words b_last n1 n (x2 + 1) (upd r_v x2.toNatClampNeg 0) else none
noncomputable def f_X9_mostLeftBy (s_gone : Nat → Int32) (s_many : Nat → Int32) (s_lying : Nat → Int32) (r_n : Nat) (r_v : Nat → Int32) (p_beds : Int32) (p_letters : Int32) (p_drain : Nat → Int32) (p_length : Nat → Int32) (p_words : Nat → Int32) (b_last : Nat → Int32) (n1 : Int32) : Option (Int32 × (Nat → Int32)) := f_X9_mostLeftBy_2 s_gone s_many s_lying r_n p_beds p_letters p_drain p_length p_words b_last n1 FU 0 r_v
def rm_X9_mostLeftBy : Room := { frames := 3, cells := 0, slots := 0, locals := 91 }
set_option maxRecDepth 100000 in
set_option maxHeartbeats 4000000 in
theorem j_X9_mostLeftBy_39 {J : Jt} {Z : Zt} {a0 : Nat → Nat} {a1 : Nat → Nat} {a2 : Nat → Nat} {a3 : Nat → Nat} {a4 : Nat → Nat} {k_tape : Nat} {k_trial : Nat} {k_task : Nat} {k_season : Nat} {k_stuffing : Nat} {k_images : Nat} {k_sparePlan : Nat} {k_rule : Nat} {k_spareRule : Nat} {k_spareNotes : Nat} {x_latest : Value} {x_imageMany : Int32} {x_refusedSteps : Int32} {x_missing : Int32} {x_misused : Int32} {s_year : Int32} {s_wet : Int32} {s_lost : Int32} {s_eaten : Int32} {s_tied : Int32} {s_ripeMany : Int32} {s_gone : Nat → Int32} {s_place : Nat → Int32} {s_heard : Nat → Int32} {s_many : Nat → Int32} {s_lying : Nat → Int32} {s_ripe : Nat → Int32} {r_n : Nat} {p_beds : Int32} {p_letters : Int32} {p_readers : Int32} {p_far : Nat → Int32} {p_drain : Nat → Int32} {p_length : Nat → Int32} {p_words : Nat → Int32} {p_home : Nat → Int32} {b_last : Nat → Int32} {b_lines : Int32} {n1 : Int32} {r : Int32} {o_r_v : Nat → Int32} {k25 : Int32 → Int32 → (Nat → Int32) → Option (Int32 × (Nat → Int32))} (C : Cx J Z cX9_mostLeftBy 6 RX9 (some .int) rm_X9_mostLeftBy) (E : Ez J Z 0 0 (some (.int r)) (cs_X9 (a0 0) k_tape (a1 0) k_trial k_task k_season k_stuffing k_images (a2 0) (a3 0) k_sparePlan k_rule k_spareRule (a4 0) k_spareNotes x_latest x_imageMany x_refusedSteps x_missing x_misused ++ cs_X4 J.2.2.1 a1 s_year s_wet s_lost s_eaten s_tied s_ripeMany s_gone s_place s_heard s_many s_lying s_ripe ++ cs_A J.2.2.1 a2 r_n o_r_v ++ cs_X2 J.2.2.1 a3 p_beds p_letters p_readers p_far p_drain p_length p_words p_home ++ cs_X0 J.2.2.1 a4 b_last b_lines)) (hk25 : ∀ (x2 : Int32) (x3 : Int32) (r_v : Nat → Int32), k25 x2 x3 r_v = some (r, o_r_v) → G J Z 0 0 (cs_X9 (a0 0) k_tape (a1 0) k_trial k_task k_season k_stuffing k_images (a2 0) (a3 0) k_sparePlan k_rule k_spareRule (a4 0) k_spareNotes x_latest x_imageMany x_refusedSteps x_missing x_misused ++ cs_X4 J.2.2.1 a1 s_year s_wet s_lost s_eaten s_tied s_ripeMany s_gone s_place s_heard s_many s_lying s_ripe ++ cs_A J.2.2.1 a2 r_n r_v ++ cs_X2 J.2.2.1 a3 p_beds p_letters p_readers p_far p_drain p_length p_words p_home ++ cs_X0 J.2.2.1 a4 b_last b_lines) 6 [(0, .ref (a0 0)), (1, .int n1), (2, .int x2), (3, .int x3)] 25 []) : ∀ (n : Nat) (x2 : Int32) (x3 : Int32) (x4 : Int32) (r_v : Nat → Int32), f_X9_mostLeftBy_39 s_gone s_many s_lying r_n p_beds p_letters p_drain p_length p_words b_last n1 k25 n x2 x3 x4 r_v = some (r, o_r_v) → G J Z 0 0 (cs_X9 (a0 0) k_tape (a1 0) k_trial k_task k_season k_stuffing k_images (a2 0) (a3 0) k_sparePlan k_rule k_spareRule (a4 0) k_spareNotes x_latest x_imageMany x_refusedSteps x_missing x_misused ++ cs_X4 J.2.2.1 a1 s_year s_wet s_lost s_eaten s_tied s_ripeMany s_gone s_place s_heard s_many s_lying s_ripe ++ cs_A J.2.2.1 a2 r_n r_v ++ cs_X2 J.2.2.1 a3 p_beds p_letters p_readers p_far p_drain p_length p_words p_home ++ cs_X0 J.2.2.1 a4 b_last b_lines) 6 [(0, .ref (a0 0)), (1, .int n1), (2, .int x2), (3, .int x3), (4, .int x4)] 39 [] := by
  intro n
  induction n with
  | zero =>
    intro x2 x3 x4 r_v h
    rw [f_X9_mostLeftBy_39] at h
    cases h
  | succ n ih =>
    intro x2 x3 x4 r_v h
    rw [f_X9_mostLeftBy_39] at h
    refine g_iload (pc := 39) C 4 rfl dX9_mostLeftBy_39 ?_
    refine g_bipush (pc := 41) C dX9_mostLeftBy_41 cb_9 ?_
    refine g_icmp_gt (pc := 43) C (tgt := 125) dX9_mostLeftBy_43 rfl h (fun h => ?_) (fun h => ?_)
    · refine g_iinc (pc := 125) C (j := 3) [(3, .int (x3 + 1)), (0, .ref (a0 0)), (1, .int n1), (2, .int x2), (4, .int x4)] dX9_mostLeftBy_125 rfl (ii_1 _) (by decide) rfl ?_
      refine g_goto (pc := 128) C (tgt := 25) dX9_mostLeftBy_128 rfl ?_
      refine g_lv [1, 2, 3, 0] rfl ?_
      exact hk25 x2 (x3 + 1) r_v h
    · refine g_aload_n (pc := 46) C 0 rfl dX9_mostLeftBy_46 ?_
      refine g_get (pc := 47) C FOK_X9 0 rfl rfl 12 (by decide) kw_379 rfl dX9_mostLeftBy_47 ?_
      refine g_aload_n (pc := 50) C 0 rfl dX9_mostLeftBy_50 ?_
      refine g_get (pc := 51) C FOK_X9 0 rfl rfl 1 (by decide) kw_368 rfl dX9_mostLeftBy_51 ?_
      refine g_aload_n (pc := 54) C 0 rfl dX9_mostLeftBy_54 ?_
      refine g_get (pc := 55) C FOK_X9 0 rfl rfl 8 (by decide) kw_375 rfl dX9_mostLeftBy_55 ?_
      refine g_iload_n (pc := 58) C 3 rfl dX9_mostLeftBy_58 ?_
      refine g_iload (pc := 59) C 4 rfl dX9_mostLeftBy_59 ?_
      obtain ⟨v1, hc, h⟩ := b1_of h
      refine g_callV (pc := 61) C (w' := cs_X9 (a0 0) k_tape (a1 0) k_trial k_task k_season k_stuffing k_images (a2 0) (a3 0) k_sparePlan k_rule k_spareRule (a4 0) k_spareNotes x_latest x_imageMany x_refusedSteps x_missing x_misused ++ cs_X4 J.2.2.1 a1 s_year s_wet s_lost s_eaten s_tied s_ripeMany s_gone s_place s_heard s_many s_lying s_ripe ++ cs_A J.2.2.1 a2 r_n r_v ++ cs_X2 J.2.2.1 a3 p_beds p_letters p_readers p_far p_drain p_length p_words p_home ++ cs_X0 J.2.2.1 a4 b_last b_lines) (As := [.ref (a1 0), .ref (a3 0), .int x3, .int x4]) (st := []) (ci := 0) (q0 := 15) rfl rfl (t_X0_isRight (a0 := a4) (a1 := a1) (a2 := a3) (b_last := b_last) (b_lines := b_lines) (s_year := s_year) (s_wet := s_wet) (s_lost := s_lost) (s_eaten := s_eaten) (s_tied := s_tied) (s_ripeMany := s_ripeMany) (s_gone := s_gone) (s_place := s_place) (s_heard := s_heard) (s_many := s_many) (s_lying := s_lying) (s_ripe := s_ripe) (p_beds := p_beds) (p_letters := p_letters) (p_readers := p_readers) (p_far := p_far) (p_drain := p_drain) (p_length := p_length) (p_words := p_words) (p_home := p_home) hc) (Sub.blk 5 [cs_X9 (a0 0) k_tape (a1 0) k_trial k_task k_season k_stuffing k_images (a2 0) (a3 0) k_sparePlan k_rule k_spareRule (a4 0) k_spareNotes x_latest x_imageMany x_refusedSteps x_missing x_misused, cs_X4 J.2.2.1 a1 s_year s_wet s_lost s_eaten s_tied s_ripeMany s_gone s_place s_heard s_many s_lying s_ripe, cs_A J.2.2.1 a2 r_n r_v, cs_X2 J.2.2.1 a3 p_beds p_letters p_readers p_far p_drain p_length p_words p_home, cs_X0 J.2.2.1 a4 b_last b_lines] [cs_X9 (a0 0) k_tape (a1 0) k_trial k_task k_season k_stuffing k_images (a2 0) (a3 0) k_sparePlan k_rule k_spareRule (a4 0) k_spareNotes x_latest x_imageMany x_refusedSteps x_missing x_misused, cs_X4 J.2.2.1 a1 s_year s_wet s_lost s_eaten s_tied s_ripeMany s_gone s_place s_heard s_many s_lying s_ripe, cs_A J.2.2.1 a2 r_n r_v, cs_X2 J.2.2.1 a3 p_beds p_letters p_readers p_far p_drain p_length p_words p_home, cs_X0 J.2.2.1 a4 b_last b_lines] [0, 2] [4, 1, 3] rfl (by simp only [List.flatten_cons, List.flatten_nil, List.append_nil, List.append_assoc]) (by simp only [List.flatten_cons, List.flatten_nil, List.append_nil, List.append_assoc]) rfl rfl rfl (by decide) (by simp only [List.map_cons, List.map_nil, List.getD_cons_zero, List.getD_cons_succ, List.flatten_cons, List.flatten_nil, List.append_nil, List.append_assoc]) (by simp only [List.map_cons, List.map_nil, List.getD_cons_zero, List.getD_cons_succ, List.flatten_cons, List.flatten_nil, List.append_nil, List.append_assoc])) kw_1101 kw_1102 kw_1103 kw_94 hy_X0_isRight kw_1104 rfl (Nat.le_of_ble_eq_true rfl) (Nat.le_of_ble_eq_true rfl) (Nat.le_of_ble_eq_true rfl) (Nat.le_of_ble_eq_true rfl) (Nat.le_of_ble_eq_true rfl) dX9_mostLeftBy_61 ?_
      refine g_if_eq (pc := 64) C (tgt := 119) dX9_mostLeftBy_64 rfl h (fun h => ?_) (fun h => ?_)
      · refine g_iinc (pc := 119) C (j := 4) [(4, .int (x4 + 1)), (0, .ref (a0 0)), (1, .int n1), (2, .int x2), (3, .int x3)] dX9_mostLeftBy_119 rfl (ii_1 _) (by decide) rfl ?_
        refine g_goto (pc := 122) C (tgt := 39) dX9_mostLeftBy_122 rfl ?_
        refine g_lv [1, 2, 3, 4, 0] rfl ?_
        exact ih x2 x3 (x4 + 1) r_v h
      · refine g_aload_n (pc := 67) C 0 rfl dX9_mostLeftBy_67 ?_
        refine g_get (pc := 68) C FOK_X9 0 rfl rfl 1 (by decide) kw_368 rfl dX9_mostLeftBy_68 ?_
        refine g_aload_n (pc := 71) C 0 rfl dX9_mostLeftBy_71 ?_
        refine g_get (pc := 72) C FOK_X9 0 rfl rfl 8 (by decide) kw_375 rfl dX9_mostLeftBy_72 ?_
        refine g_iload_n (pc := 75) C 1 rfl dX9_mostLeftBy_75 ?_
        refine g_iload_n (pc := 76) C 3 rfl dX9_mostLeftBy_76 ?_
        refine g_iload (pc := 77) C 4 rfl dX9_mostLeftBy_77 ?_
        obtain ⟨v2, hc, h⟩ := b1_of h
        refine g_callV (pc := 79) C (w' := cs_X9 (a0 0) k_tape (a1 0) k_trial k_task k_season k_stuffing k_images (a2 0) (a3 0) k_sparePlan k_rule k_spareRule (a4 0) k_spareNotes x_latest x_imageMany x_refusedSteps x_missing x_misused ++ cs_X4 J.2.2.1 a1 s_year s_wet s_lost s_eaten s_tied s_ripeMany s_gone s_place s_heard s_many s_lying s_ripe ++ cs_A J.2.2.1 a2 r_n r_v ++ cs_X2 J.2.2.1 a3 p_beds p_letters p_readers p_far p_drain p_length p_words p_home ++ cs_X0 J.2.2.1 a4 b_last b_lines) (As := [.ref (a3 0), .int n1, .int x3, .int x4]) (st := []) (ci := 4) (q0 := 1) rfl rfl (t_X4_lastAfter (a0 := a1) (a1 := a3) (s_year := s_year) (s_wet := s_wet) (s_lost := s_lost) (s_eaten := s_eaten) (s_tied := s_tied) (s_ripeMany := s_ripeMany) (s_gone := s_gone) (s_place := s_place) (s_heard := s_heard) (s_many := s_many) (s_lying := s_lying) (s_ripe := s_ripe) (p_beds := p_beds) (p_letters := p_letters) (p_readers := p_readers) (p_far := p_far) (p_drain := p_drain) (p_length := p_length) (p_words := p_words) (p_home := p_home) hc) (Sub.blk 5 [cs_X9 (a0 0) k_tape (a1 0) k_trial k_task k_season k_stuffing k_images (a2 0) (a3 0) k_sparePlan k_rule k_spareRule (a4 0) k_spareNotes x_latest x_imageMany x_refusedSteps x_missing x_misused, cs_X4 J.2.2.1 a1 s_year s_wet s_lost s_eaten s_tied s_ripeMany s_gone s_place s_heard s_many s_lying s_ripe, cs_A J.2.2.1 a2 r_n r_v, cs_X2 J.2.2.1 a3 p_beds p_letters p_readers p_far p_drain p_length p_words p_home, cs_X0 J.2.2.1 a4 b_last b_lines] [cs_X9 (a0 0) k_tape (a1 0) k_trial k_task k_season k_stuffing k_images (a2 0) (a3 0) k_sparePlan k_rule k_spareRule (a4 0) k_spareNotes x_latest x_imageMany x_refusedSteps x_missing x_misused, cs_X4 J.2.2.1 a1 s_year s_wet s_lost s_eaten s_tied s_ripeMany s_gone s_place s_heard s_many s_lying s_ripe, cs_A J.2.2.1 a2 r_n r_v, cs_X2 J.2.2.1 a3 p_beds p_letters p_readers p_far p_drain p_length p_words p_home, cs_X0 J.2.2.1 a4 b_last b_lines] [0, 2, 4] [1, 3] rfl (by simp only [List.flatten_cons, List.flatten_nil, List.append_nil, List.append_assoc]) (by simp only [List.flatten_cons, List.flatten_nil, List.append_nil, List.append_assoc]) rfl rfl rfl (by decide) (by simp only [List.map_cons, List.map_nil, List.getD_cons_zero, List.getD_cons_succ, List.flatten_cons, List.flatten_nil, List.append_nil, List.append_assoc]) (by simp only [List.map_cons, List.map_nil, List.getD_cons_zero, List.getD_cons_succ, List.flatten_cons, List.flatten_nil, List.append_nil, List.append_assoc])) kw_1120 kw_1106 kw_1107 kw_88 hy_X4_lastAfter kw_1108 rfl (Nat.le_of_ble_eq_true rfl) (Nat.le_of_ble_eq_true rfl) (Nat.le_of_ble_eq_true rfl) (Nat.le_of_ble_eq_true rfl) (Nat.le_of_ble_eq_true rfl) dX9_mostLeftBy_79 ?_
        refine g_istore (pc := 82) C [(5, .int v2), (0, .ref (a0 0)), (1, .int n1), (2, .int x2), (3, .int x3), (4, .int x4)] dX9_mostLeftBy_82 (by decide) rfl ?_
        refine g_iload (pc := 84) C 0 rfl dX9_mostLeftBy_84 ?_
        refine g_if_lt (pc := 86) C (tgt := 119) dX9_mostLeftBy_86 rfl h (fun h => ?_) (fun h => ?_)
        · refine g_iinc (pc := 119) C (j := 5) [(4, .int (x4 + 1)), (5, .int v2), (0, .ref (a0 0)), (1, .int n1), (2, .int x2), (3, .int x3)] dX9_mostLeftBy_119 rfl (ii_1 _) (by decide) rfl ?_
          refine g_goto (pc := 122) C (tgt := 39) dX9_mostLeftBy_122 rfl ?_
          refine g_lv [2, 3, 4, 5, 0] rfl ?_
          exact ih x2 x3 (x4 + 1) r_v h
        · refine g_iload (pc := 89) C 0 rfl dX9_mostLeftBy_89 ?_
          refine g_bipush (pc := 91) C dX9_mostLeftBy_91 cb_16 ?_
          refine g_icmp_gt (pc := 93) C (tgt := 119) dX9_mostLeftBy_93 rfl h (fun h => ?_) (fun h => ?_)
          · refine g_iinc (pc := 119) C (j := 5) [(4, .int (x4 + 1)), (5, .int v2), (0, .ref (a0 0)), (1, .int n1), (2, .int x2), (3, .int x3)] dX9_mostLeftBy_119 rfl (ii_1 _) (by decide) rfl ?_
            refine g_goto (pc := 122) C (tgt := 39) dX9_mostLeftBy_122 rfl ?_
            refine g_lv [2, 3, 4, 5, 0] rfl ?_
            exact ih x2 x3 (x4 + 1) r_v h
          · refine g_aload_n (pc := 96) C 1 rfl dX9_mostLeftBy_96 ?_
            refine g_get (pc := 97) C FOK_X9 0 rfl rfl 7 (by decide) kw_374 rfl dX9_mostLeftBy_97 ?_
            refine g_iload (pc := 100) C 0 rfl dX9_mostLeftBy_100 ?_
            refine g_dup2 (pc := 102) C dX9_mostLeftBy_102 rfl rfl ?_
            obtain ⟨hi, h⟩ := ix_of h
            refine g_iald (pc := 103) C 8 rfl hi dX9_mostLeftBy_103 ?_
            refine g_iconst (pc := 104) C dX9_mostLeftBy_104 ci_1 ?_
            refine g_iadd (pc := 105) C dX9_mostLeftBy_105 ?_
            obtain ⟨hi, h⟩ := ix_of h
            refine g_iast (pc := 106) C (w' := cs_X9 (a0 0) k_tape (a1 0) k_trial k_task k_season k_stuffing k_images (a2 0) (a3 0) k_sparePlan k_rule k_spareRule (a4 0) k_spareNotes x_latest x_imageMany x_refusedSteps x_missing x_misused ++ cs_X4 J.2.2.1 a1 s_year s_wet s_lost s_eaten s_tied s_ripeMany s_gone s_place s_heard s_many s_lying s_ripe ++ cs_A J.2.2.1 a2 r_n (upd r_v v2.toNatClampNeg ((r_v v2.toNatClampNeg) + 1)) ++ cs_X2 J.2.2.1 a3 p_beds p_letters p_readers p_far p_drain p_length p_words p_home ++ cs_X0 J.2.2.1 a4 b_last b_lines) 8 rfl hi dX9_mostLeftBy_106 rfl ?_
            refine g_iload_n (pc := 107) C 3 rfl dX9_mostLeftBy_107 ?_
            refine g_aload_n (pc := 108) C 1 rfl dX9_mostLeftBy_108 ?_
            refine g_get (pc := 109) C FOK_X9 0 rfl rfl 7 (by decide) kw_374 rfl dX9_mostLeftBy_109 ?_
            refine g_iload (pc := 112) C 0 rfl dX9_mostLeftBy_112 ?_
            obtain ⟨hi, h⟩ := ix_of h
            refine g_iald (pc := 114) C 8 rfl hi dX9_mostLeftBy_114 ?_
            refine g_imax (pc := 115) C kw_1121 kw_1122 kw_96 kw_1123 (Nat.le_of_ble_eq_true rfl) (Nat.le_of_ble_eq_true rfl) (Nat.le_of_ble_eq_true rfl) (Nat.le_of_ble_eq_true rfl) dX9_mostLeftBy_115 ?_
            refine g_istore_n (pc := 118) C [(2, .int (imax x2 ((upd r_v v2.toNatClampNeg ((r_v v2.toNatClampNeg) + 1)) v2.toNatClampNeg))), (5, .int v2), (0, .ref (a0 0)), (1, .int n1), (3, .int x3), (4, .int x4)] dX9_mostLeftBy_118 rfl (by decide) rfl ?_
            refine g_iinc (pc := 119) C (j := 5) [(4, .int (x4 + 1)), (2, .int (imax x2 ((upd r_v v2.toNatClampNeg ((r_v v2.toNatClampNeg) + 1)) v2.toNatClampNeg))), (5, .int v2), (0, .ref (a0 0)), (1, .int n1), (3, .int x3)] dX9_mostLeftBy_119 rfl (ii_1 _) (by decide) rfl ?_
            refine g_goto (pc := 122) C (tgt := 39) dX9_mostLeftBy_122 rfl ?_
            refine g_lv [3, 4, 1, 5, 0] rfl ?_
            exact ih (imax x2 ((upd r_v v2.toNatClampNeg ((r_v v2.toNatClampNeg) + 1)) v2.toNatClampNeg)) x3 (x4 + 1) (upd r_v v2.toNatClampNeg ((r_v v2.toNatClampNeg) + 1)) h
set_option maxRecDepth 100000 in
set_option maxHeartbeats 4000000 in
theorem j_X9_mostLeftBy_25 {J : Jt} {Z : Zt} {a0 : Nat → Nat} {a1 : Nat → Nat} {a2 : Nat → Nat} {a3 : Nat → Nat} {a4 : Nat → Nat} {k_tape : Nat} {k_trial : Nat} {k_task : Nat} {k_season : Nat} {k_stuffing : Nat} {k_images : Nat} {k_sparePlan : Nat} {k_rule : Nat} {k_spareRule : Nat} {k_spareNotes : Nat} {x_latest : Value} {x_imageMany : Int32} {x_refusedSteps : Int32} {x_missing : Int32} {x_misused : Int32} {s_year : Int32} {s_wet : Int32} {s_lost : Int32} {s_eaten : Int32} {s_tied : Int32} {s_ripeMany : Int32} {s_gone : Nat → Int32} {s_place : Nat → Int32} {s_heard : Nat → Int32} {s_many : Nat → Int32} {s_lying : Nat → Int32} {s_ripe : Nat → Int32} {r_n : Nat} {p_beds : Int32} {p_letters : Int32} {p_readers : Int32} {p_far : Nat → Int32} {p_drain : Nat → Int32} {p_length : Nat → Int32} {p_words : Nat → Int32} {p_home : Nat → Int32} {b_last : Nat → Int32} {b_lines : Int32} {n1 : Int32} {r : Int32} {o_r_v : Nat → Int32} (C : Cx J Z cX9_mostLeftBy 6 RX9 (some .int) rm_X9_mostLeftBy) (E : Ez J Z 0 0 (some (.int r)) (cs_X9 (a0 0) k_tape (a1 0) k_trial k_task k_season k_stuffing k_images (a2 0) (a3 0) k_sparePlan k_rule k_spareRule (a4 0) k_spareNotes x_latest x_imageMany x_refusedSteps x_missing x_misused ++ cs_X4 J.2.2.1 a1 s_year s_wet s_lost s_eaten s_tied s_ripeMany s_gone s_place s_heard s_many s_lying s_ripe ++ cs_A J.2.2.1 a2 r_n o_r_v ++ cs_X2 J.2.2.1 a3 p_beds p_letters p_readers p_far p_drain p_length p_words p_home ++ cs_X0 J.2.2.1 a4 b_last b_lines)) : ∀ (n : Nat) (x2 : Int32) (x3 : Int32) (r_v : Nat → Int32), f_X9_mostLeftBy_25 s_gone s_many s_lying r_n p_beds p_letters p_drain p_length p_words b_last n1 n x2 x3 r_v = some (r, o_r_v) → G J Z 0 0 (cs_X9 (a0 0) k_tape (a1 0) k_trial k_task k_season k_stuffing k_images (a2 0) (a3 0) k_sparePlan k_rule k_spareRule (a4 0) k_spareNotes x_latest x_imageMany x_refusedSteps x_missing x_misused ++ cs_X4 J.2.2.1 a1 s_year s_wet s_lost s_eaten s_tied s_ripeMany s_gone s_place s_heard s_many s_lying s_ripe ++ cs_A J.2.2.1 a2 r_n r_v ++ cs_X2 J.2.2.1 a3 p_beds p_letters p_readers p_far p_drain p_length p_words p_home ++ cs_X0 J.2.2.1 a4 b_last b_lines) 6 [(0, .ref (a0 0)), (1, .int n1), (2, .int x2), (3, .int x3)] 25 [] := by
  intro n
  induction n with
  | zero =>
    intro x2 x3 r_v h
    rw [f_X9_mostLeftBy_25] at h
    cases h
  | succ n ih =>
    intro x2 x3 r_v h
    rw [f_X9_mostLeftBy_25] at h
    refine g_iload_n (pc := 25) C 3 rfl dX9_mostLeftBy_25 ?_
    refine g_aload_n (pc := 26) C 0 rfl dX9_mostLeftBy_26 ?_
    refine g_get (pc := 27) C FOK_X9 0 rfl rfl 8 (by decide) kw_375 rfl dX9_mostLeftBy_27 ?_
    refine g_get (pc := 30) C FOK_X2 9 rfl rfl 1 (by decide) kw_283 rfl dX9_mostLeftBy_30 ?_
    refine g_icmp_ge (pc := 33) C (tgt := 131) dX9_mostLeftBy_33 rfl h (fun h => ?_) (fun h => ?_)
    · refine g_iload_n (pc := 131) C 2 rfl dX9_mostLeftBy_131 ?_
      cases h
      exact g_iret C E dX9_mostLeftBy_132
    · refine g_iconst (pc := 36) C dX9_mostLeftBy_36 ci_1 ?_
      refine g_istore (pc := 37) C [(4, .int 1), (0, .ref (a0 0)), (1, .int n1), (2, .int x2), (3, .int x3)] dX9_mostLeftBy_37 (by decide) rfl ?_
      refine g_lv [1, 2, 3, 4, 0] rfl ?_
      exact j_X9_mostLeftBy_39 C E   ih FU x2 x3 1 r_v h
set_option maxRecDepth 100000 in
set_option maxHeartbeats 4000000 in
theorem j_X9_mostLeftBy_2 {J : Jt} {Z : Zt} {a0 : Nat → Nat} {a1 : Nat → Nat} {a2 : Nat → Nat} {a3 : Nat → Nat} {a4 : Nat → Nat} {k_tape : Nat} {k_trial : Nat} {k_task : Nat} {k_season : Nat} {k_stuffing : Nat} {k_images : Nat} {k_sparePlan : Nat} {k_rule : Nat} {k_spareRule : Nat} {k_spareNotes : Nat} {x_latest : Value} {x_imageMany : Int32} {x_refusedSteps : Int32} {x_missing : Int32} {x_misused : Int32} {s_year : Int32} {s_wet : Int32} {s_lost : Int32} {s_eaten : Int32} {s_tied : Int32} {s_ripeMany : Int32} {s_gone : Nat → Int32} {s_place : Nat → Int32} {s_heard : Nat → Int32} {s_many : Nat → Int32} {s_lying : Nat → Int32} {s_ripe : Nat → Int32} {r_n : Nat} {p_beds : Int32} {p_letters : Int32} {p_readers : Int32} {p_far : Nat → Int32} {p_drain : Nat → Int32} {p_length : Nat → Int32} {p_words : Nat → Int32} {p_home : Nat → Int32} {b_last : Nat → Int32} {b_lines : Int32} {n1 : Int32} {r : Int32} {o_r_v : Nat → Int32} (C : Cx J Z cX9_mostLeftBy 6 RX9 (some .int) rm_X9_mostLeftBy) (E : Ez J Z 0 0 (some (.int r)) (cs_X9 (a0 0) k_tape (a1 0) k_trial k_task k_season k_stuffing k_images (a2 0) (a3 0) k_sparePlan k_rule k_spareRule (a4 0) k_spareNotes x_latest x_imageMany x_refusedSteps x_missing x_misused ++ cs_X4 J.2.2.1 a1 s_year s_wet s_lost s_eaten s_tied s_ripeMany s_gone s_place s_heard s_many s_lying s_ripe ++ cs_A J.2.2.1 a2 r_n o_r_v ++ cs_X2 J.2.2.1 a3 p_beds p_letters p_readers p_far p_drain p_length p_words p_home ++ cs_X0 J.2.2.1 a4 b_last b_lines)) : ∀ (n : Nat) (x2 : Int32) (r_v : Nat → Int32), f_X9_mostLeftBy_2 s_gone s_many s_lying r_n p_beds p_letters p_drain p_length p_words b_last n1 n x2 r_v = some (r, o_r_v) → G J Z 0 0 (cs_X9 (a0 0) k_tape (a1 0) k_trial k_task k_season k_stuffing k_images (a2 0) (a3 0) k_sparePlan k_rule k_spareRule (a4 0) k_spareNotes x_latest x_imageMany x_refusedSteps x_missing x_misused ++ cs_X4 J.2.2.1 a1 s_year s_wet s_lost s_eaten s_tied s_ripeMany s_gone s_place s_heard s_many s_lying s_ripe ++ cs_A J.2.2.1 a2 r_n r_v ++ cs_X2 J.2.2.1 a3 p_beds p_letters p_readers p_far p_drain p_length p_words p_home ++ cs_X0 J.2.2.1 a4 b_last b_lines) 6 [(0, .ref (a0 0)), (1, .int n1), (2, .int x2)] 2 [] := by
  intro n
  induction n with
  | zero =>
    intro x2 r_v h
    rw [f_X9_mostLeftBy_2] at h
    cases h
  | succ n ih =>
    intro x2 r_v h
    rw [f_X9_mostLeftBy_2] at h
    refine g_iload_n (pc := 2) C 2 rfl dX9_mostLeftBy_2 ?_
    refine g_bipush (pc := 3) C dX9_mostLeftBy_3 cb_16 ?_
    refine g_icmp_gt (pc := 5) C (tgt := 21) dX9_mostLeftBy_5 rfl h (fun h => ?_) (fun h => ?_)
    · refine g_iconst (pc := 21) C dX9_mostLeftBy_21 ci_0 ?_
      refine g_istore_n (pc := 22) C [(2, .int 0), (0, .ref (a0 0)), (1, .int n1)] dX9_mostLeftBy_22 rfl (by decide) rfl ?_
      refine g_iconst (pc := 23) C dX9_mostLeftBy_23 ci_0 ?_
      refine g_istore_n (pc := 24) C [(3, .int 0), (2, .int 0), (0, .ref (a0 0)), (1, .int n1)] dX9_mostLeftBy_24 rfl (by decide) rfl ?_
      refine g_lv [2, 3, 1, 0] rfl ?_
      exact j_X9_mostLeftBy_25 C E    FU 0 0 r_v h
    · refine g_aload_n (pc := 8) C 0 rfl dX9_mostLeftBy_8 ?_
      refine g_get (pc := 9) C FOK_X9 0 rfl rfl 7 (by decide) kw_374 rfl dX9_mostLeftBy_9 ?_
      refine g_iload_n (pc := 12) C 2 rfl dX9_mostLeftBy_12 ?_
      refine g_iconst (pc := 13) C dX9_mostLeftBy_13 ci_0 ?_
      obtain ⟨hi, h⟩ := ix_of h
      refine g_iast (pc := 14) C (w' := cs_X9 (a0 0) k_tape (a1 0) k_trial k_task k_season k_stuffing k_images (a2 0) (a3 0) k_sparePlan k_rule k_spareRule (a4 0) k_spareNotes x_latest x_imageMany x_refusedSteps x_missing x_misused ++ cs_X4 J.2.2.1 a1 s_year s_wet s_lost s_eaten s_tied s_ripeMany s_gone s_place s_heard s_many s_lying s_ripe ++ cs_A J.2.2.1 a2 r_n (upd r_v x2.toNatClampNeg 0) ++ cs_X2 J.2.2.1 a3 p_beds p_letters p_readers p_far p_drain p_length p_words p_home ++ cs_X0 J.2.2.1 a4 b_last b_lines) 8 rfl hi dX9_mostLeftBy_14 rfl ?_
      refine g_iinc (pc := 15) C (j := 2) [(2, .int (x2 + 1)), (0, .ref (a0 0)), (1, .int n1)] dX9_mostLeftBy_15 rfl (ii_1 _) (by decide) rfl ?_
      refine g_goto (pc := 18) C (tgt := 2) dX9_mostLeftBy_18 rfl ?_
      refine g_lv [1, 2, 0] rfl ?_
      exact ih (x2 + 1) (upd r_v x2.toNatClampNeg 0) h
set_option maxRecDepth 100000 in
set_option maxHeartbeats 4000000 in
theorem t_X9_mostLeftBy {J : Jt} {a0 : Nat → Nat} {a1 : Nat → Nat} {a2 : Nat → Nat} {a3 : Nat → Nat} {a4 : Nat → Nat} {k_tape : Nat} {k_trial : Nat} {k_task : Nat} {k_season : Nat} {k_stuffing : Nat} {k_images : Nat} {k_sparePlan : Nat} {k_rule : Nat} {k_spareRule : Nat} {k_spareNotes : Nat} {x_latest : Value} {x_imageMany : Int32} {x_refusedSteps : Int32} {x_missing : Int32} {x_misused : Int32} {s_year : Int32} {s_wet : Int32} {s_lost : Int32} {s_eaten : Int32} {s_tied : Int32} {s_ripeMany : Int32} {s_gone : Nat → Int32} {s_place : Nat → Int32} {s_heard : Nat → Int32} {s_many : Nat → Int32} {s_lying : Nat → Int32} {s_ripe : Nat → Int32} {r_n : Nat} {r_v : Nat → Int32} {p_beds : Int32} {p_letters : Int32} {p_readers : Int32} {p_far : Nat → Int32} {p_drain : Nat → Int32} {p_length : Nat → Int32} {p_words : Nat → Int32} {p_home : Nat → Int32} {b_last : Nat → Int32} {b_lines : Int32} {n1 : Int32} {r : Int32} {o_r_v : Nat → Int32} (h : f_X9_mostLeftBy s_gone s_many s_lying r_n r_v p_beds p_letters p_drain p_length p_words b_last n1 = some (r, o_r_v)) : Mt J yX9_mostLeftBy cX9_mostLeftBy 6 (some .int) rm_X9_mostLeftBy [.ref (a0 0), .int n1] (cs_X9 (a0 0) k_tape (a1 0) k_trial k_task k_season k_stuffing k_images (a2 0) (a3 0) k_sparePlan k_rule k_spareRule (a4 0) k_spareNotes x_latest x_imageMany x_refusedSteps x_missing x_misused ++ cs_X4 J.2.2.1 a1 s_year s_wet s_lost s_eaten s_tied s_ripeMany s_gone s_place s_heard s_many s_lying s_ripe ++ cs_A J.2.2.1 a2 r_n r_v ++ cs_X2 J.2.2.1 a3 p_beds p_letters p_readers p_far p_drain p_length p_words p_home ++ cs_X0 J.2.2.1 a4 b_last b_lines) (some (.int r)) (cs_X9 (a0 0) k_tape (a1 0) k_trial k_task k_season k_stuffing k_images (a2 0) (a3 0) k_sparePlan k_rule k_spareRule (a4 0) k_spareNotes x_latest x_imageMany x_refusedSteps x_missing x_misused ++ cs_X4 J.2.2.1 a1 s_year s_wet s_lost s_eaten s_tied s_ripeMany s_gone s_place s_heard s_many s_lying s_ripe ++ cs_A J.2.2.1 a2 r_n o_r_v ++ cs_X2 J.2.2.1 a3 p_beds p_letters p_readers p_far p_drain p_length p_words p_home ++ cs_X0 J.2.2.1 a4 b_last b_lines) := by
  refine Mt_of (own := RX9) (by decide) rfl (Nat.le_of_ble_eq_true rfl) rfl (fun Z C E => ?_)
  unfold f_X9_mostLeftBy at h
  show G J Z 0 0 (cs_X9 (a0 0) k_tape (a1 0) k_trial k_task k_season k_stuffing k_images (a2 0) (a3 0) k_sparePlan k_rule k_spareRule (a4 0) k_spareNotes x_latest x_imageMany x_refusedSteps x_missing x_misused ++ cs_X4 J.2.2.1 a1 s_year s_wet s_lost s_eaten s_tied s_ripeMany s_gone s_place s_heard s_many s_lying s_ripe ++ cs_A J.2.2.1 a2 r_n r_v ++ cs_X2 J.2.2.1 a3 p_beds p_letters p_readers p_far p_drain p_length p_words p_home ++ cs_X0 J.2.2.1 a4 b_last b_lines) 6 [(0, .ref (a0 0)), (1, .int n1)] 0 []
  refine g_iconst (pc := 0) C dX9_mostLeftBy_0 ci_0 ?_
  refine g_istore_n (pc := 1) C [(2, .int 0), (0, .ref (a0 0)), (1, .int n1)] dX9_mostLeftBy_1 rfl (by decide) rfl ?_
  refine g_lv [1, 2, 0] rfl ?_
  exact j_X9_mostLeftBy_2 C E    FU 0 r_v h
noncomputable def f_X9_look_14  (s_gone : Nat → Int32) (s_many : Nat → Int32) (s_lying : Nat → Int32) (r_n : Nat) (p_beds : Int32) (p_letters : Int32) (p_drain : Nat → Int32) (p_length : Nat → Int32) (p_words : Nat → Int32) (b_last : Nat → Int32) (n1 : Int32) : Nat → Int32 → Int32 → Int32 → Int32 → (Nat → Int32) → Option (Nat × Int32 × Int32 × (Nat → Int32))
  | 0, _, _, _, _, _ => none
  | n + 1, x2, x3, x4, x_misused, r_v => if p_beds ≤ x4 then if n1 = 0 then some (0, x2, x_misused, r_v) else some (0, x3, x_misused, r_v) else if ixb x4 6 then if (b_last x4.toNatClampNeg) = (-1) then b2 (f_X9_mostLeftBy s_gone s_many s_lying r_n r_v p_beds p_letters p_drain p_length p_words b_last x4) (fun v1 c2 => if x2 = (-1) then f_X9_look_14 s_gone s_many s_lying r_n p_beds p_letters p_drain p_length p_words b_last n1 n x4 v1 (x4 + 1) x_misused c2 else if x3 ≤ v1 then f_X9_look_14 s_gone s_many s_lying r_n p_beds p_letters p_drain p_length p_words b_last n1 n x2 x3 (x4 + 1) x_misused c2 else f_X9_look_14 s_gone s_many s_lying r_n p_beds p_letters p_drain p_length p_words b_last n1 n x4 v1 (x4 + 1) x_misused c2) else f_X9_look_14 s_gone s_many s_lying r_n p_beds p_letters p_drain p_length p_words b_last n1 n x2 x3 (x4 + 1) x_misused r_v else none
noncomputable def f_X9_look (x_misused : Int32) (s_gone : Nat → Int32) (s_many : Nat → Int32) (s_lying : Nat → Int32) (r_n : Nat) (r_v : Nat → Int32) (p_beds : Int32) (p_letters : Int32) (p_drain : Nat → Int32) (p_length : Nat → Int32) (p_words : Nat → Int32) (b_last : Nat → Int32) (n1 : Int32) : Option (Nat × Int32 × Int32 × (Nat → Int32)) := b2 (f_X9_needRange x_misused n1 0 1) (fun e3 c4 => if e3 = 0 then f_X9_look_14 s_gone s_many s_lying r_n p_beds p_letters p_drain p_length p_words b_last n1 FU (-1) (-1) 0 c4 r_v else some (e3, 0, c4, r_v))
def rm_X9_look : Room := { frames := 10, cells := 1, slots := 6, locals := 143 }
set_option maxRecDepth 100000 in
set_option maxHeartbeats 4000000 in
theorem j_X9_look_14 {J : Jt} {Z : Zt} {a0 : Nat → Nat} {a1 : Nat → Nat} {a2 : Nat → Nat} {a3 : Nat → Nat} {a4 : Nat → Nat} {k_tape : Nat} {k_trial : Nat} {k_task : Nat} {k_season : Nat} {k_stuffing : Nat} {k_images : Nat} {k_sparePlan : Nat} {k_rule : Nat} {k_spareRule : Nat} {k_spareNotes : Nat} {x_latest : Value} {x_imageMany : Int32} {x_refusedSteps : Int32} {x_missing : Int32} {s_year : Int32} {s_wet : Int32} {s_lost : Int32} {s_eaten : Int32} {s_tied : Int32} {s_ripeMany : Int32} {s_gone : Nat → Int32} {s_place : Nat → Int32} {s_heard : Nat → Int32} {s_many : Nat → Int32} {s_lying : Nat → Int32} {s_ripe : Nat → Int32} {r_n : Nat} {p_beds : Int32} {p_letters : Int32} {p_readers : Int32} {p_far : Nat → Int32} {p_drain : Nat → Int32} {p_length : Nat → Int32} {p_words : Nat → Int32} {p_home : Nat → Int32} {b_last : Nat → Int32} {b_lines : Int32} {n1 : Int32} {ex : Nat} {r : Int32} {o_x_misused : Int32} {o_r_v : Nat → Int32} (C : Cx J Z cX9_look 6 RX9 (some .int) rm_X9_look) (hJ : J.1.stackTraces = false) (E : EzX J Z 1 6 ex (some (.int r)) (fun _ : Unit => cs_X9 (a0 0) k_tape (a1 0) k_trial k_task k_season k_stuffing k_images (a2 0) (a3 0) k_sparePlan k_rule k_spareRule (a4 0) k_spareNotes x_latest x_imageMany x_refusedSteps x_missing o_x_misused ++ cs_X4 J.2.2.1 a1 s_year s_wet s_lost s_eaten s_tied s_ripeMany s_gone s_place s_heard s_many s_lying s_ripe ++ cs_A J.2.2.1 a2 r_n o_r_v ++ cs_X2 J.2.2.1 a3 p_beds p_letters p_readers p_far p_drain p_length p_words p_home ++ cs_X0 J.2.2.1 a4 b_last b_lines)) : ∀ (n : Nat) (x2 : Int32) (x3 : Int32) (x4 : Int32) (x_misused : Int32) (r_v : Nat → Int32), f_X9_look_14 s_gone s_many s_lying r_n p_beds p_letters p_drain p_length p_words b_last n1 n x2 x3 x4 x_misused r_v = some (ex, r, o_x_misused, o_r_v) → G J Z 1 6 (cs_X9 (a0 0) k_tape (a1 0) k_trial k_task k_season k_stuffing k_images (a2 0) (a3 0) k_sparePlan k_rule k_spareRule (a4 0) k_spareNotes x_latest x_imageMany x_refusedSteps x_missing x_misused ++ cs_X4 J.2.2.1 a1 s_year s_wet s_lost s_eaten s_tied s_ripeMany s_gone s_place s_heard s_many s_lying s_ripe ++ cs_A J.2.2.1 a2 r_n r_v ++ cs_X2 J.2.2.1 a3 p_beds p_letters p_readers p_far p_drain p_length p_words p_home ++ cs_X0 J.2.2.1 a4 b_last b_lines) 6 [(0, .ref (a0 0)), (1, .int n1), (2, .int x2), (3, .int x3), (4, .int x4)] 14 [] := by
  intro n
  induction n with
  | zero =>
    intro x2 x3 x4 x_misused r_v h
    rw [f_X9_look_14] at h
    cases h
  | succ n ih =>
    intro x2 x3 x4 x_misused r_v h
    rw [f_X9_look_14] at h
    refine g_iload (pc := 14) C 4 rfl dX9_look_14 ?_
    refine g_aload_n (pc := 16) C 0 rfl dX9_look_16 ?_
    refine g_get (pc := 17) C FOK_X9 0 rfl rfl 8 (by decide) kw_375 rfl dX9_look_17 ?_
    refine g_get (pc := 20) C FOK_X2 9 rfl rfl 0 (by decide) kw_279 rfl dX9_look_20 ?_
    refine g_icmp_ge (pc := 23) C (tgt := 74) dX9_look_23 rfl h (fun h => ?_) (fun h => ?_)
    · refine g_iload_n (pc := 74) C 1 rfl dX9_look_74 ?_
      refine g_if_ne (pc := 75) C (tgt := 82) dX9_look_75 rfl h (fun h => ?_) (fun h => ?_)
      · refine g_iload_n (pc := 82) C 3 rfl dX9_look_82 ?_
        cases h
        exact g_iretX C E () rfl dX9_look_83
      · refine g_iload_n (pc := 78) C 2 rfl dX9_look_78 ?_
        refine g_goto (pc := 79) C (tgt := 83) dX9_look_79 rfl ?_
        cases h
        exact g_iretX C E () rfl dX9_look_83
    · refine g_aload_n (pc := 26) C 0 rfl dX9_look_26 ?_
      refine g_get (pc := 27) C FOK_X9 0 rfl rfl 12 (by decide) kw_379 rfl dX9_look_27 ?_
      refine g_get (pc := 30) C FOK_X0 15 rfl rfl 0 (by decide) kw_359 rfl dX9_look_30 ?_
      refine g_iload (pc := 33) C 4 rfl dX9_look_33 ?_
      obtain ⟨hi, h⟩ := ix_of h
      refine g_iald (pc := 35) C 16 rfl hi dX9_look_35 ?_
      refine g_iconst (pc := 36) C dX9_look_36 ci_m1 ?_
      refine g_icmp_eq (pc := 37) C (tgt := 43) dX9_look_37 rfl h (fun h => ?_) (fun h => ?_)
      · refine g_aload_n (pc := 43) C 0 rfl dX9_look_43 ?_
        refine g_iload (pc := 44) C 4 rfl dX9_look_44 ?_
        obtain ⟨v1, c2, hc, h⟩ := b2_of h
        refine g_callV (pc := 46) C (w' := cs_X9 (a0 0) k_tape (a1 0) k_trial k_task k_season k_stuffing k_images (a2 0) (a3 0) k_sparePlan k_rule k_spareRule (a4 0) k_spareNotes x_latest x_imageMany x_refusedSteps x_missing x_misused ++ cs_X4 J.2.2.1 a1 s_year s_wet s_lost s_eaten s_tied s_ripeMany s_gone s_place s_heard s_many s_lying s_ripe ++ cs_A J.2.2.1 a2 r_n c2 ++ cs_X2 J.2.2.1 a3 p_beds p_letters p_readers p_far p_drain p_length p_words p_home ++ cs_X0 J.2.2.1 a4 b_last b_lines) (As := [.int x4]) (st := []) (ci := 9) (q0 := 0) rfl rfl (t_X9_mostLeftBy (k_tape := k_tape) (k_trial := k_trial) (k_task := k_task) (k_season := k_season) (k_stuffing := k_stuffing) (k_images := k_images) (k_sparePlan := k_sparePlan) (k_rule := k_rule) (k_spareRule := k_spareRule) (k_spareNotes := k_spareNotes) (a0 := a0) (a1 := a1) (a2 := a2) (a3 := a3) (a4 := a4) (x_latest := x_latest) (x_imageMany := x_imageMany) (x_refusedSteps := x_refusedSteps) (x_missing := x_missing) (x_misused := x_misused) (s_year := s_year) (s_wet := s_wet) (s_lost := s_lost) (s_eaten := s_eaten) (s_tied := s_tied) (s_ripeMany := s_ripeMany) (s_gone := s_gone) (s_place := s_place) (s_heard := s_heard) (s_many := s_many) (s_lying := s_lying) (s_ripe := s_ripe) (r_n := r_n) (r_v := r_v) (p_beds := p_beds) (p_letters := p_letters) (p_readers := p_readers) (p_far := p_far) (p_drain := p_drain) (p_length := p_length) (p_words := p_words) (p_home := p_home) (b_last := b_last) (b_lines := b_lines) hc) Sub.same kw_1116 kw_1118 kw_15 kw_86 hy_X9_mostLeftBy kw_1119 rfl (Nat.le_of_ble_eq_true rfl) (Nat.le_of_ble_eq_true rfl) (Nat.le_of_ble_eq_true rfl) (Nat.le_of_ble_eq_true rfl) (Nat.le_of_ble_eq_true rfl) dX9_look_46 ?_
        refine g_istore (pc := 49) C [(5, .int v1), (0, .ref (a0 0)), (1, .int n1), (2, .int x2), (3, .int x3), (4, .int x4)] dX9_look_49 (by decide) rfl ?_
        refine g_iload_n (pc := 51) C 3 rfl dX9_look_51 ?_
        refine g_iconst (pc := 52) C dX9_look_52 ci_m1 ?_
        refine g_icmp_eq (pc := 53) C (tgt := 62) dX9_look_53 rfl h (fun h => ?_) (fun h => ?_)
        · refine g_iload (pc := 62) C 5 rfl dX9_look_62 ?_
          refine g_istore_n (pc := 64) C [(2, .int x4), (5, .int v1), (0, .ref (a0 0)), (1, .int n1), (3, .int x3), (4, .int x4)] dX9_look_64 rfl (by decide) rfl ?_
          refine g_iload (pc := 65) C 1 rfl dX9_look_65 ?_
          refine g_istore_n (pc := 67) C [(3, .int v1), (2, .int x4), (5, .int v1), (0, .ref (a0 0)), (1, .int n1), (4, .int x4)] dX9_look_67 rfl (by decide) rfl ?_
          refine g_iinc (pc := 68) C (j := 5) [(4, .int (x4 + 1)), (3, .int v1), (2, .int x4), (5, .int v1), (0, .ref (a0 0)), (1, .int n1)] dX9_look_68 rfl (ii_1 _) (by decide) rfl ?_
          refine g_goto (pc := 71) C (tgt := 14) dX9_look_71 rfl ?_
          refine g_lv [4, 5, 2, 1, 0] rfl ?_
          exact ih x4 v1 (x4 + 1) x_misused c2 h
        · refine g_iload (pc := 56) C 0 rfl dX9_look_56 ?_
          refine g_iload_n (pc := 58) C 4 rfl dX9_look_58 ?_
          refine g_icmp_ge (pc := 59) C (tgt := 68) dX9_look_59 rfl h (fun h => ?_) (fun h => ?_)
          · refine g_iinc (pc := 68) C (j := 5) [(4, .int (x4 + 1)), (5, .int v1), (0, .ref (a0 0)), (1, .int n1), (2, .int x2), (3, .int x3)] dX9_look_68 rfl (ii_1 _) (by decide) rfl ?_
            refine g_goto (pc := 71) C (tgt := 14) dX9_look_71 rfl ?_
            refine g_lv [2, 3, 4, 5, 0] rfl ?_
            exact ih x2 x3 (x4 + 1) x_misused c2 h
          · refine g_iload (pc := 62) C 5 rfl dX9_look_62 ?_
            refine g_istore_n (pc := 64) C [(2, .int x4), (5, .int v1), (0, .ref (a0 0)), (1, .int n1), (3, .int x3), (4, .int x4)] dX9_look_64 rfl (by decide) rfl ?_
            refine g_iload (pc := 65) C 1 rfl dX9_look_65 ?_
            refine g_istore_n (pc := 67) C [(3, .int v1), (2, .int x4), (5, .int v1), (0, .ref (a0 0)), (1, .int n1), (4, .int x4)] dX9_look_67 rfl (by decide) rfl ?_
            refine g_iinc (pc := 68) C (j := 5) [(4, .int (x4 + 1)), (3, .int v1), (2, .int x4), (5, .int v1), (0, .ref (a0 0)), (1, .int n1)] dX9_look_68 rfl (ii_1 _) (by decide) rfl ?_
            refine g_goto (pc := 71) C (tgt := 14) dX9_look_71 rfl ?_
            refine g_lv [4, 5, 2, 1, 0] rfl ?_
            exact ih x4 v1 (x4 + 1) x_misused c2 h
      · refine g_goto (pc := 40) C (tgt := 68) dX9_look_40 rfl ?_
        refine g_iinc (pc := 68) C (j := 4) [(4, .int (x4 + 1)), (0, .ref (a0 0)), (1, .int n1), (2, .int x2), (3, .int x3)] dX9_look_68 rfl (ii_1 _) (by decide) rfl ?_
        refine g_goto (pc := 71) C (tgt := 14) dX9_look_71 rfl ?_
        refine g_lv [1, 2, 3, 4, 0] rfl ?_
        exact ih x2 x3 (x4 + 1) x_misused r_v h
set_option maxRecDepth 100000 in
set_option maxHeartbeats 4000000 in
theorem t_X9_look {J : Jt} {a0 : Nat → Nat} {a1 : Nat → Nat} {a2 : Nat → Nat} {a3 : Nat → Nat} {a4 : Nat → Nat} {k_tape : Nat} {k_trial : Nat} {k_task : Nat} {k_season : Nat} {k_stuffing : Nat} {k_images : Nat} {k_sparePlan : Nat} {k_rule : Nat} {k_spareRule : Nat} {k_spareNotes : Nat} {x_latest : Value} {x_imageMany : Int32} {x_refusedSteps : Int32} {x_missing : Int32} {x_misused : Int32} {s_year : Int32} {s_wet : Int32} {s_lost : Int32} {s_eaten : Int32} {s_tied : Int32} {s_ripeMany : Int32} {s_gone : Nat → Int32} {s_place : Nat → Int32} {s_heard : Nat → Int32} {s_many : Nat → Int32} {s_lying : Nat → Int32} {s_ripe : Nat → Int32} {r_n : Nat} {r_v : Nat → Int32} {p_beds : Int32} {p_letters : Int32} {p_readers : Int32} {p_far : Nat → Int32} {p_drain : Nat → Int32} {p_length : Nat → Int32} {p_words : Nat → Int32} {p_home : Nat → Int32} {b_last : Nat → Int32} {b_lines : Int32} {n1 : Int32} {ex : Nat} {r : Int32} {o_x_misused : Int32} {o_r_v : Nat → Int32} (hJ : J.1.stackTraces = false) (h : f_X9_look x_misused s_gone s_many s_lying r_n r_v p_beds p_letters p_drain p_length p_words b_last n1 = some (ex, r, o_x_misused, o_r_v)) : MtX J yX9_look cX9_look 6 (some .int) rm_X9_look [.ref (a0 0), .int n1] (cs_X9 (a0 0) k_tape (a1 0) k_trial k_task k_season k_stuffing k_images (a2 0) (a3 0) k_sparePlan k_rule k_spareRule (a4 0) k_spareNotes x_latest x_imageMany x_refusedSteps x_missing x_misused ++ cs_X4 J.2.2.1 a1 s_year s_wet s_lost s_eaten s_tied s_ripeMany s_gone s_place s_heard s_many s_lying s_ripe ++ cs_A J.2.2.1 a2 r_n r_v ++ cs_X2 J.2.2.1 a3 p_beds p_letters p_readers p_far p_drain p_length p_words p_home ++ cs_X0 J.2.2.1 a4 b_last b_lines) ex (some (.int r)) (fun _ : Unit => cs_X9 (a0 0) k_tape (a1 0) k_trial k_task k_season k_stuffing k_images (a2 0) (a3 0) k_sparePlan k_rule k_spareRule (a4 0) k_spareNotes x_latest x_imageMany x_refusedSteps x_missing o_x_misused ++ cs_X4 J.2.2.1 a1 s_year s_wet s_lost s_eaten s_tied s_ripeMany s_gone s_place s_heard s_many s_lying s_ripe ++ cs_A J.2.2.1 a2 r_n o_r_v ++ cs_X2 J.2.2.1 a3 p_beds p_letters p_readers p_far p_drain p_length p_words p_home ++ cs_X0 J.2.2.1 a4 b_last b_lines) := by
  refine MtX_of (own := RX9) (by decide) rfl (Nat.le_of_ble_eq_true rfl) rfl (fun Z C E => ?_)
  unfold f_X9_look at h
  show G J Z 0 0 (cs_X9 (a0 0) k_tape (a1 0) k_trial k_task k_season k_stuffing k_images (a2 0) (a3 0) k_sparePlan k_rule k_spareRule (a4 0) k_spareNotes x_latest x_imageMany x_refusedSteps x_missing x_misused ++ cs_X4 J.2.2.1 a1 s_year s_wet s_lost s_eaten s_tied s_ripeMany s_gone s_place s_heard s_many s_lying s_ripe ++ cs_A J.2.2.1 a2 r_n r_v ++ cs_X2 J.2.2.1 a3 p_beds p_letters p_readers p_far p_drain p_length p_words p_home ++ cs_X0 J.2.2.1 a4 b_last b_lines) 6 [(0, .ref (a0 0)), (1, .int n1)] 0 []
  refine g_aload_n (pc := 0) C 0 rfl dX9_look_0 ?_
  refine g_iload_n (pc := 1) C 1 rfl dX9_look_1 ?_
  refine g_iconst (pc := 2) C dX9_look_2 ci_0 ?_
  refine g_iconst (pc := 3) C dX9_look_3 ci_1 ?_
  obtain ⟨e3, c4, hc, h⟩ := b2_of h
  refine g_xcallU (pc := 4) C (w' := cs_X9 (a0 0) k_tape (a1 0) k_trial k_task k_season k_stuffing k_images (a2 0) (a3 0) k_sparePlan k_rule k_spareRule (a4 0) k_spareNotes x_latest x_imageMany x_refusedSteps x_missing c4 ++ cs_X4 J.2.2.1 a1 s_year s_wet s_lost s_eaten s_tied s_ripeMany s_gone s_place s_heard s_many s_lying s_ripe ++ cs_A J.2.2.1 a2 r_n r_v ++ cs_X2 J.2.2.1 a3 p_beds p_letters p_readers p_far p_drain p_length p_words p_home ++ cs_X0 J.2.2.1 a4 b_last b_lines) (As := [.int n1, .int 0, .int 1]) (st := []) (ci := 9) (q0 := 0) rfl rfl (t_X9_needRange (k_tape := k_tape) (k_now := (a1 0)) (k_trial := k_trial) (k_task := k_task) (k_season := k_season) (k_stuffing := k_stuffing) (k_images := k_images) (k_row := (a2 0)) (k_plan := (a3 0)) (k_sparePlan := k_sparePlan) (k_rule := k_rule) (k_spareRule := k_spareRule) (k_notes := (a4 0)) (k_spareNotes := k_spareNotes) (a0 := a0) (x_latest := x_latest) (x_imageMany := x_imageMany) (x_refusedSteps := x_refusedSteps) (x_missing := x_missing) (x_misused := x_misused) hJ hc) (Sub.blk 5 [cs_X9 (a0 0) k_tape (a1 0) k_trial k_task k_season k_stuffing k_images (a2 0) (a3 0) k_sparePlan k_rule k_spareRule (a4 0) k_spareNotes x_latest x_imageMany x_refusedSteps x_missing x_misused, cs_X4 J.2.2.1 a1 s_year s_wet s_lost s_eaten s_tied s_ripeMany s_gone s_place s_heard s_many s_lying s_ripe, cs_A J.2.2.1 a2 r_n r_v, cs_X2 J.2.2.1 a3 p_beds p_letters p_readers p_far p_drain p_length p_words p_home, cs_X0 J.2.2.1 a4 b_last b_lines] [cs_X9 (a0 0) k_tape (a1 0) k_trial k_task k_season k_stuffing k_images (a2 0) (a3 0) k_sparePlan k_rule k_spareRule (a4 0) k_spareNotes x_latest x_imageMany x_refusedSteps x_missing c4, cs_X4 J.2.2.1 a1 s_year s_wet s_lost s_eaten s_tied s_ripeMany s_gone s_place s_heard s_many s_lying s_ripe, cs_A J.2.2.1 a2 r_n r_v, cs_X2 J.2.2.1 a3 p_beds p_letters p_readers p_far p_drain p_length p_words p_home, cs_X0 J.2.2.1 a4 b_last b_lines] [1, 2, 3, 4] [0] rfl (by simp only [List.flatten_cons, List.flatten_nil, List.append_nil, List.append_assoc]) (by simp only [List.flatten_cons, List.flatten_nil, List.append_nil, List.append_assoc]) rfl rfl rfl (by decide) (by simp only [List.map_cons, List.map_nil, List.getD_cons_zero, List.getD_cons_succ, List.flatten_cons, List.flatten_nil, List.append_nil, List.append_assoc]) (by simp only [List.map_cons, List.map_nil, List.getD_cons_zero, List.getD_cons_succ, List.flatten_cons, List.flatten_nil, List.append_nil, List.append_assoc])) kw_545 kw_547 kw_2 kw_86 hy_X9_needRange kw_548 rfl (Nat.le_of_ble_eq_true rfl) (Nat.le_of_ble_eq_true rfl) (Nat.le_of_ble_eq_true rfl) (Nat.le_of_ble_eq_true rfl) (Nat.le_of_ble_eq_true rfl) dX9_look_4 (fun he => ?_) (fun he => ?_)
  · subst he
    rw [if_pos rfl] at h
    refine g_wid (n' := 1) (k' := 6) (Nat.le_of_ble_eq_true rfl) (Nat.le_of_ble_eq_true rfl) ?_
    refine g_iconst (pc := 7) C dX9_look_7 ci_m1 ?_
    refine g_istore_n (pc := 8) C [(2, .int (-1)), (0, .ref (a0 0)), (1, .int n1)] dX9_look_8 rfl (by decide) rfl ?_
    refine g_iconst (pc := 9) C dX9_look_9 ci_m1 ?_
    refine g_istore_n (pc := 10) C [(3, .int (-1)), (2, .int (-1)), (0, .ref (a0 0)), (1, .int n1)] dX9_look_10 rfl (by decide) rfl ?_
    refine g_iconst (pc := 11) C dX9_look_11 ci_0 ?_
    refine g_istore (pc := 12) C [(4, .int 0), (3, .int (-1)), (2, .int (-1)), (0, .ref (a0 0)), (1, .int n1)] dX9_look_12 (by decide) rfl ?_
    refine g_lv [3, 4, 2, 1, 0] rfl ?_
    exact j_X9_look_14 C hJ E    FU (-1) (-1) 0 c4 r_v h
  · rw [if_neg he] at h
    cases h
    exact gt_out C he E (Nat.le_of_ble_eq_true rfl) (Nat.le_of_ble_eq_true rfl) () rfl
noncomputable def f_X9_power_5   (n1 : Int32) (n2 : Int32) : Nat → Int64 → Int32 → Option (Int64)
  | 0, _, _ => none
  | n + 1, x2, x4 => if n2 ≤ x4 then some x2 else f_X9_power_5 n1 n2 n (x2 * n1.toInt64) (x4 + 1)
noncomputable def f_X9_power  (n1 : Int32) (n2 : Int32) : Option (Int64) := f_X9_power_5 n1 n2 FU 1 0
def rm_X9_power : Room := { frames := 0, cells := 0, slots := 0, locals := 0 }
set_option maxRecDepth 100000 in
set_option maxHeartbeats 4000000 in
theorem j_X9_power_5 {J : Jt} {Z : Zt}  {n1 : Int32} {n2 : Int32} {r : Int64} (C : Cx J Z cX9_power 5 RX9 (some .long) rm_X9_power) (E : Ez J Z 0 0 (some (.long r)) ([])) : ∀ (n : Nat) (x2 : Int64) (x4 : Int32), f_X9_power_5 n1 n2 n x2 x4 = some r → G J Z 0 0 ([]) 5 [(0, .int n1), (1, .int n2), (2, .long x2), (4, .int x4)] 5 [] := by
  intro n
  induction n with
  | zero =>
    intro x2 x4 h
    rw [f_X9_power_5] at h
    cases h
  | succ n ih =>
    intro x2 x4 h
    rw [f_X9_power_5] at h
    refine g_iload (pc := 5) C 3 rfl dX9_power_5 ?_
    refine g_iload_n (pc := 7) C 1 rfl dX9_power_7 ?_
    refine g_icmp_ge (pc := 8) C (tgt := 22) dX9_power_8 rfl h (fun h => ?_) (fun h => ?_)
    · refine g_lload_n (pc := 22) C 2 rfl dX9_power_22 ?_
      cases h
      exact g_lret C E dX9_power_23
    · refine g_lload_n (pc := 11) C 2 rfl dX9_power_11 ?_
      refine g_iload_n (pc := 12) C 0 rfl dX9_power_12 ?_
      refine g_i2l (pc := 13) C dX9_power_13 ?_
      refine g_lmul (pc := 14) C dX9_power_14 ?_
      refine g_lstore_n (pc := 15) C [(2, .long (x2 * n1.toInt64)), (0, .int n1), (1, .int n2), (4, .int x4)] dX9_power_15 rfl (by decide) rfl ?_
      refine g_iinc (pc := 16) C (j := 3) [(4, .int (x4 + 1)), (2, .long (x2 * n1.toInt64)), (0, .int n1), (1, .int n2)] dX9_power_16 rfl (ii_1 _) (by decide) rfl ?_
      refine g_goto (pc := 19) C (tgt := 5) dX9_power_19 rfl ?_
      refine g_lv [2, 3, 1, 0] rfl ?_
      exact ih (x2 * n1.toInt64) (x4 + 1) h
set_option maxRecDepth 100000 in
set_option maxHeartbeats 4000000 in
theorem t_X9_power {J : Jt}  {n1 : Int32} {n2 : Int32} {r : Int64} (h : f_X9_power n1 n2 = some r) : Mt J yX9_power cX9_power 5 (some .long) rm_X9_power [.int n1, .int n2] ([]) (some (.long r)) ([]) := by
  refine Mt_of (own := RX9) (by decide) rfl (Nat.le_of_ble_eq_true rfl) rfl (fun Z C E => ?_)
  unfold f_X9_power at h
  show G J Z 0 0 ([]) 5 [(0, .int n1), (1, .int n2)] 0 []
  refine g_lconst (pc := 0) C (v := 1) dX9_power_0 (by decide) ?_
  refine g_lstore_n (pc := 1) C [(2, .long 1), (0, .int n1), (1, .int n2)] dX9_power_1 rfl (by decide) rfl ?_
  refine g_iconst (pc := 2) C dX9_power_2 ci_0 ?_
  refine g_istore (pc := 3) C [(4, .int 0), (2, .long 1), (0, .int n1), (1, .int n2)] dX9_power_3 (by decide) rfl ?_
  refine g_lv [2, 3, 1, 0] rfl ?_
  exact j_X9_power_5 C E    FU 1 0 h
noncomputable def f_X9_pods_159   (n1 : Int32) (n2 : Int32) (n3 : Int32) (n4 : Int32) (x5 : Int64) (x9 : Int64) (x_misused : Int32) : Option (Nat × Int64 × Int32) := if n4 = 0 then some (0, x5, x_misused) else some (0, x9, x_misused)
noncomputable def f_X9_pods_112   (n1 : Int32) (n2 : Int32) (n3 : Int32) (n4 : Int32) : Nat → Int64 → Int64 → Int32 → Int32 → Option (Nat × Int64 × Int32)
  | 0, _, _, _, _ => none
  | n + 1, x5, x9, x11, x_misused => if 48 ≤ x11 then f_X9_pods_159 n1 n2 n3 n4 x5 x9 x_misused else if (lg_cmp x9 1) ≤ 0 then f_X9_pods_159 n1 n2 n3 n4 x5 x9 x_misused else if (lg_cmp (x5 - x5 / 2 * 2) 0) = 0 then f_X9_pods_112 n1 n2 n3 n4 n (x5 / 2) (x9 / 2) (x11 + 1) x_misused else f_X9_pods_159 n1 n2 n3 n4 x5 x9 x_misused
noncomputable def f_X9_pods_79   (n1 : Int32) (n2 : Int32) (n3 : Int32) (n4 : Int32) (k41 : Int64 → Int64 → Int32 → Int32 → Option (Nat × Int64 × Int32)) (x5 : Int64) (x7 : Int64) (x9 : Int32) (x_misused : Int32) : Option (Nat × Int64 × Int32) := if ((x9 + 1).toInt64) = 0 then none else k41 x5 ((x7 * ((n1 - x9).toInt64)) / ((x9 + 1).toInt64)) (x9 + 1) x_misused
noncomputable def f_X9_pods_41   (n1 : Int32) (n2 : Int32) (n3 : Int32) (n4 : Int32) : Nat → Int64 → Int64 → Int32 → Int32 → Option (Nat × Int64 × Int32)
  | 0, _, _, _, _ => none
  | n + 1, x5, x7, x9, x_misused => if n1 < x9 then b1 (f_X9_power 16 n1) (fun v1 => f_X9_pods_112 n1 n2 n3 n4 FU x5 v1 0 x_misused) else if x9 < n2 then f_X9_pods_79 n1 n2 n3 n4 (f_X9_pods_41 n1 n2 n3 n4 n) x5 x7 x9 x_misused else b1 (f_X9_power n3 x9) (fun v2 => b1 (f_X9_power (16 - n3) (n1 - x9)) (fun v3 => f_X9_pods_79 n1 n2 n3 n4 (f_X9_pods_41 n1 n2 n3 n4 n) (x5 + ((x7 * v2) * v3)) x7 x9 x_misused))
noncomputable def f_X9_pods (x_misused : Int32) (n1 : Int32) (n2 : Int32) (n3 : Int32) (n4 : Int32) : Option (Nat × Int64 × Int32) := b2 (f_X9_needRange x_misused n1 0 12) (fun e4 c5 => if e4 = 0 then b2 (f_X9_needRange c5 n2 0 13) (fun e6 c7 => if e6 = 0 then b2 (f_X9_needRange c7 n3 0 16) (fun e8 c9 => if e8 = 0 then b2 (f_X9_needRange c9 n4 0 1) (fun e10 c11 => if e10 = 0 then f_X9_pods_41 n1 n2 n3 n4 FU 0 1 0 c11 else some (e10, 0, c11)) else some (e8, 0, c9)) else some (e6, 0, c7)) else some (e4, 0, c5))
def rm_X9_pods : Room := { frames := 10, cells := 4, slots := 24, locals := 143 }
set_option maxRecDepth 100000 in
set_option maxHeartbeats 4000000 in
theorem j_X9_pods_159 {J : Jt} {Z : Zt} {a0 : Nat → Nat} {k_tape : Nat} {k_now : Nat} {k_trial : Nat} {k_task : Nat} {k_season : Nat} {k_stuffing : Nat} {k_images : Nat} {k_row : Nat} {k_plan : Nat} {k_sparePlan : Nat} {k_rule : Nat} {k_spareRule : Nat} {k_notes : Nat} {k_spareNotes : Nat} {x_latest : Value} {x_imageMany : Int32} {x_refusedSteps : Int32} {x_missing : Int32} {n1 : Int32} {n2 : Int32} {n3 : Int32} {n4 : Int32} {ex : Nat} {r : Int64} {o_x_misused : Int32} (C : Cx J Z cX9_pods 12 RX9 (some .long) rm_X9_pods) (hJ : J.1.stackTraces = false) (E : EzX J Z 4 24 ex (some (.long r)) (fun _ : Unit => cs_X9 (a0 0) k_tape k_now k_trial k_task k_season k_stuffing k_images k_row k_plan k_sparePlan k_rule k_spareRule k_notes k_spareNotes x_latest x_imageMany x_refusedSteps x_missing o_x_misused)) : ∀ (x5 : Int64) (x9 : Int64) (x_misused : Int32), f_X9_pods_159 n1 n2 n3 n4 x5 x9 x_misused = some (ex, r, o_x_misused) → G J Z 4 24 (cs_X9 (a0 0) k_tape k_now k_trial k_task k_season k_stuffing k_images k_row k_plan k_sparePlan k_rule k_spareRule k_notes k_spareNotes x_latest x_imageMany x_refusedSteps x_missing x_misused) 12 [(4, .int n4), (5, .long x5), (9, .long x9)] 159 [] := by
  intro x5 x9 x_misused h
  unfold f_X9_pods_159 at h
  refine g_iload (pc := 159) C 0 rfl dX9_pods_159 ?_
  refine g_if_ne (pc := 161) C (tgt := 169) dX9_pods_161 rfl h (fun h => ?_) (fun h => ?_)
  · refine g_lload (pc := 169) C 2 rfl dX9_pods_169 ?_
    cases h
    exact g_lretX C E () rfl dX9_pods_171
  · refine g_lload (pc := 164) C 1 rfl dX9_pods_164 ?_
    refine g_goto (pc := 166) C (tgt := 171) dX9_pods_166 rfl ?_
    cases h
    exact g_lretX C E () rfl dX9_pods_171
set_option maxRecDepth 100000 in
set_option maxHeartbeats 4000000 in
theorem j_X9_pods_112 {J : Jt} {Z : Zt} {a0 : Nat → Nat} {k_tape : Nat} {k_now : Nat} {k_trial : Nat} {k_task : Nat} {k_season : Nat} {k_stuffing : Nat} {k_images : Nat} {k_row : Nat} {k_plan : Nat} {k_sparePlan : Nat} {k_rule : Nat} {k_spareRule : Nat} {k_notes : Nat} {k_spareNotes : Nat} {x_latest : Value} {x_imageMany : Int32} {x_refusedSteps : Int32} {x_missing : Int32} {n1 : Int32} {n2 : Int32} {n3 : Int32} {n4 : Int32} {ex : Nat} {r : Int64} {o_x_misused : Int32} (C : Cx J Z cX9_pods 12 RX9 (some .long) rm_X9_pods) (hJ : J.1.stackTraces = false) (E : EzX J Z 4 24 ex (some (.long r)) (fun _ : Unit => cs_X9 (a0 0) k_tape k_now k_trial k_task k_season k_stuffing k_images k_row k_plan k_sparePlan k_rule k_spareRule k_notes k_spareNotes x_latest x_imageMany x_refusedSteps x_missing o_x_misused)) : ∀ (n : Nat) (x5 : Int64) (x9 : Int64) (x11 : Int32) (x_misused : Int32), f_X9_pods_112 n1 n2 n3 n4 n x5 x9 x11 x_misused = some (ex, r, o_x_misused) → G J Z 4 24 (cs_X9 (a0 0) k_tape k_now k_trial k_task k_season k_stuffing k_images k_row k_plan k_sparePlan k_rule k_spareRule k_notes k_spareNotes x_latest x_imageMany x_refusedSteps x_missing x_misused) 12 [(4, .int n4), (5, .long x5), (9, .long x9), (11, .int x11)] 112 [] := by
  intro n
  induction n with
  | zero =>
    intro x5 x9 x11 x_misused h
    rw [f_X9_pods_112] at h
    cases h
  | succ n ih =>
    intro x5 x9 x11 x_misused h
    rw [f_X9_pods_112] at h
    refine g_iload (pc := 112) C 3 rfl dX9_pods_112 ?_
    refine g_bipush (pc := 114) C dX9_pods_114 cb_48 ?_
    refine g_icmp_ge (pc := 116) C (tgt := 159) dX9_pods_116 rfl h (fun h => ?_) (fun h => ?_)
    · refine g_lv [0, 1, 2] rfl ?_
      exact j_X9_pods_159 C hJ E    x5 x9 x_misused h
    · refine g_lload (pc := 119) C 2 rfl dX9_pods_119 ?_
      refine g_lconst (pc := 121) C (v := 1) dX9_pods_121 (by decide) ?_
      refine g_lcmp (pc := 122) C dX9_pods_122 ?_
      refine g_if_le (pc := 123) C (tgt := 159) dX9_pods_123 rfl h (fun h => ?_) (fun h => ?_)
      · refine g_lv [0, 1, 2] rfl ?_
        exact j_X9_pods_159 C hJ E    x5 x9 x_misused h
      · refine g_lload (pc := 126) C 1 rfl dX9_pods_126 ?_
        refine g_ldc2 (pc := 128) C dX9_pods_128 kw_1134 ?_
        refine g_lrem (pc := 131) C dX9_pods_131 (by decide) ?_
        refine g_lconst (pc := 132) C (v := 0) dX9_pods_132 (by decide) ?_
        refine g_lcmp (pc := 133) C dX9_pods_133 ?_
        refine g_if_ne (pc := 134) C (tgt := 159) dX9_pods_134 rfl h (fun h => ?_) (fun h => ?_)
        · refine g_lv [0, 1, 2] rfl ?_
          exact j_X9_pods_159 C hJ E    x5 x9 x_misused h
        · refine g_lload (pc := 137) C 1 rfl dX9_pods_137 ?_
          refine g_ldc2 (pc := 139) C dX9_pods_139 kw_1134 ?_
          refine g_ldiv (pc := 142) C dX9_pods_142 (by decide) ?_
          refine g_lstore (pc := 143) C [(5, .long (x5 / 2)), (4, .int n4), (9, .long x9), (11, .int x11)] dX9_pods_143 (by decide) rfl ?_
          refine g_lload (pc := 145) C 2 rfl dX9_pods_145 ?_
          refine g_ldc2 (pc := 147) C dX9_pods_147 kw_1134 ?_
          refine g_ldiv (pc := 150) C dX9_pods_150 (by decide) ?_
          refine g_lstore (pc := 151) C [(9, .long (x9 / 2)), (5, .long (x5 / 2)), (4, .int n4), (11, .int x11)] dX9_pods_151 (by decide) rfl ?_
          refine g_iinc (pc := 153) C (j := 3) [(11, .int (x11 + 1)), (9, .long (x9 / 2)), (5, .long (x5 / 2)), (4, .int n4)] dX9_pods_153 rfl (ii_1 _) (by decide) rfl ?_
          refine g_goto (pc := 156) C (tgt := 112) dX9_pods_156 rfl ?_
          refine g_lv [3, 2, 1, 0] rfl ?_
          exact ih (x5 / 2) (x9 / 2) (x11 + 1) x_misused h
set_option maxRecDepth 100000 in
set_option maxHeartbeats 4000000 in
theorem j_X9_pods_79 {J : Jt} {Z : Zt} {a0 : Nat → Nat} {k_tape : Nat} {k_now : Nat} {k_trial : Nat} {k_task : Nat} {k_season : Nat} {k_stuffing : Nat} {k_images : Nat} {k_row : Nat} {k_plan : Nat} {k_sparePlan : Nat} {k_rule : Nat} {k_spareRule : Nat} {k_notes : Nat} {k_spareNotes : Nat} {x_latest : Value} {x_imageMany : Int32} {x_refusedSteps : Int32} {x_missing : Int32} {n1 : Int32} {n2 : Int32} {n3 : Int32} {n4 : Int32} {ex : Nat} {r : Int64} {o_x_misused : Int32} {k41 : Int64 → Int64 → Int32 → Int32 → Option (Nat × Int64 × Int32)} (C : Cx J Z cX9_pods 12 RX9 (some .long) rm_X9_pods) (hJ : J.1.stackTraces = false) (E : EzX J Z 4 24 ex (some (.long r)) (fun _ : Unit => cs_X9 (a0 0) k_tape k_now k_trial k_task k_season k_stuffing k_images k_row k_plan k_sparePlan k_rule k_spareRule k_notes k_spareNotes x_latest x_imageMany x_refusedSteps x_missing o_x_misused)) (hk41 : ∀ (x5 : Int64) (x7 : Int64) (x9 : Int32) (x_misused : Int32), k41 x5 x7 x9 x_misused = some (ex, r, o_x_misused) → G J Z 4 24 (cs_X9 (a0 0) k_tape k_now k_trial k_task k_season k_stuffing k_images k_row k_plan k_sparePlan k_rule k_spareRule k_notes k_spareNotes x_latest x_imageMany x_refusedSteps x_missing x_misused) 12 [(1, .int n1), (2, .int n2), (3, .int n3), (4, .int n4), (5, .long x5), (7, .long x7), (9, .int x9)] 41 []) : ∀ (x5 : Int64) (x7 : Int64) (x9 : Int32) (x_misused : Int32), f_X9_pods_79 n1 n2 n3 n4 k41 x5 x7 x9 x_misused = some (ex, r, o_x_misused) → G J Z 4 24 (cs_X9 (a0 0) k_tape k_now k_trial k_task k_season k_stuffing k_images k_row k_plan k_sparePlan k_rule k_spareRule k_notes k_spareNotes x_latest x_imageMany x_refusedSteps x_missing x_misused) 12 [(1, .int n1), (2, .int n2), (3, .int n3), (4, .int n4), (5, .long x5), (7, .long x7), (9, .int x9)] 79 [] := by
  intro x5 x7 x9 x_misused h
  unfold f_X9_pods_79 at h
  refine g_lload (pc := 79) C 5 rfl dX9_pods_79 ?_
  refine g_iload_n (pc := 81) C 0 rfl dX9_pods_81 ?_
  refine g_iload (pc := 82) C 6 rfl dX9_pods_82 ?_
  refine g_isub (pc := 84) C dX9_pods_84 ?_
  refine g_i2l (pc := 85) C dX9_pods_85 ?_
  refine g_lmul (pc := 86) C dX9_pods_86 ?_
  refine g_iload (pc := 87) C 6 rfl dX9_pods_87 ?_
  refine g_iconst (pc := 89) C dX9_pods_89 ci_1 ?_
  refine g_iadd (pc := 90) C dX9_pods_90 ?_
  refine g_i2l (pc := 91) C dX9_pods_91 ?_
  obtain ⟨hz, h⟩ := nz_of h
  refine g_ldiv (pc := 92) C dX9_pods_92 hz ?_
  refine g_lstore (pc := 93) C [(7, .long ((x7 * ((n1 - x9).toInt64)) / ((x9 + 1).toInt64))), (1, .int n1), (2, .int n2), (3, .int n3), (4, .int n4), (5, .long x5), (9, .int x9)] dX9_pods_93 (by decide) rfl ?_
  refine g_iinc (pc := 95) C (j := 6) [(9, .int (x9 + 1)), (7, .long ((x7 * ((n1 - x9).toInt64)) / ((x9 + 1).toInt64))), (1, .int n1), (2, .int n2), (3, .int n3), (4, .int n4), (5, .long x5)] dX9_pods_95 rfl (ii_1 _) (by decide) rfl ?_
  refine g_goto (pc := 98) C (tgt := 41) dX9_pods_98 rfl ?_
  refine g_lv [2, 3, 4, 5, 6, 1, 0] rfl ?_
  exact hk41 x5 ((x7 * ((n1 - x9).toInt64)) / ((x9 + 1).toInt64)) (x9 + 1) x_misused h
set_option maxRecDepth 100000 in
set_option maxHeartbeats 4000000 in
theorem j_X9_pods_41 {J : Jt} {Z : Zt} {a0 : Nat → Nat} {k_tape : Nat} {k_now : Nat} {k_trial : Nat} {k_task : Nat} {k_season : Nat} {k_stuffing : Nat} {k_images : Nat} {k_row : Nat} {k_plan : Nat} {k_sparePlan : Nat} {k_rule : Nat} {k_spareRule : Nat} {k_notes : Nat} {k_spareNotes : Nat} {x_latest : Value} {x_imageMany : Int32} {x_refusedSteps : Int32} {x_missing : Int32} {n1 : Int32} {n2 : Int32} {n3 : Int32} {n4 : Int32} {ex : Nat} {r : Int64} {o_x_misused : Int32} (C : Cx J Z cX9_pods 12 RX9 (some .long) rm_X9_pods) (hJ : J.1.stackTraces = false) (E : EzX J Z 4 24 ex (some (.long r)) (fun _ : Unit => cs_X9 (a0 0) k_tape k_now k_trial k_task k_season k_stuffing k_images k_row k_plan k_sparePlan k_rule k_spareRule k_notes k_spareNotes x_latest x_imageMany x_refusedSteps x_missing o_x_misused)) : ∀ (n : Nat) (x5 : Int64) (x7 : Int64) (x9 : Int32) (x_misused : Int32), f_X9_pods_41 n1 n2 n3 n4 n x5 x7 x9 x_misused = some (ex, r, o_x_misused) → G J Z 4 24 (cs_X9 (a0 0) k_tape k_now k_trial k_task k_season k_stuffing k_images k_row k_plan k_sparePlan k_rule k_spareRule k_notes k_spareNotes x_latest x_imageMany x_refusedSteps x_missing x_misused) 12 [(1, .int n1), (2, .int n2), (3, .int n3), (4, .int n4), (5, .long x5), (7, .long x7), (9, .int x9)] 41 [] := by
  intro n
  induction n with
  | zero =>
    intro x5 x7 x9 x_misused h
    rw [f_X9_pods_41] at h
    cases h
  | succ n ih =>
    intro x5 x7 x9 x_misused h
    rw [f_X9_pods_41] at h
    refine g_iload (pc := 41) C 6 rfl dX9_pods_41 ?_
    refine g_iload_n (pc := 43) C 0 rfl dX9_pods_43 ?_
    refine g_icmp_gt (pc := 44) C (tgt := 101) dX9_pods_44 rfl h (fun h => ?_) (fun h => ?_)
    · refine g_bipush (pc := 101) C dX9_pods_101 cb_16 ?_
      refine g_iload_n (pc := 103) C 0 rfl dX9_pods_103 ?_
      obtain ⟨v1, hc, h⟩ := b1_of h
      refine g_callS (pc := 104) C (w' := cs_X9 (a0 0) k_tape k_now k_trial k_task k_season k_stuffing k_images k_row k_plan k_sparePlan k_rule k_spareRule k_notes k_spareNotes x_latest x_imageMany x_refusedSteps x_missing x_misused) (As := [.int 16, .int n1]) (st := []) (t_X9_power hc) Sub.nil kw_1131 kw_1132 kw_86 hy_X9_power kw_1133 rfl (Nat.le_of_ble_eq_true rfl) (Nat.le_of_ble_eq_true rfl) (Nat.le_of_ble_eq_true rfl) (Nat.le_of_ble_eq_true rfl) (Nat.le_of_ble_eq_true rfl) dX9_pods_104 ?_
      refine g_lstore (pc := 107) C [(9, .long v1), (1, .int n1), (2, .int n2), (3, .int n3), (4, .int n4), (5, .long x5), (7, .long x7)] dX9_pods_107 (by decide) rfl ?_
      refine g_iconst (pc := 109) C dX9_pods_109 ci_0 ?_
      refine g_istore (pc := 110) C [(11, .int 0), (9, .long v1), (1, .int n1), (2, .int n2), (3, .int n3), (4, .int n4), (5, .long x5), (7, .long x7)] dX9_pods_110 (by decide) rfl ?_
      refine g_lv [5, 6, 1, 0] rfl ?_
      exact j_X9_pods_112 C hJ E    FU x5 v1 0 x_misused h
    · refine g_iload (pc := 47) C 6 rfl dX9_pods_47 ?_
      refine g_iload_n (pc := 49) C 1 rfl dX9_pods_49 ?_
      refine g_icmp_lt (pc := 50) C (tgt := 79) dX9_pods_50 rfl h (fun h => ?_) (fun h => ?_)
      · exact j_X9_pods_79 C hJ E   ih x5 x7 x9 x_misused h
      · refine g_lload (pc := 53) C 4 rfl dX9_pods_53 ?_
        refine g_lload (pc := 55) C 5 rfl dX9_pods_55 ?_
        refine g_iload_n (pc := 57) C 2 rfl dX9_pods_57 ?_
        refine g_iload (pc := 58) C 6 rfl dX9_pods_58 ?_
        obtain ⟨v2, hc, h⟩ := b1_of h
        refine g_callS (pc := 60) C (w' := cs_X9 (a0 0) k_tape k_now k_trial k_task k_season k_stuffing k_images k_row k_plan k_sparePlan k_rule k_spareRule k_notes k_spareNotes x_latest x_imageMany x_refusedSteps x_missing x_misused) (As := [.int n3, .int x9]) (st := [.long x7, .long x5]) (t_X9_power hc) Sub.nil kw_1131 kw_1132 kw_86 hy_X9_power kw_1133 rfl (Nat.le_of_ble_eq_true rfl) (Nat.le_of_ble_eq_true rfl) (Nat.le_of_ble_eq_true rfl) (Nat.le_of_ble_eq_true rfl) (Nat.le_of_ble_eq_true rfl) dX9_pods_60 ?_
        refine g_lmul (pc := 63) C dX9_pods_63 ?_
        refine g_bipush (pc := 64) C dX9_pods_64 cb_16 ?_
        refine g_iload_n (pc := 66) C 2 rfl dX9_pods_66 ?_
        refine g_isub (pc := 67) C dX9_pods_67 ?_
        refine g_iload_n (pc := 68) C 0 rfl dX9_pods_68 ?_
        refine g_iload (pc := 69) C 6 rfl dX9_pods_69 ?_
        refine g_isub (pc := 71) C dX9_pods_71 ?_
        obtain ⟨v3, hc, h⟩ := b1_of h
        refine g_callS (pc := 72) C (w' := cs_X9 (a0 0) k_tape k_now k_trial k_task k_season k_stuffing k_images k_row k_plan k_sparePlan k_rule k_spareRule k_notes k_spareNotes x_latest x_imageMany x_refusedSteps x_missing x_misused) (As := [.int (16 - n3), .int (n1 - x9)]) (st := [.long (x7 * v2), .long x5]) (t_X9_power hc) Sub.nil kw_1131 kw_1132 kw_86 hy_X9_power kw_1133 rfl (Nat.le_of_ble_eq_true rfl) (Nat.le_of_ble_eq_true rfl) (Nat.le_of_ble_eq_true rfl) (Nat.le_of_ble_eq_true rfl) (Nat.le_of_ble_eq_true rfl) dX9_pods_72 ?_
        refine g_lmul (pc := 75) C dX9_pods_75 ?_
        refine g_ladd (pc := 76) C dX9_pods_76 ?_
        refine g_lstore (pc := 77) C [(5, .long (x5 + ((x7 * v2) * v3))), (1, .int n1), (2, .int n2), (3, .int n3), (4, .int n4), (7, .long x7), (9, .int x9)] dX9_pods_77 (by decide) rfl ?_
        refine g_lv [1, 2, 3, 4, 0, 5, 6] rfl ?_
        exact j_X9_pods_79 C hJ E   ih (x5 + ((x7 * v2) * v3)) x7 x9 x_misused h
set_option maxRecDepth 100000 in
set_option maxHeartbeats 4000000 in
theorem t_X9_pods {J : Jt} {a0 : Nat → Nat} {k_tape : Nat} {k_now : Nat} {k_trial : Nat} {k_task : Nat} {k_season : Nat} {k_stuffing : Nat} {k_images : Nat} {k_row : Nat} {k_plan : Nat} {k_sparePlan : Nat} {k_rule : Nat} {k_spareRule : Nat} {k_notes : Nat} {k_spareNotes : Nat} {x_latest : Value} {x_imageMany : Int32} {x_refusedSteps : Int32} {x_missing : Int32} {x_misused : Int32} {n1 : Int32} {n2 : Int32} {n3 : Int32} {n4 : Int32} {ex : Nat} {r : Int64} {o_x_misused : Int32} (hJ : J.1.stackTraces = false) (h : f_X9_pods x_misused n1 n2 n3 n4 = some (ex, r, o_x_misused)) : MtX J yX9_pods cX9_pods 12 (some .long) rm_X9_pods [.ref (a0 0), .int n1, .int n2, .int n3, .int n4] (cs_X9 (a0 0) k_tape k_now k_trial k_task k_season k_stuffing k_images k_row k_plan k_sparePlan k_rule k_spareRule k_notes k_spareNotes x_latest x_imageMany x_refusedSteps x_missing x_misused) ex (some (.long r)) (fun _ : Unit => cs_X9 (a0 0) k_tape k_now k_trial k_task k_season k_stuffing k_images k_row k_plan k_sparePlan k_rule k_spareRule k_notes k_spareNotes x_latest x_imageMany x_refusedSteps x_missing o_x_misused) := by
  refine MtX_of (own := RX9) (by decide) rfl (Nat.le_of_ble_eq_true rfl) rfl (fun Z C E => ?_)
  unfold f_X9_pods at h
  show G J Z 0 0 (cs_X9 (a0 0) k_tape k_now k_trial k_task k_season k_stuffing k_images k_row k_plan k_sparePlan k_rule k_spareRule k_notes k_spareNotes x_latest x_imageMany x_refusedSteps x_missing x_misused) 12 [(0, .ref (a0 0)), (1, .int n1), (2, .int n2), (3, .int n3), (4, .int n4)] 0 []
  refine g_aload_n (pc := 0) C 0 rfl dX9_pods_0 ?_
  refine g_iload_n (pc := 1) C 1 rfl dX9_pods_1 ?_
  refine g_iconst (pc := 2) C dX9_pods_2 ci_0 ?_
  refine g_bipush (pc := 3) C dX9_pods_3 cb_12 ?_
  obtain ⟨e4, c5, hc, h⟩ := b2_of h
  refine g_xcallU (pc := 5) C (w' := cs_X9 (a0 0) k_tape k_now k_trial k_task k_season k_stuffing k_images k_row k_plan k_sparePlan k_rule k_spareRule k_notes k_spareNotes x_latest x_imageMany x_refusedSteps x_missing c5) (As := [.int n1, .int 0, .int 12]) (st := []) (ci := 9) (q0 := 0) rfl rfl (t_X9_needRange (k_tape := k_tape) (k_now := k_now) (k_trial := k_trial) (k_task := k_task) (k_season := k_season) (k_stuffing := k_stuffing) (k_images := k_images) (k_row := k_row) (k_plan := k_plan) (k_sparePlan := k_sparePlan) (k_rule := k_rule) (k_spareRule := k_spareRule) (k_notes := k_notes) (k_spareNotes := k_spareNotes) (a0 := a0) (x_latest := x_latest) (x_imageMany := x_imageMany) (x_refusedSteps := x_refusedSteps) (x_missing := x_missing) (x_misused := x_misused) hJ hc) Sub.same kw_545 kw_547 kw_2 kw_86 hy_X9_needRange kw_548 rfl (Nat.le_of_ble_eq_true rfl) (Nat.le_of_ble_eq_true rfl) (Nat.le_of_ble_eq_true rfl) (Nat.le_of_ble_eq_true rfl) (Nat.le_of_ble_eq_true rfl) dX9_pods_5 (fun he => ?_) (fun he => ?_)
  · subst he
    rw [if_pos rfl] at h
    refine g_wid (n' := 1) (k' := 6) (Nat.le_of_ble_eq_true rfl) (Nat.le_of_ble_eq_true rfl) ?_
    refine g_aload_n (pc := 8) C 0 rfl dX9_pods_8 ?_
    refine g_iload_n (pc := 9) C 2 rfl dX9_pods_9 ?_
    refine g_iconst (pc := 10) C dX9_pods_10 ci_0 ?_
    refine g_bipush (pc := 11) C dX9_pods_11 cb_13 ?_
    obtain ⟨e6, c7, hc, h⟩ := b2_of h
    refine g_xcallU (pc := 13) C (w' := cs_X9 (a0 0) k_tape k_now k_trial k_task k_season k_stuffing k_images k_row k_plan k_sparePlan k_rule k_spareRule k_notes k_spareNotes x_latest x_imageMany x_refusedSteps x_missing c7) (As := [.int n2, .int 0, .int 13]) (st := []) (ci := 9) (q0 := 0) rfl rfl (t_X9_needRange (k_tape := k_tape) (k_now := k_now) (k_trial := k_trial) (k_task := k_task) (k_season := k_season) (k_stuffing := k_stuffing) (k_images := k_images) (k_row := k_row) (k_plan := k_plan) (k_sparePlan := k_sparePlan) (k_rule := k_rule) (k_spareRule := k_spareRule) (k_notes := k_notes) (k_spareNotes := k_spareNotes) (a0 := a0) (x_latest := x_latest) (x_imageMany := x_imageMany) (x_refusedSteps := x_refusedSteps) (x_missing := x_missing) (x_misused := c5) hJ hc) Sub.same kw_545 kw_547 kw_2 kw_86 hy_X9_needRange kw_548 rfl (Nat.le_of_ble_eq_true rfl) (Nat.le_of_ble_eq_true rfl) (Nat.le_of_ble_eq_true rfl) (Nat.le_of_ble_eq_true rfl) (Nat.le_of_ble_eq_true rfl) dX9_pods_13 (fun he => ?_) (fun he => ?_)
    · subst he
      rw [if_pos rfl] at h
      refine g_wid (n' := 2) (k' := 12) (Nat.le_of_ble_eq_true rfl) (Nat.le_of_ble_eq_true rfl) ?_
      refine g_aload_n (pc := 16) C 0 rfl dX9_pods_16 ?_
      refine g_iload_n (pc := 17) C 3 rfl dX9_pods_17 ?_
      refine g_iconst (pc := 18) C dX9_pods_18 ci_0 ?_
      refine g_bipush (pc := 19) C dX9_pods_19 cb_16 ?_
      obtain ⟨e8, c9, hc, h⟩ := b2_of h
      refine g_xcallU (pc := 21) C (w' := cs_X9 (a0 0) k_tape k_now k_trial k_task k_season k_stuffing k_images k_row k_plan k_sparePlan k_rule k_spareRule k_notes k_spareNotes x_latest x_imageMany x_refusedSteps x_missing c9) (As := [.int n3, .int 0, .int 16]) (st := []) (ci := 9) (q0 := 0) rfl rfl (t_X9_needRange (k_tape := k_tape) (k_now := k_now) (k_trial := k_trial) (k_task := k_task) (k_season := k_season) (k_stuffing := k_stuffing) (k_images := k_images) (k_row := k_row) (k_plan := k_plan) (k_sparePlan := k_sparePlan) (k_rule := k_rule) (k_spareRule := k_spareRule) (k_notes := k_notes) (k_spareNotes := k_spareNotes) (a0 := a0) (x_latest := x_latest) (x_imageMany := x_imageMany) (x_refusedSteps := x_refusedSteps) (x_missing := x_missing) (x_misused := c7) hJ hc) Sub.same kw_545 kw_547 kw_2 kw_86 hy_X9_needRange kw_548 rfl (Nat.le_of_ble_eq_true rfl) (Nat.le_of_ble_eq_true rfl) (Nat.le_of_ble_eq_true rfl) (Nat.le_of_ble_eq_true rfl) (Nat.le_of_ble_eq_true rfl) dX9_pods_21 (fun he => ?_) (fun he => ?_)
      · subst he
        rw [if_pos rfl] at h
        refine g_wid (n' := 3) (k' := 18) (Nat.le_of_ble_eq_true rfl) (Nat.le_of_ble_eq_true rfl) ?_
        refine g_aload_n (pc := 24) C 0 rfl dX9_pods_24 ?_
        refine g_iload (pc := 25) C 4 rfl dX9_pods_25 ?_
        refine g_iconst (pc := 27) C dX9_pods_27 ci_0 ?_
        refine g_iconst (pc := 28) C dX9_pods_28 ci_1 ?_
        obtain ⟨e10, c11, hc, h⟩ := b2_of h
        refine g_xcallU (pc := 29) C (w' := cs_X9 (a0 0) k_tape k_now k_trial k_task k_season k_stuffing k_images k_row k_plan k_sparePlan k_rule k_spareRule k_notes k_spareNotes x_latest x_imageMany x_refusedSteps x_missing c11) (As := [.int n4, .int 0, .int 1]) (st := []) (ci := 9) (q0 := 0) rfl rfl (t_X9_needRange (k_tape := k_tape) (k_now := k_now) (k_trial := k_trial) (k_task := k_task) (k_season := k_season) (k_stuffing := k_stuffing) (k_images := k_images) (k_row := k_row) (k_plan := k_plan) (k_sparePlan := k_sparePlan) (k_rule := k_rule) (k_spareRule := k_spareRule) (k_notes := k_notes) (k_spareNotes := k_spareNotes) (a0 := a0) (x_latest := x_latest) (x_imageMany := x_imageMany) (x_refusedSteps := x_refusedSteps) (x_missing := x_missing) (x_misused := c9) hJ hc) Sub.same kw_545 kw_547 kw_2 kw_86 hy_X9_needRange kw_548 rfl (Nat.le_of_ble_eq_true rfl) (Nat.le_of_ble_eq_true rfl) (Nat.le_of_ble_eq_true rfl) (Nat.le_of_ble_eq_true rfl) (Nat.le_of_ble_eq_true rfl) dX9_pods_29 (fun he => ?_) (fun he => ?_)
        · subst he
          rw [if_pos rfl] at h
          refine g_wid (n' := 4) (k' := 24) (Nat.le_of_ble_eq_true rfl) (Nat.le_of_ble_eq_true rfl) ?_
          refine g_lconst (pc := 32) C (v := 0) dX9_pods_32 (by decide) ?_
          refine g_lstore (pc := 33) C [(5, .long 0), (0, .ref (a0 0)), (1, .int n1), (2, .int n2), (3, .int n3), (4, .int n4)] dX9_pods_33 (by decide) rfl ?_
          refine g_lconst (pc := 35) C (v := 1) dX9_pods_35 (by decide) ?_
          refine g_lstore (pc := 36) C [(7, .long 1), (5, .long 0), (0, .ref (a0 0)), (1, .int n1), (2, .int n2), (3, .int n3), (4, .int n4)] dX9_pods_36 (by decide) rfl ?_
          refine g_iconst (pc := 38) C dX9_pods_38 ci_0 ?_
          refine g_istore (pc := 39) C [(9, .int 0), (7, .long 1), (5, .long 0), (0, .ref (a0 0)), (1, .int n1), (2, .int n2), (3, .int n3), (4, .int n4)] dX9_pods_39 (by decide) rfl ?_
          refine g_lv [4, 5, 6, 7, 2, 1, 0] rfl ?_
          exact j_X9_pods_41 C hJ E    FU 0 1 0 c11 h
        · rw [if_neg he] at h
          cases h
          exact gt_out C he E (Nat.le_of_ble_eq_true rfl) (Nat.le_of_ble_eq_true rfl) () rfl
      · rw [if_neg he] at h
        cases h
        exact gt_out C he E (Nat.le_of_ble_eq_true rfl) (Nat.le_of_ble_eq_true rfl) () rfl
    · rw [if_neg he] at h
      cases h
      exact gt_out C he E (Nat.le_of_ble_eq_true rfl) (Nat.le_of_ble_eq_true rfl) () rfl
  · rw [if_neg he] at h
    cases h
    exact gt_out C he E (Nat.le_of_ble_eq_true rfl) (Nat.le_of_ble_eq_true rfl) () rfl
