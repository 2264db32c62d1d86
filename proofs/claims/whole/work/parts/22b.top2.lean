noncomputable def f_X9_runs (x_missing : Int32) (x_misused : Int32) (s_year : Int32) (s_wet : Int32) (s_gone : Nat → Int32) (s_many : Nat → Int32) (p_letters : Int32) (p_far : Nat → Int32) (p_drain : Nat → Int32) (p_length : Nat → Int32) (l_code : Nat → Int32) (l_values : Nat → Int32) (l_stack : Nat → Int32) (l_length : Int32) (n1 : Int32) (n2 : Int32) : Option (Nat × Int32 × Int32 × Int32 × (Nat → Int32) × (Nat → Int32)) := b2 (f_X9_needOneOf x_missing n1 p_letters) (fun e1 c2 => if e1 = 0 then b2 (f_X9_needRange x_misused n2 1 20) (fun e3 c4 => if e3 = 0 then b1 (f_X4_wetBy s_wet n2) (fun v5 => b3 (f_X4_runOf s_year s_gone s_many p_far p_drain p_length l_code l_values l_stack l_length n1 n2 v5) (fun v6 c7 c8 => some (0, v6, c2, c4, c7, c8))) else some (e3, 0, c2, c4, l_values, l_stack)) else some (e1, 0, c2, x_misused, l_values, l_stack))
def rm_X9_runs : Room := { frames := 10, cells := 2, slots := 12, locals := 143 }
set_option maxRecDepth 100000 in
set_option maxHeartbeats 4000000 in
theorem t_X9_runs {J : Jt} {a0 : Nat → Nat} {a1 : Nat → Nat} {a2 : Nat → Nat} {a3 : Nat → Nat} {k_tape : Nat} {k_trial : Nat} {k_task : Nat} {k_season : Nat} {k_stuffing : Nat} {k_images : Nat} {k_row : Nat} {k_sparePlan : Nat} {k_spareRule : Nat} {k_notes : Nat} {k_spareNotes : Nat} {x_latest : Value} {x_imageMany : Int32} {x_refusedSteps : Int32} {x_missing : Int32} {x_misused : Int32} {s_year : Int32} {s_wet : Int32} {s_lost : Int32} {s_eaten : Int32} {s_tied : Int32} {s_ripeMany : Int32} {s_gone : Nat → Int32} {s_place : Nat → Int32} {s_heard : Nat → Int32} {s_many : Nat → Int32} {s_lying : Nat → Int32} {s_ripe : Nat → Int32} {p_beds : Int32} {p_letters : Int32} {p_readers : Int32} {p_far : Nat → Int32} {p_drain : Nat → Int32} {p_length : Nat → Int32} {p_words : Nat → Int32} {p_home : Nat → Int32} {l_code : Nat → Int32} {l_values : Nat → Int32} {l_stack : Nat → Int32} {l_length : Int32} {n1 : Int32} {n2 : Int32} {ex : Nat} {r : Int32} {o_x_missing : Int32} {o_x_misused : Int32} {o_l_values : Nat → Int32} {o_l_stack : Nat → Int32} (hJ : J.1.stackTraces = false) (h : f_X9_runs x_missing x_misused s_year s_wet s_gone s_many p_letters p_far p_drain p_length l_code l_values l_stack l_length n1 n2 = some (ex, r, o_x_missing, o_x_misused, o_l_values, o_l_stack)) : MtX J yX9_runs cX9_runs 3 (some .int) rm_X9_runs [.ref (a0 0), .int n1, .int n2] (cs_X9 (a0 0) k_tape (a1 0) k_trial k_task k_season k_stuffing k_images k_row (a2 0) k_sparePlan (a3 0) k_spareRule k_notes k_spareNotes x_latest x_imageMany x_refusedSteps x_missing x_misused ++ cs_X4 J.2.2.1 a1 s_year s_wet s_lost s_eaten s_tied s_ripeMany s_gone s_place s_heard s_many s_lying s_ripe ++ cs_X2 J.2.2.1 a2 p_beds p_letters p_readers p_far p_drain p_length p_words p_home ++ cs_X1 J.2.2.1 a3 l_code l_values l_stack l_length) ex (some (.int r)) (fun _ : Unit => cs_X9 (a0 0) k_tape (a1 0) k_trial k_task k_season k_stuffing k_images k_row (a2 0) k_sparePlan (a3 0) k_spareRule k_notes k_spareNotes x_latest x_imageMany x_refusedSteps o_x_missing o_x_misused ++ cs_X4 J.2.2.1 a1 s_year s_wet s_lost s_eaten s_tied s_ripeMany s_gone s_place s_heard s_many s_lying s_ripe ++ cs_X2 J.2.2.1 a2 p_beds p_letters p_readers p_far p_drain p_length p_words p_home ++ cs_X1 J.2.2.1 a3 l_code o_l_values o_l_stack l_length) := by
  refine MtX_of (own := RX9) (by decide) rfl (Nat.le_of_ble_eq_true rfl) rfl (fun Z C E => ?_)
  unfold f_X9_runs at h
  show G J Z 0 0 (cs_X9 (a0 0) k_tape (a1 0) k_trial k_task k_season k_stuffing k_images k_row (a2 0) k_sparePlan (a3 0) k_spareRule k_notes k_spareNotes x_latest x_imageMany x_refusedSteps x_missing x_misused ++ cs_X4 J.2.2.1 a1 s_year s_wet s_lost s_eaten s_tied s_ripeMany s_gone s_place s_heard s_many s_lying s_ripe ++ cs_X2 J.2.2.1 a2 p_beds p_letters p_readers p_far p_drain p_length p_words p_home ++ cs_X1 J.2.2.1 a3 l_code l_values l_stack l_length) 3 [(0, .ref (a0 0)), (1, .int n1), (2, .int n2)] 0 []
  refine g_aload_n (pc := 0) C 0 rfl dX9_runs_0 ?_
  refine g_iload_n (pc := 1) C 1 rfl dX9_runs_1 ?_
  refine g_aload_n (pc := 2) C 0 rfl dX9_runs_2 ?_
  refine g_get (pc := 3) C FOK_X9 0 rfl rfl 8 (by decide) kw_375 rfl dX9_runs_3 ?_
  refine g_get (pc := 6) C FOK_X2 8 rfl rfl 1 (by decide) kw_283 rfl dX9_runs_6 ?_
  obtain ⟨e1, c2, hc, h⟩ := b2_of h
  refine g_xcallU (pc := 9) C (w' := cs_X9 (a0 0) k_tape (a1 0) k_trial k_task k_season k_stuffing k_images k_row (a2 0) k_sparePlan (a3 0) k_spareRule k_notes k_spareNotes x_latest x_imageMany x_refusedSteps c2 x_misused ++ cs_X4 J.2.2.1 a1 s_year s_wet s_lost s_eaten s_tied s_ripeMany s_gone s_place s_heard s_many s_lying s_ripe ++ cs_X2 J.2.2.1 a2 p_beds p_letters p_readers p_far p_drain p_length p_words p_home ++ cs_X1 J.2.2.1 a3 l_code l_values l_stack l_length) (As := [.int n1, .int p_letters]) (st := []) (ci := 9) (q0 := 0) rfl rfl (t_X9_needOneOf (k_tape := k_tape) (k_now := (a1 0)) (k_trial := k_trial) (k_task := k_task) (k_season := k_season) (k_stuffing := k_stuffing) (k_images := k_images) (k_row := k_row) (k_plan := (a2 0)) (k_sparePlan := k_sparePlan) (k_rule := (a3 0)) (k_spareRule := k_spareRule) (k_notes := k_notes) (k_spareNotes := k_spareNotes) (a0 := a0) hJ hc) (Sub.gen [0] [1, 2, 3, 4, 5, 6, 7, 8, 9, 10, 11, 12, 13, 14, 15, 16, 17] [17, 0, 1, 2, 3, 4, 5, 6, 7, 8, 9, 10, 11, 12, 13, 14, 15, 16] rfl (by decide) rfl (by decide) (by decide) rfl (by decide)) kw_956 kw_958 kw_12 kw_86 hy_X9_needOneOf kw_959 rfl (Nat.le_of_ble_eq_true rfl) (Nat.le_of_ble_eq_true rfl) (Nat.le_of_ble_eq_true rfl) (Nat.le_of_ble_eq_true rfl) (Nat.le_of_ble_eq_true rfl) dX9_runs_9 (fun he => ?_) (fun he => ?_)
  · subst he
    rw [if_pos rfl] at h
    refine g_wid (n' := 1) (k' := 6) (Nat.le_of_ble_eq_true rfl) (Nat.le_of_ble_eq_true rfl) ?_
    refine g_aload_n (pc := 12) C 0 rfl dX9_runs_12 ?_
    refine g_iload_n (pc := 13) C 2 rfl dX9_runs_13 ?_
    refine g_iconst (pc := 14) C dX9_runs_14 ci_1 ?_
    refine g_bipush (pc := 15) C dX9_runs_15 cb_20 ?_
    obtain ⟨e3, c4, hc, h⟩ := b2_of h
    refine g_xcallU (pc := 17) C (w' := cs_X9 (a0 0) k_tape (a1 0) k_trial k_task k_season k_stuffing k_images k_row (a2 0) k_sparePlan (a3 0) k_spareRule k_notes k_spareNotes x_latest x_imageMany x_refusedSteps c2 c4 ++ cs_X4 J.2.2.1 a1 s_year s_wet s_lost s_eaten s_tied s_ripeMany s_gone s_place s_heard s_many s_lying s_ripe ++ cs_X2 J.2.2.1 a2 p_beds p_letters p_readers p_far p_drain p_length p_words p_home ++ cs_X1 J.2.2.1 a3 l_code l_values l_stack l_length) (As := [.int n2, .int 1, .int 20]) (st := []) (ci := 9) (q0 := 0) rfl rfl (t_X9_needRange (k_tape := k_tape) (k_now := (a1 0)) (k_trial := k_trial) (k_task := k_task) (k_season := k_season) (k_stuffing := k_stuffing) (k_images := k_images) (k_row := k_row) (k_plan := (a2 0)) (k_sparePlan := k_sparePlan) (k_rule := (a3 0)) (k_spareRule := k_spareRule) (k_notes := k_notes) (k_spareNotes := k_spareNotes) (a0 := a0) hJ hc) (Sub.gen [0] [1, 2, 3, 4, 5, 6, 7, 8, 9, 10, 11, 12, 13, 14, 15, 16, 17] [17, 0, 1, 2, 3, 4, 5, 6, 7, 8, 9, 10, 11, 12, 13, 14, 15, 16] rfl (by decide) rfl (by decide) (by decide) rfl (by decide)) kw_545 kw_547 kw_2 kw_86 hy_X9_needRange kw_548 rfl (Nat.le_of_ble_eq_true rfl) (Nat.le_of_ble_eq_true rfl) (Nat.le_of_ble_eq_true rfl) (Nat.le_of_ble_eq_true rfl) (Nat.le_of_ble_eq_true rfl) dX9_runs_17 (fun he => ?_) (fun he => ?_)
    · subst he
      rw [if_pos rfl] at h
      refine g_wid (n' := 2) (k' := 12) (Nat.le_of_ble_eq_true rfl) (Nat.le_of_ble_eq_true rfl) ?_
      refine g_aload_n (pc := 20) C 0 rfl dX9_runs_20 ?_
      refine g_get (pc := 21) C FOK_X9 0 rfl rfl 1 (by decide) kw_368 rfl dX9_runs_21 ?_
      refine g_aload_n (pc := 24) C 0 rfl dX9_runs_24 ?_
      refine g_get (pc := 25) C FOK_X9 0 rfl rfl 8 (by decide) kw_375 rfl dX9_runs_25 ?_
      refine g_aload_n (pc := 28) C 0 rfl dX9_runs_28 ?_
      refine g_get (pc := 29) C FOK_X9 0 rfl rfl 10 (by decide) kw_377 rfl dX9_runs_29 ?_
      refine g_iload_n (pc := 32) C 1 rfl dX9_runs_32 ?_
      refine g_iload_n (pc := 33) C 2 rfl dX9_runs_33 ?_
      refine g_aload_n (pc := 34) C 0 rfl dX9_runs_34 ?_
      refine g_get (pc := 35) C FOK_X9 0 rfl rfl 1 (by decide) kw_368 rfl dX9_runs_35 ?_
      refine g_iload_n (pc := 38) C 2 rfl dX9_runs_38 ?_
      obtain ⟨v5, hc, h⟩ := b1_of h
      refine g_callV (pc := 39) C (w' := cs_X9 (a0 0) k_tape (a1 0) k_trial k_task k_season k_stuffing k_images k_row (a2 0) k_sparePlan (a3 0) k_spareRule k_notes k_spareNotes x_latest x_imageMany x_refusedSteps c2 c4 ++ cs_X4 J.2.2.1 a1 s_year s_wet s_lost s_eaten s_tied s_ripeMany s_gone s_place s_heard s_many s_lying s_ripe ++ cs_X2 J.2.2.1 a2 p_beds p_letters p_readers p_far p_drain p_length p_words p_home ++ cs_X1 J.2.2.1 a3 l_code l_values l_stack l_length) (As := [.int n2]) (st := [.int n2, .int n1, .ref (a3 0), .ref (a2 0), .ref (a1 0)]) (ci := 4) (q0 := 1) rfl rfl (t_X4_wetBy (a0 := a1) hc) (Sub.gen [1, 2, 3, 4, 5, 6, 7] [0, 8, 9, 10, 11, 12, 13, 14, 15, 16, 17] [0, 11, 12, 13, 14, 15, 16, 17, 1, 2, 3, 4, 5, 6, 7, 8, 9, 10] rfl (by decide) rfl (by decide) (by decide) rfl (by decide)) kw_1031 kw_886 kw_887 kw_88 hy_X4_wetBy kw_888 rfl (Nat.le_of_ble_eq_true rfl) (Nat.le_of_ble_eq_true rfl) (Nat.le_of_ble_eq_true rfl) (Nat.le_of_ble_eq_true rfl) (Nat.le_of_ble_eq_true rfl) dX9_runs_39 ?_
      obtain ⟨v6, c7, c8, hc, h⟩ := b3_of h
      refine g_callV (pc := 42) C (w' := cs_X9 (a0 0) k_tape (a1 0) k_trial k_task k_season k_stuffing k_images k_row (a2 0) k_sparePlan (a3 0) k_spareRule k_notes k_spareNotes x_latest x_imageMany x_refusedSteps c2 c4 ++ cs_X4 J.2.2.1 a1 s_year s_wet s_lost s_eaten s_tied s_ripeMany s_gone s_place s_heard s_many s_lying s_ripe ++ cs_X2 J.2.2.1 a2 p_beds p_letters p_readers p_far p_drain p_length p_words p_home ++ cs_X1 J.2.2.1 a3 l_code c7 c8 l_length) (As := [.ref (a2 0), .ref (a3 0), .int n1, .int n2, .int v5]) (st := []) (ci := 4) (q0 := 1) rfl rfl (t_X4_runOf (a0 := a1) (a1 := a2) (a2 := a3) hc) (Sub.gen [1, 2, 3, 4, 5, 6, 7, 8, 9, 10, 11, 12, 13, 14, 15, 16, 17] [0] [0, 1, 2, 3, 4, 5, 6, 7, 8, 9, 10, 11, 12, 13, 14, 15, 16, 17] rfl (by decide) rfl (by decide) (by decide) rfl (by decide)) kw_1032 kw_896 kw_897 kw_88 hy_X4_runOf kw_898 rfl (Nat.le_of_ble_eq_true rfl) (Nat.le_of_ble_eq_true rfl) (Nat.le_of_ble_eq_true rfl) (Nat.le_of_ble_eq_true rfl) (Nat.le_of_ble_eq_true rfl) dX9_runs_42 ?_
      cases h
      exact g_iretX C E () rfl dX9_runs_45
    · rw [if_neg he] at h
      cases h
      exact gt_out C he E (Nat.le_of_ble_eq_true rfl) (Nat.le_of_ble_eq_true rfl) () rfl
  · rw [if_neg he] at h
    cases h
    exact gt_out C he E (Nat.le_of_ble_eq_true rfl) (Nat.le_of_ble_eq_true rfl) () rfl
noncomputable def f_X9_would (x_misused : Int32) (l_code : Nat → Int32) (l_values : Nat → Int32) (l_stack : Nat → Int32) (l_length : Int32) (n1 : Int32) (n2 : Int32) (n3 : Int32) (n4 : Int32) (n5 : Int32) (n6 : Int32) (n7 : Int32) : Option (Nat × Int32 × Int32 × (Nat → Int32) × (Nat → Int32)) := b2 (f_X9_needRange x_misused n1 0 20) (fun e1 c2 => if e1 = 0 then b2 (f_X9_needRange c2 n2 0 99) (fun e3 c4 => if e3 = 0 then b2 (f_X9_needRange c4 n3 0 8) (fun e5 c6 => if e5 = 0 then b2 (f_X9_needRange c6 n4 0 30) (fun e7 c8 => if e7 = 0 then b2 (f_X9_needRange c8 n5 0 12) (fun e9 c10 => if e9 = 0 then b2 (f_X9_needRange c10 n6 0 400) (fun e11 c12 => if e11 = 0 then b2 (f_X9_needRange c12 n7 0 5) (fun e13 c14 => if e13 = 0 then b3 (f_X1_tells l_code l_values l_stack l_length n1 n2 n3 n4 n5 n6 n7) (fun v15 c16 c17 => some (0, v15, c14, c16, c17)) else some (e13, 0, c14, l_values, l_stack)) else some (e11, 0, c12, l_values, l_stack)) else some (e9, 0, c10, l_values, l_stack)) else some (e7, 0, c8, l_values, l_stack)) else some (e5, 0, c6, l_values, l_stack)) else some (e3, 0, c4, l_values, l_stack)) else some (e1, 0, c2, l_values, l_stack))
def rm_X9_would : Room := { frames := 10, cells := 7, slots := 42, locals := 143 }
set_option maxRecDepth 100000 in
set_option maxHeartbeats 4000000 in
theorem t_X9_would {J : Jt} {a0 : Nat → Nat} {a1 : Nat → Nat} {k_tape : Nat} {k_now : Nat} {k_trial : Nat} {k_task : Nat} {k_season : Nat} {k_stuffing : Nat} {k_images : Nat} {k_row : Nat} {k_plan : Nat} {k_sparePlan : Nat} {k_spareRule : Nat} {k_notes : Nat} {k_spareNotes : Nat} {x_latest : Value} {x_imageMany : Int32} {x_refusedSteps : Int32} {x_missing : Int32} {x_misused : Int32} {l_code : Nat → Int32} {l_values : Nat → Int32} {l_stack : Nat → Int32} {l_length : Int32} {n1 : Int32} {n2 : Int32} {n3 : Int32} {n4 : Int32} {n5 : Int32} {n6 : Int32} {n7 : Int32} {ex : Nat} {r : Int32} {o_x_misused : Int32} {o_l_values : Nat → Int32} {o_l_stack : Nat → Int32} (hJ : J.1.stackTraces = false) (h : f_X9_would x_misused l_code l_values l_stack l_length n1 n2 n3 n4 n5 n6 n7 = some (ex, r, o_x_misused, o_l_values, o_l_stack)) : MtX J yX9_would cX9_would 8 (some .int) rm_X9_would [.ref (a0 0), .int n1, .int n2, .int n3, .int n4, .int n5, .int n6, .int n7] (cs_X9 (a0 0) k_tape k_now k_trial k_task k_season k_stuffing k_images k_row k_plan k_sparePlan (a1 0) k_spareRule k_notes k_spareNotes x_latest x_imageMany x_refusedSteps x_missing x_misused ++ cs_X1 J.2.2.1 a1 l_code l_values l_stack l_length) ex (some (.int r)) (fun _ : Unit => cs_X9 (a0 0) k_tape k_now k_trial k_task k_season k_stuffing k_images k_row k_plan k_sparePlan (a1 0) k_spareRule k_notes k_spareNotes x_latest x_imageMany x_refusedSteps x_missing o_x_misused ++ cs_X1 J.2.2.1 a1 l_code o_l_values o_l_stack l_length) := by
  refine MtX_of (own := RX9) (by decide) rfl (Nat.le_of_ble_eq_true rfl) rfl (fun Z C E => ?_)
  unfold f_X9_would at h
  show G J Z 0 0 (cs_X9 (a0 0) k_tape k_now k_trial k_task k_season k_stuffing k_images k_row k_plan k_sparePlan (a1 0) k_spareRule k_notes k_spareNotes x_latest x_imageMany x_refusedSteps x_missing x_misused ++ cs_X1 J.2.2.1 a1 l_code l_values l_stack l_length) 8 [(0, .ref (a0 0)), (1, .int n1), (2, .int n2), (3, .int n3), (4, .int n4), (5, .int n5), (6, .int n6), (7, .int n7)] 0 []
  refine g_aload_n (pc := 0) C 0 rfl dX9_would_0 ?_
  refine g_iload_n (pc := 1) C 1 rfl dX9_would_1 ?_
  refine g_iconst (pc := 2) C dX9_would_2 ci_0 ?_
  refine g_bipush (pc := 3) C dX9_would_3 cb_20 ?_
  obtain ⟨e1, c2, hc, h⟩ := b2_of h
  refine g_xcallU (pc := 5) C (w' := cs_X9 (a0 0) k_tape k_now k_trial k_task k_season k_stuffing k_images k_row k_plan k_sparePlan (a1 0) k_spareRule k_notes k_spareNotes x_latest x_imageMany x_refusedSteps x_missing c2 ++ cs_X1 J.2.2.1 a1 l_code l_values l_stack l_length) (As := [.int n1, .int 0, .int 20]) (st := []) (ci := 9) (q0 := 0) rfl rfl (t_X9_needRange (k_tape := k_tape) (k_now := k_now) (k_trial := k_trial) (k_task := k_task) (k_season := k_season) (k_stuffing := k_stuffing) (k_images := k_images) (k_row := k_row) (k_plan := k_plan) (k_sparePlan := k_sparePlan) (k_rule := (a1 0)) (k_spareRule := k_spareRule) (k_notes := k_notes) (k_spareNotes := k_spareNotes) (a0 := a0) hJ hc) (Sub.gen [0] [1, 2, 3, 4] [4, 0, 1, 2, 3] rfl (by decide) rfl (by decide) (by decide) rfl (by decide)) kw_545 kw_547 kw_2 kw_86 hy_X9_needRange kw_548 rfl (Nat.le_of_ble_eq_true rfl) (Nat.le_of_ble_eq_true rfl) (Nat.le_of_ble_eq_true rfl) (Nat.le_of_ble_eq_true rfl) (Nat.le_of_ble_eq_true rfl) dX9_would_5 (fun he => ?_) (fun he => ?_)
  · subst he
    rw [if_pos rfl] at h
    refine g_wid (n' := 1) (k' := 6) (Nat.le_of_ble_eq_true rfl) (Nat.le_of_ble_eq_true rfl) ?_
    refine g_aload_n (pc := 8) C 0 rfl dX9_would_8 ?_
    refine g_iload_n (pc := 9) C 2 rfl dX9_would_9 ?_
    refine g_iconst (pc := 10) C dX9_would_10 ci_0 ?_
    refine g_bipush (pc := 11) C dX9_would_11 cb_99 ?_
    obtain ⟨e3, c4, hc, h⟩ := b2_of h
    refine g_xcallU (pc := 13) C (w' := cs_X9 (a0 0) k_tape k_now k_trial k_task k_season k_stuffing k_images k_row k_plan k_sparePlan (a1 0) k_spareRule k_notes k_spareNotes x_latest x_imageMany x_refusedSteps x_missing c4 ++ cs_X1 J.2.2.1 a1 l_code l_values l_stack l_length) (As := [.int n2, .int 0, .int 99]) (st := []) (ci := 9) (q0 := 0) rfl rfl (t_X9_needRange (k_tape := k_tape) (k_now := k_now) (k_trial := k_trial) (k_task := k_task) (k_season := k_season) (k_stuffing := k_stuffing) (k_images := k_images) (k_row := k_row) (k_plan := k_plan) (k_sparePlan := k_sparePlan) (k_rule := (a1 0)) (k_spareRule := k_spareRule) (k_notes := k_notes) (k_spareNotes := k_spareNotes) (a0 := a0) hJ hc) (Sub.gen [0] [1, 2, 3, 4] [4, 0, 1, 2, 3] rfl (by decide) rfl (by decide) (by decide) rfl (by decide)) kw_545 kw_547 kw_2 kw_86 hy_X9_needRange kw_548 rfl (Nat.le_of_ble_eq_true rfl) (Nat.le_of_ble_eq_true rfl) (Nat.le_of_ble_eq_true rfl) (Nat.le_of_ble_eq_true rfl) (Nat.le_of_ble_eq_true rfl) dX9_would_13 (fun he => ?_) (fun he => ?_)
    · subst he
      rw [if_pos rfl] at h
      refine g_wid (n' := 2) (k' := 12) (Nat.le_of_ble_eq_true rfl) (Nat.le_of_ble_eq_true rfl) ?_
      refine g_aload_n (pc := 16) C 0 rfl dX9_would_16 ?_
      refine g_iload_n (pc := 17) C 3 rfl dX9_would_17 ?_
      refine g_iconst (pc := 18) C dX9_would_18 ci_0 ?_
      refine g_bipush (pc := 19) C dX9_would_19 cb_8 ?_
      obtain ⟨e5, c6, hc, h⟩ := b2_of h
      refine g_xcallU (pc := 21) C (w' := cs_X9 (a0 0) k_tape k_now k_trial k_task k_season k_stuffing k_images k_row k_plan k_sparePlan (a1 0) k_spareRule k_notes k_spareNotes x_latest x_imageMany x_refusedSteps x_missing c6 ++ cs_X1 J.2.2.1 a1 l_code l_values l_stack l_length) (As := [.int n3, .int 0, .int 8]) (st := []) (ci := 9) (q0 := 0) rfl rfl (t_X9_needRange (k_tape := k_tape) (k_now := k_now) (k_trial := k_trial) (k_task := k_task) (k_season := k_season) (k_stuffing := k_stuffing) (k_images := k_images) (k_row := k_row) (k_plan := k_plan) (k_sparePlan := k_sparePlan) (k_rule := (a1 0)) (k_spareRule := k_spareRule) (k_notes := k_notes) (k_spareNotes := k_spareNotes) (a0 := a0) hJ hc) (Sub.gen [0] [1, 2, 3, 4] [4, 0, 1, 2, 3] rfl (by decide) rfl (by decide) (by decide) rfl (by decide)) kw_545 kw_547 kw_2 kw_86 hy_X9_needRange kw_548 rfl (Nat.le_of_ble_eq_true rfl) (Nat.le_of_ble_eq_true rfl) (Nat.le_of_ble_eq_true rfl) (Nat.le_of_ble_eq_true rfl) (Nat.le_of_ble_eq_true rfl) dX9_would_21 (fun he => ?_) (fun he => ?_)
      · subst he
        rw [if_pos rfl] at h
        refine g_wid (n' := 3) (k' := 18) (Nat.le_of_ble_eq_true rfl) (Nat.le_of_ble_eq_true rfl) ?_
        refine g_aload_n (pc := 24) C 0 rfl dX9_would_24 ?_
        refine g_iload (pc := 25) C 4 rfl dX9_would_25 ?_
        refine g_iconst (pc := 27) C dX9_would_27 ci_0 ?_
        refine g_bipush (pc := 28) C dX9_would_28 cb_30 ?_
        obtain ⟨e7, c8, hc, h⟩ := b2_of h
        refine g_xcallU (pc := 30) C (w' := cs_X9 (a0 0) k_tape k_now k_trial k_task k_season k_stuffing k_images k_row k_plan k_sparePlan (a1 0) k_spareRule k_notes k_spareNotes x_latest x_imageMany x_refusedSteps x_missing c8 ++ cs_X1 J.2.2.1 a1 l_code l_values l_stack l_length) (As := [.int n4, .int 0, .int 30]) (st := []) (ci := 9) (q0 := 0) rfl rfl (t_X9_needRange (k_tape := k_tape) (k_now := k_now) (k_trial := k_trial) (k_task := k_task) (k_season := k_season) (k_stuffing := k_stuffing) (k_images := k_images) (k_row := k_row) (k_plan := k_plan) (k_sparePlan := k_sparePlan) (k_rule := (a1 0)) (k_spareRule := k_spareRule) (k_notes := k_notes) (k_spareNotes := k_spareNotes) (a0 := a0) hJ hc) (Sub.gen [0] [1, 2, 3, 4] [4, 0, 1, 2, 3] rfl (by decide) rfl (by decide) (by decide) rfl (by decide)) kw_545 kw_547 kw_2 kw_86 hy_X9_needRange kw_548 rfl (Nat.le_of_ble_eq_true rfl) (Nat.le_of_ble_eq_true rfl) (Nat.le_of_ble_eq_true rfl) (Nat.le_of_ble_eq_true rfl) (Nat.le_of_ble_eq_true rfl) dX9_would_30 (fun he => ?_) (fun he => ?_)
        · subst he
          rw [if_pos rfl] at h
          refine g_wid (n' := 4) (k' := 24) (Nat.le_of_ble_eq_true rfl) (Nat.le_of_ble_eq_true rfl) ?_
          refine g_aload_n (pc := 33) C 0 rfl dX9_would_33 ?_
          refine g_iload (pc := 34) C 5 rfl dX9_would_34 ?_
          refine g_iconst (pc := 36) C dX9_would_36 ci_0 ?_
          refine g_bipush (pc := 37) C dX9_would_37 cb_12 ?_
          obtain ⟨e9, c10, hc, h⟩ := b2_of h
          refine g_xcallU (pc := 39) C (w' := cs_X9 (a0 0) k_tape k_now k_trial k_task k_season k_stuffing k_images k_row k_plan k_sparePlan (a1 0) k_spareRule k_notes k_spareNotes x_latest x_imageMany x_refusedSteps x_missing c10 ++ cs_X1 J.2.2.1 a1 l_code l_values l_stack l_length) (As := [.int n5, .int 0, .int 12]) (st := []) (ci := 9) (q0 := 0) rfl rfl (t_X9_needRange (k_tape := k_tape) (k_now := k_now) (k_trial := k_trial) (k_task := k_task) (k_season := k_season) (k_stuffing := k_stuffing) (k_images := k_images) (k_row := k_row) (k_plan := k_plan) (k_sparePlan := k_sparePlan) (k_rule := (a1 0)) (k_spareRule := k_spareRule) (k_notes := k_notes) (k_spareNotes := k_spareNotes) (a0 := a0) hJ hc) (Sub.gen [0] [1, 2, 3, 4] [4, 0, 1, 2, 3] rfl (by decide) rfl (by decide) (by decide) rfl (by decide)) kw_545 kw_547 kw_2 kw_86 hy_X9_needRange kw_548 rfl (Nat.le_of_ble_eq_true rfl) (Nat.le_of_ble_eq_true rfl) (Nat.le_of_ble_eq_true rfl) (Nat.le_of_ble_eq_true rfl) (Nat.le_of_ble_eq_true rfl) dX9_would_39 (fun he => ?_) (fun he => ?_)
          · subst he
            rw [if_pos rfl] at h
            refine g_wid (n' := 5) (k' := 30) (Nat.le_of_ble_eq_true rfl) (Nat.le_of_ble_eq_true rfl) ?_
            refine g_aload_n (pc := 42) C 0 rfl dX9_would_42 ?_
            refine g_iload (pc := 43) C 6 rfl dX9_would_43 ?_
            refine g_iconst (pc := 45) C dX9_would_45 ci_0 ?_
            refine g_sipush (pc := 46) C dX9_would_46 cs_400 ?_
            obtain ⟨e11, c12, hc, h⟩ := b2_of h
            refine g_xcallU (pc := 49) C (w' := cs_X9 (a0 0) k_tape k_now k_trial k_task k_season k_stuffing k_images k_row k_plan k_sparePlan (a1 0) k_spareRule k_notes k_spareNotes x_latest x_imageMany x_refusedSteps x_missing c12 ++ cs_X1 J.2.2.1 a1 l_code l_values l_stack l_length) (As := [.int n6, .int 0, .int 400]) (st := []) (ci := 9) (q0 := 0) rfl rfl (t_X9_needRange (k_tape := k_tape) (k_now := k_now) (k_trial := k_trial) (k_task := k_task) (k_season := k_season) (k_stuffing := k_stuffing) (k_images := k_images) (k_row := k_row) (k_plan := k_plan) (k_sparePlan := k_sparePlan) (k_rule := (a1 0)) (k_spareRule := k_spareRule) (k_notes := k_notes) (k_spareNotes := k_spareNotes) (a0 := a0) hJ hc) (Sub.gen [0] [1, 2, 3, 4] [4, 0, 1, 2, 3] rfl (by decide) rfl (by decide) (by decide) rfl (by decide)) kw_545 kw_547 kw_2 kw_86 hy_X9_needRange kw_548 rfl (Nat.le_of_ble_eq_true rfl) (Nat.le_of_ble_eq_true rfl) (Nat.le_of_ble_eq_true rfl) (Nat.le_of_ble_eq_true rfl) (Nat.le_of_ble_eq_true rfl) dX9_would_49 (fun he => ?_) (fun he => ?_)
            · subst he
              rw [if_pos rfl] at h
              refine g_wid (n' := 6) (k' := 36) (Nat.le_of_ble_eq_true rfl) (Nat.le_of_ble_eq_true rfl) ?_
              refine g_aload_n (pc := 52) C 0 rfl dX9_would_52 ?_
              refine g_iload (pc := 53) C 7 rfl dX9_would_53 ?_
              refine g_iconst (pc := 55) C dX9_would_55 ci_0 ?_
              refine g_iconst (pc := 56) C dX9_would_56 ci_5 ?_
              obtain ⟨e13, c14, hc, h⟩ := b2_of h
              refine g_xcallU (pc := 57) C (w' := cs_X9 (a0 0) k_tape k_now k_trial k_task k_season k_stuffing k_images k_row k_plan k_sparePlan (a1 0) k_spareRule k_notes k_spareNotes x_latest x_imageMany x_refusedSteps x_missing c14 ++ cs_X1 J.2.2.1 a1 l_code l_values l_stack l_length) (As := [.int n7, .int 0, .int 5]) (st := []) (ci := 9) (q0 := 0) rfl rfl (t_X9_needRange (k_tape := k_tape) (k_now := k_now) (k_trial := k_trial) (k_task := k_task) (k_season := k_season) (k_stuffing := k_stuffing) (k_images := k_images) (k_row := k_row) (k_plan := k_plan) (k_sparePlan := k_sparePlan) (k_rule := (a1 0)) (k_spareRule := k_spareRule) (k_notes := k_notes) (k_spareNotes := k_spareNotes) (a0 := a0) hJ hc) (Sub.gen [0] [1, 2, 3, 4] [4, 0, 1, 2, 3] rfl (by decide) rfl (by decide) (by decide) rfl (by decide)) kw_545 kw_547 kw_2 kw_86 hy_X9_needRange kw_548 rfl (Nat.le_of_ble_eq_true rfl) (Nat.le_of_ble_eq_true rfl) (Nat.le_of_ble_eq_true rfl) (Nat.le_of_ble_eq_true rfl) (Nat.le_of_ble_eq_true rfl) dX9_would_57 (fun he => ?_) (fun he => ?_)
              · subst he
                rw [if_pos rfl] at h
                refine g_wid (n' := 7) (k' := 42) (Nat.le_of_ble_eq_true rfl) (Nat.le_of_ble_eq_true rfl) ?_
                refine g_aload_n (pc := 60) C 0 rfl dX9_would_60 ?_
                refine g_get (pc := 61) C FOK_X9 0 rfl rfl 10 (by decide) kw_377 rfl dX9_would_61 ?_
                refine g_iload_n (pc := 64) C 1 rfl dX9_would_64 ?_
                refine g_iload_n (pc := 65) C 2 rfl dX9_would_65 ?_
                refine g_iload_n (pc := 66) C 3 rfl dX9_would_66 ?_
                refine g_iload (pc := 67) C 4 rfl dX9_would_67 ?_
                refine g_iload (pc := 69) C 5 rfl dX9_would_69 ?_
                refine g_iload (pc := 71) C 6 rfl dX9_would_71 ?_
                refine g_iload (pc := 73) C 7 rfl dX9_would_73 ?_
                obtain ⟨v15, c16, c17, hc, h⟩ := b3_of h
                refine g_callV (pc := 75) C (w' := cs_X9 (a0 0) k_tape k_now k_trial k_task k_season k_stuffing k_images k_row k_plan k_sparePlan (a1 0) k_spareRule k_notes k_spareNotes x_latest x_imageMany x_refusedSteps x_missing c14 ++ cs_X1 J.2.2.1 a1 l_code c16 c17 l_length) (As := [.int n1, .int n2, .int n3, .int n4, .int n5, .int n6, .int n7]) (st := []) (ci := 1) (q0 := 1) rfl rfl (t_X1_tells (a0 := a1) hc) (Sub.gen [1, 2, 3, 4] [0] [0, 1, 2, 3, 4] rfl (by decide) rfl (by decide) (by decide) rfl (by decide)) kw_1040 kw_900 kw_901 kw_93 hy_X1_tells kw_902 rfl (Nat.le_of_ble_eq_true rfl) (Nat.le_of_ble_eq_true rfl) (Nat.le_of_ble_eq_true rfl) (Nat.le_of_ble_eq_true rfl) (Nat.le_of_ble_eq_true rfl) dX9_would_75 ?_
                cases h
                exact g_iretX C E () rfl dX9_would_78
              · rw [if_neg he] at h
                cases h
                exact gt_out C he E (Nat.le_of_ble_eq_true rfl) (Nat.le_of_ble_eq_true rfl) () rfl
            · rw [if_neg he] at h
              cases h
              exact gt_out C he E (Nat.le_of_ble_eq_true rfl) (Nat.le_of_ble_eq_true rfl) () rfl
          · rw [if_neg he] at h
            cases h
            exact gt_out C he E (Nat.le_of_ble_eq_true rfl) (Nat.le_of_ble_eq_true rfl) () rfl
        · rw [if_neg he] at h
          cases h
          exact gt_out C he E (Nat.le_of_ble_eq_true rfl) (Nat.le_of_ble_eq_true rfl) () rfl
      · rw [if_neg he] at h
        cases h
        exact gt_out C he E (Nat.le_of_ble_eq_true rfl) (Nat.le_of_ble_eq_true rfl) () rfl
    · rw [if_neg he] at h
      cases h
      exact gt_out C he E (Nat.le_of_ble_eq_true rfl) (Nat.le_of_ble_eq_true rfl) () rfl
  · rw [if_neg he] at h
    cases h
    exact gt_out C he E (Nat.le_of_ble_eq_true rfl) (Nat.le_of_ble_eq_true rfl) () rfl
noncomputable def f_X9_ahead_28  (s_year : Int32) (s_wet : Int32) (s_lost : Int32) (s_eaten : Int32) (s_tied : Int32) (s_ripeMany : Int32) (s_gone : Nat → Int32) (s_place : Nat → Int32) (s_heard : Nat → Int32) (s_many : Nat → Int32) (s_lying : Nat → Int32) (s_ripe : Nat → Int32) (p_beds : Int32) (n1 : Int32) (n2 : Int32) : Nat → Int32 → Int32 → Int32 → Int32 → Int32 → Int32 → Int32 → Int32 → (Nat → Int32) → (Nat → Int32) → (Nat → Int32) → (Nat → Int32) → (Nat → Int32) → (Nat → Int32) → Option (Nat × Int32 × Int32 × Int32 × Int32 × Int32 × Int32 × Int32 × Int32 × (Nat → Int32) × (Nat → Int32) × (Nat → Int32) × (Nat → Int32) × (Nat → Int32) × (Nat → Int32))
  | 0, _, _, _, _, _, _, _, _, _, _, _, _, _, _ => none
  | n + 1, x3, x_misused, s2_year, s2_wet, s2_lost, s2_eaten, s2_tied, s2_ripeMany, s2_gone, s2_place, s2_heard, s2_many, s2_lying, s2_ripe => if n1 ≤ x3 then if n2 = 0 then b1 (f_X4_lyingInAll s2_many) (fun v1 => some (0, v1, x_misused, s2_year, s2_wet, s2_lost, s2_eaten, s2_tied, s2_ripeMany, s2_gone, s2_place, s2_heard, s2_many, s2_lying, s2_ripe)) else if n2 = 1 then some (0, s2_ripeMany, x_misused, s2_year, s2_wet, s2_lost, s2_eaten, s2_tied, s2_ripeMany, s2_gone, s2_place, s2_heard, s2_many, s2_lying, s2_ripe) else some (0, s2_wet, x_misused, s2_year, s2_wet, s2_lost, s2_eaten, s2_tied, s2_ripeMany, s2_gone, s2_place, s2_heard, s2_many, s2_lying, s2_ripe) else b6 (f_X4_passYear s2_year s2_wet s2_ripeMany s2_many s2_lying s2_ripe p_beds) (fun c2 c3 c4 c5 c6 c7 => f_X9_ahead_28 s_year s_wet s_lost s_eaten s_tied s_ripeMany s_gone s_place s_heard s_many s_lying s_ripe p_beds n1 n2 n (x3 + 1) x_misused c2 c3 s2_lost s2_eaten s2_tied c4 s2_gone s2_place s2_heard c5 c6 c7)
noncomputable def f_X9_ahead (x_misused : Int32) (s_year : Int32) (s_wet : Int32) (s_lost : Int32) (s_eaten : Int32) (s_tied : Int32) (s_ripeMany : Int32) (s_gone : Nat → Int32) (s_place : Nat → Int32) (s_heard : Nat → Int32) (s_many : Nat → Int32) (s_lying : Nat → Int32) (s_ripe : Nat → Int32) (s2_year : Int32) (s2_wet : Int32) (s2_lost : Int32) (s2_eaten : Int32) (s2_tied : Int32) (s2_ripeMany : Int32) (s2_gone : Nat → Int32) (s2_place : Nat → Int32) (s2_heard : Nat → Int32) (s2_many : Nat → Int32) (s2_lying : Nat → Int32) (s2_ripe : Nat → Int32) (p_beds : Int32) (n1 : Int32) (n2 : Int32) : Option (Nat × Int32 × Int32 × Int32 × Int32 × Int32 × Int32 × Int32 × Int32 × (Nat → Int32) × (Nat → Int32) × (Nat → Int32) × (Nat → Int32) × (Nat → Int32) × (Nat → Int32)) := b2 (f_X9_needRange x_misused n1 0 99) (fun e8 c9 => if e8 = 0 then b2 (f_X9_needRange c9 n2 0 2) (fun e10 c11 => if e10 = 0 then b12 (f_X4_copy s2_year s2_wet s2_lost s2_eaten s2_tied s2_ripeMany s2_gone s2_place s2_heard s2_many s2_lying s2_ripe s_year s_wet s_lost s_eaten s_tied s_ripeMany s_gone s_place s_heard s_many s_lying s_ripe) (fun c12 c13 c14 c15 c16 c17 c18 c19 c20 c21 c22 c23 => f_X9_ahead_28 s_year s_wet s_lost s_eaten s_tied s_ripeMany s_gone s_place s_heard s_many s_lying s_ripe p_beds n1 n2 FU 0 c11 c12 c13 c14 c15 c16 c17 c18 c19 c20 c21 c22 c23) else some (e10, 0, c11, s2_year, s2_wet, s2_lost, s2_eaten, s2_tied, s2_ripeMany, s2_gone, s2_place, s2_heard, s2_many, s2_lying, s2_ripe)) else some (e8, 0, c9, s2_year, s2_wet, s2_lost, s2_eaten, s2_tied, s2_ripeMany, s2_gone, s2_place, s2_heard, s2_many, s2_lying, s2_ripe))
def rm_X9_ahead : Room := { frames := 10, cells := 2, slots := 12, locals := 143 }
set_option maxRecDepth 100000 in
set_option maxHeartbeats 4000000 in
theorem j_X9_ahead_28 {J : Jt} {Z : Zt} {a0 : Nat → Nat} {a1 : Nat → Nat} {a2 : Nat → Nat} {a3 : Nat → Nat} {k_tape : Nat} {k_task : Nat} {k_season : Nat} {k_stuffing : Nat} {k_images : Nat} {k_row : Nat} {k_sparePlan : Nat} {k_rule : Nat} {k_spareRule : Nat} {k_notes : Nat} {k_spareNotes : Nat} {x_latest : Value} {x_imageMany : Int32} {x_refusedSteps : Int32} {x_missing : Int32} {s_year : Int32} {s_wet : Int32} {s_lost : Int32} {s_eaten : Int32} {s_tied : Int32} {s_ripeMany : Int32} {s_gone : Nat → Int32} {s_place : Nat → Int32} {s_heard : Nat → Int32} {s_many : Nat → Int32} {s_lying : Nat → Int32} {s_ripe : Nat → Int32} {p_beds : Int32} {p_letters : Int32} {p_readers : Int32} {p_far : Nat → Int32} {p_drain : Nat → Int32} {p_length : Nat → Int32} {p_words : Nat → Int32} {p_home : Nat → Int32} {n1 : Int32} {n2 : Int32} {ex : Nat} {r : Int32} {o_x_misused : Int32} {o_s2_year : Int32} {o_s2_wet : Int32} {o_s2_lost : Int32} {o_s2_eaten : Int32} {o_s2_tied : Int32} {o_s2_ripeMany : Int32} {o_s2_gone : Nat → Int32} {o_s2_place : Nat → Int32} {o_s2_heard : Nat → Int32} {o_s2_many : Nat → Int32} {o_s2_lying : Nat → Int32} {o_s2_ripe : Nat → Int32} (C : Cx J Z cX9_ahead 4 RX9 (some .int) rm_X9_ahead) (hJ : J.1.stackTraces = false) (E : EzX J Z 2 12 ex (some (.int r)) (fun _ : Unit => cs_X9 (a0 0) k_tape (a1 0) (a2 0) k_task k_season k_stuffing k_images k_row (a3 0) k_sparePlan k_rule k_spareRule k_notes k_spareNotes x_latest x_imageMany x_refusedSteps x_missing o_x_misused ++ cs_X4 J.2.2.1 a1 s_year s_wet s_lost s_eaten s_tied s_ripeMany s_gone s_place s_heard s_many s_lying s_ripe ++ cs_X4 J.2.2.1 a2 o_s2_year o_s2_wet o_s2_lost o_s2_eaten o_s2_tied o_s2_ripeMany o_s2_gone o_s2_place o_s2_heard o_s2_many o_s2_lying o_s2_ripe ++ cs_X2 J.2.2.1 a3 p_beds p_letters p_readers p_far p_drain p_length p_words p_home)) : ∀ (n : Nat) (x3 : Int32) (x_misused : Int32) (s2_year : Int32) (s2_wet : Int32) (s2_lost : Int32) (s2_eaten : Int32) (s2_tied : Int32) (s2_ripeMany : Int32) (s2_gone : Nat → Int32) (s2_place : Nat → Int32) (s2_heard : Nat → Int32) (s2_many : Nat → Int32) (s2_lying : Nat → Int32) (s2_ripe : Nat → Int32), f_X9_ahead_28 s_year s_wet s_lost s_eaten s_tied s_ripeMany s_gone s_place s_heard s_many s_lying s_ripe p_beds n1 n2 n x3 x_misused s2_year s2_wet s2_lost s2_eaten s2_tied s2_ripeMany s2_gone s2_place s2_heard s2_many s2_lying s2_ripe = some (ex, r, o_x_misused, o_s2_year, o_s2_wet, o_s2_lost, o_s2_eaten, o_s2_tied, o_s2_ripeMany, o_s2_gone, o_s2_place, o_s2_heard, o_s2_many, o_s2_lying, o_s2_ripe) → G J Z 2 12 (cs_X9 (a0 0) k_tape (a1 0) (a2 0) k_task k_season k_stuffing k_images k_row (a3 0) k_sparePlan k_rule k_spareRule k_notes k_spareNotes x_latest x_imageMany x_refusedSteps x_missing x_misused ++ cs_X4 J.2.2.1 a1 s_year s_wet s_lost s_eaten s_tied s_ripeMany s_gone s_place s_heard s_many s_lying s_ripe ++ cs_X4 J.2.2.1 a2 s2_year s2_wet s2_lost s2_eaten s2_tied s2_ripeMany s2_gone s2_place s2_heard s2_many s2_lying s2_ripe ++ cs_X2 J.2.2.1 a3 p_beds p_letters p_readers p_far p_drain p_length p_words p_home) 4 [(0, .ref (a0 0)), (1, .int n1), (2, .int n2), (3, .int x3)] 28 [] := by
  intro n
  induction n with
  | zero =>
    intro x3 x_misused s2_year s2_wet s2_lost s2_eaten s2_tied s2_ripeMany s2_gone s2_place s2_heard s2_many s2_lying s2_ripe h
    rw [f_X9_ahead_28] at h
    cases h
  | succ n ih =>
    intro x3 x_misused s2_year s2_wet s2_lost s2_eaten s2_tied s2_ripeMany s2_gone s2_place s2_heard s2_many s2_lying s2_ripe h
    rw [f_X9_ahead_28] at h
    refine g_iload_n (pc := 28) C 3 rfl dX9_ahead_28 ?_
    refine g_iload_n (pc := 29) C 1 rfl dX9_ahead_29 ?_
    refine g_icmp_ge (pc := 30) C (tgt := 50) dX9_ahead_30 rfl h (fun h => ?_) (fun h => ?_)
    · refine g_iload_n (pc := 50) C 2 rfl dX9_ahead_50 ?_
      rcases ite_of h with ⟨hc, h⟩ | ⟨hn0, h⟩
      · refine g_lk (pc := 51) C (tgt := 76) dX9_ahead_51 (by decide +kernel) (by rw [hc]; decide +kernel) rfl ?_
        refine g_aload_n (pc := 76) C 0 rfl dX9_ahead_76 ?_
        refine g_get (pc := 77) C FOK_X9 0 rfl rfl 2 (by decide) kw_369 rfl dX9_ahead_77 ?_
        obtain ⟨v1, hc, h⟩ := b1_of h
        refine g_callV (pc := 80) C (w' := cs_X9 (a0 0) k_tape (a1 0) (a2 0) k_task k_season k_stuffing k_images k_row (a3 0) k_sparePlan k_rule k_spareRule k_notes k_spareNotes x_latest x_imageMany x_refusedSteps x_missing x_misused ++ cs_X4 J.2.2.1 a1 s_year s_wet s_lost s_eaten s_tied s_ripeMany s_gone s_place s_heard s_many s_lying s_ripe ++ cs_X4 J.2.2.1 a2 s2_year s2_wet s2_lost s2_eaten s2_tied s2_ripeMany s2_gone s2_place s2_heard s2_many s2_lying s2_ripe ++ cs_X2 J.2.2.1 a3 p_beds p_letters p_readers p_far p_drain p_length p_words p_home) (As := []) (st := []) (ci := 4) (q0 := 8) rfl rfl (t_X4_lyingInAll (a0 := a2) hc) (Sub.gen [8, 9, 10, 11, 12, 13, 14] [0, 1, 2, 3, 4, 5, 6, 7, 15, 16, 17, 18, 19, 20] [0, 1, 2, 3, 4, 5, 6, 7, 14, 15, 16, 17, 18, 19, 20, 8, 9, 10, 11, 12, 13] rfl (by decide) rfl (by decide) (by decide) rfl (by decide)) kw_944 kw_945 kw_946 kw_88 hy_X4_lyingInAll kw_947 rfl (Nat.le_of_ble_eq_true rfl) (Nat.le_of_ble_eq_true rfl) (Nat.le_of_ble_eq_true rfl) (Nat.le_of_ble_eq_true rfl) (Nat.le_of_ble_eq_true rfl) dX9_ahead_80 ?_
        cases h
        exact g_iretX C E () rfl dX9_ahead_83
      rcases ite_of h with ⟨hc, h⟩ | ⟨hn1, h⟩
      · refine g_lk (pc := 51) C (tgt := 84) dX9_ahead_51 (by decide +kernel) (by rw [hc]; decide +kernel) rfl ?_
        refine g_aload_n (pc := 84) C 0 rfl dX9_ahead_84 ?_
        refine g_get (pc := 85) C FOK_X9 0 rfl rfl 2 (by decide) kw_369 rfl dX9_ahead_85 ?_
        refine g_get (pc := 88) C FOK_X4 8 rfl rfl 5 (by decide) kw_166 rfl dX9_ahead_88 ?_
        cases h
        exact g_iretX C E () rfl dX9_ahead_91
      have hq0 := lv_neT hn0 (a := 0) (by decide)
      have hq1 := lv_neT hn1 (a := 1) (by decide)
      refine g_lk (pc := 51) C (tgt := 92) dX9_ahead_51 (by decide +kernel) (lk_2 hq0 hq1) rfl ?_
      refine g_aload_n (pc := 92) C 0 rfl dX9_ahead_92 ?_
      refine g_get (pc := 93) C FOK_X9 0 rfl rfl 2 (by decide) kw_369 rfl dX9_ahead_93 ?_
      refine g_get (pc := 96) C FOK_X4 8 rfl rfl 1 (by decide) kw_158 rfl dX9_ahead_96 ?_
      cases h
      exact g_iretX C E () rfl dX9_ahead_99
    · refine g_aload_n (pc := 33) C 0 rfl dX9_ahead_33 ?_
      refine g_get (pc := 34) C FOK_X9 0 rfl rfl 2 (by decide) kw_369 rfl dX9_ahead_34 ?_
      refine g_aload_n (pc := 37) C 0 rfl dX9_ahead_37 ?_
      refine g_get (pc := 38) C FOK_X9 0 rfl rfl 8 (by decide) kw_375 rfl dX9_ahead_38 ?_
      obtain ⟨c2, c3, c4, c5, c6, c7, hc, h⟩ := b6_of h
      refine g_callV (pc := 41) C (w' := cs_X9 (a0 0) k_tape (a1 0) (a2 0) k_task k_season k_stuffing k_images k_row (a3 0) k_sparePlan k_rule k_spareRule k_notes k_spareNotes x_latest x_imageMany x_refusedSteps x_missing x_misused ++ cs_X4 J.2.2.1 a1 s_year s_wet s_lost s_eaten s_tied s_ripeMany s_gone s_place s_heard s_many s_lying s_ripe ++ cs_X4 J.2.2.1 a2 c2 c3 s2_lost s2_eaten s2_tied c4 s2_gone s2_place s2_heard c5 c6 c7 ++ cs_X2 J.2.2.1 a3 p_beds p_letters p_readers p_far p_drain p_length p_words p_home) (As := [.ref (a3 0)]) (st := []) (ci := 4) (q0 := 8) rfl rfl (t_X4_passYear (a0 := a2) (a1 := a3) hc) (Sub.gen [8, 9, 10, 11, 12, 13, 14, 15, 16, 17, 18, 19, 20] [0, 1, 2, 3, 4, 5, 6, 7] [0, 1, 2, 3, 4, 5, 6, 7, 8, 9, 10, 11, 12, 13, 14, 15, 16, 17, 18, 19, 20] rfl (by decide) rfl (by decide) (by decide) rfl (by decide)) kw_1048 kw_911 kw_912 kw_88 hy_X4_passYear kw_913 rfl (Nat.le_of_ble_eq_true rfl) (Nat.le_of_ble_eq_true rfl) (Nat.le_of_ble_eq_true rfl) (Nat.le_of_ble_eq_true rfl) (Nat.le_of_ble_eq_true rfl) dX9_ahead_41 ?_
      refine g_iinc (pc := 44) C (j := 3) [(3, .int (x3 + 1)), (0, .ref (a0 0)), (1, .int n1), (2, .int n2)] dX9_ahead_44 rfl (ii_1 _) (by decide) rfl ?_
      refine g_goto (pc := 47) C (tgt := 28) dX9_ahead_47 rfl ?_
      refine g_lv [1, 2, 3, 0] rfl ?_
      exact ih (x3 + 1) x_misused c2 c3 s2_lost s2_eaten s2_tied c4 s2_gone s2_place s2_heard c5 c6 c7 h
set_option maxRecDepth 100000 in
set_option maxHeartbeats 4000000 in
theorem t_X9_ahead {J : Jt} {a0 : Nat → Nat} {a1 : Nat → Nat} {a2 : Nat → Nat} {a3 : Nat → Nat} {k_tape : Nat} {k_task : Nat} {k_season : Nat} {k_stuffing : Nat} {k_images : Nat} {k_row : Nat} {k_sparePlan : Nat} {k_rule : Nat} {k_spareRule : Nat} {k_notes : Nat} {k_spareNotes : Nat} {x_latest : Value} {x_imageMany : Int32} {x_refusedSteps : Int32} {x_missing : Int32} {x_misused : Int32} {s_year : Int32} {s_wet : Int32} {s_lost : Int32} {s_eaten : Int32} {s_tied : Int32} {s_ripeMany : Int32} {s_gone : Nat → Int32} {s_place : Nat → Int32} {s_heard : Nat → Int32} {s_many : Nat → Int32} {s_lying : Nat → Int32} {s_ripe : Nat → Int32} {s2_year : Int32} {s2_wet : Int32} {s2_lost : Int32} {s2_eaten : Int32} {s2_tied : Int32} {s2_ripeMany : Int32} {s2_gone : Nat → Int32} {s2_place : Nat → Int32} {s2_heard : Nat → Int32} {s2_many : Nat → Int32} {s2_lying : Nat → Int32} {s2_ripe : Nat → Int32} {p_beds : Int32} {p_letters : Int32} {p_readers : Int32} {p_far : Nat → Int32} {p_drain : Nat → Int32} {p_length : Nat → Int32} {p_words : Nat → Int32} {p_home : Nat → Int32} {n1 : Int32} {n2 : Int32} {ex : Nat} {r : Int32} {o_x_misused : Int32} {o_s2_year : Int32} {o_s2_wet : Int32} {o_s2_lost : Int32} {o_s2_eaten : Int32} {o_s2_tied : Int32} {o_s2_ripeMany : Int32} {o_s2_gone : Nat → Int32} {o_s2_place : Nat → Int32} {o_s2_heard : Nat → Int32} {o_s2_many : Nat → Int32} {o_s2_lying : Nat → Int32} {o_s2_ripe : Nat → Int32} (hJ : J.1.stackTraces = false) (h : f_X9_ahead x_misused s_year s_wet s_lost s_eaten s_tied s_ripeMany s_gone s_place s_heard s_many s_lying s_ripe s2_year s2_wet s2_lost s2_eaten s2_tied s2_ripeMany s2_gone s2_place s2_heard s2_many s2_lying s2_ripe p_beds n1 n2 = some (ex, r, o_x_misused, o_s2_year, o_s2_wet, o_s2_lost, o_s2_eaten, o_s2_tied, o_s2_ripeMany, o_s2_gone, o_s2_place, o_s2_heard, o_s2_many, o_s2_lying, o_s2_ripe)) : MtX J yX9_ahead cX9_ahead 4 (some .int) rm_X9_ahead [.ref (a0 0), .int n1, .int n2] (cs_X9 (a0 0) k_tape (a1 0) (a2 0) k_task k_season k_stuffing k_images k_row (a3 0) k_sparePlan k_rule k_spareRule k_notes k_spareNotes x_latest x_imageMany x_refusedSteps x_missing x_misused ++ cs_X4 J.2.2.1 a1 s_year s_wet s_lost s_eaten s_tied s_ripeMany s_gone s_place s_heard s_many s_lying s_ripe ++ cs_X4 J.2.2.1 a2 s2_year s2_wet s2_lost s2_eaten s2_tied s2_ripeMany s2_gone s2_place s2_heard s2_many s2_lying s2_ripe ++ cs_X2 J.2.2.1 a3 p_beds p_letters p_readers p_far p_drain p_length p_words p_home) ex (some (.int r)) (fun _ : Unit => cs_X9 (a0 0) k_tape (a1 0) (a2 0) k_task k_season k_stuffing k_images k_row (a3 0) k_sparePlan k_rule k_spareRule k_notes k_spareNotes x_latest x_imageMany x_refusedSteps x_missing o_x_misused ++ cs_X4 J.2.2.1 a1 s_year s_wet s_lost s_eaten s_tied s_ripeMany s_gone s_place s_heard s_many s_lying s_ripe ++ cs_X4 J.2.2.1 a2 o_s2_year o_s2_wet o_s2_lost o_s2_eaten o_s2_tied o_s2_ripeMany o_s2_gone o_s2_place o_s2_heard o_s2_many o_s2_lying o_s2_ripe ++ cs_X2 J.2.2.1 a3 p_beds p_letters p_readers p_far p_drain p_length p_words p_home) := by
  refine MtX_of (own := RX9) (by decide) rfl (Nat.le_of_ble_eq_true rfl) rfl (fun Z C E => ?_)
  unfold f_X9_ahead at h
  show G J Z 0 0 (cs_X9 (a0 0) k_tape (a1 0) (a2 0) k_task k_season k_stuffing k_images k_row (a3 0) k_sparePlan k_rule k_spareRule k_notes k_spareNotes x_latest x_imageMany x_refusedSteps x_missing x_misused ++ cs_X4 J.2.2.1 a1 s_year s_wet s_lost s_eaten s_tied s_ripeMany s_gone s_place s_heard s_many s_lying s_ripe ++ cs_X4 J.2.2.1 a2 s2_year s2_wet s2_lost s2_eaten s2_tied s2_ripeMany s2_gone s2_place s2_heard s2_many s2_lying s2_ripe ++ cs_X2 J.2.2.1 a3 p_beds p_letters p_readers p_far p_drain p_length p_words p_home) 4 [(0, .ref (a0 0)), (1, .int n1), (2, .int n2)] 0 []
  refine g_aload_n (pc := 0) C 0 rfl dX9_ahead_0 ?_
  refine g_iload_n (pc := 1) C 1 rfl dX9_ahead_1 ?_
  refine g_iconst (pc := 2) C dX9_ahead_2 ci_0 ?_
  refine g_bipush (pc := 3) C dX9_ahead_3 cb_99 ?_
  obtain ⟨e8, c9, hc, h⟩ := b2_of h
  refine g_xcallU (pc := 5) C (w' := cs_X9 (a0 0) k_tape (a1 0) (a2 0) k_task k_season k_stuffing k_images k_row (a3 0) k_sparePlan k_rule k_spareRule k_notes k_spareNotes x_latest x_imageMany x_refusedSteps x_missing c9 ++ cs_X4 J.2.2.1 a1 s_year s_wet s_lost s_eaten s_tied s_ripeMany s_gone s_place s_heard s_many s_lying s_ripe ++ cs_X4 J.2.2.1 a2 s2_year s2_wet s2_lost s2_eaten s2_tied s2_ripeMany s2_gone s2_place s2_heard s2_many s2_lying s2_ripe ++ cs_X2 J.2.2.1 a3 p_beds p_letters p_readers p_far p_drain p_length p_words p_home) (As := [.int n1, .int 0, .int 99]) (st := []) (ci := 9) (q0 := 0) rfl rfl (t_X9_needRange (k_tape := k_tape) (k_now := (a1 0)) (k_trial := (a2 0)) (k_task := k_task) (k_season := k_season) (k_stuffing := k_stuffing) (k_images := k_images) (k_row := k_row) (k_plan := (a3 0)) (k_sparePlan := k_sparePlan) (k_rule := k_rule) (k_spareRule := k_spareRule) (k_notes := k_notes) (k_spareNotes := k_spareNotes) (a0 := a0) hJ hc) (Sub.gen [0] [1, 2, 3, 4, 5, 6, 7, 8, 9, 10, 11, 12, 13, 14, 15, 16, 17, 18, 19, 20] [20, 0, 1, 2, 3, 4, 5, 6, 7, 8, 9, 10, 11, 12, 13, 14, 15, 16, 17, 18, 19] rfl (by decide) rfl (by decide) (by decide) rfl (by decide)) kw_545 kw_547 kw_2 kw_86 hy_X9_needRange kw_548 rfl (Nat.le_of_ble_eq_true rfl) (Nat.le_of_ble_eq_true rfl) (Nat.le_of_ble_eq_true rfl) (Nat.le_of_ble_eq_true rfl) (Nat.le_of_ble_eq_true rfl) dX9_ahead_5 (fun he => ?_) (fun he => ?_)
  · subst he
    rw [if_pos rfl] at h
    refine g_wid (n' := 1) (k' := 6) (Nat.le_of_ble_eq_true rfl) (Nat.le_of_ble_eq_true rfl) ?_
    refine g_aload_n (pc := 8) C 0 rfl dX9_ahead_8 ?_
    refine g_iload_n (pc := 9) C 2 rfl dX9_ahead_9 ?_
    refine g_iconst (pc := 10) C dX9_ahead_10 ci_0 ?_
    refine g_iconst (pc := 11) C dX9_ahead_11 ci_2 ?_
    obtain ⟨e10, c11, hc, h⟩ := b2_of h
    refine g_xcallU (pc := 12) C (w' := cs_X9 (a0 0) k_tape (a1 0) (a2 0) k_task k_season k_stuffing k_images k_row (a3 0) k_sparePlan k_rule k_spareRule k_notes k_spareNotes x_latest x_imageMany x_refusedSteps x_missing c11 ++ cs_X4 J.2.2.1 a1 s_year s_wet s_lost s_eaten s_tied s_ripeMany s_gone s_place s_heard s_many s_lying s_ripe ++ cs_X4 J.2.2.1 a2 s2_year s2_wet s2_lost s2_eaten s2_tied s2_ripeMany s2_gone s2_place s2_heard s2_many s2_lying s2_ripe ++ cs_X2 J.2.2.1 a3 p_beds p_letters p_readers p_far p_drain p_length p_words p_home) (As := [.int n2, .int 0, .int 2]) (st := []) (ci := 9) (q0 := 0) rfl rfl (t_X9_needRange (k_tape := k_tape) (k_now := (a1 0)) (k_trial := (a2 0)) (k_task := k_task) (k_season := k_season) (k_stuffing := k_stuffing) (k_images := k_images) (k_row := k_row) (k_plan := (a3 0)) (k_sparePlan := k_sparePlan) (k_rule := k_rule) (k_spareRule := k_spareRule) (k_notes := k_notes) (k_spareNotes := k_spareNotes) (a0 := a0) hJ hc) (Sub.gen [0] [1, 2, 3, 4, 5, 6, 7, 8, 9, 10, 11, 12, 13, 14, 15, 16, 17, 18, 19, 20] [20, 0, 1, 2, 3, 4, 5, 6, 7, 8, 9, 10, 11, 12, 13, 14, 15, 16, 17, 18, 19] rfl (by decide) rfl (by decide) (by decide) rfl (by decide)) kw_545 kw_547 kw_2 kw_86 hy_X9_needRange kw_548 rfl (Nat.le_of_ble_eq_true rfl) (Nat.le_of_ble_eq_true rfl) (Nat.le_of_ble_eq_true rfl) (Nat.le_of_ble_eq_true rfl) (Nat.le_of_ble_eq_true rfl) dX9_ahead_12 (fun he => ?_) (fun he => ?_)
    · subst he
      rw [if_pos rfl] at h
      refine g_wid (n' := 2) (k' := 12) (Nat.le_of_ble_eq_true rfl) (Nat.le_of_ble_eq_true rfl) ?_
      refine g_aload_n (pc := 15) C 0 rfl dX9_ahead_15 ?_
      refine g_get (pc := 16) C FOK_X9 0 rfl rfl 2 (by decide) kw_369 rfl dX9_ahead_16 ?_
      refine g_aload_n (pc := 19) C 0 rfl dX9_ahead_19 ?_
      refine g_get (pc := 20) C FOK_X9 0 rfl rfl 1 (by decide) kw_368 rfl dX9_ahead_20 ?_
      obtain ⟨c12, c13, c14, c15, c16, c17, c18, c19, c20, c21, c22, c23, hc, h⟩ := b12_of h
      refine g_callV (pc := 23) C (w' := cs_X9 (a0 0) k_tape (a1 0) (a2 0) k_task k_season k_stuffing k_images k_row (a3 0) k_sparePlan k_rule k_spareRule k_notes k_spareNotes x_latest x_imageMany x_refusedSteps x_missing c11 ++ cs_X4 J.2.2.1 a1 s_year s_wet s_lost s_eaten s_tied s_ripeMany s_gone s_place s_heard s_many s_lying s_ripe ++ cs_X4 J.2.2.1 a2 c12 c13 c14 c15 c16 c17 c18 c19 c20 c21 c22 c23 ++ cs_X2 J.2.2.1 a3 p_beds p_letters p_readers p_far p_drain p_length p_words p_home) (As := [.ref (a1 0)]) (st := []) (ci := 4) (q0 := 8) rfl rfl (t_X4_copy (a0 := a2) (a1 := a1) hc) (Sub.gen [8, 9, 10, 11, 12, 13, 14, 1, 2, 3, 4, 5, 6, 7] [0, 15, 16, 17, 18, 19, 20] [0, 14, 15, 16, 17, 18, 19, 20, 7, 8, 9, 10, 11, 12, 13, 1, 2, 3, 4, 5, 6] rfl (by decide) rfl (by decide) (by decide) rfl (by decide)) kw_445 kw_446 kw_447 kw_88 hy_X4_copy kw_448 rfl (Nat.le_of_ble_eq_true rfl) (Nat.le_of_ble_eq_true rfl) (Nat.le_of_ble_eq_true rfl) (Nat.le_of_ble_eq_true rfl) (Nat.le_of_ble_eq_true rfl) dX9_ahead_23 ?_
      refine g_iconst (pc := 26) C dX9_ahead_26 ci_0 ?_
      refine g_istore_n (pc := 27) C [(3, .int 0), (0, .ref (a0 0)), (1, .int n1), (2, .int n2)] dX9_ahead_27 rfl (by decide) rfl ?_
      refine g_lv [1, 2, 3, 0] rfl ?_
      exact j_X9_ahead_28 C hJ E    FU 0 c11 c12 c13 c14 c15 c16 c17 c18 c19 c20 c21 c22 c23 h
    · rw [if_neg he] at h
      cases h
      exact gt_out C he E (Nat.le_of_ble_eq_true rfl) (Nat.le_of_ble_eq_true rfl) () rfl
  · rw [if_neg he] at h
    cases h
    exact gt_out C he E (Nat.le_of_ble_eq_true rfl) (Nat.le_of_ble_eq_true rfl) () rfl
noncomputable def f_X9_rains_42  (s_year : Int32) (s_wet : Int32) (s_lost : Int32) (s_eaten : Int32) (s_tied : Int32) (s_ripeMany : Int32) (s_gone : Nat → Int32) (s_place : Nat → Int32) (s_heard : Nat → Int32) (s_many : Nat → Int32) (s_lying : Nat → Int32) (s_ripe : Nat → Int32) (p_beds : Int32) (p_letters : Int32) (p_far : Nat → Int32) (p_drain : Nat → Int32) (p_length : Nat → Int32) (p_words : Nat → Int32) (l_code : Nat → Int32) (l_length : Int32) (n1 : Int32) (n2 : Int32) (n3 : Int32) : Nat → Int32 → Int32 → Int32 → Int32 → Int32 → Int32 → Int32 → Int32 → Int32 → (Nat → Int32) → (Nat → Int32) → (Nat → Int32) → (Nat → Int32) → (Nat → Int32) → (Nat → Int32) → (Nat → Int32) → (Nat → Int32) → Option (Nat × Int32 × Int32 × Int32 × Int32 × Int32 × Int32 × Int32 × Int32 × Int32 × (Nat → Int32) × (Nat → Int32) × (Nat → Int32) × (Nat → Int32) × (Nat → Int32) × (Nat → Int32) × (Nat → Int32) × (Nat → Int32))
  | 0, _, _, _, _, _, _, _, _, _, _, _, _, _, _, _, _, _ => none
  | n + 1, x4, x_missing, x_misused, s2_year, s2_wet, s2_lost, s2_eaten, s2_tied, s2_ripeMany, s2_gone, s2_place, s2_heard, s2_many, s2_lying, s2_ripe, l_values, l_stack => if 40 ≤ x4 then b1 (f_X4_wordsIn s2_many s2_lying n1) (fun v1 => b1 (f_X9_has v1 n2) (fun v2 => if v2 = 0 then some (0, (-1), x_missing, x_misused, s2_year, s2_wet, s2_lost, s2_eaten, s2_tied, s2_ripeMany, s2_gone, s2_place, s2_heard, s2_many, s2_lying, s2_ripe, l_values, l_stack) else some (0, 40, x_missing, x_misused, s2_year, s2_wet, s2_lost, s2_eaten, s2_tied, s2_ripeMany, s2_gone, s2_place, s2_heard, s2_many, s2_lying, s2_ripe, l_values, l_stack))) else b1 (f_X4_wordsIn s2_many s2_lying n1) (fun v3 => b1 (f_X9_has v3 n2) (fun v4 => if v4 = 0 then b7 (f_X4_pour s2_year s2_wet s2_lost s2_tied s2_gone s2_many s2_lying p_letters p_far p_drain p_length p_words l_code l_values l_stack l_length n3) (fun c5 c6 c7 c8 c9 c10 c11 => f_X9_rains_42 s_year s_wet s_lost s_eaten s_tied s_ripeMany s_gone s_place s_heard s_many s_lying s_ripe p_beds p_letters p_far p_drain p_length p_words l_code l_length n1 n2 n3 n (x4 + 1) x_missing x_misused s2_year c5 c6 s2_eaten s2_tied s2_ripeMany c7 s2_place s2_heard c8 c9 s2_ripe c10 c11) else some (0, x4, x_missing, x_misused, s2_year, s2_wet, s2_lost, s2_eaten, s2_tied, s2_ripeMany, s2_gone, s2_place, s2_heard, s2_many, s2_lying, s2_ripe, l_values, l_stack)))
noncomputable def f_X9_rains (x_missing : Int32) (x_misused : Int32) (s_year : Int32) (s_wet : Int32) (s_lost : Int32) (s_eaten : Int32) (s_tied : Int32) (s_ripeMany : Int32) (s_gone : Nat → Int32) (s_place : Nat → Int32) (s_heard : Nat → Int32) (s_many : Nat → Int32) (s_lying : Nat → Int32) (s_ripe : Nat → Int32) (s2_year : Int32) (s2_wet : Int32) (s2_lost : Int32) (s2_eaten : Int32) (s2_tied : Int32) (s2_ripeMany : Int32) (s2_gone : Nat → Int32) (s2_place : Nat → Int32) (s2_heard : Nat → Int32) (s2_many : Nat → Int32) (s2_lying : Nat → Int32) (s2_ripe : Nat → Int32) (p_beds : Int32) (p_letters : Int32) (p_far : Nat → Int32) (p_drain : Nat → Int32) (p_length : Nat → Int32) (p_words : Nat → Int32) (l_code : Nat → Int32) (l_values : Nat → Int32) (l_stack : Nat → Int32) (l_length : Int32) (n1 : Int32) (n2 : Int32) (n3 : Int32) : Option (Nat × Int32 × Int32 × Int32 × Int32 × Int32 × Int32 × Int32 × Int32 × Int32 × (Nat → Int32) × (Nat → Int32) × (Nat → Int32) × (Nat → Int32) × (Nat → Int32) × (Nat → Int32) × (Nat → Int32) × (Nat → Int32)) := b2 (f_X9_needOneOf x_missing n1 p_beds) (fun e12 c13 => if e12 = 0 then b2 (f_X9_needRange x_misused n2 0 15) (fun e14 c15 => if e14 = 0 then b2 (f_X9_needRange c15 n3 1 20) (fun e16 c17 => if e16 = 0 then b12 (f_X4_copy s2_year s2_wet s2_lost s2_eaten s2_tied s2_ripeMany s2_gone s2_place s2_heard s2_many s2_lying s2_ripe s_year s_wet s_lost s_eaten s_tied s_ripeMany s_gone s_place s_heard s_many s_lying s_ripe) (fun c18 c19 c20 c21 c22 c23 c24 c25 c26 c27 c28 c29 => f_X9_rains_42 s_year s_wet s_lost s_eaten s_tied s_ripeMany s_gone s_place s_heard s_many s_lying s_ripe p_beds p_letters p_far p_drain p_length p_words l_code l_length n1 n2 n3 FU 0 c13 c17 c18 c19 c20 c21 c22 c23 c24 c25 c26 c27 c28 c29 l_values l_stack) else some (e16, 0, c13, c17, s2_year, s2_wet, s2_lost, s2_eaten, s2_tied, s2_ripeMany, s2_gone, s2_place, s2_heard, s2_many, s2_lying, s2_ripe, l_values, l_stack)) else some (e14, 0, c13, c15, s2_year, s2_wet, s2_lost, s2_eaten, s2_tied, s2_ripeMany, s2_gone, s2_place, s2_heard, s2_many, s2_lying, s2_ripe, l_values, l_stack)) else some (e12, 0, c13, x_misused, s2_year, s2_wet, s2_lost, s2_eaten, s2_tied, s2_ripeMany, s2_gone, s2_place, s2_heard, s2_many, s2_lying, s2_ripe, l_values, l_stack))
def rm_X9_rains : Room := { frames := 10, cells := 3, slots := 18, locals := 143 }
set_option maxRecDepth 100000 in
set_option maxHeartbeats 4000000 in
theorem j_X9_rains_42 {J : Jt} {Z : Zt} {a0 : Nat → Nat} {a1 : Nat → Nat} {a2 : Nat → Nat} {a3 : Nat → Nat} {a4 : Nat → Nat} {k_tape : Nat} {k_task : Nat} {k_season : Nat} {k_stuffing : Nat} {k_images : Nat} {k_row : Nat} {k_sparePlan : Nat} {k_spareRule : Nat} {k_notes : Nat} {k_spareNotes : Nat} {x_latest : Value} {x_imageMany : Int32} {x_refusedSteps : Int32} {s_year : Int32} {s_wet : Int32} {s_lost : Int32} {s_eaten : Int32} {s_tied : Int32} {s_ripeMany : Int32} {s_gone : Nat → Int32} {s_place : Nat → Int32} {s_heard : Nat → Int32} {s_many : Nat → Int32} {s_lying : Nat → Int32} {s_ripe : Nat → Int32} {p_beds : Int32} {p_letters : Int32} {p_readers : Int32} {p_far : Nat → Int32} {p_drain : Nat → Int32} {p_length : Nat → Int32} {p_words : Nat → Int32} {p_home : Nat → Int32} {l_code : Nat → Int32} {l_length : Int32} {n1 : Int32} {n2 : Int32} {n3 : Int32} {ex : Nat} {r : Int32} {o_x_missing : Int32} {o_x_misused : Int32} {o_s2_year : Int32} {o_s2_wet : Int32} {o_s2_lost : Int32} {o_s2_eaten : Int32} {o_s2_tied : Int32} {o_s2_ripeMany : Int32} {o_s2_gone : Nat → Int32} {o_s2_place : Nat → Int32} {o_s2_heard : Nat → Int32} {o_s2_many : Nat → Int32} {o_s2_lying : Nat → Int32} {o_s2_ripe : Nat → Int32} {o_l_values : Nat → Int32} {o_l_stack : Nat → Int32} (C : Cx J Z cX9_rains 5 RX9 (some .int) rm_X9_rains) (hJ : J.1.stackTraces = false) (E : EzX J Z 3 18 ex (some (.int r)) (fun _ : Unit => cs_X9 (a0 0) k_tape (a1 0) (a2 0) k_task k_season k_stuffing k_images k_row (a3 0) k_sparePlan (a4 0) k_spareRule k_notes k_spareNotes x_latest x_imageMany x_refusedSteps o_x_missing o_x_misused ++ cs_X4 J.2.2.1 a1 s_year s_wet s_lost s_eaten s_tied s_ripeMany s_gone s_place s_heard s_many s_lying s_ripe ++ cs_X4 J.2.2.1 a2 o_s2_year o_s2_wet o_s2_lost o_s2_eaten o_s2_tied o_s2_ripeMany o_s2_gone o_s2_place o_s2_heard o_s2_many o_s2_lying o_s2_ripe ++ cs_X2 J.2.2.1 a3 p_beds p_letters p_readers p_far p_drain p_length p_words p_home ++ cs_X1 J.2.2.1 a4 l_code o_l_values o_l_stack l_length)) : ∀ (n : Nat) (x4 : Int32) (x_missing : Int32) (x_misused : Int32) (s2_year : Int32) (s2_wet : Int32) (s2_lost : Int32) (s2_eaten : Int32) (s2_tied : Int32) (s2_ripeMany : Int32) (s2_gone : Nat → Int32) (s2_place : Nat → Int32) (s2_heard : Nat → Int32) (s2_many : Nat → Int32) (s2_lying : Nat → Int32) (s2_ripe : Nat → Int32) (l_values : Nat → Int32) (l_stack : Nat → Int32), f_X9_rains_42 s_year s_wet s_lost s_eaten s_tied s_ripeMany s_gone s_place s_heard s_many s_lying s_ripe p_beds p_letters p_far p_drain p_length p_words l_code l_length n1 n2 n3 n x4 x_missing x_misused s2_year s2_wet s2_lost s2_eaten s2_tied s2_ripeMany s2_gone s2_place s2_heard s2_many s2_lying s2_ripe l_values l_stack = some (ex, r, o_x_missing, o_x_misused, o_s2_year, o_s2_wet, o_s2_lost, o_s2_eaten, o_s2_tied, o_s2_ripeMany, o_s2_gone, o_s2_place, o_s2_heard, o_s2_many, o_s2_lying, o_s2_ripe, o_l_values, o_l_stack) → G J Z 3 18 (cs_X9 (a0 0) k_tape (a1 0) (a2 0) k_task k_season k_stuffing k_images k_row (a3 0) k_sparePlan (a4 0) k_spareRule k_notes k_spareNotes x_latest x_imageMany x_refusedSteps x_missing x_misused ++ cs_X4 J.2.2.1 a1 s_year s_wet s_lost s_eaten s_tied s_ripeMany s_gone s_place s_heard s_many s_lying s_ripe ++ cs_X4 J.2.2.1 a2 s2_year s2_wet s2_lost s2_eaten s2_tied s2_ripeMany s2_gone s2_place s2_heard s2_many s2_lying s2_ripe ++ cs_X2 J.2.2.1 a3 p_beds p_letters p_readers p_far p_drain p_length p_words p_home ++ cs_X1 J.2.2.1 a4 l_code l_values l_stack l_length) 5 [(0, .ref (a0 0)), (1, .int n1), (2, .int n2), (3, .int n3), (4, .int x4)] 42 [] := by
  intro n
  induction n with
  | zero =>
    intro x4 x_missing x_misused s2_year s2_wet s2_lost s2_eaten s2_tied s2_ripeMany s2_gone s2_place s2_heard s2_many s2_lying s2_ripe l_values l_stack h
    rw [f_X9_rains_42] at h
    cases h
  | succ n ih =>
    intro x4 x_missing x_misused s2_year s2_wet s2_lost s2_eaten s2_tied s2_ripeMany s2_gone s2_place s2_heard s2_many s2_lying s2_ripe l_values l_stack h
    rw [f_X9_rains_42] at h
    refine g_iload (pc := 42) C 4 rfl dX9_rains_42 ?_
    refine g_bipush (pc := 44) C dX9_rains_44 cb_40 ?_
    refine g_icmp_ge (pc := 46) C (tgt := 89) dX9_rains_46 rfl h (fun h => ?_) (fun h => ?_)
    · refine g_aload_n (pc := 89) C 0 rfl dX9_rains_89 ?_
      refine g_get (pc := 90) C FOK_X9 0 rfl rfl 2 (by decide) kw_369 rfl dX9_rains_90 ?_
      refine g_iload_n (pc := 93) C 1 rfl dX9_rains_93 ?_
      obtain ⟨v1, hc, h⟩ := b1_of h
      refine g_callV (pc := 94) C (w' := cs_X9 (a0 0) k_tape (a1 0) (a2 0) k_task k_season k_stuffing k_images k_row (a3 0) k_sparePlan (a4 0) k_spareRule k_notes k_spareNotes x_latest x_imageMany x_refusedSteps x_missing x_misused ++ cs_X4 J.2.2.1 a1 s_year s_wet s_lost s_eaten s_tied s_ripeMany s_gone s_place s_heard s_many s_lying s_ripe ++ cs_X4 J.2.2.1 a2 s2_year s2_wet s2_lost s2_eaten s2_tied s2_ripeMany s2_gone s2_place s2_heard s2_many s2_lying s2_ripe ++ cs_X2 J.2.2.1 a3 p_beds p_letters p_readers p_far p_drain p_length p_words p_home ++ cs_X1 J.2.2.1 a4 l_code l_values l_stack l_length) (As := [.int n1]) (st := []) (ci := 4) (q0 := 8) rfl rfl (t_X4_wordsIn (a0 := a2) hc) (Sub.gen [8, 9, 10, 11, 12, 13, 14] [0, 1, 2, 3, 4, 5, 6, 7, 15, 16, 17, 18, 19, 20, 21, 22, 23, 24] [0, 1, 2, 3, 4, 5, 6, 7, 18, 19, 20, 21, 22, 23, 24, 8, 9, 10, 11, 12, 13, 14, 15, 16, 17] rfl (by decide) rfl (by decide) (by decide) rfl (by decide)) kw_993 kw_870 kw_871 kw_88 hy_X4_wordsIn kw_872 rfl (Nat.le_of_ble_eq_true rfl) (Nat.le_of_ble_eq_true rfl) (Nat.le_of_ble_eq_true rfl) (Nat.le_of_ble_eq_true rfl) (Nat.le_of_ble_eq_true rfl) dX9_rains_94 ?_
      refine g_iload_n (pc := 97) C 2 rfl dX9_rains_97 ?_
      obtain ⟨v2, hc, h⟩ := b1_of h
      refine g_callS (pc := 98) C (w' := cs_X9 (a0 0) k_tape (a1 0) (a2 0) k_task k_season k_stuffing k_images k_row (a3 0) k_sparePlan (a4 0) k_spareRule k_notes k_spareNotes x_latest x_imageMany x_refusedSteps x_missing x_misused ++ cs_X4 J.2.2.1 a1 s_year s_wet s_lost s_eaten s_tied s_ripeMany s_gone s_place s_heard s_many s_lying s_ripe ++ cs_X4 J.2.2.1 a2 s2_year s2_wet s2_lost s2_eaten s2_tied s2_ripeMany s2_gone s2_place s2_heard s2_many s2_lying s2_ripe ++ cs_X2 J.2.2.1 a3 p_beds p_letters p_readers p_far p_drain p_length p_words p_home ++ cs_X1 J.2.2.1 a4 l_code l_values l_stack l_length) (As := [.int v1, .int n2]) (st := []) (t_X9_has hc) Sub.nil kw_1056 kw_483 kw_86 hy_X9_has kw_484 rfl (Nat.le_of_ble_eq_true rfl) (Nat.le_of_ble_eq_true rfl) (Nat.le_of_ble_eq_true rfl) (Nat.le_of_ble_eq_true rfl) (Nat.le_of_ble_eq_true rfl) dX9_rains_98 ?_
      refine g_if_eq (pc := 101) C (tgt := 109) dX9_rains_101 rfl h (fun h => ?_) (fun h => ?_)
      · refine g_iconst (pc := 109) C dX9_rains_109 ci_m1 ?_
        cases h
        exact g_iretX C E () rfl dX9_rains_110
      · refine g_bipush (pc := 104) C dX9_rains_104 cb_40 ?_
        refine g_goto (pc := 106) C (tgt := 110) dX9_rains_106 rfl ?_
        cases h
        exact g_iretX C E () rfl dX9_rains_110
    · refine g_aload_n (pc := 49) C 0 rfl dX9_rains_49 ?_
      refine g_get (pc := 50) C FOK_X9 0 rfl rfl 2 (by decide) kw_369 rfl dX9_rains_50 ?_
      refine g_iload_n (pc := 53) C 1 rfl dX9_rains_53 ?_
      obtain ⟨v3, hc, h⟩ := b1_of h
      refine g_callV (pc := 54) C (w' := cs_X9 (a0 0) k_tape (a1 0) (a2 0) k_task k_season k_stuffing k_images k_row (a3 0) k_sparePlan (a4 0) k_spareRule k_notes k_spareNotes x_latest x_imageMany x_refusedSteps x_missing x_misused ++ cs_X4 J.2.2.1 a1 s_year s_wet s_lost s_eaten s_tied s_ripeMany s_gone s_place s_heard s_many s_lying s_ripe ++ cs_X4 J.2.2.1 a2 s2_year s2_wet s2_lost s2_eaten s2_tied s2_ripeMany s2_gone s2_place s2_heard s2_many s2_lying s2_ripe ++ cs_X2 J.2.2.1 a3 p_beds p_letters p_readers p_far p_drain p_length p_words p_home ++ cs_X1 J.2.2.1 a4 l_code l_values l_stack l_length) (As := [.int n1]) (st := []) (ci := 4) (q0 := 8) rfl rfl (t_X4_wordsIn (a0 := a2) hc) (Sub.gen [8, 9, 10, 11, 12, 13, 14] [0, 1, 2, 3, 4, 5, 6, 7, 15, 16, 17, 18, 19, 20, 21, 22, 23, 24] [0, 1, 2, 3, 4, 5, 6, 7, 18, 19, 20, 21, 22, 23, 24, 8, 9, 10, 11, 12, 13, 14, 15, 16, 17] rfl (by decide) rfl (by decide) (by decide) rfl (by decide)) kw_993 kw_870 kw_871 kw_88 hy_X4_wordsIn kw_872 rfl (Nat.le_of_ble_eq_true rfl) (Nat.le_of_ble_eq_true rfl) (Nat.le_of_ble_eq_true rfl) (Nat.le_of_ble_eq_true rfl) (Nat.le_of_ble_eq_true rfl) dX9_rains_54 ?_
      refine g_iload_n (pc := 57) C 2 rfl dX9_rains_57 ?_
      obtain ⟨v4, hc, h⟩ := b1_of h
      refine g_callS (pc := 58) C (w' := cs_X9 (a0 0) k_tape (a1 0) (a2 0) k_task k_season k_stuffing k_images k_row (a3 0) k_sparePlan (a4 0) k_spareRule k_notes k_spareNotes x_latest x_imageMany x_refusedSteps x_missing x_misused ++ cs_X4 J.2.2.1 a1 s_year s_wet s_lost s_eaten s_tied s_ripeMany s_gone s_place s_heard s_many s_lying s_ripe ++ cs_X4 J.2.2.1 a2 s2_year s2_wet s2_lost s2_eaten s2_tied s2_ripeMany s2_gone s2_place s2_heard s2_many s2_lying s2_ripe ++ cs_X2 J.2.2.1 a3 p_beds p_letters p_readers p_far p_drain p_length p_words p_home ++ cs_X1 J.2.2.1 a4 l_code l_values l_stack l_length) (As := [.int v3, .int n2]) (st := []) (t_X9_has hc) Sub.nil kw_1056 kw_483 kw_86 hy_X9_has kw_484 rfl (Nat.le_of_ble_eq_true rfl) (Nat.le_of_ble_eq_true rfl) (Nat.le_of_ble_eq_true rfl) (Nat.le_of_ble_eq_true rfl) (Nat.le_of_ble_eq_true rfl) dX9_rains_58 ?_
      refine g_if_eq (pc := 61) C (tgt := 67) dX9_rains_61 rfl h (fun h => ?_) (fun h => ?_)
      · refine g_aload_n (pc := 67) C 0 rfl dX9_rains_67 ?_
        refine g_get (pc := 68) C FOK_X9 0 rfl rfl 2 (by decide) kw_369 rfl dX9_rains_68 ?_
        refine g_aload_n (pc := 71) C 0 rfl dX9_rains_71 ?_
        refine g_get (pc := 72) C FOK_X9 0 rfl rfl 8 (by decide) kw_375 rfl dX9_rains_72 ?_
        refine g_aload_n (pc := 75) C 0 rfl dX9_rains_75 ?_
        refine g_get (pc := 76) C FOK_X9 0 rfl rfl 10 (by decide) kw_377 rfl dX9_rains_76 ?_
        refine g_iload_n (pc := 79) C 3 rfl dX9_rains_79 ?_
        obtain ⟨c5, c6, c7, c8, c9, c10, c11, hc, h⟩ := b7_of h
        refine g_callV (pc := 80) C (w' := cs_X9 (a0 0) k_tape (a1 0) (a2 0) k_task k_season k_stuffing k_images k_row (a3 0) k_sparePlan (a4 0) k_spareRule k_notes k_spareNotes x_latest x_imageMany x_refusedSteps x_missing x_misused ++ cs_X4 J.2.2.1 a1 s_year s_wet s_lost s_eaten s_tied s_ripeMany s_gone s_place s_heard s_many s_lying s_ripe ++ cs_X4 J.2.2.1 a2 s2_year c5 c6 s2_eaten s2_tied s2_ripeMany c7 s2_place s2_heard c8 c9 s2_ripe ++ cs_X2 J.2.2.1 a3 p_beds p_letters p_readers p_far p_drain p_length p_words p_home ++ cs_X1 J.2.2.1 a4 l_code c10 c11 l_length) (As := [.ref (a3 0), .ref (a4 0), .int n3]) (st := []) (ci := 4) (q0 := 8) rfl rfl (t_X4_pour (a0 := a2) (a1 := a3) (a2 := a4) hc) (Sub.gen [8, 9, 10, 11, 12, 13, 14, 15, 16, 17, 18, 19, 20, 21, 22, 23, 24] [0, 1, 2, 3, 4, 5, 6, 7] [0, 1, 2, 3, 4, 5, 6, 7, 8, 9, 10, 11, 12, 13, 14, 15, 16, 17, 18, 19, 20, 21, 22, 23, 24] rfl (by decide) rfl (by decide) (by decide) rfl (by decide)) kw_1057 kw_882 kw_883 kw_88 hy_X4_pour kw_884 rfl (Nat.le_of_ble_eq_true rfl) (Nat.le_of_ble_eq_true rfl) (Nat.le_of_ble_eq_true rfl) (Nat.le_of_ble_eq_true rfl) (Nat.le_of_ble_eq_true rfl) dX9_rains_80 ?_
        refine g_iinc (pc := 83) C (j := 4) [(4, .int (x4 + 1)), (0, .ref (a0 0)), (1, .int n1), (2, .int n2), (3, .int n3)] dX9_rains_83 rfl (ii_1 _) (by decide) rfl ?_
        refine g_goto (pc := 86) C (tgt := 42) dX9_rains_86 rfl ?_
        refine g_lv [1, 2, 3, 4, 0] rfl ?_
        exact ih (x4 + 1) x_missing x_misused s2_year c5 c6 s2_eaten s2_tied s2_ripeMany c7 s2_place s2_heard c8 c9 s2_ripe c10 c11 h
      · refine g_iload (pc := 64) C 4 rfl dX9_rains_64 ?_
        cases h
        exact g_iretX C E () rfl dX9_rains_66
set_option maxRecDepth 100000 in
set_option maxHeartbeats 4000000 in
theorem t_X9_rains {J : Jt} {a0 : Nat → Nat} {a1 : Nat → Nat} {a2 : Nat → Nat} {a3 : Nat → Nat} {a4 : Nat → Nat} {k_tape : Nat} {k_task : Nat} {k_season : Nat} {k_stuffing : Nat} {k_images : Nat} {k_row : Nat} {k_sparePlan : Nat} {k_spareRule : Nat} {k_notes : Nat} {k_spareNotes : Nat} {x_latest : Value} {x_imageMany : Int32} {x_refusedSteps : Int32} {x_missing : Int32} {x_misused : Int32} {s_year : Int32} {s_wet : Int32} {s_lost : Int32} {s_eaten : Int32} {s_tied : Int32} {s_ripeMany : Int32} {s_gone : Nat → Int32} {s_place : Nat → Int32} {s_heard : Nat → Int32} {s_many : Nat → Int32} {s_lying : Nat → Int32} {s_ripe : Nat → Int32} {s2_year : Int32} {s2_wet : Int32} {s2_lost : Int32} {s2_eaten : Int32} {s2_tied : Int32} {s2_ripeMany : Int32} {s2_gone : Nat → Int32} {s2_place : Nat → Int32} {s2_heard : Nat → Int32} {s2_many : Nat → Int32} {s2_lying : Nat → Int32} {s2_ripe : Nat → Int32} {p_beds : Int32} {p_letters : Int32} {p_readers : Int32} {p_far : Nat → Int32} {p_drain : Nat → Int32} {p_length : Nat → Int32} {p_words : Nat → Int32} {p_home : Nat → Int32} {l_code : Nat → Int32} {l_values : Nat → Int32} {l_stack : Nat → Int32} {l_length : Int32} {n1 : Int32} {n2 : Int32} {n3 : Int32} {ex : Nat} {r : Int32} {o_x_missing : Int32} {o_x_misused : Int32} {o_s2_year : Int32} {o_s2_wet : Int32} {o_s2_lost : Int32} {o_s2_eaten : Int32} {o_s2_tied : Int32} {o_s2_ripeMany : Int32} {o_s2_gone : Nat → Int32} {o_s2_place : Nat → Int32} {o_s2_heard : Nat → Int32} {o_s2_many : Nat → Int32} {o_s2_lying : Nat → Int32} {o_s2_ripe : Nat → Int32} {o_l_values : Nat → Int32} {o_l_stack : Nat → Int32} (hJ : J.1.stackTraces = false) (h : f_X9_rains x_missing x_misused s_year s_wet s_lost s_eaten s_tied s_ripeMany s_gone s_place s_heard s_many s_lying s_ripe s2_year s2_wet s2_lost s2_eaten s2_tied s2_ripeMany s2_gone s2_place s2_heard s2_many s2_lying s2_ripe p_beds p_letters p_far p_drain p_length p_words l_code l_values l_stack l_length n1 n2 n3 = some (ex, r, o_x_missing, o_x_misused, o_s2_year, o_s2_wet, o_s2_lost, o_s2_eaten, o_s2_tied, o_s2_ripeMany, o_s2_gone, o_s2_place, o_s2_heard, o_s2_many, o_s2_lying, o_s2_ripe, o_l_values, o_l_stack)) : MtX J yX9_rains cX9_rains 5 (some .int) rm_X9_rains [.ref (a0 0), .int n1, .int n2, .int n3] (cs_X9 (a0 0) k_tape (a1 0) (a2 0) k_task k_season k_stuffing k_images k_row (a3 0) k_sparePlan (a4 0) k_spareRule k_notes k_spareNotes x_latest x_imageMany x_refusedSteps x_missing x_misused ++ cs_X4 J.2.2.1 a1 s_year s_wet s_lost s_eaten s_tied s_ripeMany s_gone s_place s_heard s_many s_lying s_ripe ++ cs_X4 J.2.2.1 a2 s2_year s2_wet s2_lost s2_eaten s2_tied s2_ripeMany s2_gone s2_place s2_heard s2_many s2_lying s2_ripe ++ cs_X2 J.2.2.1 a3 p_beds p_letters p_readers p_far p_drain p_length p_words p_home ++ cs_X1 J.2.2.1 a4 l_code l_values l_stack l_length) ex (some (.int r)) (fun _ : Unit => cs_X9 (a0 0) k_tape (a1 0) (a2 0) k_task k_season k_stuffing k_images k_row (a3 0) k_sparePlan (a4 0) k_spareRule k_notes k_spareNotes x_latest x_imageMany x_refusedSteps o_x_missing o_x_misused ++ cs_X4 J.2.2.1 a1 s_year s_wet s_lost s_eaten s_tied s_ripeMany s_gone s_place s_heard s_many s_lying s_ripe ++ cs_X4 J.2.2.1 a2 o_s2_year o_s2_wet o_s2_lost o_s2_eaten o_s2_tied o_s2_ripeMany o_s2_gone o_s2_place o_s2_heard o_s2_many o_s2_lying o_s2_ripe ++ cs_X2 J.2.2.1 a3 p_beds p_letters p_readers p_far p_drain p_length p_words p_home ++ cs_X1 J.2.2.1 a4 l_code o_l_values o_l_stack l_length) := by
  refine MtX_of (own := RX9) (by decide) rfl (Nat.le_of_ble_eq_true rfl) rfl (fun Z C E => ?_)
  unfold f_X9_rains at h
  show G J Z 0 0 (cs_X9 (a0 0) k_tape (a1 0) (a2 0) k_task k_season k_stuffing k_images k_row (a3 0) k_sparePlan (a4 0) k_spareRule k_notes k_spareNotes x_latest x_imageMany x_refusedSteps x_missing x_misused ++ cs_X4 J.2.2.1 a1 s_year s_wet s_lost s_eaten s_tied s_ripeMany s_gone s_place s_heard s_many s_lying s_ripe ++ cs_X4 J.2.2.1 a2 s2_year s2_wet s2_lost s2_eaten s2_tied s2_ripeMany s2_gone s2_place s2_heard s2_many s2_lying s2_ripe ++ cs_X2 J.2.2.1 a3 p_beds p_letters p_readers p_far p_drain p_length p_words p_home ++ cs_X1 J.2.2.1 a4 l_code l_values l_stack l_length) 5 [(0, .ref (a0 0)), (1, .int n1), (2, .int n2), (3, .int n3)] 0 []
  refine g_aload_n (pc := 0) C 0 rfl dX9_rains_0 ?_
  refine g_iload_n (pc := 1) C 1 rfl dX9_rains_1 ?_
  refine g_aload_n (pc := 2) C 0 rfl dX9_rains_2 ?_
  refine g_get (pc := 3) C FOK_X9 0 rfl rfl 8 (by decide) kw_375 rfl dX9_rains_3 ?_
  refine g_get (pc := 6) C FOK_X2 15 rfl rfl 0 (by decide) kw_279 rfl dX9_rains_6 ?_
  obtain ⟨e12, c13, hc, h⟩ := b2_of h
  refine g_xcallU (pc := 9) C (w' := cs_X9 (a0 0) k_tape (a1 0) (a2 0) k_task k_season k_stuffing k_images k_row (a3 0) k_sparePlan (a4 0) k_spareRule k_notes k_spareNotes x_latest x_imageMany x_refusedSteps c13 x_misused ++ cs_X4 J.2.2.1 a1 s_year s_wet s_lost s_eaten s_tied s_ripeMany s_gone s_place s_heard s_many s_lying s_ripe ++ cs_X4 J.2.2.1 a2 s2_year s2_wet s2_lost s2_eaten s2_tied s2_ripeMany s2_gone s2_place s2_heard s2_many s2_lying s2_ripe ++ cs_X2 J.2.2.1 a3 p_beds p_letters p_readers p_far p_drain p_length p_words p_home ++ cs_X1 J.2.2.1 a4 l_code l_values l_stack l_length) (As := [.int n1, .int p_beds]) (st := []) (ci := 9) (q0 := 0) rfl rfl (t_X9_needOneOf (k_tape := k_tape) (k_now := (a1 0)) (k_trial := (a2 0)) (k_task := k_task) (k_season := k_season) (k_stuffing := k_stuffing) (k_images := k_images) (k_row := k_row) (k_plan := (a3 0)) (k_sparePlan := k_sparePlan) (k_rule := (a4 0)) (k_spareRule := k_spareRule) (k_notes := k_notes) (k_spareNotes := k_spareNotes) (a0 := a0) hJ hc) (Sub.gen [0] [1, 2, 3, 4, 5, 6, 7, 8, 9, 10, 11, 12, 13, 14, 15, 16, 17, 18, 19, 20, 21, 22, 23, 24] [24, 0, 1, 2, 3, 4, 5, 6, 7, 8, 9, 10, 11, 12, 13, 14, 15, 16, 17, 18, 19, 20, 21, 22, 23] rfl (by decide) rfl (by decide) (by decide) rfl (by decide)) kw_956 kw_958 kw_12 kw_86 hy_X9_needOneOf kw_959 rfl (Nat.le_of_ble_eq_true rfl) (Nat.le_of_ble_eq_true rfl) (Nat.le_of_ble_eq_true rfl) (Nat.le_of_ble_eq_true rfl) (Nat.le_of_ble_eq_true rfl) dX9_rains_9 (fun he => ?_) (fun he => ?_)
  · subst he
    rw [if_pos rfl] at h
    refine g_wid (n' := 1) (k' := 6) (Nat.le_of_ble_eq_true rfl) (Nat.le_of_ble_eq_true rfl) ?_
    refine g_aload_n (pc := 12) C 0 rfl dX9_rains_12 ?_
    refine g_iload_n (pc := 13) C 2 rfl dX9_rains_13 ?_
    refine g_iconst (pc := 14) C dX9_rains_14 ci_0 ?_
    refine g_bipush (pc := 15) C dX9_rains_15 cb_15 ?_
    obtain ⟨e14, c15, hc, h⟩ := b2_of h
    refine g_xcallU (pc := 17) C (w' := cs_X9 (a0 0) k_tape (a1 0) (a2 0) k_task k_season k_stuffing k_images k_row (a3 0) k_sparePlan (a4 0) k_spareRule k_notes k_spareNotes x_latest x_imageMany x_refusedSteps c13 c15 ++ cs_X4 J.2.2.1 a1 s_year s_wet s_lost s_eaten s_tied s_ripeMany s_gone s_place s_heard s_many s_lying s_ripe ++ cs_X4 J.2.2.1 a2 s2_year s2_wet s2_lost s2_eaten s2_tied s2_ripeMany s2_gone s2_place s2_heard s2_many s2_lying s2_ripe ++ cs_X2 J.2.2.1 a3 p_beds p_letters p_readers p_far p_drain p_length p_words p_home ++ cs_X1 J.2.2.1 a4 l_code l_values l_stack l_length) (As := [.int n2, .int 0, .int 15]) (st := []) (ci := 9) (q0 := 0) rfl rfl (t_X9_needRange (k_tape := k_tape) (k_now := (a1 0)) (k_trial := (a2 0)) (k_task := k_task) (k_season := k_season) (k_stuffing := k_stuffing) (k_images := k_images) (k_row := k_row) (k_plan := (a3 0)) (k_sparePlan := k_sparePlan) (k_rule := (a4 0)) (k_spareRule := k_spareRule) (k_notes := k_notes) (k_spareNotes := k_spareNotes) (a0 := a0) hJ hc) (Sub.gen [0] [1, 2, 3, 4, 5, 6, 7, 8, 9, 10, 11, 12, 13, 14, 15, 16, 17, 18, 19, 20, 21, 22, 23, 24] [24, 0, 1, 2, 3, 4, 5, 6, 7, 8, 9, 10, 11, 12, 13, 14, 15, 16, 17, 18, 19, 20, 21, 22, 23] rfl (by decide) rfl (by decide) (by decide) rfl (by decide)) kw_545 kw_547 kw_2 kw_86 hy_X9_needRange kw_548 rfl (Nat.le_of_ble_eq_true rfl) (Nat.le_of_ble_eq_true rfl) (Nat.le_of_ble_eq_true rfl) (Nat.le_of_ble_eq_true rfl) (Nat.le_of_ble_eq_true rfl) dX9_rains_17 (fun he => ?_) (fun he => ?_)
    · subst he
      rw [if_pos rfl] at h
      refine g_wid (n' := 2) (k' := 12) (Nat.le_of_ble_eq_true rfl) (Nat.le_of_ble_eq_true rfl) ?_
      refine g_aload_n (pc := 20) C 0 rfl dX9_rains_20 ?_
      refine g_iload_n (pc := 21) C 3 rfl dX9_rains_21 ?_
      refine g_iconst (pc := 22) C dX9_rains_22 ci_1 ?_
      refine g_bipush (pc := 23) C dX9_rains_23 cb_20 ?_
      obtain ⟨e16, c17, hc, h⟩ := b2_of h
      refine g_xcallU (pc := 25) C (w' := cs_X9 (a0 0) k_tape (a1 0) (a2 0) k_task k_season k_stuffing k_images k_row (a3 0) k_sparePlan (a4 0) k_spareRule k_notes k_spareNotes x_latest x_imageMany x_refusedSteps c13 c17 ++ cs_X4 J.2.2.1 a1 s_year s_wet s_lost s_eaten s_tied s_ripeMany s_gone s_place s_heard s_many s_lying s_ripe ++ cs_X4 J.2.2.1 a2 s2_year s2_wet s2_lost s2_eaten s2_tied s2_ripeMany s2_gone s2_place s2_heard s2_many s2_lying s2_ripe ++ cs_X2 J.2.2.1 a3 p_beds p_letters p_readers p_far p_drain p_length p_words p_home ++ cs_X1 J.2.2.1 a4 l_code l_values l_stack l_length) (As := [.int n3, .int 1, .int 20]) (st := []) (ci := 9) (q0 := 0) rfl rfl (t_X9_needRange (k_tape := k_tape) (k_now := (a1 0)) (k_trial := (a2 0)) (k_task := k_task) (k_season := k_season) (k_stuffing := k_stuffing) (k_images := k_images) (k_row := k_row) (k_plan := (a3 0)) (k_sparePlan := k_sparePlan) (k_rule := (a4 0)) (k_spareRule := k_spareRule) (k_notes := k_notes) (k_spareNotes := k_spareNotes) (a0 := a0) hJ hc) (Sub.gen [0] [1, 2, 3, 4, 5, 6, 7, 8, 9, 10, 11, 12, 13, 14, 15, 16, 17, 18, 19, 20, 21, 22, 23, 24] [24, 0, 1, 2, 3, 4, 5, 6, 7, 8, 9, 10, 11, 12, 13, 14, 15, 16, 17, 18, 19, 20, 21, 22, 23] rfl (by decide) rfl (by decide) (by decide) rfl (by decide)) kw_545 kw_547 kw_2 kw_86 hy_X9_needRange kw_548 rfl (Nat.le_of_ble_eq_true rfl) (Nat.le_of_ble_eq_true rfl) (Nat.le_of_ble_eq_true rfl) (Nat.le_of_ble_eq_true rfl) (Nat.le_of_ble_eq_true rfl) dX9_rains_25 (fun he => ?_) (fun he => ?_)
      · subst he
        rw [if_pos rfl] at h
        refine g_wid (n' := 3) (k' := 18) (Nat.le_of_ble_eq_true rfl) (Nat.le_of_ble_eq_true rfl) ?_
        refine g_aload_n (pc := 28) C 0 rfl dX9_rains_28 ?_
        refine g_get (pc := 29) C FOK_X9 0 rfl rfl 2 (by decide) kw_369 rfl dX9_rains_29 ?_
        refine g_aload_n (pc := 32) C 0 rfl dX9_rains_32 ?_
        refine g_get (pc := 33) C FOK_X9 0 rfl rfl 1 (by decide) kw_368 rfl dX9_rains_33 ?_
        obtain ⟨c18, c19, c20, c21, c22, c23, c24, c25, c26, c27, c28, c29, hc, h⟩ := b12_of h
        refine g_callV (pc := 36) C (w' := cs_X9 (a0 0) k_tape (a1 0) (a2 0) k_task k_season k_stuffing k_images k_row (a3 0) k_sparePlan (a4 0) k_spareRule k_notes k_spareNotes x_latest x_imageMany x_refusedSteps c13 c17 ++ cs_X4 J.2.2.1 a1 s_year s_wet s_lost s_eaten s_tied s_ripeMany s_gone s_place s_heard s_many s_lying s_ripe ++ cs_X4 J.2.2.1 a2 c18 c19 c20 c21 c22 c23 c24 c25 c26 c27 c28 c29 ++ cs_X2 J.2.2.1 a3 p_beds p_letters p_readers p_far p_drain p_length p_words p_home ++ cs_X1 J.2.2.1 a4 l_code l_values l_stack l_length) (As := [.ref (a1 0)]) (st := []) (ci := 4) (q0 := 8) rfl rfl (t_X4_copy (a0 := a2) (a1 := a1) hc) (Sub.gen [8, 9, 10, 11, 12, 13, 14, 1, 2, 3, 4, 5, 6, 7] [0, 15, 16, 17, 18, 19, 20, 21, 22, 23, 24] [0, 18, 19, 20, 21, 22, 23, 24, 11, 12, 13, 14, 15, 16, 17, 1, 2, 3, 4, 5, 6, 7, 8, 9, 10] rfl (by decide) rfl (by decide) (by decide) rfl (by decide)) kw_445 kw_446 kw_447 kw_88 hy_X4_copy kw_448 rfl (Nat.le_of_ble_eq_true rfl) (Nat.le_of_ble_eq_true rfl) (Nat.le_of_ble_eq_true rfl) (Nat.le_of_ble_eq_true rfl) (Nat.le_of_ble_eq_true rfl) dX9_rains_36 ?_
        refine g_iconst (pc := 39) C dX9_rains_39 ci_0 ?_
        refine g_istore (pc := 40) C [(4, .int 0), (0, .ref (a0 0)), (1, .int n1), (2, .int n2), (3, .int n3)] dX9_rains_40 (by decide) rfl ?_
        refine g_lv [1, 2, 3, 4, 0] rfl ?_
        exact j_X9_rains_42 C hJ E    FU 0 c13 c17 c18 c19 c20 c21 c22 c23 c24 c25 c26 c27 c28 c29 l_values l_stack h
      · rw [if_neg he] at h
        cases h
        exact gt_out C he E (Nat.le_of_ble_eq_true rfl) (Nat.le_of_ble_eq_true rfl) () rfl
    · rw [if_neg he] at h
      cases h
      exact gt_out C he E (Nat.le_of_ble_eq_true rfl) (Nat.le_of_ble_eq_true rfl) () rfl
  · rw [if_neg he] at h
    cases h
    exact gt_out C he E (Nat.le_of_ble_eq_true rfl) (Nat.le_of_ble_eq_true rfl) () rfl
noncomputable def f_X9_stuff (s_gone : Nat → Int32) (f_order : Nat → Int32) (f_seam : Nat → Int32) (f_toCome : Nat → Int32) (f_places : Int32) (f_seams : Int32) (p_letters : Int32) (p_length : Nat → Int32) (p_words : Nat → Int32) : Option (Int32 × (Nat → Int32) × (Nat → Int32) × (Nat → Int32) × Int32 × Int32) := b5 (f_X5_find f_order f_seam f_toCome f_places f_seams s_gone p_letters p_length p_words) (fun c1 c2 c3 c4 c5 => some (c5, c1, c2, c3, c4, c5))
def rm_X9_stuff : Room := { frames := 4, cells := 0, slots := 0, locals := 99 }
set_option maxRecDepth 100000 in
set_option maxHeartbeats 4000000 in
theorem t_X9_stuff {J : Jt} {a0 : Nat → Nat} {a1 : Nat → Nat} {a2 : Nat → Nat} {a3 : Nat → Nat} {k_tape : Nat} {k_trial : Nat} {k_task : Nat} {k_season : Nat} {k_images : Nat} {k_row : Nat} {k_sparePlan : Nat} {k_rule : Nat} {k_spareRule : Nat} {k_notes : Nat} {k_spareNotes : Nat} {x_latest : Value} {x_imageMany : Int32} {x_refusedSteps : Int32} {x_missing : Int32} {x_misused : Int32} {s_year : Int32} {s_wet : Int32} {s_lost : Int32} {s_eaten : Int32} {s_tied : Int32} {s_ripeMany : Int32} {s_gone : Nat → Int32} {s_place : Nat → Int32} {s_heard : Nat → Int32} {s_many : Nat → Int32} {s_lying : Nat → Int32} {s_ripe : Nat → Int32} {f_order : Nat → Int32} {f_seam : Nat → Int32} {f_toCome : Nat → Int32} {f_places : Int32} {f_seams : Int32} {p_beds : Int32} {p_letters : Int32} {p_readers : Int32} {p_far : Nat → Int32} {p_drain : Nat → Int32} {p_length : Nat → Int32} {p_words : Nat → Int32} {p_home : Nat → Int32} {r : Int32} {o_f_order : Nat → Int32} {o_f_seam : Nat → Int32} {o_f_toCome : Nat → Int32} {o_f_places : Int32} {o_f_seams : Int32} (h : f_X9_stuff s_gone f_order f_seam f_toCome f_places f_seams p_letters p_length p_words = some (r, o_f_order, o_f_seam, o_f_toCome, o_f_places, o_f_seams)) : Mt J yX9_stuff cX9_stuff 1 (some .int) rm_X9_stuff [.ref (a0 0)] (cs_X9 (a0 0) k_tape (a1 0) k_trial k_task k_season (a2 0) k_images k_row (a3 0) k_sparePlan k_rule k_spareRule k_notes k_spareNotes x_latest x_imageMany x_refusedSteps x_missing x_misused ++ cs_X4 J.2.2.1 a1 s_year s_wet s_lost s_eaten s_tied s_ripeMany s_gone s_place s_heard s_many s_lying s_ripe ++ cs_X5 J.2.2.1 a2 f_order f_seam f_toCome f_places f_seams ++ cs_X2 J.2.2.1 a3 p_beds p_letters p_readers p_far p_drain p_length p_words p_home) (some (.int r)) (cs_X9 (a0 0) k_tape (a1 0) k_trial k_task k_season (a2 0) k_images k_row (a3 0) k_sparePlan k_rule k_spareRule k_notes k_spareNotes x_latest x_imageMany x_refusedSteps x_missing x_misused ++ cs_X4 J.2.2.1 a1 s_year s_wet s_lost s_eaten s_tied s_ripeMany s_gone s_place s_heard s_many s_lying s_ripe ++ cs_X5 J.2.2.1 a2 o_f_order o_f_seam o_f_toCome o_f_places o_f_seams ++ cs_X2 J.2.2.1 a3 p_beds p_letters p_readers p_far p_drain p_length p_words p_home) := by
  refine Mt_of (own := RX9) (by decide) rfl (Nat.le_of_ble_eq_true rfl) rfl (fun Z C E => ?_)
  unfold f_X9_stuff at h
  show G J Z 0 0 (cs_X9 (a0 0) k_tape (a1 0) k_trial k_task k_season (a2 0) k_images k_row (a3 0) k_sparePlan k_rule k_spareRule k_notes k_spareNotes x_latest x_imageMany x_refusedSteps x_missing x_misused ++ cs_X4 J.2.2.1 a1 s_year s_wet s_lost s_eaten s_tied s_ripeMany s_gone s_place s_heard s_many s_lying s_ripe ++ cs_X5 J.2.2.1 a2 f_order f_seam f_toCome f_places f_seams ++ cs_X2 J.2.2.1 a3 p_beds p_letters p_readers p_far p_drain p_length p_words p_home) 1 [(0, .ref (a0 0))] 0 []
  refine g_aload_n (pc := 0) C 0 rfl dX9_stuff_0 ?_
  refine g_get (pc := 1) C FOK_X9 0 rfl rfl 5 (by decide) kw_372 rfl dX9_stuff_1 ?_
  refine g_aload_n (pc := 4) C 0 rfl dX9_stuff_4 ?_
  refine g_get (pc := 5) C FOK_X9 0 rfl rfl 1 (by decide) kw_368 rfl dX9_stuff_5 ?_
  refine g_aload_n (pc := 8) C 0 rfl dX9_stuff_8 ?_
  refine g_get (pc := 9) C FOK_X9 0 rfl rfl 8 (by decide) kw_375 rfl dX9_stuff_9 ?_
  obtain ⟨c1, c2, c3, c4, c5, hc, h⟩ := b5_of h
  refine g_callV (pc := 12) C (w' := cs_X9 (a0 0) k_tape (a1 0) k_trial k_task k_season (a2 0) k_images k_row (a3 0) k_sparePlan k_rule k_spareRule k_notes k_spareNotes x_latest x_imageMany x_refusedSteps x_missing x_misused ++ cs_X4 J.2.2.1 a1 s_year s_wet s_lost s_eaten s_tied s_ripeMany s_gone s_place s_heard s_many s_lying s_ripe ++ cs_X5 J.2.2.1 a2 c1 c2 c3 c4 c5 ++ cs_X2 J.2.2.1 a3 p_beds p_letters p_readers p_far p_drain p_length p_words p_home) (As := [.ref (a1 0), .ref (a3 0)]) (st := []) (ci := 5) (q0 := 8) rfl rfl (t_X5_find (a0 := a2) (a1 := a1) (a2 := a3) hc) (Sub.gen [8, 9, 10, 11, 1, 2, 3, 4, 5, 6, 7, 12, 13, 14, 15, 16, 17] [0] [0, 5, 6, 7, 8, 9, 10, 11, 1, 2, 3, 4, 12, 13, 14, 15, 16, 17] rfl (by decide) rfl (by decide) (by decide) rfl (by decide)) kw_460 kw_461 kw_462 kw_91 hy_X5_find kw_463 rfl (Nat.le_of_ble_eq_true rfl) (Nat.le_of_ble_eq_true rfl) (Nat.le_of_ble_eq_true rfl) (Nat.le_of_ble_eq_true rfl) (Nat.le_of_ble_eq_true rfl) dX9_stuff_12 ?_
  refine g_aload_n (pc := 15) C 0 rfl dX9_stuff_15 ?_
  refine g_get (pc := 16) C FOK_X9 0 rfl rfl 5 (by decide) kw_372 rfl dX9_stuff_16 ?_
  refine g_get (pc := 19) C FOK_X5 8 rfl rfl 4 (by decide) kw_255 rfl dX9_stuff_19 ?_
  cases h
  exact g_iret C E dX9_stuff_22
noncomputable def f_X9_stuffed (x_misused : Int32) (s_gone : Nat → Int32) (f_order : Nat → Int32) (f_seam : Nat → Int32) (f_toCome : Nat → Int32) (f_places : Int32) (f_seams : Int32) (p_letters : Int32) (p_length : Nat → Int32) (p_words : Nat → Int32) (n1 : Int32) : Option (Nat × Int32 × Int32 × (Nat → Int32) × (Nat → Int32) × (Nat → Int32) × Int32 × Int32) := b2 (f_X9_needPlace x_misused n1) (fun e1 c2 => if e1 = 0 then b5 (f_X5_find f_order f_seam f_toCome f_places f_seams s_gone p_letters p_length p_words) (fun c3 c4 c5 c6 c7 => if c6 ≤ n1 then some (0, (-1), c2, c3, c4, c5, c6, c7) else if 6 ≤ n1 then some (0, (-1), c2, c3, c4, c5, c6, c7) else if ixb n1 6 then some (0, c3 n1.toNatClampNeg, c2, c3, c4, c5, c6, c7) else none) else some (e1, 0, c2, f_order, f_seam, f_toCome, f_places, f_seams))
def rm_X9_stuffed : Room := { frames := 10, cells := 1, slots := 6, locals := 141 }
set_option maxRecDepth 100000 in
set_option maxHeartbeats 4000000 in
theorem t_X9_stuffed {J : Jt} {a0 : Nat → Nat} {a1 : Nat → Nat} {a2 : Nat → Nat} {a3 : Nat → Nat} {k_tape : Nat} {k_trial : Nat} {k_task : Nat} {k_season : Nat} {k_images : Nat} {k_row : Nat} {k_sparePlan : Nat} {k_rule : Nat} {k_spareRule : Nat} {k_notes : Nat} {k_spareNotes : Nat} {x_latest : Value} {x_imageMany : Int32} {x_refusedSteps : Int32} {x_missing : Int32} {x_misused : Int32} {s_year : Int32} {s_wet : Int32} {s_lost : Int32} {s_eaten : Int32} {s_tied : Int32} {s_ripeMany : Int32} {s_gone : Nat → Int32} {s_place : Nat → Int32} {s_heard : Nat → Int32} {s_many : Nat → Int32} {s_lying : Nat → Int32} {s_ripe : Nat → Int32} {f_order : Nat → Int32} {f_seam : Nat → Int32} {f_toCome : Nat → Int32} {f_places : Int32} {f_seams : Int32} {p_beds : Int32} {p_letters : Int32} {p_readers : Int32} {p_far : Nat → Int32} {p_drain : Nat → Int32} {p_length : Nat → Int32} {p_words : Nat → Int32} {p_home : Nat → Int32} {n1 : Int32} {ex : Nat} {r : Int32} {o_x_misused : Int32} {o_f_order : Nat → Int32} {o_f_seam : Nat → Int32} {o_f_toCome : Nat → Int32} {o_f_places : Int32} {o_f_seams : Int32} (hJ : J.1.stackTraces = false) (h : f_X9_stuffed x_misused s_gone f_order f_seam f_toCome f_places f_seams p_letters p_length p_words n1 = some (ex, r, o_x_misused, o_f_order, o_f_seam, o_f_toCome, o_f_places, o_f_seams)) : MtX J yX9_stuffed cX9_stuffed 2 (some .int) rm_X9_stuffed [.ref (a0 0), .int n1] (cs_X9 (a0 0) k_tape (a1 0) k_trial k_task k_season (a2 0) k_images k_row (a3 0) k_sparePlan k_rule k_spareRule k_notes k_spareNotes x_latest x_imageMany x_refusedSteps x_missing x_misused ++ cs_X4 J.2.2.1 a1 s_year s_wet s_lost s_eaten s_tied s_ripeMany s_gone s_place s_heard s_many s_lying s_ripe ++ cs_X5 J.2.2.1 a2 f_order f_seam f_toCome f_places f_seams ++ cs_X2 J.2.2.1 a3 p_beds p_letters p_readers p_far p_drain p_length p_words p_home) ex (some (.int r)) (fun _ : Unit => cs_X9 (a0 0) k_tape (a1 0) k_trial k_task k_season (a2 0) k_images k_row (a3 0) k_sparePlan k_rule k_spareRule k_notes k_spareNotes x_latest x_imageMany x_refusedSteps x_missing o_x_misused ++ cs_X4 J.2.2.1 a1 s_year s_wet s_lost s_eaten s_tied s_ripeMany s_gone s_place s_heard s_many s_lying s_ripe ++ cs_X5 J.2.2.1 a2 o_f_order o_f_seam o_f_toCome o_f_places o_f_seams ++ cs_X2 J.2.2.1 a3 p_beds p_letters p_readers p_far p_drain p_length p_words p_home) := by
  refine MtX_of (own := RX9) (by decide) rfl (Nat.le_of_ble_eq_true rfl) rfl (fun Z C E => ?_)
  unfold f_X9_stuffed at h
  show G J Z 0 0 (cs_X9 (a0 0) k_tape (a1 0) k_trial k_task k_season (a2 0) k_images k_row (a3 0) k_sparePlan k_rule k_spareRule k_notes k_spareNotes x_latest x_imageMany x_refusedSteps x_missing x_misused ++ cs_X4 J.2.2.1 a1 s_year s_wet s_lost s_eaten s_tied s_ripeMany s_gone s_place s_heard s_many s_lying s_ripe ++ cs_X5 J.2.2.1 a2 f_order f_seam f_toCome f_places f_seams ++ cs_X2 J.2.2.1 a3 p_beds p_letters p_readers p_far p_drain p_length p_words p_home) 2 [(0, .ref (a0 0)), (1, .int n1)] 0 []
  refine g_aload_n (pc := 0) C 0 rfl dX9_stuffed_0 ?_
  refine g_iload_n (pc := 1) C 1 rfl dX9_stuffed_1 ?_
  obtain ⟨e1, c2, hc, h⟩ := b2_of h
  refine g_xcallU (pc := 2) C (w' := cs_X9 (a0 0) k_tape (a1 0) k_trial k_task k_season (a2 0) k_images k_row (a3 0) k_sparePlan k_rule k_spareRule k_notes k_spareNotes x_latest x_imageMany x_refusedSteps x_missing c2 ++ cs_X4 J.2.2.1 a1 s_year s_wet s_lost s_eaten s_tied s_ripeMany s_gone s_place s_heard s_many s_lying s_ripe ++ cs_X5 J.2.2.1 a2 f_order f_seam f_toCome f_places f_seams ++ cs_X2 J.2.2.1 a3 p_beds p_letters p_readers p_far p_drain p_length p_words p_home) (As := [.int n1]) (st := []) (ci := 9) (q0 := 0) rfl rfl (t_X9_needPlace (k_tape := k_tape) (k_now := (a1 0)) (k_trial := k_trial) (k_task := k_task) (k_season := k_season) (k_stuffing := (a2 0)) (k_images := k_images) (k_row := k_row) (k_plan := (a3 0)) (k_sparePlan := k_sparePlan) (k_rule := k_rule) (k_spareRule := k_spareRule) (k_notes := k_notes) (k_spareNotes := k_spareNotes) (a0 := a0) hJ hc) (Sub.gen [0] [1, 2, 3, 4, 5, 6, 7, 8, 9, 10, 11, 12, 13, 14, 15, 16, 17] [17, 0, 1, 2, 3, 4, 5, 6, 7, 8, 9, 10, 11, 12, 13, 14, 15, 16] rfl (by decide) rfl (by decide) (by decide) rfl (by decide)) kw_1006 kw_1008 kw_13 kw_86 hy_X9_needPlace kw_1009 rfl (Nat.le_of_ble_eq_true rfl) (Nat.le_of_ble_eq_true rfl) (Nat.le_of_ble_eq_true rfl) (Nat.le_of_ble_eq_true rfl) (Nat.le_of_ble_eq_true rfl) dX9_stuffed_2 (fun he => ?_) (fun he => ?_)
  · subst he
    rw [if_pos rfl] at h
    refine g_wid (n' := 1) (k' := 6) (Nat.le_of_ble_eq_true rfl) (Nat.le_of_ble_eq_true rfl) ?_
    refine g_aload_n (pc := 5) C 0 rfl dX9_stuffed_5 ?_
    refine g_get (pc := 6) C FOK_X9 0 rfl rfl 5 (by decide) kw_372 rfl dX9_stuffed_6 ?_
    refine g_aload_n (pc := 9) C 0 rfl dX9_stuffed_9 ?_
    refine g_get (pc := 10) C FOK_X9 0 rfl rfl 1 (by decide) kw_368 rfl dX9_stuffed_10 ?_
    refine g_aload_n (pc := 13) C 0 rfl dX9_stuffed_13 ?_
    refine g_get (pc := 14) C FOK_X9 0 rfl rfl 8 (by decide) kw_375 rfl dX9_stuffed_14 ?_
    obtain ⟨c3, c4, c5, c6, c7, hc, h⟩ := b5_of h
    refine g_callV (pc := 17) C (w' := cs_X9 (a0 0) k_tape (a1 0) k_trial k_task k_season (a2 0) k_images k_row (a3 0) k_sparePlan k_rule k_spareRule k_notes k_spareNotes x_latest x_imageMany x_refusedSteps x_missing c2 ++ cs_X4 J.2.2.1 a1 s_year s_wet s_lost s_eaten s_tied s_ripeMany s_gone s_place s_heard s_many s_lying s_ripe ++ cs_X5 J.2.2.1 a2 c3 c4 c5 c6 c7 ++ cs_X2 J.2.2.1 a3 p_beds p_letters p_readers p_far p_drain p_length p_words p_home) (As := [.ref (a1 0), .ref (a3 0)]) (st := []) (ci := 5) (q0 := 8) rfl rfl (t_X5_find (a0 := a2) (a1 := a1) (a2 := a3) hc) (Sub.gen [8, 9, 10, 11, 1, 2, 3, 4, 5, 6, 7, 12, 13, 14, 15, 16, 17] [0] [0, 5, 6, 7, 8, 9, 10, 11, 1, 2, 3, 4, 12, 13, 14, 15, 16, 17] rfl (by decide) rfl (by decide) (by decide) rfl (by decide)) kw_460 kw_461 kw_462 kw_91 hy_X5_find kw_463 rfl (Nat.le_of_ble_eq_true rfl) (Nat.le_of_ble_eq_true rfl) (Nat.le_of_ble_eq_true rfl) (Nat.le_of_ble_eq_true rfl) (Nat.le_of_ble_eq_true rfl) dX9_stuffed_17 ?_
    refine g_iload_n (pc := 20) C 1 rfl dX9_stuffed_20 ?_
    refine g_aload_n (pc := 21) C 0 rfl dX9_stuffed_21 ?_
    refine g_get (pc := 22) C FOK_X9 0 rfl rfl 5 (by decide) kw_372 rfl dX9_stuffed_22 ?_
    refine g_get (pc := 25) C FOK_X5 8 rfl rfl 3 (by decide) kw_253 rfl dX9_stuffed_25 ?_
    refine g_icmp_ge (pc := 28) C (tgt := 49) dX9_stuffed_28 rfl h (fun h => ?_) (fun h => ?_)
    · refine g_iconst (pc := 49) C dX9_stuffed_49 ci_m1 ?_
      cases h
      exact g_iretX C E () rfl dX9_stuffed_50
    · refine g_iload_n (pc := 31) C 1 rfl dX9_stuffed_31 ?_
      refine g_bipush (pc := 32) C dX9_stuffed_32 cb_6 ?_
      refine g_icmp_ge (pc := 34) C (tgt := 49) dX9_stuffed_34 rfl h (fun h => ?_) (fun h => ?_)
      · refine g_iconst (pc := 49) C dX9_stuffed_49 ci_m1 ?_
        cases h
        exact g_iretX C E () rfl dX9_stuffed_50
      · refine g_aload_n (pc := 37) C 0 rfl dX9_stuffed_37 ?_
        refine g_get (pc := 38) C FOK_X9 0 rfl rfl 5 (by decide) kw_372 rfl dX9_stuffed_38 ?_
        refine g_get (pc := 41) C FOK_X5 8 rfl rfl 0 (by decide) kw_249 rfl dX9_stuffed_41 ?_
        refine g_iload_n (pc := 44) C 1 rfl dX9_stuffed_44 ?_
        obtain ⟨hi, h⟩ := ix_of h
        refine g_iald (pc := 45) C 9 rfl hi dX9_stuffed_45 ?_
        refine g_goto (pc := 46) C (tgt := 50) dX9_stuffed_46 rfl ?_
        cases h
        exact g_iretX C E () rfl dX9_stuffed_50
  · rw [if_neg he] at h
    cases h
    exact gt_out C he E (Nat.le_of_ble_eq_true rfl) (Nat.le_of_ble_eq_true rfl) () rfl
noncomputable def f_J6_bitCount_0f7a4  (n1 : Int32) : Option (Int32) := some ((((((((n1 - (((n1.toUInt32 >>> ((1 : Int32).toUInt32 &&& Int32.toUInt32 31)).toInt32) &&& 1431655765)) &&& 858993459) + ((((n1 - (((n1.toUInt32 >>> ((1 : Int32).toUInt32 &&& Int32.toUInt32 31)).toInt32) &&& 1431655765)).toUInt32 >>> ((2 : Int32).toUInt32 &&& Int32.toUInt32 31)).toInt32) &&& 858993459)) + (((((n1 - (((n1.toUInt32 >>> ((1 : Int32).toUInt32 &&& Int32.toUInt32 31)).toInt32) &&& 1431655765)) &&& 858993459) + ((((n1 - (((n1.toUInt32 >>> ((1 : Int32).toUInt32 &&& Int32.toUInt32 31)).toInt32) &&& 1431655765)).toUInt32 >>> ((2 : Int32).toUInt32 &&& Int32.toUInt32 31)).toInt32) &&& 858993459)).toUInt32 >>> ((4 : Int32).toUInt32 &&& Int32.toUInt32 31)).toInt32)) &&& 252645135) + (((((((n1 - (((n1.toUInt32 >>> ((1 : Int32).toUInt32 &&& Int32.toUInt32 31)).toInt32) &&& 1431655765)) &&& 858993459) + ((((n1 - (((n1.toUInt32 >>> ((1 : Int32).toUInt32 &&& Int32.toUInt32 31)).toInt32) &&& 1431655765)).toUInt32 >>> ((2 : Int32).toUInt32 &&& Int32.toUInt32 31)).toInt32) &&& 858993459)) + (((((n1 - (((n1.toUInt32 >>> ((1 : Int32).toUInt32 &&& Int32.toUInt32 31)).toInt32) &&& 1431655765)) &&& 858993459) + ((((n1 - (((n1.toUInt32 >>> ((1 : Int32).toUInt32 &&& Int32.toUInt32 31)).toInt32) &&& 1431655765)).toUInt32 >>> ((2 : Int32).toUInt32 &&& Int32.toUInt32 31)).toInt32) &&& 858993459)).toUInt32 >>> ((4 : Int32).toUInt32 &&& Int32.toUInt32 31)).toInt32)) &&& 252645135).toUInt32 >>> ((8 : Int32).toUInt32 &&& Int32.toUInt32 31)).toInt32)) + ((((((((n1 - (((n1.toUInt32 >>> ((1 : Int32).toUInt32 &&& Int32.toUInt32 31)).toInt32) &&& 1431655765)) &&& 858993459) + ((((n1 - (((n1.toUInt32 >>> ((1 : Int32).toUInt32 &&& Int32.toUInt32 31)).toInt32) &&& 1431655765)).toUInt32 >>> ((2 : Int32).toUInt32 &&& Int32.toUInt32 31)).toInt32) &&& 858993459)) + (((((n1 - (((n1.toUInt32 >>> ((1 : Int32).toUInt32 &&& Int32.toUInt32 31)).toInt32) &&& 1431655765)) &&& 858993459) + ((((n1 - (((n1.toUInt32 >>> ((1 : Int32).toUInt32 &&& Int32.toUInt32 31)).toInt32) &&& 1431655765)).toUInt32 >>> ((2 : Int32).toUInt32 &&& Int32.toUInt32 31)).toInt32) &&& 858993459)).toUInt32 >>> ((4 : Int32).toUInt32 &&& Int32.toUInt32 31)).toInt32)) &&& 252645135) + (((((((n1 - (((n1.toUInt32 >>> ((1 : Int32).toUInt32 &&& Int32.toUInt32 31)).toInt32) &&& 1431655765)) &&& 858993459) + ((((n1 - (((n1.toUInt32 >>> ((1 : Int32).toUInt32 &&& Int32.toUInt32 31)).toInt32) &&& 1431655765)).toUInt32 >>> ((2 : Int32).toUInt32 &&& Int32.toUInt32 31)).toInt32) &&& 858993459)) + (((((n1 - (((n1.toUInt32 >>> ((1 : Int32).toUInt32 &&& Int32.toUInt32 31)).toInt32) &&& 1431655765)) &&& 858993459) + ((((n1 - (((n1.toUInt32 >>> ((1 : Int32).toUInt32 &&& Int32.toUInt32 31)).toInt32) &&& 1431655765)).toUInt32 >>> ((2 : Int32).toUInt32 &&& Int32.toUInt32 31)).toInt32) &&& 858993459)).toUInt32 >>> ((4 : Int32).toUInt32 &&& Int32.toUInt32 31)).toInt32)) &&& 252645135).toUInt32 >>> ((8 : Int32).toUInt32 &&& Int32.toUInt32 31)).toInt32)).toUInt32 >>> ((16 : Int32).toUInt32 &&& Int32.toUInt32 31)).toInt32)) &&& 63)
def rm_J6_bitCount_0f7a4 : Room := { frames := 0, cells := 0, slots := 0, locals := 0 }
set_option maxRecDepth 100000 in
set_option maxHeartbeats 4000000 in
theorem t_J6_bitCount_0f7a4 {J : Jt}  {n1 : Int32} {r : Int32} (h : f_J6_bitCount_0f7a4 n1 = some r) : Mt J yJ6_bitCount_0f7a4 cJ6_bitCount_0f7a4 1 (some .int) rm_J6_bitCount_0f7a4 [.int n1] ([]) (some (.int r)) ([]) := by
  refine Mt_of (own := RJ6) (by decide) rfl (Nat.le_of_ble_eq_true rfl) rfl (fun Z C E => ?_)
  unfold f_J6_bitCount_0f7a4 at h
  show G J Z 0 0 ([]) 1 [(0, .int n1)] 0 []
  refine g_iload_n (pc := 0) C 0 rfl dJ6_bitCount_0f7a4_0 ?_
  refine g_iload_n (pc := 1) C 0 rfl dJ6_bitCount_0f7a4_1 ?_
  refine g_iconst (pc := 2) C dJ6_bitCount_0f7a4_2 ci_1 ?_
  refine g_iushr (pc := 3) C dJ6_bitCount_0f7a4_3 ?_
  refine g_ldcw (pc := 4) C dJ6_bitCount_0f7a4_4 kw_1080 ?_
  refine g_iand (pc := 7) C dJ6_bitCount_0f7a4_7 ?_
  refine g_isub (pc := 8) C dJ6_bitCount_0f7a4_8 ?_
  refine g_istore_n (pc := 9) C [(0, .int (n1 - (((n1.toUInt32 >>> ((1 : Int32).toUInt32 &&& Int32.toUInt32 31)).toInt32) &&& 1431655765)))] dJ6_bitCount_0f7a4_9 rfl (by decide) rfl ?_
  refine g_iload_n (pc := 10) C 0 rfl dJ6_bitCount_0f7a4_10 ?_
  refine g_ldcw (pc := 11) C dJ6_bitCount_0f7a4_11 kw_1081 ?_
  refine g_iand (pc := 14) C dJ6_bitCount_0f7a4_14 ?_
  refine g_iload_n (pc := 15) C 0 rfl dJ6_bitCount_0f7a4_15 ?_
  refine g_iconst (pc := 16) C dJ6_bitCount_0f7a4_16 ci_2 ?_
  refine g_iushr (pc := 17) C dJ6_bitCount_0f7a4_17 ?_
  refine g_ldcw (pc := 18) C dJ6_bitCount_0f7a4_18 kw_1081 ?_
  refine g_iand (pc := 21) C dJ6_bitCount_0f7a4_21 ?_
  refine g_iadd (pc := 22) C dJ6_bitCount_0f7a4_22 ?_
  refine g_istore_n (pc := 23) C [(0, .int (((n1 - (((n1.toUInt32 >>> ((1 : Int32).toUInt32 &&& Int32.toUInt32 31)).toInt32) &&& 1431655765)) &&& 858993459) + ((((n1 - (((n1.toUInt32 >>> ((1 : Int32).toUInt32 &&& Int32.toUInt32 31)).toInt32) &&& 1431655765)).toUInt32 >>> ((2 : Int32).toUInt32 &&& Int32.toUInt32 31)).toInt32) &&& 858993459)))] dJ6_bitCount_0f7a4_23 rfl (by decide) rfl ?_
  refine g_iload_n (pc := 24) C 0 rfl dJ6_bitCount_0f7a4_24 ?_
  refine g_iload_n (pc := 25) C 0 rfl dJ6_bitCount_0f7a4_25 ?_
  refine g_iconst (pc := 26) C dJ6_bitCount_0f7a4_26 ci_4 ?_
  refine g_iushr (pc := 27) C dJ6_bitCount_0f7a4_27 ?_
  refine g_iadd (pc := 28) C dJ6_bitCount_0f7a4_28 ?_
  refine g_ldcw (pc := 29) C dJ6_bitCount_0f7a4_29 kw_1082 ?_
  refine g_iand (pc := 32) C dJ6_bitCount_0f7a4_32 ?_
  refine g_istore_n (pc := 33) C [(0, .int (((((n1 - (((n1.toUInt32 >>> ((1 : Int32).toUInt32 &&& Int32.toUInt32 31)).toInt32) &&& 1431655765)) &&& 858993459) + ((((n1 - (((n1.toUInt32 >>> ((1 : Int32).toUInt32 &&& Int32.toUInt32 31)).toInt32) &&& 1431655765)).toUInt32 >>> ((2 : Int32).toUInt32 &&& Int32.toUInt32 31)).toInt32) &&& 858993459)) + (((((n1 - (((n1.toUInt32 >>> ((1 : Int32).toUInt32 &&& Int32.toUInt32 31)).toInt32) &&& 1431655765)) &&& 858993459) + ((((n1 - (((n1.toUInt32 >>> ((1 : Int32).toUInt32 &&& Int32.toUInt32 31)).toInt32) &&& 1431655765)).toUInt32 >>> ((2 : Int32).toUInt32 &&& Int32.toUInt32 31)).toInt32) &&& 858993459)).toUInt32 >>> ((4 : Int32).toUInt32 &&& Int32.toUInt32 31)).toInt32)) &&& 252645135))] dJ6_bitCount_0f7a4_33 rfl (by decide) rfl ?_
  refine g_iload_n (pc := 34) C 0 rfl dJ6_bitCount_0f7a4_34 ?_
  refine g_iload_n (pc := 35) C 0 rfl dJ6_bitCount_0f7a4_35 ?_
  refine g_bipush (pc := 36) C dJ6_bitCount_0f7a4_36 cb_8 ?_
  refine g_iushr (pc := 38) C dJ6_bitCount_0f7a4_38 ?_
  refine g_iadd (pc := 39) C dJ6_bitCount_0f7a4_39 ?_
  refine g_istore_n (pc := 40) C [(0, .int ((((((n1 - (((n1.toUInt32 >>> ((1 : Int32).toUInt32 &&& Int32.toUInt32 31)).toInt32) &&& 1431655765)) &&& 858993459) + ((((n1 - (((n1.toUInt32 >>> ((1 : Int32).toUInt32 &&& Int32.toUInt32 31)).toInt32) &&& 1431655765)).toUInt32 >>> ((2 : Int32).toUInt32 &&& Int32.toUInt32 31)).toInt32) &&& 858993459)) + (((((n1 - (((n1.toUInt32 >>> ((1 : Int32).toUInt32 &&& Int32.toUInt32 31)).toInt32) &&& 1431655765)) &&& 858993459) + ((((n1 - (((n1.toUInt32 >>> ((1 : Int32).toUInt32 &&& Int32.toUInt32 31)).toInt32) &&& 1431655765)).toUInt32 >>> ((2 : Int32).toUInt32 &&& Int32.toUInt32 31)).toInt32) &&& 858993459)).toUInt32 >>> ((4 : Int32).toUInt32 &&& Int32.toUInt32 31)).toInt32)) &&& 252645135) + (((((((n1 - (((n1.toUInt32 >>> ((1 : Int32).toUInt32 &&& Int32.toUInt32 31)).toInt32) &&& 1431655765)) &&& 858993459) + ((((n1 - (((n1.toUInt32 >>> ((1 : Int32).toUInt32 &&& Int32.toUInt32 31)).toInt32) &&& 1431655765)).toUInt32 >>> ((2 : Int32).toUInt32 &&& Int32.toUInt32 31)).toInt32) &&& 858993459)) + (((((n1 - (((n1.toUInt32 >>> ((1 : Int32).toUInt32 &&& Int32.toUInt32 31)).toInt32) &&& 1431655765)) &&& 858993459) + ((((n1 - (((n1.toUInt32 >>> ((1 : Int32).toUInt32 &&& Int32.toUInt32 31)).toInt32) &&& 1431655765)).toUInt32 >>> ((2 : Int32).toUInt32 &&& Int32.toUInt32 31)).toInt32) &&& 858993459)).toUInt32 >>> ((4 : Int32).toUInt32 &&& Int32.toUInt32 31)).toInt32)) &&& 252645135).toUInt32 >>> ((8 : Int32).toUInt32 &&& Int32.toUInt32 31)).toInt32)))] dJ6_bitCount_0f7a4_40 rfl (by decide) rfl ?_
  refine g_iload_n (pc := 41) C 0 rfl dJ6_bitCount_0f7a4_41 ?_
  refine g_iload_n (pc := 42) C 0 rfl dJ6_bitCount_0f7a4_42 ?_
  refine g_bipush (pc := 43) C dJ6_bitCount_0f7a4_43 cb_16 ?_
  refine g_iushr (pc := 45) C dJ6_bitCount_0f7a4_45 ?_
  refine g_iadd (pc := 46) C dJ6_bitCount_0f7a4_46 ?_
  refine g_istore_n (pc := 47) C [(0, .int (((((((n1 - (((n1.toUInt32 >>> ((1 : Int32).toUInt32 &&& Int32.toUInt32 31)).toInt32) &&& 1431655765)) &&& 858993459) + ((((n1 - (((n1.toUInt32 >>> ((1 : Int32).toUInt32 &&& Int32.toUInt32 31)).toInt32) &&& 1431655765)).toUInt32 >>> ((2 : Int32).toUInt32 &&& Int32.toUInt32 31)).toInt32) &&& 858993459)) + (((((n1 - (((n1.toUInt32 >>> ((1 : Int32).toUInt32 &&& Int32.toUInt32 31)).toInt32) &&& 1431655765)) &&& 858993459) + ((((n1 - (((n1.toUInt32 >>> ((1 : Int32).toUInt32 &&& Int32.toUInt32 31)).toInt32) &&& 1431655765)).toUInt32 >>> ((2 : Int32).toUInt32 &&& Int32.toUInt32 31)).toInt32) &&& 858993459)).toUInt32 >>> ((4 : Int32).toUInt32 &&& Int32.toUInt32 31)).toInt32)) &&& 252645135) + (((((((n1 - (((n1.toUInt32 >>> ((1 : Int32).toUInt32 &&& Int32.toUInt32 31)).toInt32) &&& 1431655765)) &&& 858993459) + ((((n1 - (((n1.toUInt32 >>> ((1 : Int32).toUInt32 &&& Int32.toUInt32 31)).toInt32) &&& 1431655765)).toUInt32 >>> ((2 : Int32).toUInt32 &&& Int32.toUInt32 31)).toInt32) &&& 858993459)) + (((((n1 - (((n1.toUInt32 >>> ((1 : Int32).toUInt32 &&& Int32.toUInt32 31)).toInt32) &&& 1431655765)) &&& 858993459) + ((((n1 - (((n1.toUInt32 >>> ((1 : Int32).toUInt32 &&& Int32.toUInt32 31)).toInt32) &&& 1431655765)).toUInt32 >>> ((2 : Int32).toUInt32 &&& Int32.toUInt32 31)).toInt32) &&& 858993459)).toUInt32 >>> ((4 : Int32).toUInt32 &&& Int32.toUInt32 31)).toInt32)) &&& 252645135).toUInt32 >>> ((8 : Int32).toUInt32 &&& Int32.toUInt32 31)).toInt32)) + ((((((((n1 - (((n1.toUInt32 >>> ((1 : Int32).toUInt32 &&& Int32.toUInt32 31)).toInt32) &&& 1431655765)) &&& 858993459) + ((((n1 - (((n1.toUInt32 >>> ((1 : Int32).toUInt32 &&& Int32.toUInt32 31)).toInt32) &&& 1431655765)).toUInt32 >>> ((2 : Int32).toUInt32 &&& Int32.toUInt32 31)).toInt32) &&& 858993459)) + (((((n1 - (((n1.toUInt32 >>> ((1 : Int32).toUInt32 &&& Int32.toUInt32 31)).toInt32) &&& 1431655765)) &&& 858993459) + ((((n1 - (((n1.toUInt32 >>> ((1 : Int32).toUInt32 &&& Int32.toUInt32 31)).toInt32) &&& 1431655765)).toUInt32 >>> ((2 : Int32).toUInt32 &&& Int32.toUInt32 31)).toInt32) &&& 858993459)).toUInt32 >>> ((4 : Int32).toUInt32 &&& Int32.toUInt32 31)).toInt32)) &&& 252645135) + (((((((n1 - (((n1.toUInt32 >>> ((1 : Int32).toUInt32 &&& Int32.toUInt32 31)).toInt32) &&& 1431655765)) &&& 858993459) + ((((n1 - (((n1.toUInt32 >>> ((1 : Int32).toUInt32 &&& Int32.toUInt32 31)).toInt32) &&& 1431655765)).toUInt32 >>> ((2 : Int32).toUInt32 &&& Int32.toUInt32 31)).toInt32) &&& 858993459)) + (((((n1 - (((n1.toUInt32 >>> ((1 : Int32).toUInt32 &&& Int32.toUInt32 31)).toInt32) &&& 1431655765)) &&& 858993459) + ((((n1 - (((n1.toUInt32 >>> ((1 : Int32).toUInt32 &&& Int32.toUInt32 31)).toInt32) &&& 1431655765)).toUInt32 >>> ((2 : Int32).toUInt32 &&& Int32.toUInt32 31)).toInt32) &&& 858993459)).toUInt32 >>> ((4 : Int32).toUInt32 &&& Int32.toUInt32 31)).toInt32)) &&& 252645135).toUInt32 >>> ((8 : Int32).toUInt32 &&& Int32.toUInt32 31)).toInt32)).toUInt32 >>> ((16 : Int32).toUInt32 &&& Int32.toUInt32 31)).toInt32)))] dJ6_bitCount_0f7a4_47 rfl (by decide) rfl ?_
  refine g_iload_n (pc := 48) C 0 rfl dJ6_bitCount_0f7a4_48 ?_
  refine g_bipush (pc := 49) C dJ6_bitCount_0f7a4_49 cb_63 ?_
  refine g_iand (pc := 51) C dJ6_bitCount_0f7a4_51 ?_
  cases h
  exact g_iret C E dJ6_bitCount_0f7a4_52
noncomputable def f_X9_fewestBeds_61  (s_many : Nat → Int32) (s_lying : Nat → Int32) (r_n : Nat) (p_beds : Int32) (n1 : Int32) (k41 : Int32 → Int32 → Int32 → (Nat → Int32) → Option (Int32 × (Nat → Int32))) : Nat → Int32 → Int32 → Int32 → Int32 → Int32 → (Nat → Int32) → Option (Int32 × (Nat → Int32))
  | 0, _, _, _, _, _, _ => none
  | n + 1, x2, x3, x4, x5, x6, r_v => if p_beds ≤ x6 then if x5 = 0 then b1 (f_J6_bitCount_0f7a4 x4) (fun v1 => if x3 ≤ v1 then k41 x2 x3 (x4 + 1) r_v else b1 (f_J6_bitCount_0f7a4 x4) (fun v2 => k41 x4 v2 (x4 + 1) r_v)) else k41 x2 x3 (x4 + 1) r_v else b1 (f_X9_has x4 x6) (fun v3 => if v3 = 0 then f_X9_fewestBeds_61 s_many s_lying r_n p_beds n1 k41 n x2 x3 x4 (x5 &&& (-1)) (x6 + 1) r_v else if ixb x6 r_n then f_X9_fewestBeds_61 s_many s_lying r_n p_beds n1 k41 n x2 x3 x4 (x5 &&& ((r_v x6.toNatClampNeg) ^^^ (-1))) (x6 + 1) r_v else none)
noncomputable def f_X9_fewestBeds_41  (s_many : Nat → Int32) (s_lying : Nat → Int32) (r_n : Nat) (p_beds : Int32) (n1 : Int32) : Nat → Int32 → Int32 → Int32 → (Nat → Int32) → Option (Int32 × (Nat → Int32))
  | 0, _, _, _, _ => none
  | n + 1, x2, x3, x4, r_v => if ((1 : Int32) <<< (p_beds &&& 31)) ≤ x4 then some (x2, r_v) else f_X9_fewestBeds_61 s_many s_lying r_n p_beds n1 (f_X9_fewestBeds_41 s_many s_lying r_n p_beds n1 n) FU x2 x3 x4 n1 0 r_v
noncomputable def f_X9_fewestBeds_2  (s_many : Nat → Int32) (s_lying : Nat → Int32) (r_n : Nat) (p_beds : Int32) (n1 : Int32) : Nat → Int32 → (Nat → Int32) → Option (Int32 × (Nat → Int32))
  | 0, _, _ => none
  | n + 1, x2, r_v => if p_beds ≤ x2 then f_X9_fewestBeds_41 s_many s_lying r_n p_beds n1 FU (-1) 7 0 r_v else b1 (f_X4_wordsIn s_many s_lying x2) (fun v4 => if ixb x2 r_n then f_X9_fewestBeds_2 s_many s_lying r_n p_beds n1 n (x2 + 1) (upd r_v x2.toNatClampNeg v4) else none)
noncomputable def f_X9_fewestBeds (s_many : Nat → Int32) (s_lying : Nat → Int32) (r_n : Nat) (r_v : Nat → Int32) (p_beds : Int32) (n1 : Int32) : Option (Int32 × (Nat → Int32)) := f_X9_fewestBeds_2 s_many s_lying r_n p_beds n1 FU 0 r_v
def rm_X9_fewestBeds : Room := { frames := 2, cells := 0, slots := 0, locals := 45 }
set_option maxRecDepth 100000 in
set_option maxHeartbeats 4000000 in
theorem j_X9_fewestBeds_61 {J : Jt} {Z : Zt} {a0 : Nat → Nat} {a1 : Nat → Nat} {a2 : Nat → Nat} {a3 : Nat → Nat} {k_tape : Nat} {k_trial : Nat} {k_task : Nat} {k_season : Nat} {k_stuffing : Nat} {k_images : Nat} {k_sparePlan : Nat} {k_rule : Nat} {k_spareRule : Nat} {k_notes : Nat} {k_spareNotes : Nat} {x_latest : Value} {x_imageMany : Int32} {x_refusedSteps : Int32} {x_missing : Int32} {x_misused : Int32} {s_year : Int32} {s_wet : Int32} {s_lost : Int32} {s_eaten : Int32} {s_tied : Int32} {s_ripeMany : Int32} {s_gone : Nat → Int32} {s_place : Nat → Int32} {s_heard : Nat → Int32} {s_many : Nat → Int32} {s_lying : Nat → Int32} {s_ripe : Nat → Int32} {r_n : Nat} {p_beds : Int32} {p_letters : Int32} {p_readers : Int32} {p_far : Nat → Int32} {p_drain : Nat → Int32} {p_length : Nat → Int32} {p_words : Nat → Int32} {p_home : Nat → Int32} {n1 : Int32} {r : Int32} {o_r_v : Nat → Int32} {k41 : Int32 → Int32 → Int32 → (Nat → Int32) → Option (Int32 × (Nat → Int32))} (C : Cx J Z cX9_fewestBeds 7 RX9 (some .int) rm_X9_fewestBeds) (E : Ez J Z 0 0 (some (.int r)) (cs_X9 (a0 0) k_tape (a1 0) k_trial k_task k_season k_stuffing k_images (a2 0) (a3 0) k_sparePlan k_rule k_spareRule k_notes k_spareNotes x_latest x_imageMany x_refusedSteps x_missing x_misused ++ cs_X4 J.2.2.1 a1 s_year s_wet s_lost s_eaten s_tied s_ripeMany s_gone s_place s_heard s_many s_lying s_ripe ++ cs_A J.2.2.1 a2 r_n o_r_v ++ cs_X2 J.2.2.1 a3 p_beds p_letters p_readers p_far p_drain p_length p_words p_home)) (hk41 : ∀ (x2 : Int32) (x3 : Int32) (x4 : Int32) (r_v : Nat → Int32), k41 x2 x3 x4 r_v = some (r, o_r_v) → G J Z 0 0 (cs_X9 (a0 0) k_tape (a1 0) k_trial k_task k_season k_stuffing k_images (a2 0) (a3 0) k_sparePlan k_rule k_spareRule k_notes k_spareNotes x_latest x_imageMany x_refusedSteps x_missing x_misused ++ cs_X4 J.2.2.1 a1 s_year s_wet s_lost s_eaten s_tied s_ripeMany s_gone s_place s_heard s_many s_lying s_ripe ++ cs_A J.2.2.1 a2 r_n r_v ++ cs_X2 J.2.2.1 a3 p_beds p_letters p_readers p_far p_drain p_length p_words p_home) 7 [(0, .ref (a0 0)), (1, .int n1), (2, .int x2), (3, .int x3), (4, .int x4)] 41 []) : ∀ (n : Nat) (x2 : Int32) (x3 : Int32) (x4 : Int32) (x5 : Int32) (x6 : Int32) (r_v : Nat → Int32), f_X9_fewestBeds_61 s_many s_lying r_n p_beds n1 k41 n x2 x3 x4 x5 x6 r_v = some (r, o_r_v) → G J Z 0 0 (cs_X9 (a0 0) k_tape (a1 0) k_trial k_task k_season k_stuffing k_images (a2 0) (a3 0) k_sparePlan k_rule k_spareRule k_notes k_spareNotes x_latest x_imageMany x_refusedSteps x_missing x_misused ++ cs_X4 J.2.2.1 a1 s_year s_wet s_lost s_eaten s_tied s_ripeMany s_gone s_place s_heard s_many s_lying s_ripe ++ cs_A J.2.2.1 a2 r_n r_v ++ cs_X2 J.2.2.1 a3 p_beds p_letters p_readers p_far p_drain p_length p_words p_home) 7 [(0, .ref (a0 0)), (1, .int n1), (2, .int x2), (3, .int x3), (4, .int x4), (5, .int x5), (6, .int x6)] 61 [] := by
  intro n
  induction n with
  | zero =>
    intro x2 x3 x4 x5 x6 r_v h
    rw [f_X9_fewestBeds_61] at h
    cases h
  | succ n ih =>
    intro x2 x3 x4 x5 x6 r_v h
    rw [f_X9_fewestBeds_61] at h
    refine g_iload (pc := 61) C 6 rfl dX9_fewestBeds_61 ?_
    refine g_aload_n (pc := 63) C 0 rfl dX9_fewestBeds_63 ?_
    refine g_get (pc := 64) C FOK_X9 0 rfl rfl 8 (by decide) kw_375 rfl dX9_fewestBeds_64 ?_
    refine g_get (pc := 67) C FOK_X2 9 rfl rfl 0 (by decide) kw_279 rfl dX9_fewestBeds_67 ?_
    refine g_icmp_ge (pc := 70) C (tgt := 107) dX9_fewestBeds_70 rfl h (fun h => ?_) (fun h => ?_)
    · refine g_iload (pc := 107) C 5 rfl dX9_fewestBeds_107 ?_
      refine g_if_ne (pc := 109) C (tgt := 130) dX9_fewestBeds_109 rfl h (fun h => ?_) (fun h => ?_)
      · refine g_iinc (pc := 130) C (j := 4) [(4, .int (x4 + 1)), (0, .ref (a0 0)), (1, .int n1), (2, .int x2), (3, .int x3), (5, .int x5), (6, .int x6)] dX9_fewestBeds_130 rfl (ii_1 _) (by decide) rfl ?_
        refine g_goto (pc := 133) C (tgt := 41) dX9_fewestBeds_133 rfl ?_
        refine g_lv [1, 2, 3, 4, 0] rfl ?_
        exact hk41 x2 x3 (x4 + 1) r_v h
      · refine g_iload (pc := 112) C 4 rfl dX9_fewestBeds_112 ?_
        obtain ⟨v1, hc, h⟩ := b1_of h
        refine g_callSX (pc := 114) C (w' := cs_X9 (a0 0) k_tape (a1 0) k_trial k_task k_season k_stuffing k_images (a2 0) (a3 0) k_sparePlan k_rule k_spareRule k_notes k_spareNotes x_latest x_imageMany x_refusedSteps x_missing x_misused ++ cs_X4 J.2.2.1 a1 s_year s_wet s_lost s_eaten s_tied s_ripeMany s_gone s_place s_heard s_many s_lying s_ripe ++ cs_A J.2.2.1 a2 r_n r_v ++ cs_X2 J.2.2.1 a3 p_beds p_letters p_readers p_far p_drain p_length p_words p_home) (As := [.int x4]) (st := []) (t_J6_bitCount_0f7a4 hc) Sub.nil kw_1077 kw_1078 kw_108 hn_J6_bitCount_0f7a4 kw_1079 rfl (Nat.le_of_ble_eq_true rfl) (Nat.le_of_ble_eq_true rfl) (Nat.le_of_ble_eq_true rfl) (Nat.le_of_ble_eq_true rfl) (Nat.le_of_ble_eq_true rfl) dX9_fewestBeds_114 ?_
        refine g_iload_n (pc := 117) C 3 rfl dX9_fewestBeds_117 ?_
        refine g_icmp_ge (pc := 118) C (tgt := 130) dX9_fewestBeds_118 rfl h (fun h => ?_) (fun h => ?_)
        · refine g_iinc (pc := 130) C (j := 4) [(4, .int (x4 + 1)), (0, .ref (a0 0)), (1, .int n1), (2, .int x2), (3, .int x3), (5, .int x5), (6, .int x6)] dX9_fewestBeds_130 rfl (ii_1 _) (by decide) rfl ?_
          refine g_goto (pc := 133) C (tgt := 41) dX9_fewestBeds_133 rfl ?_
          refine g_lv [1, 2, 3, 4, 0] rfl ?_
          exact hk41 x2 x3 (x4 + 1) r_v h
        · refine g_iload (pc := 121) C 4 rfl dX9_fewestBeds_121 ?_
          refine g_istore_n (pc := 123) C [(2, .int x4), (0, .ref (a0 0)), (1, .int n1), (3, .int x3), (4, .int x4), (5, .int x5), (6, .int x6)] dX9_fewestBeds_123 rfl (by decide) rfl ?_
          refine g_iload (pc := 124) C 4 rfl dX9_fewestBeds_124 ?_
          obtain ⟨v2, hc, h⟩ := b1_of h
          refine g_callSX (pc := 126) C (w' := cs_X9 (a0 0) k_tape (a1 0) k_trial k_task k_season k_stuffing k_images (a2 0) (a3 0) k_sparePlan k_rule k_spareRule k_notes k_spareNotes x_latest x_imageMany x_refusedSteps x_missing x_misused ++ cs_X4 J.2.2.1 a1 s_year s_wet s_lost s_eaten s_tied s_ripeMany s_gone s_place s_heard s_many s_lying s_ripe ++ cs_A J.2.2.1 a2 r_n r_v ++ cs_X2 J.2.2.1 a3 p_beds p_letters p_readers p_far p_drain p_length p_words p_home) (As := [.int x4]) (st := []) (t_J6_bitCount_0f7a4 hc) Sub.nil kw_1077 kw_1078 kw_108 hn_J6_bitCount_0f7a4 kw_1079 rfl (Nat.le_of_ble_eq_true rfl) (Nat.le_of_ble_eq_true rfl) (Nat.le_of_ble_eq_true rfl) (Nat.le_of_ble_eq_true rfl) (Nat.le_of_ble_eq_true rfl) dX9_fewestBeds_126 ?_
          refine g_istore_n (pc := 129) C [(3, .int v2), (2, .int x4), (0, .ref (a0 0)), (1, .int n1), (4, .int x4), (5, .int x5), (6, .int x6)] dX9_fewestBeds_129 rfl (by decide) rfl ?_
          refine g_iinc (pc := 130) C (j := 4) [(4, .int (x4 + 1)), (3, .int v2), (2, .int x4), (0, .ref (a0 0)), (1, .int n1), (5, .int x5), (6, .int x6)] dX9_fewestBeds_130 rfl (ii_1 _) (by decide) rfl ?_
          refine g_goto (pc := 133) C (tgt := 41) dX9_fewestBeds_133 rfl ?_
          refine g_lv [3, 4, 2, 1, 0] rfl ?_
          exact hk41 x4 v2 (x4 + 1) r_v h
    · refine g_iload (pc := 73) C 5 rfl dX9_fewestBeds_73 ?_
      refine g_iload (pc := 75) C 4 rfl dX9_fewestBeds_75 ?_
      refine g_iload (pc := 77) C 6 rfl dX9_fewestBeds_77 ?_
      obtain ⟨v3, hc, h⟩ := b1_of h
      refine g_callS (pc := 79) C (w' := cs_X9 (a0 0) k_tape (a1 0) k_trial k_task k_season k_stuffing k_images (a2 0) (a3 0) k_sparePlan k_rule k_spareRule k_notes k_spareNotes x_latest x_imageMany x_refusedSteps x_missing x_misused ++ cs_X4 J.2.2.1 a1 s_year s_wet s_lost s_eaten s_tied s_ripeMany s_gone s_place s_heard s_many s_lying s_ripe ++ cs_A J.2.2.1 a2 r_n r_v ++ cs_X2 J.2.2.1 a3 p_beds p_letters p_readers p_far p_drain p_length p_words p_home) (As := [.int x4, .int x6]) (st := [.int x5]) (t_X9_has hc) Sub.nil kw_1056 kw_483 kw_86 hy_X9_has kw_484 rfl (Nat.le_of_ble_eq_true rfl) (Nat.le_of_ble_eq_true rfl) (Nat.le_of_ble_eq_true rfl) (Nat.le_of_ble_eq_true rfl) (Nat.le_of_ble_eq_true rfl) dX9_fewestBeds_79 ?_
      refine g_if_eq (pc := 82) C (tgt := 97) dX9_fewestBeds_82 rfl h (fun h => ?_) (fun h => ?_)
      · refine g_iconst (pc := 97) C dX9_fewestBeds_97 ci_m1 ?_
        refine g_iand (pc := 98) C dX9_fewestBeds_98 ?_
        refine g_istore (pc := 99) C [(5, .int (x5 &&& (-1))), (0, .ref (a0 0)), (1, .int n1), (2, .int x2), (3, .int x3), (4, .int x4), (6, .int x6)] dX9_fewestBeds_99 (by decide) rfl ?_
        refine g_iinc (pc := 101) C (j := 6) [(6, .int (x6 + 1)), (5, .int (x5 &&& (-1))), (0, .ref (a0 0)), (1, .int n1), (2, .int x2), (3, .int x3), (4, .int x4)] dX9_fewestBeds_101 rfl (ii_1 _) (by decide) rfl ?_
        refine g_goto (pc := 104) C (tgt := 61) dX9_fewestBeds_104 rfl ?_
        refine g_lv [2, 3, 4, 5, 6, 1, 0] rfl ?_
        exact ih x2 x3 x4 (x5 &&& (-1)) (x6 + 1) r_v h
      · refine g_aload_n (pc := 85) C 0 rfl dX9_fewestBeds_85 ?_
        refine g_get (pc := 86) C FOK_X9 0 rfl rfl 7 (by decide) kw_374 rfl dX9_fewestBeds_86 ?_
        refine g_iload (pc := 89) C 6 rfl dX9_fewestBeds_89 ?_
        obtain ⟨hi, h⟩ := ix_of h
        refine g_iald (pc := 91) C 8 rfl hi dX9_fewestBeds_91 ?_
        refine g_iconst (pc := 92) C dX9_fewestBeds_92 ci_m1 ?_
        refine g_ixor (pc := 93) C dX9_fewestBeds_93 ?_
        refine g_goto (pc := 94) C (tgt := 98) dX9_fewestBeds_94 rfl ?_
        refine g_iand (pc := 98) C dX9_fewestBeds_98 ?_
        refine g_istore (pc := 99) C [(5, .int (x5 &&& ((r_v x6.toNatClampNeg) ^^^ (-1)))), (0, .ref (a0 0)), (1, .int n1), (2, .int x2), (3, .int x3), (4, .int x4), (6, .int x6)] dX9_fewestBeds_99 (by decide) rfl ?_
        refine g_iinc (pc := 101) C (j := 6) [(6, .int (x6 + 1)), (5, .int (x5 &&& ((r_v x6.toNatClampNeg) ^^^ (-1)))), (0, .ref (a0 0)), (1, .int n1), (2, .int x2), (3, .int x3), (4, .int x4)] dX9_fewestBeds_101 rfl (ii_1 _) (by decide) rfl ?_
        refine g_goto (pc := 104) C (tgt := 61) dX9_fewestBeds_104 rfl ?_
        refine g_lv [2, 3, 4, 5, 6, 1, 0] rfl ?_
        exact ih x2 x3 x4 (x5 &&& ((r_v x6.toNatClampNeg) ^^^ (-1))) (x6 + 1) r_v h
set_option maxRecDepth 100000 in
set_option maxHeartbeats 4000000 in
theorem j_X9_fewestBeds_41 {J : Jt} {Z : Zt} {a0 : Nat → Nat} {a1 : Nat → Nat} {a2 : Nat → Nat} {a3 : Nat → Nat} {k_tape : Nat} {k_trial : Nat} {k_task : Nat} {k_season : Nat} {k_stuffing : Nat} {k_images : Nat} {k_sparePlan : Nat} {k_rule : Nat} {k_spareRule : Nat} {k_notes : Nat} {k_spareNotes : Nat} {x_latest : Value} {x_imageMany : Int32} {x_refusedSteps : Int32} {x_missing : Int32} {x_misused : Int32} {s_year : Int32} {s_wet : Int32} {s_lost : Int32} {s_eaten : Int32} {s_tied : Int32} {s_ripeMany : Int32} {s_gone : Nat → Int32} {s_place : Nat → Int32} {s_heard : Nat → Int32} {s_many : Nat → Int32} {s_lying : Nat → Int32} {s_ripe : Nat → Int32} {r_n : Nat} {p_beds : Int32} {p_letters : Int32} {p_readers : Int32} {p_far : Nat → Int32} {p_drain : Nat → Int32} {p_length : Nat → Int32} {p_words : Nat → Int32} {p_home : Nat → Int32} {n1 : Int32} {r : Int32} {o_r_v : Nat → Int32} (C : Cx J Z cX9_fewestBeds 7 RX9 (some .int) rm_X9_fewestBeds) (E : Ez J Z 0 0 (some (.int r)) (cs_X9 (a0 0) k_tape (a1 0) k_trial k_task k_season k_stuffing k_images (a2 0) (a3 0) k_sparePlan k_rule k_spareRule k_notes k_spareNotes x_latest x_imageMany x_refusedSteps x_missing x_misused ++ cs_X4 J.2.2.1 a1 s_year s_wet s_lost s_eaten s_tied s_ripeMany s_gone s_place s_heard s_many s_lying s_ripe ++ cs_A J.2.2.1 a2 r_n o_r_v ++ cs_X2 J.2.2.1 a3 p_beds p_letters p_readers p_far p_drain p_length p_words p_home)) : ∀ (n : Nat) (x2 : Int32) (x3 : Int32) (x4 : Int32) (r_v : Nat → Int32), f_X9_fewestBeds_41 s_many s_lying r_n p_beds n1 n x2 x3 x4 r_v = some (r, o_r_v) → G J Z 0 0 (cs_X9 (a0 0) k_tape (a1 0) k_trial k_task k_season k_stuffing k_images (a2 0) (a3 0) k_sparePlan k_rule k_spareRule k_notes k_spareNotes x_latest x_imageMany x_refusedSteps x_missing x_misused ++ cs_X4 J.2.2.1 a1 s_year s_wet s_lost s_eaten s_tied s_ripeMany s_gone s_place s_heard s_many s_lying s_ripe ++ cs_A J.2.2.1 a2 r_n r_v ++ cs_X2 J.2.2.1 a3 p_beds p_letters p_readers p_far p_drain p_length p_words p_home) 7 [(0, .ref (a0 0)), (1, .int n1), (2, .int x2), (3, .int x3), (4, .int x4)] 41 [] := by
  intro n
  induction n with
  | zero =>
    intro x2 x3 x4 r_v h
    rw [f_X9_fewestBeds_41] at h
    cases h
  | succ n ih =>
    intro x2 x3 x4 r_v h
    rw [f_X9_fewestBeds_41] at h
    refine g_iload (pc := 41) C 4 rfl dX9_fewestBeds_41 ?_
    refine g_iconst (pc := 43) C dX9_fewestBeds_43 ci_1 ?_
    refine g_aload_n (pc := 44) C 0 rfl dX9_fewestBeds_44 ?_
    refine g_get (pc := 45) C FOK_X9 0 rfl rfl 8 (by decide) kw_375 rfl dX9_fewestBeds_45 ?_
    refine g_get (pc := 48) C FOK_X2 9 rfl rfl 0 (by decide) kw_279 rfl dX9_fewestBeds_48 ?_
    refine g_ishl (pc := 51) C dX9_fewestBeds_51 ?_
    refine g_icmp_ge (pc := 52) C (tgt := 136) dX9_fewestBeds_52 rfl h (fun h => ?_) (fun h => ?_)
    · refine g_iload_n (pc := 136) C 2 rfl dX9_fewestBeds_136 ?_
      cases h
      exact g_iret C E dX9_fewestBeds_137
    · refine g_iload_n (pc := 55) C 1 rfl dX9_fewestBeds_55 ?_
      refine g_istore (pc := 56) C [(5, .int n1), (0, .ref (a0 0)), (1, .int n1), (2, .int x2), (3, .int x3), (4, .int x4)] dX9_fewestBeds_56 (by decide) rfl ?_
      refine g_iconst (pc := 58) C dX9_fewestBeds_58 ci_0 ?_
      refine g_istore (pc := 59) C [(6, .int 0), (5, .int n1), (0, .ref (a0 0)), (1, .int n1), (2, .int x2), (3, .int x3), (4, .int x4)] dX9_fewestBeds_59 (by decide) rfl ?_
      refine g_lv [2, 3, 4, 5, 6, 1, 0] rfl ?_
      exact j_X9_fewestBeds_61 C E   ih FU x2 x3 x4 n1 0 r_v h
set_option maxRecDepth 100000 in
set_option maxHeartbeats 4000000 in
theorem j_X9_fewestBeds_2 {J : Jt} {Z : Zt} {a0 : Nat → Nat} {a1 : Nat → Nat} {a2 : Nat → Nat} {a3 : Nat → Nat} {k_tape : Nat} {k_trial : Nat} {k_task : Nat} {k_season : Nat} {k_stuffing : Nat} {k_images : Nat} {k_sparePlan : Nat} {k_rule : Nat} {k_spareRule : Nat} {k_notes : Nat} {k_spareNotes : Nat} {x_latest : Value} {x_imageMany : Int32} {x_refusedSteps : Int32} {x_missing : Int32} {x_misused : Int32} {s_year : Int32} {s_wet : Int32} {s_lost : Int32} {s_eaten : Int32} {s_tied : Int32} {s_ripeMany : Int32} {s_gone : Nat → Int32} {s_place : Nat → Int32} {s_heard : Nat → Int32} {s_many : Nat → Int32} {s_lying : Nat → Int32} {s_ripe : Nat → Int32} {r_n : Nat} {p_beds : Int32} {p_letters : Int32} {p_readers : Int32} {p_far : Nat → Int32} {p_drain : Nat → Int32} {p_length : Nat → Int32} {p_words : Nat → Int32} {p_home : Nat → Int32} {n1 : Int32} {r : Int32} {o_r_v : Nat → Int32} (C : Cx J Z cX9_fewestBeds 7 RX9 (some .int) rm_X9_fewestBeds) (E : Ez J Z 0 0 (some (.int r)) (cs_X9 (a0 0) k_tape (a1 0) k_trial k_task k_season k_stuffing k_images (a2 0) (a3 0) k_sparePlan k_rule k_spareRule k_notes k_spareNotes x_latest x_imageMany x_refusedSteps x_missing x_misused ++ cs_X4 J.2.2.1 a1 s_year s_wet s_lost s_eaten s_tied s_ripeMany s_gone s_place s_heard s_many s_lying s_ripe ++ cs_A J.2.2.1 a2 r_n o_r_v ++ cs_X2 J.2.2.1 a3 p_beds p_letters p_readers p_far p_drain p_length p_words p_home)) : ∀ (n : Nat) (x2 : Int32) (r_v : Nat → Int32), f_X9_fewestBeds_2 s_many s_lying r_n p_beds n1 n x2 r_v = some (r, o_r_v) → G J Z 0 0 (cs_X9 (a0 0) k_tape (a1 0) k_trial k_task k_season k_stuffing k_images (a2 0) (a3 0) k_sparePlan k_rule k_spareRule k_notes k_spareNotes x_latest x_imageMany x_refusedSteps x_missing x_misused ++ cs_X4 J.2.2.1 a1 s_year s_wet s_lost s_eaten s_tied s_ripeMany s_gone s_place s_heard s_many s_lying s_ripe ++ cs_A J.2.2.1 a2 r_n r_v ++ cs_X2 J.2.2.1 a3 p_beds p_letters p_readers p_far p_drain p_length p_words p_home) 7 [(0, .ref (a0 0)), (1, .int n1), (2, .int x2)] 2 [] := by
  intro n
  induction n with
  | zero =>
    intro x2 r_v h
    rw [f_X9_fewestBeds_2] at h
    cases h
  | succ n ih =>
    intro x2 r_v h
    rw [f_X9_fewestBeds_2] at h
    refine g_iload_n (pc := 2) C 2 rfl dX9_fewestBeds_2 ?_
    refine g_aload_n (pc := 3) C 0 rfl dX9_fewestBeds_3 ?_
    refine g_get (pc := 4) C FOK_X9 0 rfl rfl 8 (by decide) kw_375 rfl dX9_fewestBeds_4 ?_
    refine g_get (pc := 7) C FOK_X2 9 rfl rfl 0 (by decide) kw_279 rfl dX9_fewestBeds_7 ?_
    refine g_icmp_ge (pc := 10) C (tgt := 33) dX9_fewestBeds_10 rfl h (fun h => ?_) (fun h => ?_)
    · refine g_iconst (pc := 33) C dX9_fewestBeds_33 ci_m1 ?_
      refine g_istore_n (pc := 34) C [(2, .int (-1)), (0, .ref (a0 0)), (1, .int n1)] dX9_fewestBeds_34 rfl (by decide) rfl ?_
      refine g_bipush (pc := 35) C dX9_fewestBeds_35 cb_7 ?_
      refine g_istore_n (pc := 37) C [(3, .int 7), (2, .int (-1)), (0, .ref (a0 0)), (1, .int n1)] dX9_fewestBeds_37 rfl (by decide) rfl ?_
      refine g_iconst (pc := 38) C dX9_fewestBeds_38 ci_0 ?_
      refine g_istore (pc := 39) C [(4, .int 0), (3, .int 7), (2, .int (-1)), (0, .ref (a0 0)), (1, .int n1)] dX9_fewestBeds_39 (by decide) rfl ?_
      refine g_lv [3, 4, 2, 1, 0] rfl ?_
      exact j_X9_fewestBeds_41 C E    FU (-1) 7 0 r_v h
    · refine g_aload_n (pc := 13) C 0 rfl dX9_fewestBeds_13 ?_
      refine g_get (pc := 14) C FOK_X9 0 rfl rfl 7 (by decide) kw_374 rfl dX9_fewestBeds_14 ?_
      refine g_iload_n (pc := 17) C 2 rfl dX9_fewestBeds_17 ?_
      refine g_aload_n (pc := 18) C 0 rfl dX9_fewestBeds_18 ?_
      refine g_get (pc := 19) C FOK_X9 0 rfl rfl 1 (by decide) kw_368 rfl dX9_fewestBeds_19 ?_
      refine g_iload_n (pc := 22) C 2 rfl dX9_fewestBeds_22 ?_
      obtain ⟨v4, hc, h⟩ := b1_of h
      refine g_callV (pc := 23) C (w' := cs_X9 (a0 0) k_tape (a1 0) k_trial k_task k_season k_stuffing k_images (a2 0) (a3 0) k_sparePlan k_rule k_spareRule k_notes k_spareNotes x_latest x_imageMany x_refusedSteps x_missing x_misused ++ cs_X4 J.2.2.1 a1 s_year s_wet s_lost s_eaten s_tied s_ripeMany s_gone s_place s_heard s_many s_lying s_ripe ++ cs_A J.2.2.1 a2 r_n r_v ++ cs_X2 J.2.2.1 a3 p_beds p_letters p_readers p_far p_drain p_length p_words p_home) (As := [.int x2]) (st := [.int x2, .ref (a2 0)]) (ci := 4) (q0 := 1) rfl rfl (t_X4_wordsIn (a0 := a1) hc) (Sub.gen [1, 2, 3, 4, 5, 6, 7] [0, 8, 9, 10, 11, 12, 13, 14] [0, 8, 9, 10, 11, 12, 13, 14, 1, 2, 3, 4, 5, 6, 7] rfl (by decide) rfl (by decide) (by decide) rfl (by decide)) kw_993 kw_870 kw_871 kw_88 hy_X4_wordsIn kw_872 rfl (Nat.le_of_ble_eq_true rfl) (Nat.le_of_ble_eq_true rfl) (Nat.le_of_ble_eq_true rfl) (Nat.le_of_ble_eq_true rfl) (Nat.le_of_ble_eq_true rfl) dX9_fewestBeds_23 ?_
      obtain ⟨hi, h⟩ := ix_of h
      refine g_iast (pc := 26) C (w' := cs_X9 (a0 0) k_tape (a1 0) k_trial k_task k_season k_stuffing k_images (a2 0) (a3 0) k_sparePlan k_rule k_spareRule k_notes k_spareNotes x_latest x_imageMany x_refusedSteps x_missing x_misused ++ cs_X4 J.2.2.1 a1 s_year s_wet s_lost s_eaten s_tied s_ripeMany s_gone s_place s_heard s_many s_lying s_ripe ++ cs_A J.2.2.1 a2 r_n (upd r_v x2.toNatClampNeg v4) ++ cs_X2 J.2.2.1 a3 p_beds p_letters p_readers p_far p_drain p_length p_words p_home) 8 rfl hi dX9_fewestBeds_26 rfl ?_
      refine g_iinc (pc := 27) C (j := 2) [(2, .int (x2 + 1)), (0, .ref (a0 0)), (1, .int n1)] dX9_fewestBeds_27 rfl (ii_1 _) (by decide) rfl ?_
      refine g_goto (pc := 30) C (tgt := 2) dX9_fewestBeds_30 rfl ?_
      refine g_lv [1, 2, 0] rfl ?_
      exact ih (x2 + 1) (upd r_v x2.toNatClampNeg v4) h
set_option maxRecDepth 100000 in
set_option maxHeartbeats 4000000 in
theorem t_X9_fewestBeds {J : Jt} {a0 : Nat → Nat} {a1 : Nat → Nat} {a2 : Nat → Nat} {a3 : Nat → Nat} {k_tape : Nat} {k_trial : Nat} {k_task : Nat} {k_season : Nat} {k_stuffing : Nat} {k_images : Nat} {k_sparePlan : Nat} {k_rule : Nat} {k_spareRule : Nat} {k_notes : Nat} {k_spareNotes : Nat} {x_latest : Value} {x_imageMany : Int32} {x_refusedSteps : Int32} {x_missing : Int32} {x_misused : Int32} {s_year : Int32} {s_wet : Int32} {s_lost : Int32} {s_eaten : Int32} {s_tied : Int32} {s_ripeMany : Int32} {s_gone : Nat → Int32} {s_place : Nat → Int32} {s_heard : Nat → Int32} {s_many : Nat → Int32} {s_lying : Nat → Int32} {s_ripe : Nat → Int32} {r_n : Nat} {r_v : Nat → Int32} {p_beds : Int32} {p_letters : Int32} {p_readers : Int32} {p_far : Nat → Int32} {p_drain : Nat → Int32} {p_length : Nat → Int32} {p_words : Nat → Int32} {p_home : Nat → Int32} {n1 : Int32} {r : Int32} {o_r_v : Nat → Int32} (h : f_X9_fewestBeds s_many s_lying r_n r_v p_beds n1 = some (r, o_r_v)) : Mt J yX9_fewestBeds cX9_fewestBeds 7 (some .int) rm_X9_fewestBeds [.ref (a0 0), .int n1] (cs_X9 (a0 0) k_tape (a1 0) k_trial k_task k_season k_stuffing k_images (a2 0) (a3 0) k_sparePlan k_rule k_spareRule k_notes k_spareNotes x_latest x_imageMany x_refusedSteps x_missing x_misused ++ cs_X4 J.2.2.1 a1 s_year s_wet s_lost s_eaten s_tied s_ripeMany s_gone s_place s_heard s_many s_lying s_ripe ++ cs_A J.2.2.1 a2 r_n r_v ++ cs_X2 J.2.2.1 a3 p_beds p_letters p_readers p_far p_drain p_length p_words p_home) (some (.int r)) (cs_X9 (a0 0) k_tape (a1 0) k_trial k_task k_season k_stuffing k_images (a2 0) (a3 0) k_sparePlan k_rule k_spareRule k_notes k_spareNotes x_latest x_imageMany x_refusedSteps x_missing x_misused ++ cs_X4 J.2.2.1 a1 s_year s_wet s_lost s_eaten s_tied s_ripeMany s_gone s_place s_heard s_many s_lying s_ripe ++ cs_A J.2.2.1 a2 r_n o_r_v ++ cs_X2 J.2.2.1 a3 p_beds p_letters p_readers p_far p_drain p_length p_words p_home) := by
  refine Mt_of (own := RX9) (by decide) rfl (Nat.le_of_ble_eq_true rfl) rfl (fun Z C E => ?_)
  unfold f_X9_fewestBeds at h
  show G J Z 0 0 (cs_X9 (a0 0) k_tape (a1 0) k_trial k_task k_season k_stuffing k_images (a2 0) (a3 0) k_sparePlan k_rule k_spareRule k_notes k_spareNotes x_latest x_imageMany x_refusedSteps x_missing x_misused ++ cs_X4 J.2.2.1 a1 s_year s_wet s_lost s_eaten s_tied s_ripeMany s_gone s_place s_heard s_many s_lying s_ripe ++ cs_A J.2.2.1 a2 r_n r_v ++ cs_X2 J.2.2.1 a3 p_beds p_letters p_readers p_far p_drain p_length p_words p_home) 7 [(0, .ref (a0 0)), (1, .int n1)] 0 []
  refine g_iconst (pc := 0) C dX9_fewestBeds_0 ci_0 ?_
  refine g_istore_n (pc := 1) C [(2, .int 0), (0, .ref (a0 0)), (1, .int n1)] dX9_fewestBeds_1 rfl (by decide) rfl ?_
  refine g_lv [1, 2, 0] rfl ?_
  exact j_X9_fewestBeds_2 C E    FU 0 r_v h
noncomputable def f_X9_all (x_misused : Int32) (s_many : Nat → Int32) (s_lying : Nat → Int32) (r_n : Nat) (r_v : Nat → Int32) (p_beds : Int32) (n1 : Int32) : Option (Nat × Int32 × Int32 × (Nat → Int32)) := b2 (f_X9_needRange x_misused n1 0 65535) (fun e1 c2 => if e1 = 0 then b2 (f_X9_fewestBeds s_many s_lying r_n r_v p_beds n1) (fun v3 c4 => some (0, v3, c2, c4)) else some (e1, 0, c2, r_v))
def rm_X9_all : Room := { frames := 10, cells := 1, slots := 6, locals := 143 }
set_option maxRecDepth 100000 in
set_option maxHeartbeats 4000000 in
theorem t_X9_all {J : Jt} {a0 : Nat → Nat} {a1 : Nat → Nat} {a2 : Nat → Nat} {a3 : Nat → Nat} {k_tape : Nat} {k_trial : Nat} {k_task : Nat} {k_season : Nat} {k_stuffing : Nat} {k_images : Nat} {k_sparePlan : Nat} {k_rule : Nat} {k_spareRule : Nat} {k_notes : Nat} {k_spareNotes : Nat} {x_latest : Value} {x_imageMany : Int32} {x_refusedSteps : Int32} {x_missing : Int32} {x_misused : Int32} {s_year : Int32} {s_wet : Int32} {s_lost : Int32} {s_eaten : Int32} {s_tied : Int32} {s_ripeMany : Int32} {s_gone : Nat → Int32} {s_place : Nat → Int32} {s_heard : Nat → Int32} {s_many : Nat → Int32} {s_lying : Nat → Int32} {s_ripe : Nat → Int32} {r_n : Nat} {r_v : Nat → Int32} {p_beds : Int32} {p_letters : Int32} {p_readers : Int32} {p_far : Nat → Int32} {p_drain : Nat → Int32} {p_length : Nat → Int32} {p_words : Nat → Int32} {p_home : Nat → Int32} {n1 : Int32} {ex : Nat} {r : Int32} {o_x_misused : Int32} {o_r_v : Nat → Int32} (hJ : J.1.stackTraces = false) (h : f_X9_all x_misused s_many s_lying r_n r_v p_beds n1 = some (ex, r, o_x_misused, o_r_v)) : MtX J yX9_all cX9_all 2 (some .int) rm_X9_all [.ref (a0 0), .int n1] (cs_X9 (a0 0) k_tape (a1 0) k_trial k_task k_season k_stuffing k_images (a2 0) (a3 0) k_sparePlan k_rule k_spareRule k_notes k_spareNotes x_latest x_imageMany x_refusedSteps x_missing x_misused ++ cs_X4 J.2.2.1 a1 s_year s_wet s_lost s_eaten s_tied s_ripeMany s_gone s_place s_heard s_many s_lying s_ripe ++ cs_A J.2.2.1 a2 r_n r_v ++ cs_X2 J.2.2.1 a3 p_beds p_letters p_readers p_far p_drain p_length p_words p_home) ex (some (.int r)) (fun _ : Unit => cs_X9 (a0 0) k_tape (a1 0) k_trial k_task k_season k_stuffing k_images (a2 0) (a3 0) k_sparePlan k_rule k_spareRule k_notes k_spareNotes x_latest x_imageMany x_refusedSteps x_missing o_x_misused ++ cs_X4 J.2.2.1 a1 s_year s_wet s_lost s_eaten s_tied s_ripeMany s_gone s_place s_heard s_many s_lying s_ripe ++ cs_A J.2.2.1 a2 r_n o_r_v ++ cs_X2 J.2.2.1 a3 p_beds p_letters p_readers p_far p_drain p_length p_words p_home) := by
  refine MtX_of (own := RX9) (by decide) rfl (Nat.le_of_ble_eq_true rfl) rfl (fun Z C E => ?_)
  unfold f_X9_all at h
  show G J Z 0 0 (cs_X9 (a0 0) k_tape (a1 0) k_trial k_task k_season k_stuffing k_images (a2 0) (a3 0) k_sparePlan k_rule k_spareRule k_notes k_spareNotes x_latest x_imageMany x_refusedSteps x_missing x_misused ++ cs_X4 J.2.2.1 a1 s_year s_wet s_lost s_eaten s_tied s_ripeMany s_gone s_place s_heard s_many s_lying s_ripe ++ cs_A J.2.2.1 a2 r_n r_v ++ cs_X2 J.2.2.1 a3 p_beds p_letters p_readers p_far p_drain p_length p_words p_home) 2 [(0, .ref (a0 0)), (1, .int n1)] 0 []
  refine g_aload_n (pc := 0) C 0 rfl dX9_all_0 ?_
  refine g_iload_n (pc := 1) C 1 rfl dX9_all_1 ?_
  refine g_iconst (pc := 2) C dX9_all_2 ci_0 ?_
  refine g_ldcw (pc := 3) C dX9_all_3 kw_1072 ?_
  obtain ⟨e1, c2, hc, h⟩ := b2_of h
  refine g_xcallU (pc := 6) C (w' := cs_X9 (a0 0) k_tape (a1 0) k_trial k_task k_season k_stuffing k_images (a2 0) (a3 0) k_sparePlan k_rule k_spareRule k_notes k_spareNotes x_latest x_imageMany x_refusedSteps x_missing c2 ++ cs_X4 J.2.2.1 a1 s_year s_wet s_lost s_eaten s_tied s_ripeMany s_gone s_place s_heard s_many s_lying s_ripe ++ cs_A J.2.2.1 a2 r_n r_v ++ cs_X2 J.2.2.1 a3 p_beds p_letters p_readers p_far p_drain p_length p_words p_home) (As := [.int n1, .int 0, .int 65535]) (st := []) (ci := 9) (q0 := 0) rfl rfl (t_X9_needRange (k_tape := k_tape) (k_now := (a1 0)) (k_trial := k_trial) (k_task := k_task) (k_season := k_season) (k_stuffing := k_stuffing) (k_images := k_images) (k_row := (a2 0)) (k_plan := (a3 0)) (k_sparePlan := k_sparePlan) (k_rule := k_rule) (k_spareRule := k_spareRule) (k_notes := k_notes) (k_spareNotes := k_spareNotes) (a0 := a0) hJ hc) (Sub.gen [0] [1, 2, 3, 4, 5, 6, 7, 8, 9, 10, 11, 12, 13, 14] [14, 0, 1, 2, 3, 4, 5, 6, 7, 8, 9, 10, 11, 12, 13] rfl (by decide) rfl (by decide) (by decide) rfl (by decide)) kw_545 kw_547 kw_2 kw_86 hy_X9_needRange kw_548 rfl (Nat.le_of_ble_eq_true rfl) (Nat.le_of_ble_eq_true rfl) (Nat.le_of_ble_eq_true rfl) (Nat.le_of_ble_eq_true rfl) (Nat.le_of_ble_eq_true rfl) dX9_all_6 (fun he => ?_) (fun he => ?_)
  · subst he
    rw [if_pos rfl] at h
    refine g_wid (n' := 1) (k' := 6) (Nat.le_of_ble_eq_true rfl) (Nat.le_of_ble_eq_true rfl) ?_
    refine g_aload_n (pc := 9) C 0 rfl dX9_all_9 ?_
    refine g_iload_n (pc := 10) C 1 rfl dX9_all_10 ?_
    obtain ⟨v3, c4, hc, h⟩ := b2_of h
    refine g_callV (pc := 11) C (w' := cs_X9 (a0 0) k_tape (a1 0) k_trial k_task k_season k_stuffing k_images (a2 0) (a3 0) k_sparePlan k_rule k_spareRule k_notes k_spareNotes x_latest x_imageMany x_refusedSteps x_missing c2 ++ cs_X4 J.2.2.1 a1 s_year s_wet s_lost s_eaten s_tied s_ripeMany s_gone s_place s_heard s_many s_lying s_ripe ++ cs_A J.2.2.1 a2 r_n c4 ++ cs_X2 J.2.2.1 a3 p_beds p_letters p_readers p_far p_drain p_length p_words p_home) (As := [.int n1]) (st := []) (ci := 9) (q0 := 0) rfl rfl (t_X9_fewestBeds (k_tape := k_tape) (k_trial := k_trial) (k_task := k_task) (k_season := k_season) (k_stuffing := k_stuffing) (k_images := k_images) (k_sparePlan := k_sparePlan) (k_rule := k_rule) (k_spareRule := k_spareRule) (k_notes := k_notes) (k_spareNotes := k_spareNotes) (a0 := a0) (a1 := a1) (a2 := a2) (a3 := a3) hc) Sub.same kw_1073 kw_1075 kw_14 kw_86 hy_X9_fewestBeds kw_1076 rfl (Nat.le_of_ble_eq_true rfl) (Nat.le_of_ble_eq_true rfl) (Nat.le_of_ble_eq_true rfl) (Nat.le_of_ble_eq_true rfl) (Nat.le_of_ble_eq_true rfl) dX9_all_11 ?_
    cases h
    exact g_iretX C E () rfl dX9_all_14
  · rw [if_neg he] at h
    cases h
    exact gt_out C he E (Nat.le_of_ble_eq_true rfl) (Nat.le_of_ble_eq_true rfl) () rfl
noncomputable def f_X9_tour (x_missing : Int32) (s_heard : Nat → Int32) (s_many : Nat → Int32) (s_lying : Nat → Int32) (r_n : Nat) (r_v : Nat → Int32) (p_beds : Int32) (p_readers : Int32) (n1 : Int32) : Option (Nat × Int32 × Int32 × (Nat → Int32)) := b2 (f_X9_needOneOf x_missing n1 p_readers) (fun e1 c2 => if e1 = 0 then b1 (f_X4_wordsInAll s_many s_lying p_beds) (fun v3 => if ixb n1 5 then b2 (f_X9_fewestBeds s_many s_lying r_n r_v p_beds (v3 &&& ((s_heard n1.toNatClampNeg) ^^^ (-1)))) (fun v4 c5 => some (0, v4, c2, c5)) else none) else some (e1, 0, c2, r_v))
def rm_X9_tour : Room := { frames := 10, cells := 1, slots := 6, locals := 142 }
set_option maxRecDepth 100000 in
set_option maxHeartbeats 4000000 in
theorem t_X9_tour {J : Jt} {a0 : Nat → Nat} {a1 : Nat → Nat} {a2 : Nat → Nat} {a3 : Nat → Nat} {k_tape : Nat} {k_trial : Nat} {k_task : Nat} {k_season : Nat} {k_stuffing : Nat} {k_images : Nat} {k_sparePlan : Nat} {k_rule : Nat} {k_spareRule : Nat} {k_notes : Nat} {k_spareNotes : Nat} {x_latest : Value} {x_imageMany : Int32} {x_refusedSteps : Int32} {x_missing : Int32} {x_misused : Int32} {s_year : Int32} {s_wet : Int32} {s_lost : Int32} {s_eaten : Int32} {s_tied : Int32} {s_ripeMany : Int32} {s_gone : Nat → Int32} {s_place : Nat → Int32} {s_heard : Nat → Int32} {s_many : Nat → Int32} {s_lying : Nat → Int32} {s_ripe : Nat → Int32} {r_n : Nat} {r_v : Nat → Int32} {p_beds : Int32} {p_letters : Int32} {p_readers : Int32} {p_far : Nat → Int32} {p_drain : Nat → Int32} {p_length : Nat → Int32} {p_words : Nat → Int32} {p_home : Nat → Int32} {n1 : Int32} {ex : Nat} {r : Int32} {o_x_missing : Int32} {o_r_v : Nat → Int32} (hJ : J.1.stackTraces = false) (h : f_X9_tour x_missing s_heard s_many s_lying r_n r_v p_beds p_readers n1 = some (ex, r, o_x_missing, o_r_v)) : MtX J yX9_tour cX9_tour 2 (some .int) rm_X9_tour [.ref (a0 0), .int n1] (cs_X9 (a0 0) k_tape (a1 0) k_trial k_task k_season k_stuffing k_images (a2 0) (a3 0) k_sparePlan k_rule k_spareRule k_notes k_spareNotes x_latest x_imageMany x_refusedSteps x_missing x_misused ++ cs_X4 J.2.2.1 a1 s_year s_wet s_lost s_eaten s_tied s_ripeMany s_gone s_place s_heard s_many s_lying s_ripe ++ cs_A J.2.2.1 a2 r_n r_v ++ cs_X2 J.2.2.1 a3 p_beds p_letters p_readers p_far p_drain p_length p_words p_home) ex (some (.int r)) (fun _ : Unit => cs_X9 (a0 0) k_tape (a1 0) k_trial k_task k_season k_stuffing k_images (a2 0) (a3 0) k_sparePlan k_rule k_spareRule k_notes k_spareNotes x_latest x_imageMany x_refusedSteps o_x_missing x_misused ++ cs_X4 J.2.2.1 a1 s_year s_wet s_lost s_eaten s_tied s_ripeMany s_gone s_place s_heard s_many s_lying s_ripe ++ cs_A J.2.2.1 a2 r_n o_r_v ++ cs_X2 J.2.2.1 a3 p_beds p_letters p_readers p_far p_drain p_length p_words p_home) := by
  refine MtX_of (own := RX9) (by decide) rfl (Nat.le_of_ble_eq_true rfl) rfl (fun Z C E => ?_)
  unfold f_X9_tour at h
  show G J Z 0 0 (cs_X9 (a0 0) k_tape (a1 0) k_trial k_task k_season k_stuffing k_images (a2 0) (a3 0) k_sparePlan k_rule k_spareRule k_notes k_spareNotes x_latest x_imageMany x_refusedSteps x_missing x_misused ++ cs_X4 J.2.2.1 a1 s_year s_wet s_lost s_eaten s_tied s_ripeMany s_gone s_place s_heard s_many s_lying s_ripe ++ cs_A J.2.2.1 a2 r_n r_v ++ cs_X2 J.2.2.1 a3 p_beds p_letters p_readers p_far p_drain p_length p_words p_home) 2 [(0, .ref (a0 0)), (1, .int n1)] 0 []
  refine g_aload_n (pc := 0) C 0 rfl dX9_tour_0 ?_
  refine g_iload_n (pc := 1) C 1 rfl dX9_tour_1 ?_
  refine g_aload_n (pc := 2) C 0 rfl dX9_tour_2 ?_
  refine g_get (pc := 3) C FOK_X9 0 rfl rfl 8 (by decide) kw_375 rfl dX9_tour_3 ?_
  refine g_get (pc := 6) C FOK_X2 9 rfl rfl 2 (by decide) kw_289 rfl dX9_tour_6 ?_
  obtain ⟨e1, c2, hc, h⟩ := b2_of h
  refine g_xcallU (pc := 9) C (w' := cs_X9 (a0 0) k_tape (a1 0) k_trial k_task k_season k_stuffing k_images (a2 0) (a3 0) k_sparePlan k_rule k_spareRule k_notes k_spareNotes x_latest x_imageMany x_refusedSteps c2 x_misused ++ cs_X4 J.2.2.1 a1 s_year s_wet s_lost s_eaten s_tied s_ripeMany s_gone s_place s_heard s_many s_lying s_ripe ++ cs_A J.2.2.1 a2 r_n r_v ++ cs_X2 J.2.2.1 a3 p_beds p_letters p_readers p_far p_drain p_length p_words p_home) (As := [.int n1, .int p_readers]) (st := []) (ci := 9) (q0 := 0) rfl rfl (t_X9_needOneOf (k_tape := k_tape) (k_now := (a1 0)) (k_trial := k_trial) (k_task := k_task) (k_season := k_season) (k_stuffing := k_stuffing) (k_images := k_images) (k_row := (a2 0)) (k_plan := (a3 0)) (k_sparePlan := k_sparePlan) (k_rule := k_rule) (k_spareRule := k_spareRule) (k_notes := k_notes) (k_spareNotes := k_spareNotes) (a0 := a0) hJ hc) (Sub.gen [0] [1, 2, 3, 4, 5, 6, 7, 8, 9, 10, 11, 12, 13, 14] [14, 0, 1, 2, 3, 4, 5, 6, 7, 8, 9, 10, 11, 12, 13] rfl (by decide) rfl (by decide) (by decide) rfl (by decide)) kw_956 kw_958 kw_12 kw_86 hy_X9_needOneOf kw_959 rfl (Nat.le_of_ble_eq_true rfl) (Nat.le_of_ble_eq_true rfl) (Nat.le_of_ble_eq_true rfl) (Nat.le_of_ble_eq_true rfl) (Nat.le_of_ble_eq_true rfl) dX9_tour_9 (fun he => ?_) (fun he => ?_)
  · subst he
    rw [if_pos rfl] at h
    refine g_wid (n' := 1) (k' := 6) (Nat.le_of_ble_eq_true rfl) (Nat.le_of_ble_eq_true rfl) ?_
    refine g_aload_n (pc := 12) C 0 rfl dX9_tour_12 ?_
    refine g_aload_n (pc := 13) C 0 rfl dX9_tour_13 ?_
    refine g_get (pc := 14) C FOK_X9 0 rfl rfl 1 (by decide) kw_368 rfl dX9_tour_14 ?_
    refine g_aload_n (pc := 17) C 0 rfl dX9_tour_17 ?_
    refine g_get (pc := 18) C FOK_X9 0 rfl rfl 8 (by decide) kw_375 rfl dX9_tour_18 ?_
    obtain ⟨v3, hc, h⟩ := b1_of h
    refine g_callV (pc := 21) C (w' := cs_X9 (a0 0) k_tape (a1 0) k_trial k_task k_season k_stuffing k_images (a2 0) (a3 0) k_sparePlan k_rule k_spareRule k_notes k_spareNotes x_latest x_imageMany x_refusedSteps c2 x_misused ++ cs_X4 J.2.2.1 a1 s_year s_wet s_lost s_eaten s_tied s_ripeMany s_gone s_place s_heard s_many s_lying s_ripe ++ cs_A J.2.2.1 a2 r_n r_v ++ cs_X2 J.2.2.1 a3 p_beds p_letters p_readers p_far p_drain p_length p_words p_home) (As := [.ref (a3 0)]) (st := [.ref (a0 0)]) (ci := 4) (q0 := 1) rfl rfl (t_X4_wordsInAll (a0 := a1) (a1 := a3) hc) (Sub.gen [1, 2, 3, 4, 5, 6, 7, 9, 10, 11, 12, 13, 14] [0, 8] [0, 2, 3, 4, 5, 6, 7, 8, 1, 9, 10, 11, 12, 13, 14] rfl (by decide) rfl (by decide) (by decide) rfl (by decide)) kw_1090 kw_1091 kw_1092 kw_88 hy_X4_wordsInAll kw_1093 rfl (Nat.le_of_ble_eq_true rfl) (Nat.le_of_ble_eq_true rfl) (Nat.le_of_ble_eq_true rfl) (Nat.le_of_ble_eq_true rfl) (Nat.le_of_ble_eq_true rfl) dX9_tour_21 ?_
    refine g_aload_n (pc := 24) C 0 rfl dX9_tour_24 ?_
    refine g_get (pc := 25) C FOK_X9 0 rfl rfl 1 (by decide) kw_368 rfl dX9_tour_25 ?_
    refine g_get (pc := 28) C FOK_X4 1 rfl rfl 8 (by decide) kw_171 rfl dX9_tour_28 ?_
    refine g_iload_n (pc := 31) C 1 rfl dX9_tour_31 ?_
    obtain ⟨hi, h⟩ := ix_of h
    refine g_iald (pc := 32) C 4 rfl hi dX9_tour_32 ?_
    refine g_iconst (pc := 33) C dX9_tour_33 ci_m1 ?_
    refine g_ixor (pc := 34) C dX9_tour_34 ?_
    refine g_iand (pc := 35) C dX9_tour_35 ?_
    obtain ⟨v4, c5, hc, h⟩ := b2_of h
    refine g_callV (pc := 36) C (w' := cs_X9 (a0 0) k_tape (a1 0) k_trial k_task k_season k_stuffing k_images (a2 0) (a3 0) k_sparePlan k_rule k_spareRule k_notes k_spareNotes x_latest x_imageMany x_refusedSteps c2 x_misused ++ cs_X4 J.2.2.1 a1 s_year s_wet s_lost s_eaten s_tied s_ripeMany s_gone s_place s_heard s_many s_lying s_ripe ++ cs_A J.2.2.1 a2 r_n c5 ++ cs_X2 J.2.2.1 a3 p_beds p_letters p_readers p_far p_drain p_length p_words p_home) (As := [.int (v3 &&& ((s_heard n1.toNatClampNeg) ^^^ (-1)))]) (st := []) (ci := 9) (q0 := 0) rfl rfl (t_X9_fewestBeds (k_tape := k_tape) (k_trial := k_trial) (k_task := k_task) (k_season := k_season) (k_stuffing := k_stuffing) (k_images := k_images) (k_sparePlan := k_sparePlan) (k_rule := k_rule) (k_spareRule := k_spareRule) (k_notes := k_notes) (k_spareNotes := k_spareNotes) (a0 := a0) (a1 := a1) (a2 := a2) (a3 := a3) hc) Sub.same kw_1073 kw_1075 kw_14 kw_86 hy_X9_fewestBeds kw_1076 rfl (Nat.le_of_ble_eq_true rfl) (Nat.le_of_ble_eq_true rfl) (Nat.le_of_ble_eq_true rfl) (Nat.le_of_ble_eq_true rfl) (Nat.le_of_ble_eq_true rfl) dX9_tour_36 ?_
    cases h
    exact g_iretX C E () rfl dX9_tour_39
  · rw [if_neg he] at h
    cases h
    exact gt_out C he E (Nat.le_of_ble_eq_true rfl) (Nat.le_of_ble_eq_true rfl) () rfl
noncomputable def f_X9_fits_29  (s_gone : Nat → Int32) (s_many : Nat → Int32) (s_lying : Nat → Int32) (p_beds : Int32) (p_letters : Int32) (p_drain : Nat → Int32) (p_length : Nat → Int32) (p_words : Nat → Int32) (b_last : Nat → Int32) (n1 : Int32) (k14 : Int32 → Int32 → Int32 → Int32 → Option (Nat × Int32 × Int32)) : Nat → Int32 → Int32 → Int32 → Int32 → Int32 → Option (Nat × Int32 × Int32)
  | 0, _, _, _, _, _ => none
  | n + 1, x2, x3, x4, x5, x_misused => if 9 < x5 then k14 x2 x3 (x4 + 1) x_misused else b1 (f_X0_isRight b_last s_gone s_many s_lying p_beds p_drain p_length p_words x4 x5) (fun v1 => if v1 = 0 then f_X9_fits_29 s_gone s_many s_lying p_beds p_letters p_drain p_length p_words b_last n1 k14 n x2 x3 x4 (x5 + 1) x_misused else if x3 = (-1) then f_X9_fits_29 s_gone s_many s_lying p_beds p_letters p_drain p_length p_words b_last n1 k14 n (x2 + 1) ((10 * x4) + x5) x4 (x5 + 1) x_misused else f_X9_fits_29 s_gone s_many s_lying p_beds p_letters p_drain p_length p_words b_last n1 k14 n (x2 + 1) x3 x4 (x5 + 1) x_misused)
noncomputable def f_X9_fits_14  (s_gone : Nat → Int32) (s_many : Nat → Int32) (s_lying : Nat → Int32) (p_beds : Int32) (p_letters : Int32) (p_drain : Nat → Int32) (p_length : Nat → Int32) (p_words : Nat → Int32) (b_last : Nat → Int32) (n1 : Int32) : Nat → Int32 → Int32 → Int32 → Int32 → Option (Nat × Int32 × Int32)
  | 0, _, _, _, _ => none
  | n + 1, x2, x3, x4, x_misused => if p_letters ≤ x4 then if n1 = 0 then some (0, x2, x_misused) else some (0, x3, x_misused) else f_X9_fits_29 s_gone s_many s_lying p_beds p_letters p_drain p_length p_words b_last n1 (f_X9_fits_14 s_gone s_many s_lying p_beds p_letters p_drain p_length p_words b_last n1 n) FU x2 x3 x4 1 x_misused
noncomputable def f_X9_fits (x_misused : Int32) (s_gone : Nat → Int32) (s_many : Nat → Int32) (s_lying : Nat → Int32) (p_beds : Int32) (p_letters : Int32) (p_drain : Nat → Int32) (p_length : Nat → Int32) (p_words : Nat → Int32) (b_last : Nat → Int32) (n1 : Int32) : Option (Nat × Int32 × Int32) := b2 (f_X9_needRange x_misused n1 0 1) (fun e2 c3 => if e2 = 0 then f_X9_fits_14 s_gone s_many s_lying p_beds p_letters p_drain p_length p_words b_last n1 FU 0 (-1) 0 c3 else some (e2, 0, c3))
def rm_X9_fits : Room := { frames := 10, cells := 1, slots := 6, locals := 143 }
set_option maxRecDepth 100000 in
set_option maxHeartbeats 4000000 in
theorem j_X9_fits_29 {J : Jt} {Z : Zt} {a0 : Nat → Nat} {a1 : Nat → Nat} {a2 : Nat → Nat} {a3 : Nat → Nat} {k_tape : Nat} {k_trial : Nat} {k_task : Nat} {k_season : Nat} {k_stuffing : Nat} {k_images : Nat} {k_row : Nat} {k_sparePlan : Nat} {k_rule : Nat} {k_spareRule : Nat} {k_spareNotes : Nat} {x_latest : Value} {x_imageMany : Int32} {x_refusedSteps : Int32} {x_missing : Int32} {s_year : Int32} {s_wet : Int32} {s_lost : Int32} {s_eaten : Int32} {s_tied : Int32} {s_ripeMany : Int32} {s_gone : Nat → Int32} {s_place : Nat → Int32} {s_heard : Nat → Int32} {s_many : Nat → Int32} {s_lying : Nat → Int32} {s_ripe : Nat → Int32} {p_beds : Int32} {p_letters : Int32} {p_readers : Int32} {p_far : Nat → Int32} {p_drain : Nat → Int32} {p_length : Nat → Int32} {p_words : Nat → Int32} {p_home : Nat → Int32} {b_last : Nat → Int32} {b_lines : Int32} {n1 : Int32} {ex : Nat} {r : Int32} {o_x_misused : Int32} {k14 : Int32 → Int32 → Int32 → Int32 → Option (Nat × Int32 × Int32)} (C : Cx J Z cX9_fits 6 RX9 (some .int) rm_X9_fits) (hJ : J.1.stackTraces = false) (E : EzX J Z 1 6 ex (some (.int r)) (fun _ : Unit => cs_X9 (a0 0) k_tape (a1 0) k_trial k_task k_season k_stuffing k_images k_row (a2 0) k_sparePlan k_rule k_spareRule (a3 0) k_spareNotes x_latest x_imageMany x_refusedSteps x_missing o_x_misused ++ cs_X4 J.2.2.1 a1 s_year s_wet s_lost s_eaten s_tied s_ripeMany s_gone s_place s_heard s_many s_lying s_ripe ++ cs_X2 J.2.2.1 a2 p_beds p_letters p_readers p_far p_drain p_length p_words p_home ++ cs_X0 J.2.2.1 a3 b_last b_lines)) (hk14 : ∀ (x2 : Int32) (x3 : Int32) (x4 : Int32) (x_misused : Int32), k14 x2 x3 x4 x_misused = some (ex, r, o_x_misused) → G J Z 1 6 (cs_X9 (a0 0) k_tape (a1 0) k_trial k_task k_season k_stuffing k_images k_row (a2 0) k_sparePlan k_rule k_spareRule (a3 0) k_spareNotes x_latest x_imageMany x_refusedSteps x_missing x_misused ++ cs_X4 J.2.2.1 a1 s_year s_wet s_lost s_eaten s_tied s_ripeMany s_gone s_place s_heard s_many s_lying s_ripe ++ cs_X2 J.2.2.1 a2 p_beds p_letters p_readers p_far p_drain p_length p_words p_home ++ cs_X0 J.2.2.1 a3 b_last b_lines) 6 [(0, .ref (a0 0)), (1, .int n1), (2, .int x2), (3, .int x3), (4, .int x4)] 14 []) : ∀ (n : Nat) (x2 : Int32) (x3 : Int32) (x4 : Int32) (x5 : Int32) (x_misused : Int32), f_X9_fits_29 s_gone s_many s_lying p_beds p_letters p_drain p_length p_words b_last n1 k14 n x2 x3 x4 x5 x_misused = some (ex, r, o_x_misused) → G J Z 1 6 (cs_X9 (a0 0) k_tape (a1 0) k_trial k_task k_season k_stuffing k_images k_row (a2 0) k_sparePlan k_rule k_spareRule (a3 0) k_spareNotes x_latest x_imageMany x_refusedSteps x_missing x_misused ++ cs_X4 J.2.2.1 a1 s_year s_wet s_lost s_eaten s_tied s_ripeMany s_gone s_place s_heard s_many s_lying s_ripe ++ cs_X2 J.2.2.1 a2 p_beds p_letters p_readers p_far p_drain p_length p_words p_home ++ cs_X0 J.2.2.1 a3 b_last b_lines) 6 [(0, .ref (a0 0)), (1, .int n1), (2, .int x2), (3, .int x3), (4, .int x4), (5, .int x5)] 29 [] := by
  intro n
  induction n with
  | zero =>
    intro x2 x3 x4 x5 x_misused h
    rw [f_X9_fits_29] at h
    cases h
  | succ n ih =>
    intro x2 x3 x4 x5 x_misused h
    rw [f_X9_fits_29] at h
    refine g_iload (pc := 29) C 5 rfl dX9_fits_29 ?_
    refine g_bipush (pc := 31) C dX9_fits_31 cb_9 ?_
    refine g_icmp_gt (pc := 33) C (tgt := 85) dX9_fits_33 rfl h (fun h => ?_) (fun h => ?_)
    · refine g_iinc (pc := 85) C (j := 4) [(4, .int (x4 + 1)), (0, .ref (a0 0)), (1, .int n1), (2, .int x2), (3, .int x3), (5, .int x5)] dX9_fits_85 rfl (ii_1 _) (by decide) rfl ?_
      refine g_goto (pc := 88) C (tgt := 14) dX9_fits_88 rfl ?_
      refine g_lv [1, 2, 3, 4, 0] rfl ?_
      exact hk14 x2 x3 (x4 + 1) x_misused h
    · refine g_aload_n (pc := 36) C 0 rfl dX9_fits_36 ?_
      refine g_get (pc := 37) C FOK_X9 0 rfl rfl 12 (by decide) kw_379 rfl dX9_fits_37 ?_
      refine g_aload_n (pc := 40) C 0 rfl dX9_fits_40 ?_
      refine g_get (pc := 41) C FOK_X9 0 rfl rfl 1 (by decide) kw_368 rfl dX9_fits_41 ?_
      refine g_aload_n (pc := 44) C 0 rfl dX9_fits_44 ?_
      refine g_get (pc := 45) C FOK_X9 0 rfl rfl 8 (by decide) kw_375 rfl dX9_fits_45 ?_
      refine g_iload (pc := 48) C 4 rfl dX9_fits_48 ?_
      refine g_iload (pc := 50) C 5 rfl dX9_fits_50 ?_
      obtain ⟨v1, hc, h⟩ := b1_of h
      refine g_callV (pc := 52) C (w' := cs_X9 (a0 0) k_tape (a1 0) k_trial k_task k_season k_stuffing k_images k_row (a2 0) k_sparePlan k_rule k_spareRule (a3 0) k_spareNotes x_latest x_imageMany x_refusedSteps x_missing x_misused ++ cs_X4 J.2.2.1 a1 s_year s_wet s_lost s_eaten s_tied s_ripeMany s_gone s_place s_heard s_many s_lying s_ripe ++ cs_X2 J.2.2.1 a2 p_beds p_letters p_readers p_far p_drain p_length p_words p_home ++ cs_X0 J.2.2.1 a3 b_last b_lines) (As := [.ref (a1 0), .ref (a2 0), .int x4, .int x5]) (st := []) (ci := 0) (q0 := 14) rfl rfl (t_X0_isRight (a0 := a3) (a1 := a1) (a2 := a2) hc) (Sub.gen [14, 15, 1, 2, 3, 4, 5, 6, 7, 8, 9, 10, 11, 12, 13] [0] [0, 3, 4, 5, 6, 7, 8, 9, 10, 11, 12, 13, 14, 15, 1, 2] rfl (by decide) rfl (by decide) (by decide) rfl (by decide)) kw_1101 kw_1102 kw_1103 kw_94 hy_X0_isRight kw_1104 rfl (Nat.le_of_ble_eq_true rfl) (Nat.le_of_ble_eq_true rfl) (Nat.le_of_ble_eq_true rfl) (Nat.le_of_ble_eq_true rfl) (Nat.le_of_ble_eq_true rfl) dX9_fits_52 ?_
      refine g_if_eq (pc := 55) C (tgt := 79) dX9_fits_55 rfl h (fun h => ?_) (fun h => ?_)
      · refine g_iinc (pc := 79) C (j := 5) [(5, .int (x5 + 1)), (0, .ref (a0 0)), (1, .int n1), (2, .int x2), (3, .int x3), (4, .int x4)] dX9_fits_79 rfl (ii_1 _) (by decide) rfl ?_
        refine g_goto (pc := 82) C (tgt := 29) dX9_fits_82 rfl ?_
        refine g_lv [1, 2, 3, 4, 5, 0] rfl ?_
        exact ih x2 x3 x4 (x5 + 1) x_misused h
      · refine g_iinc (pc := 58) C (j := 2) [(2, .int (x2 + 1)), (0, .ref (a0 0)), (1, .int n1), (3, .int x3), (4, .int x4), (5, .int x5)] dX9_fits_58 rfl (ii_1 _) (by decide) rfl ?_
        refine g_iload_n (pc := 61) C 3 rfl dX9_fits_61 ?_
        refine g_iconst (pc := 62) C dX9_fits_62 ci_m1 ?_
        refine g_icmp_ne (pc := 63) C (tgt := 77) dX9_fits_63 rfl h (fun h => ?_) (fun h => ?_)
        · refine g_iload_n (pc := 77) C 3 rfl dX9_fits_77 ?_
          refine g_istore_n (pc := 78) C [(3, .int x3), (2, .int (x2 + 1)), (0, .ref (a0 0)), (1, .int n1), (4, .int x4), (5, .int x5)] dX9_fits_78 rfl (by decide) rfl ?_
          refine g_iinc (pc := 79) C (j := 5) [(5, .int (x5 + 1)), (3, .int x3), (2, .int (x2 + 1)), (0, .ref (a0 0)), (1, .int n1), (4, .int x4)] dX9_fits_79 rfl (ii_1 _) (by decide) rfl ?_
          refine g_goto (pc := 82) C (tgt := 29) dX9_fits_82 rfl ?_
          refine g_lv [3, 4, 2, 1, 5, 0] rfl ?_
          exact ih (x2 + 1) x3 x4 (x5 + 1) x_misused h
        · refine g_bipush (pc := 66) C dX9_fits_66 cb_10 ?_
          refine g_iload (pc := 68) C 4 rfl dX9_fits_68 ?_
          refine g_imul (pc := 70) C dX9_fits_70 ?_
          refine g_iload (pc := 71) C 5 rfl dX9_fits_71 ?_
          refine g_iadd (pc := 73) C dX9_fits_73 ?_
          refine g_goto (pc := 74) C (tgt := 78) dX9_fits_74 rfl ?_
          refine g_istore_n (pc := 78) C [(3, .int ((10 * x4) + x5)), (2, .int (x2 + 1)), (0, .ref (a0 0)), (1, .int n1), (4, .int x4), (5, .int x5)] dX9_fits_78 rfl (by decide) rfl ?_
          refine g_iinc (pc := 79) C (j := 5) [(5, .int (x5 + 1)), (3, .int ((10 * x4) + x5)), (2, .int (x2 + 1)), (0, .ref (a0 0)), (1, .int n1), (4, .int x4)] dX9_fits_79 rfl (ii_1 _) (by decide) rfl ?_
          refine g_goto (pc := 82) C (tgt := 29) dX9_fits_82 rfl ?_
          refine g_lv [3, 4, 2, 1, 5, 0] rfl ?_
          exact ih (x2 + 1) ((10 * x4) + x5) x4 (x5 + 1) x_misused h
set_option maxRecDepth 100000 in
set_option maxHeartbeats 4000000 in
theorem j_X9_fits_14 {J : Jt} {Z : Zt} {a0 : Nat → Nat} {a1 : Nat → Nat} {a2 : Nat → Nat} {a3 : Nat → Nat} {k_tape : Nat} {k_trial : Nat} {k_task : Nat} {k_season : Nat} {k_stuffing : Nat} {k_images : Nat} {k_row : Nat} {k_sparePlan : Nat} {k_rule : Nat} {k_spareRule : Nat} {k_spareNotes : Nat} {x_latest : Value} {x_imageMany : Int32} {x_refusedSteps : Int32} {x_missing : Int32} {s_year : Int32} {s_wet : Int32} {s_lost : Int32} {s_eaten : Int32} {s_tied : Int32} {s_ripeMany : Int32} {s_gone : Nat → Int32} {s_place : Nat → Int32} {s_heard : Nat → Int32} {s_many : Nat → Int32} {s_lying : Nat → Int32} {s_ripe : Nat → Int32} {p_beds : Int32} {p_letters : Int32} {p_readers : Int32} {p_far : Nat → Int32} {p_drain : Nat → Int32} {p_length : Nat → Int32} {p_words : Nat → Int32} {p_home : Nat → Int32} {b_last : Nat → Int32} {b_lines : Int32} {n1 : Int32} {ex : Nat} {r : Int32} {o_x_misused : Int32} (C : Cx J Z cX9_fits 6 RX9 (some .int) rm_X9_fits) (hJ : J.1.stackTraces = false) (E : EzX J Z 1 6 ex (some (.int r)) (fun _ : Unit => cs_X9 (a0 0) k_tape (a1 0) k_trial k_task k_season k_stuffing k_images k_row (a2 0) k_sparePlan k_rule k_spareRule (a3 0) k_spareNotes x_latest x_imageMany x_refusedSteps x_missing o_x_misused ++ cs_X4 J.2.2.1 a1 s_year s_wet s_lost s_eaten s_tied s_ripeMany s_gone s_place s_heard s_many s_lying s_ripe ++ cs_X2 J.2.2.1 a2 p_beds p_letters p_readers p_far p_drain p_length p_words p_home ++ cs_X0 J.2.2.1 a3 b_last b_lines)) : ∀ (n : Nat) (x2 : Int32) (x3 : Int32) (x4 : Int32) (x_misused : Int32), f_X9_fits_14 s_gone s_many s_lying p_beds p_letters p_drain p_length p_words b_last n1 n x2 x3 x4 x_misused = some (ex, r, o_x_misused) → G J Z 1 6 (cs_X9 (a0 0) k_tape (a1 0) k_trial k_task k_season k_stuffing k_images k_row (a2 0) k_sparePlan k_rule k_spareRule (a3 0) k_spareNotes x_latest x_imageMany x_refusedSteps x_missing x_misused ++ cs_X4 J.2.2.1 a1 s_year s_wet s_lost s_eaten s_tied s_ripeMany s_gone s_place s_heard s_many s_lying s_ripe ++ cs_X2 J.2.2.1 a2 p_beds p_letters p_readers p_far p_drain p_length p_words p_home ++ cs_X0 J.2.2.1 a3 b_last b_lines) 6 [(0, .ref (a0 0)), (1, .int n1), (2, .int x2), (3, .int x3), (4, .int x4)] 14 [] := by
  intro n
  induction n with
  | zero =>
    intro x2 x3 x4 x_misused h
    rw [f_X9_fits_14] at h
    cases h
  | succ n ih =>
    intro x2 x3 x4 x_misused h
    rw [f_X9_fits_14] at h
    refine g_iload (pc := 14) C 4 rfl dX9_fits_14 ?_
    refine g_aload_n (pc := 16) C 0 rfl dX9_fits_16 ?_
    refine g_get (pc := 17) C FOK_X9 0 rfl rfl 8 (by decide) kw_375 rfl dX9_fits_17 ?_
    refine g_get (pc := 20) C FOK_X2 8 rfl rfl 1 (by decide) kw_283 rfl dX9_fits_20 ?_
    refine g_icmp_ge (pc := 23) C (tgt := 91) dX9_fits_23 rfl h (fun h => ?_) (fun h => ?_)
    · refine g_iload_n (pc := 91) C 1 rfl dX9_fits_91 ?_
      refine g_if_ne (pc := 92) C (tgt := 99) dX9_fits_92 rfl h (fun h => ?_) (fun h => ?_)
      · refine g_iload_n (pc := 99) C 3 rfl dX9_fits_99 ?_
        cases h
        exact g_iretX C E () rfl dX9_fits_100
      · refine g_iload_n (pc := 95) C 2 rfl dX9_fits_95 ?_
        refine g_goto (pc := 96) C (tgt := 100) dX9_fits_96 rfl ?_
        cases h
        exact g_iretX C E () rfl dX9_fits_100
    · refine g_iconst (pc := 26) C dX9_fits_26 ci_1 ?_
      refine g_istore (pc := 27) C [(5, .int 1), (0, .ref (a0 0)), (1, .int n1), (2, .int x2), (3, .int x3), (4, .int x4)] dX9_fits_27 (by decide) rfl ?_
      refine g_lv [1, 2, 3, 4, 5, 0] rfl ?_
      exact j_X9_fits_29 C hJ E   ih FU x2 x3 x4 1 x_misused h
set_option maxRecDepth 100000 in
set_option maxHeartbeats 4000000 in
theorem t_X9_fits {J : Jt} {a0 : Nat → Nat} {a1 : Nat → Nat} {a2 : Nat → Nat} {a3 : Nat → Nat} {k_tape : Nat} {k_trial : Nat} {k_task : Nat} {k_season : Nat} {k_stuffing : Nat} {k_images : Nat} {k_row : Nat} {k_sparePlan : Nat} {k_rule : Nat} {k_spareRule : Nat} {k_spareNotes : Nat} {x_latest : Value} {x_imageMany : Int32} {x_refusedSteps : Int32} {x_missing : Int32} {x_misused : Int32} {s_year : Int32} {s_wet : Int32} {s_lost : Int32} {s_eaten : Int32} {s_tied : Int32} {s_ripeMany : Int32} {s_gone : Nat → Int32} {s_place : Nat → Int32} {s_heard : Nat → Int32} {s_many : Nat → Int32} {s_lying : Nat → Int32} {s_ripe : Nat → Int32} {p_beds : Int32} {p_letters : Int32} {p_readers : Int32} {p_far : Nat → Int32} {p_drain : Nat → Int32} {p_length : Nat → Int32} {p_words : Nat → Int32} {p_home : Nat → Int32} {b_last : Nat → Int32} {b_lines : Int32} {n1 : Int32} {ex : Nat} {r : Int32} {o_x_misused : Int32} (hJ : J.1.stackTraces = false) (h : f_X9_fits x_misused s_gone s_many s_lying p_beds p_letters p_drain p_length p_words b_last n1 = some (ex, r, o_x_misused)) : MtX J yX9_fits cX9_fits 6 (some .int) rm_X9_fits [.ref (a0 0), .int n1] (cs_X9 (a0 0) k_tape (a1 0) k_trial k_task k_season k_stuffing k_images k_row (a2 0) k_sparePlan k_rule k_spareRule (a3 0) k_spareNotes x_latest x_imageMany x_refusedSteps x_missing x_misused ++ cs_X4 J.2.2.1 a1 s_year s_wet s_lost s_eaten s_tied s_ripeMany s_gone s_place s_heard s_many s_lying s_ripe ++ cs_X2 J.2.2.1 a2 p_beds p_letters p_readers p_far p_drain p_length p_words p_home ++ cs_X0 J.2.2.1 a3 b_last b_lines) ex (some (.int r)) (fun _ : Unit => cs_X9 (a0 0) k_tape (a1 0) k_trial k_task k_season k_stuffing k_images k_row (a2 0) k_sparePlan k_rule k_spareRule (a3 0) k_spareNotes x_latest x_imageMany x_refusedSteps x_missing o_x_misused ++ cs_X4 J.2.2.1 a1 s_year s_wet s_lost s_eaten s_tied s_ripeMany s_gone s_place s_heard s_many s_lying s_ripe ++ cs_X2 J.2.2.1 a2 p_beds p_letters p_readers p_far p_drain p_length p_words p_home ++ cs_X0 J.2.2.1 a3 b_last b_lines) := by
  refine MtX_of (own := RX9) (by decide) rfl (Nat.le_of_ble_eq_true rfl) rfl (fun Z C E => ?_)
  unfold f_X9_fits at h
  show G J Z 0 0 (cs_X9 (a0 0) k_tape (a1 0) k_trial k_task k_season k_stuffing k_images k_row (a2 0) k_sparePlan k_rule k_spareRule (a3 0) k_spareNotes x_latest x_imageMany x_refusedSteps x_missing x_misused ++ cs_X4 J.2.2.1 a1 s_year s_wet s_lost s_eaten s_tied s_ripeMany s_gone s_place s_heard s_many s_lying s_ripe ++ cs_X2 J.2.2.1 a2 p_beds p_letters p_readers p_far p_drain p_length p_words p_home ++ cs_X0 J.2.2.1 a3 b_last b_lines) 6 [(0, .ref (a0 0)), (1, .int n1)] 0 []
  refine g_aload_n (pc := 0) C 0 rfl dX9_fits_0 ?_
  refine g_iload_n (pc := 1) C 1 rfl dX9_fits_1 ?_
  refine g_iconst (pc := 2) C dX9_fits_2 ci_0 ?_
  refine g_iconst (pc := 3) C dX9_fits_3 ci_1 ?_
  obtain ⟨e2, c3, hc, h⟩ := b2_of h
  refine g_xcallU (pc := 4) C (w' := cs_X9 (a0 0) k_tape (a1 0) k_trial k_task k_season k_stuffing k_images k_row (a2 0) k_sparePlan k_rule k_spareRule (a3 0) k_spareNotes x_latest x_imageMany x_refusedSteps x_missing c3 ++ cs_X4 J.2.2.1 a1 s_year s_wet s_lost s_eaten s_tied s_ripeMany s_gone s_place s_heard s_many s_lying s_ripe ++ cs_X2 J.2.2.1 a2 p_beds p_letters p_readers p_far p_drain p_length p_words p_home ++ cs_X0 J.2.2.1 a3 b_last b_lines) (As := [.int n1, .int 0, .int 1]) (st := []) (ci := 9) (q0 := 0) rfl rfl (t_X9_needRange (k_tape := k_tape) (k_now := (a1 0)) (k_trial := k_trial) (k_task := k_task) (k_season := k_season) (k_stuffing := k_stuffing) (k_images := k_images) (k_row := k_row) (k_plan := (a2 0)) (k_sparePlan := k_sparePlan) (k_rule := k_rule) (k_spareRule := k_spareRule) (k_notes := (a3 0)) (k_spareNotes := k_spareNotes) (a0 := a0) hJ hc) (Sub.gen [0] [1, 2, 3, 4, 5, 6, 7, 8, 9, 10, 11, 12, 13, 14, 15] [15, 0, 1, 2, 3, 4, 5, 6, 7, 8, 9, 10, 11, 12, 13, 14] rfl (by decide) rfl (by decide) (by decide) rfl (by decide)) kw_545 kw_547 kw_2 kw_86 hy_X9_needRange kw_548 rfl (Nat.le_of_ble_eq_true rfl) (Nat.le_of_ble_eq_true rfl) (Nat.le_of_ble_eq_true rfl) (Nat.le_of_ble_eq_true rfl) (Nat.le_of_ble_eq_true rfl) dX9_fits_4 (fun he => ?_) (fun he => ?_)
  · subst he
    rw [if_pos rfl] at h
    refine g_wid (n' := 1) (k' := 6) (Nat.le_of_ble_eq_true rfl) (Nat.le_of_ble_eq_true rfl) ?_
    refine g_iconst (pc := 7) C dX9_fits_7 ci_0 ?_
    refine g_istore_n (pc := 8) C [(2, .int 0), (0, .ref (a0 0)), (1, .int n1)] dX9_fits_8 rfl (by decide) rfl ?_
    refine g_iconst (pc := 9) C dX9_fits_9 ci_m1 ?_
    refine g_istore_n (pc := 10) C [(3, .int (-1)), (2, .int 0), (0, .ref (a0 0)), (1, .int n1)] dX9_fits_10 rfl (by decide) rfl ?_
    refine g_iconst (pc := 11) C dX9_fits_11 ci_0 ?_
    refine g_istore (pc := 12) C [(4, .int 0), (3, .int (-1)), (2, .int 0), (0, .ref (a0 0)), (1, .int n1)] dX9_fits_12 (by decide) rfl ?_
    refine g_lv [3, 4, 2, 1, 0] rfl ?_
    exact j_X9_fits_14 C hJ E    FU 0 (-1) 0 c3 h
  · rw [if_neg he] at h
    cases h
    exact gt_out C he E (Nat.le_of_ble_eq_true rfl) (Nat.le_of_ble_eq_true rfl) () rfl
