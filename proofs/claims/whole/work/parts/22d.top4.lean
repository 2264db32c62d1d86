noncomputable def f_X9_drains_16  (s_gone : Nat → Int32) (p_beds : Int32) (p_letters : Int32) (p_drain : Nat → Int32) (p_length : Nat → Int32) (n1 : Int32) : Nat → Int32 → Int32 → Int32 → Option (Nat × Int32 × Int32)
  | 0, _, _, _ => none
  | n + 1, x2, x3, x_missing => if p_letters ≤ x3 then some (0, x2, x_missing) else if ixb x3 6 then if (p_drain x3.toNatClampNeg) = n1 then b1 (f_X4_leftOf s_gone p_length x3) (fun v1 => if v1 ≤ 0 then f_X9_drains_16 s_gone p_beds p_letters p_drain p_length n1 n x2 (x3 + 1) x_missing else f_X9_drains_16 s_gone p_beds p_letters p_drain p_length n1 n (x2 ||| ((1 : Int32) <<< (x3 &&& 31))) (x3 + 1) x_missing) else f_X9_drains_16 s_gone p_beds p_letters p_drain p_length n1 n x2 (x3 + 1) x_missing else none
noncomputable def f_X9_drains (x_missing : Int32) (s_gone : Nat → Int32) (p_beds : Int32) (p_letters : Int32) (p_drain : Nat → Int32) (p_length : Nat → Int32) (n1 : Int32) : Option (Nat × Int32 × Int32) := b2 (f_X9_needOneOf x_missing n1 p_beds) (fun e2 c3 => if e2 = 0 then f_X9_drains_16 s_gone p_beds p_letters p_drain p_length n1 FU 0 0 c3 else some (e2, 0, c3))
def rm_X9_drains : Room := { frames := 10, cells := 1, slots := 6, locals := 142 }
set_option maxRecDepth 100000 in
set_option maxHeartbeats 4000000 in
theorem j_X9_drains_16 {J : Jt} {Z : Zt} {a0 : Nat → Nat} {a1 : Nat → Nat} {a2 : Nat → Nat} {k_tape : Nat} {k_trial : Nat} {k_task : Nat} {k_season : Nat} {k_stuffing : Nat} {k_images : Nat} {k_row : Nat} {k_sparePlan : Nat} {k_rule : Nat} {k_spareRule : Nat} {k_notes : Nat} {k_spareNotes : Nat} {x_latest : Value} {x_imageMany : Int32} {x_refusedSteps : Int32} {x_misused : Int32} {s_year : Int32} {s_wet : Int32} {s_lost : Int32} {s_eaten : Int32} {s_tied : Int32} {s_ripeMany : Int32} {s_gone : Nat → Int32} {s_place : Nat → Int32} {s_heard : Nat → Int32} {s_many : Nat → Int32} {s_lying : Nat → Int32} {s_ripe : Nat → Int32} {p_beds : Int32} {p_letters : Int32} {p_readers : Int32} {p_far : Nat → Int32} {p_drain : Nat → Int32} {p_length : Nat → Int32} {p_words : Nat → Int32} {p_home : Nat → Int32} {n1 : Int32} {ex : Nat} {r : Int32} {o_x_missing : Int32} (C : Cx J Z cX9_drains 4 RX9 (some .int) rm_X9_drains) (hJ : J.1.stackTraces = false) (E : EzX J Z 1 6 ex (some (.int r)) (fun _ : Unit => cs_X9 (a0 0) k_tape (a1 0) k_trial k_task k_season k_stuffing k_images k_row (a2 0) k_sparePlan k_rule k_spareRule k_notes k_spareNotes x_latest x_imageMany x_refusedSteps o_x_missing x_misused ++ cs_X4 J.2.2.1 a1 s_year s_wet s_lost s_eaten s_tied s_ripeMany s_gone s_place s_heard s_many s_lying s_ripe ++ cs_X2 J.2.2.1 a2 p_beds p_letters p_readers p_far p_drain p_length p_words p_home)) : ∀ (n : Nat) (x2 : Int32) (x3 : Int32) (x_missing : Int32), f_X9_drains_16 s_gone p_beds p_letters p_drain p_length n1 n x2 x3 x_missing = some (ex, r, o_x_missing) → G J Z 1 6 (cs_X9 (a0 0) k_tape (a1 0) k_trial k_task k_season k_stuffing k_images k_row (a2 0) k_sparePlan k_rule k_spareRule k_notes k_spareNotes x_latest x_imageMany x_refusedSteps x_missing x_misused ++ cs_X4 J.2.2.1 a1 s_year s_wet s_lost s_eaten s_tied s_ripeMany s_gone s_place s_heard s_many s_lying s_ripe ++ cs_X2 J.2.2.1 a2 p_beds p_letters p_readers p_far p_drain p_length p_words p_home) 4 [(0, .ref (a0 0)), (1, .int n1), (2, .int x2), (3, .int x3)] 16 [] := by
  intro n
  induction n with
  | zero =>
    intro x2 x3 x_missing h
    rw [f_X9_drains_16] at h
    cases h
  | succ n ih =>
    intro x2 x3 x_missing h
    rw [f_X9_drains_16] at h
    refine g_iload_n (pc := 16) C 3 rfl dX9_drains_16 ?_
    refine g_aload_n (pc := 17) C 0 rfl dX9_drains_17 ?_
    refine g_get (pc := 18) C FOK_X9 0 rfl rfl 8 (by decide) kw_375 rfl dX9_drains_18 ?_
    refine g_get (pc := 21) C FOK_X2 8 rfl rfl 1 (by decide) kw_283 rfl dX9_drains_21 ?_
    refine g_icmp_ge (pc := 24) C (tgt := 67) dX9_drains_24 rfl h (fun h => ?_) (fun h => ?_)
    · refine g_iload_n (pc := 67) C 2 rfl dX9_drains_67 ?_
      cases h
      exact g_iretX C E () rfl dX9_drains_68
    · refine g_aload_n (pc := 27) C 0 rfl dX9_drains_27 ?_
      refine g_get (pc := 28) C FOK_X9 0 rfl rfl 8 (by decide) kw_375 rfl dX9_drains_28 ?_
      refine g_get (pc := 31) C FOK_X2 8 rfl rfl 4 (by decide) kw_295 rfl dX9_drains_31 ?_
      refine g_iload_n (pc := 34) C 3 rfl dX9_drains_34 ?_
      obtain ⟨hi, h⟩ := ix_of h
      refine g_iald (pc := 35) C 10 rfl hi dX9_drains_35 ?_
      refine g_iload_n (pc := 36) C 1 rfl dX9_drains_36 ?_
      refine g_icmp_ne (pc := 37) C (tgt := 61) dX9_drains_37 rfl h (fun h => ?_) (fun h => ?_)
      · refine g_iinc (pc := 61) C (j := 3) [(3, .int (x3 + 1)), (0, .ref (a0 0)), (1, .int n1), (2, .int x2)] dX9_drains_61 rfl (ii_1 _) (by decide) rfl ?_
        refine g_goto (pc := 64) C (tgt := 16) dX9_drains_64 rfl ?_
        refine g_lv [1, 2, 3, 0] rfl ?_
        exact ih x2 (x3 + 1) x_missing h
      · refine g_aload_n (pc := 40) C 0 rfl dX9_drains_40 ?_
        refine g_get (pc := 41) C FOK_X9 0 rfl rfl 1 (by decide) kw_368 rfl dX9_drains_41 ?_
        refine g_aload_n (pc := 44) C 0 rfl dX9_drains_44 ?_
        refine g_get (pc := 45) C FOK_X9 0 rfl rfl 8 (by decide) kw_375 rfl dX9_drains_45 ?_
        refine g_iload_n (pc := 48) C 3 rfl dX9_drains_48 ?_
        obtain ⟨v1, hc, h⟩ := b1_of h
        refine g_callV (pc := 49) C (w' := cs_X9 (a0 0) k_tape (a1 0) k_trial k_task k_season k_stuffing k_images k_row (a2 0) k_sparePlan k_rule k_spareRule k_notes k_spareNotes x_latest x_imageMany x_refusedSteps x_missing x_misused ++ cs_X4 J.2.2.1 a1 s_year s_wet s_lost s_eaten s_tied s_ripeMany s_gone s_place s_heard s_many s_lying s_ripe ++ cs_X2 J.2.2.1 a2 p_beds p_letters p_readers p_far p_drain p_length p_words p_home) (As := [.ref (a2 0), .int x3]) (st := []) (ci := 4) (q0 := 1) rfl rfl (t_X4_leftOf (a0 := a1) (a1 := a2) hc) (Sub.gen [1, 2, 3, 4, 5, 6, 7, 8, 9, 10, 11, 12, 13] [0] [0, 1, 2, 3, 4, 5, 6, 7, 8, 9, 10, 11, 12, 13] rfl (by decide) rfl (by decide) (by decide) rfl (by decide)) kw_975 kw_465 kw_466 kw_88 hy_X4_leftOf kw_467 rfl (Nat.le_of_ble_eq_true rfl) (Nat.le_of_ble_eq_true rfl) (Nat.le_of_ble_eq_true rfl) (Nat.le_of_ble_eq_true rfl) (Nat.le_of_ble_eq_true rfl) dX9_drains_49 ?_
        refine g_if_le (pc := 52) C (tgt := 61) dX9_drains_52 rfl h (fun h => ?_) (fun h => ?_)
        · refine g_iinc (pc := 61) C (j := 3) [(3, .int (x3 + 1)), (0, .ref (a0 0)), (1, .int n1), (2, .int x2)] dX9_drains_61 rfl (ii_1 _) (by decide) rfl ?_
          refine g_goto (pc := 64) C (tgt := 16) dX9_drains_64 rfl ?_
          refine g_lv [1, 2, 3, 0] rfl ?_
          exact ih x2 (x3 + 1) x_missing h
        · refine g_iload_n (pc := 55) C 2 rfl dX9_drains_55 ?_
          refine g_iconst (pc := 56) C dX9_drains_56 ci_1 ?_
          refine g_iload_n (pc := 57) C 3 rfl dX9_drains_57 ?_
          refine g_ishl (pc := 58) C dX9_drains_58 ?_
          refine g_ior (pc := 59) C dX9_drains_59 ?_
          refine g_istore_n (pc := 60) C [(2, .int (x2 ||| ((1 : Int32) <<< (x3 &&& 31)))), (0, .ref (a0 0)), (1, .int n1), (3, .int x3)] dX9_drains_60 rfl (by decide) rfl ?_
          refine g_iinc (pc := 61) C (j := 3) [(3, .int (x3 + 1)), (2, .int (x2 ||| ((1 : Int32) <<< (x3 &&& 31)))), (0, .ref (a0 0)), (1, .int n1)] dX9_drains_61 rfl (ii_1 _) (by decide) rfl ?_
          refine g_goto (pc := 64) C (tgt := 16) dX9_drains_64 rfl ?_
          refine g_lv [2, 3, 1, 0] rfl ?_
          exact ih (x2 ||| ((1 : Int32) <<< (x3 &&& 31))) (x3 + 1) x_missing h
set_option maxRecDepth 100000 in
set_option maxHeartbeats 4000000 in
theorem t_X9_drains {J : Jt} {a0 : Nat → Nat} {a1 : Nat → Nat} {a2 : Nat → Nat} {k_tape : Nat} {k_trial : Nat} {k_task : Nat} {k_season : Nat} {k_stuffing : Nat} {k_images : Nat} {k_row : Nat} {k_sparePlan : Nat} {k_rule : Nat} {k_spareRule : Nat} {k_notes : Nat} {k_spareNotes : Nat} {x_latest : Value} {x_imageMany : Int32} {x_refusedSteps : Int32} {x_missing : Int32} {x_misused : Int32} {s_year : Int32} {s_wet : Int32} {s_lost : Int32} {s_eaten : Int32} {s_tied : Int32} {s_ripeMany : Int32} {s_gone : Nat → Int32} {s_place : Nat → Int32} {s_heard : Nat → Int32} {s_many : Nat → Int32} {s_lying : Nat → Int32} {s_ripe : Nat → Int32} {p_beds : Int32} {p_letters : Int32} {p_readers : Int32} {p_far : Nat → Int32} {p_drain : Nat → Int32} {p_length : Nat → Int32} {p_words : Nat → Int32} {p_home : Nat → Int32} {n1 : Int32} {ex : Nat} {r : Int32} {o_x_missing : Int32} (hJ : J.1.stackTraces = false) (h : f_X9_drains x_missing s_gone p_beds p_letters p_drain p_length n1 = some (ex, r, o_x_missing)) : MtX J yX9_drains cX9_drains 4 (some .int) rm_X9_drains [.ref (a0 0), .int n1] (cs_X9 (a0 0) k_tape (a1 0) k_trial k_task k_season k_stuffing k_images k_row (a2 0) k_sparePlan k_rule k_spareRule k_notes k_spareNotes x_latest x_imageMany x_refusedSteps x_missing x_misused ++ cs_X4 J.2.2.1 a1 s_year s_wet s_lost s_eaten s_tied s_ripeMany s_gone s_place s_heard s_many s_lying s_ripe ++ cs_X2 J.2.2.1 a2 p_beds p_letters p_readers p_far p_drain p_length p_words p_home) ex (some (.int r)) (fun _ : Unit => cs_X9 (a0 0) k_tape (a1 0) k_trial k_task k_season k_stuffing k_images k_row (a2 0) k_sparePlan k_rule k_spareRule k_notes k_spareNotes x_latest x_imageMany x_refusedSteps o_x_missing x_misused ++ cs_X4 J.2.2.1 a1 s_year s_wet s_lost s_eaten s_tied s_ripeMany s_gone s_place s_heard s_many s_lying s_ripe ++ cs_X2 J.2.2.1 a2 p_beds p_letters p_readers p_far p_drain p_length p_words p_home) := by
  refine MtX_of (own := RX9) (by decide) rfl (Nat.le_of_ble_eq_true rfl) rfl (fun Z C E => ?_)
  unfold f_X9_drains at h
  show G J Z 0 0 (cs_X9 (a0 0) k_tape (a1 0) k_trial k_task k_season k_stuffing k_images k_row (a2 0) k_sparePlan k_rule k_spareRule k_notes k_spareNotes x_latest x_imageMany x_refusedSteps x_missing x_misused ++ cs_X4 J.2.2.1 a1 s_year s_wet s_lost s_eaten s_tied s_ripeMany s_gone s_place s_heard s_many s_lying s_ripe ++ cs_X2 J.2.2.1 a2 p_beds p_letters p_readers p_far p_drain p_length p_words p_home) 4 [(0, .ref (a0 0)), (1, .int n1)] 0 []
  refine g_aload_n (pc := 0) C 0 rfl dX9_drains_0 ?_
  refine g_iload_n (pc := 1) C 1 rfl dX9_drains_1 ?_
  refine g_aload_n (pc := 2) C 0 rfl dX9_drains_2 ?_
  refine g_get (pc := 3) C FOK_X9 0 rfl rfl 8 (by decide) kw_375 rfl dX9_drains_3 ?_
  refine g_get (pc := 6) C FOK_X2 8 rfl rfl 0 (by decide) kw_279 rfl dX9_drains_6 ?_
  obtain ⟨e2, c3, hc, h⟩ := b2_of h
  refine g_xcallU (pc := 9) C (w' := cs_X9 (a0 0) k_tape (a1 0) k_trial k_task k_season k_stuffing k_images k_row (a2 0) k_sparePlan k_rule k_spareRule k_notes k_spareNotes x_latest x_imageMany x_refusedSteps c3 x_misused ++ cs_X4 J.2.2.1 a1 s_year s_wet s_lost s_eaten s_tied s_ripeMany s_gone s_place s_heard s_many s_lying s_ripe ++ cs_X2 J.2.2.1 a2 p_beds p_letters p_readers p_far p_drain p_length p_words p_home) (As := [.int n1, .int p_beds]) (st := []) (ci := 9) (q0 := 0) rfl rfl (t_X9_needOneOf (k_tape := k_tape) (k_now := (a1 0)) (k_trial := k_trial) (k_task := k_task) (k_season := k_season) (k_stuffing := k_stuffing) (k_images := k_images) (k_row := k_row) (k_plan := (a2 0)) (k_sparePlan := k_sparePlan) (k_rule := k_rule) (k_spareRule := k_spareRule) (k_notes := k_notes) (k_spareNotes := k_spareNotes) (a0 := a0) hJ hc) (Sub.gen [0] [1, 2, 3, 4, 5, 6, 7, 8, 9, 10, 11, 12, 13] [13, 0, 1, 2, 3, 4, 5, 6, 7, 8, 9, 10, 11, 12] rfl (by decide) rfl (by decide) (by decide) rfl (by decide)) kw_956 kw_958 kw_12 kw_86 hy_X9_needOneOf kw_959 rfl (Nat.le_of_ble_eq_true rfl) (Nat.le_of_ble_eq_true rfl) (Nat.le_of_ble_eq_true rfl) (Nat.le_of_ble_eq_true rfl) (Nat.le_of_ble_eq_true rfl) dX9_drains_9 (fun he => ?_) (fun he => ?_)
  · subst he
    rw [if_pos rfl] at h
    refine g_wid (n' := 1) (k' := 6) (Nat.le_of_ble_eq_true rfl) (Nat.le_of_ble_eq_true rfl) ?_
    refine g_iconst (pc := 12) C dX9_drains_12 ci_0 ?_
    refine g_istore_n (pc := 13) C [(2, .int 0), (0, .ref (a0 0)), (1, .int n1)] dX9_drains_13 rfl (by decide) rfl ?_
    refine g_iconst (pc := 14) C dX9_drains_14 ci_0 ?_
    refine g_istore_n (pc := 15) C [(3, .int 0), (2, .int 0), (0, .ref (a0 0)), (1, .int n1)] dX9_drains_15 rfl (by decide) rfl ?_
    refine g_lv [2, 3, 1, 0] rfl ?_
    exact j_X9_drains_16 C hJ E    FU 0 0 c3 h
  · rw [if_neg he] at h
    cases h
    exact gt_out C he E (Nat.le_of_ble_eq_true rfl) (Nat.le_of_ble_eq_true rfl) () rfl
noncomputable def f_X9_unread (x_missing : Int32) (s_place : Nat → Int32) (s_heard : Nat → Int32) (s_many : Nat → Int32) (s_lying : Nat → Int32) (p_readers : Int32) (n1 : Int32) : Option (Nat × Int32 × Int32) := b2 (f_X9_needOneOf x_missing n1 p_readers) (fun e1 c2 => if e1 = 0 then if ixb n1 5 then b1 (f_X4_wordsIn s_many s_lying (s_place n1.toNatClampNeg)) (fun v3 => if ixb n1 5 then some (0, v3 &&& ((s_heard n1.toNatClampNeg) ^^^ (-1)), c2) else none) else none else some (e1, 0, c2))
def rm_X9_unread : Room := { frames := 10, cells := 1, slots := 6, locals := 142 }
set_option maxRecDepth 100000 in
set_option maxHeartbeats 4000000 in
theorem t_X9_unread {J : Jt} {a0 : Nat → Nat} {a1 : Nat → Nat} {a2 : Nat → Nat} {k_tape : Nat} {k_trial : Nat} {k_task : Nat} {k_season : Nat} {k_stuffing : Nat} {k_images : Nat} {k_row : Nat} {k_sparePlan : Nat} {k_rule : Nat} {k_spareRule : Nat} {k_notes : Nat} {k_spareNotes : Nat} {x_latest : Value} {x_imageMany : Int32} {x_refusedSteps : Int32} {x_missing : Int32} {x_misused : Int32} {s_year : Int32} {s_wet : Int32} {s_lost : Int32} {s_eaten : Int32} {s_tied : Int32} {s_ripeMany : Int32} {s_gone : Nat → Int32} {s_place : Nat → Int32} {s_heard : Nat → Int32} {s_many : Nat → Int32} {s_lying : Nat → Int32} {s_ripe : Nat → Int32} {p_beds : Int32} {p_letters : Int32} {p_readers : Int32} {p_far : Nat → Int32} {p_drain : Nat → Int32} {p_length : Nat → Int32} {p_words : Nat → Int32} {p_home : Nat → Int32} {n1 : Int32} {ex : Nat} {r : Int32} {o_x_missing : Int32} (hJ : J.1.stackTraces = false) (h : f_X9_unread x_missing s_place s_heard s_many s_lying p_readers n1 = some (ex, r, o_x_missing)) : MtX J yX9_unread cX9_unread 2 (some .int) rm_X9_unread [.ref (a0 0), .int n1] (cs_X9 (a0 0) k_tape (a1 0) k_trial k_task k_season k_stuffing k_images k_row (a2 0) k_sparePlan k_rule k_spareRule k_notes k_spareNotes x_latest x_imageMany x_refusedSteps x_missing x_misused ++ cs_X4 J.2.2.1 a1 s_year s_wet s_lost s_eaten s_tied s_ripeMany s_gone s_place s_heard s_many s_lying s_ripe ++ cs_X2 J.2.2.1 a2 p_beds p_letters p_readers p_far p_drain p_length p_words p_home) ex (some (.int r)) (fun _ : Unit => cs_X9 (a0 0) k_tape (a1 0) k_trial k_task k_season k_stuffing k_images k_row (a2 0) k_sparePlan k_rule k_spareRule k_notes k_spareNotes x_latest x_imageMany x_refusedSteps o_x_missing x_misused ++ cs_X4 J.2.2.1 a1 s_year s_wet s_lost s_eaten s_tied s_ripeMany s_gone s_place s_heard s_many s_lying s_ripe ++ cs_X2 J.2.2.1 a2 p_beds p_letters p_readers p_far p_drain p_length p_words p_home) := by
  refine MtX_of (own := RX9) (by decide) rfl (Nat.le_of_ble_eq_true rfl) rfl (fun Z C E => ?_)
  unfold f_X9_unread at h
  show G J Z 0 0 (cs_X9 (a0 0) k_tape (a1 0) k_trial k_task k_season k_stuffing k_images k_row (a2 0) k_sparePlan k_rule k_spareRule k_notes k_spareNotes x_latest x_imageMany x_refusedSteps x_missing x_misused ++ cs_X4 J.2.2.1 a1 s_year s_wet s_lost s_eaten s_tied s_ripeMany s_gone s_place s_heard s_many s_lying s_ripe ++ cs_X2 J.2.2.1 a2 p_beds p_letters p_readers p_far p_drain p_length p_words p_home) 2 [(0, .ref (a0 0)), (1, .int n1)] 0 []
  refine g_aload_n (pc := 0) C 0 rfl dX9_unread_0 ?_
  refine g_iload_n (pc := 1) C 1 rfl dX9_unread_1 ?_
  refine g_aload_n (pc := 2) C 0 rfl dX9_unread_2 ?_
  refine g_get (pc := 3) C FOK_X9 0 rfl rfl 8 (by decide) kw_375 rfl dX9_unread_3 ?_
  refine g_get (pc := 6) C FOK_X2 8 rfl rfl 2 (by decide) kw_289 rfl dX9_unread_6 ?_
  obtain ⟨e1, c2, hc, h⟩ := b2_of h
  refine g_xcallU (pc := 9) C (w' := cs_X9 (a0 0) k_tape (a1 0) k_trial k_task k_season k_stuffing k_images k_row (a2 0) k_sparePlan k_rule k_spareRule k_notes k_spareNotes x_latest x_imageMany x_refusedSteps c2 x_misused ++ cs_X4 J.2.2.1 a1 s_year s_wet s_lost s_eaten s_tied s_ripeMany s_gone s_place s_heard s_many s_lying s_ripe ++ cs_X2 J.2.2.1 a2 p_beds p_letters p_readers p_far p_drain p_length p_words p_home) (As := [.int n1, .int p_readers]) (st := []) (ci := 9) (q0 := 0) rfl rfl (t_X9_needOneOf (k_tape := k_tape) (k_now := (a1 0)) (k_trial := k_trial) (k_task := k_task) (k_season := k_season) (k_stuffing := k_stuffing) (k_images := k_images) (k_row := k_row) (k_plan := (a2 0)) (k_sparePlan := k_sparePlan) (k_rule := k_rule) (k_spareRule := k_spareRule) (k_notes := k_notes) (k_spareNotes := k_spareNotes) (a0 := a0) hJ hc) (Sub.gen [0] [1, 2, 3, 4, 5, 6, 7, 8, 9, 10, 11, 12, 13] [13, 0, 1, 2, 3, 4, 5, 6, 7, 8, 9, 10, 11, 12] rfl (by decide) rfl (by decide) (by decide) rfl (by decide)) kw_956 kw_958 kw_12 kw_86 hy_X9_needOneOf kw_959 rfl (Nat.le_of_ble_eq_true rfl) (Nat.le_of_ble_eq_true rfl) (Nat.le_of_ble_eq_true rfl) (Nat.le_of_ble_eq_true rfl) (Nat.le_of_ble_eq_true rfl) dX9_unread_9 (fun he => ?_) (fun he => ?_)
  · subst he
    rw [if_pos rfl] at h
    refine g_wid (n' := 1) (k' := 6) (Nat.le_of_ble_eq_true rfl) (Nat.le_of_ble_eq_true rfl) ?_
    refine g_aload_n (pc := 12) C 0 rfl dX9_unread_12 ?_
    refine g_get (pc := 13) C FOK_X9 0 rfl rfl 1 (by decide) kw_368 rfl dX9_unread_13 ?_
    refine g_aload_n (pc := 16) C 0 rfl dX9_unread_16 ?_
    refine g_get (pc := 17) C FOK_X9 0 rfl rfl 1 (by decide) kw_368 rfl dX9_unread_17 ?_
    refine g_get (pc := 20) C FOK_X4 1 rfl rfl 7 (by decide) kw_169 rfl dX9_unread_20 ?_
    refine g_iload_n (pc := 23) C 1 rfl dX9_unread_23 ?_
    obtain ⟨hi, h⟩ := ix_of h
    refine g_iald (pc := 24) C 3 rfl hi dX9_unread_24 ?_
    obtain ⟨v3, hc, h⟩ := b1_of h
    refine g_callV (pc := 25) C (w' := cs_X9 (a0 0) k_tape (a1 0) k_trial k_task k_season k_stuffing k_images k_row (a2 0) k_sparePlan k_rule k_spareRule k_notes k_spareNotes x_latest x_imageMany x_refusedSteps c2 x_misused ++ cs_X4 J.2.2.1 a1 s_year s_wet s_lost s_eaten s_tied s_ripeMany s_gone s_place s_heard s_many s_lying s_ripe ++ cs_X2 J.2.2.1 a2 p_beds p_letters p_readers p_far p_drain p_length p_words p_home) (As := [.int (s_place n1.toNatClampNeg)]) (st := []) (ci := 4) (q0 := 1) rfl rfl (t_X4_wordsIn (a0 := a1) hc) (Sub.gen [1, 2, 3, 4, 5, 6, 7] [0, 8, 9, 10, 11, 12, 13] [0, 7, 8, 9, 10, 11, 12, 13, 1, 2, 3, 4, 5, 6] rfl (by decide) rfl (by decide) (by decide) rfl (by decide)) kw_993 kw_870 kw_871 kw_88 hy_X4_wordsIn kw_872 rfl (Nat.le_of_ble_eq_true rfl) (Nat.le_of_ble_eq_true rfl) (Nat.le_of_ble_eq_true rfl) (Nat.le_of_ble_eq_true rfl) (Nat.le_of_ble_eq_true rfl) dX9_unread_25 ?_
    refine g_aload_n (pc := 28) C 0 rfl dX9_unread_28 ?_
    refine g_get (pc := 29) C FOK_X9 0 rfl rfl 1 (by decide) kw_368 rfl dX9_unread_29 ?_
    refine g_get (pc := 32) C FOK_X4 1 rfl rfl 8 (by decide) kw_171 rfl dX9_unread_32 ?_
    refine g_iload_n (pc := 35) C 1 rfl dX9_unread_35 ?_
    obtain ⟨hi, h⟩ := ix_of h
    refine g_iald (pc := 36) C 4 rfl hi dX9_unread_36 ?_
    refine g_iconst (pc := 37) C dX9_unread_37 ci_m1 ?_
    refine g_ixor (pc := 38) C dX9_unread_38 ?_
    refine g_iand (pc := 39) C dX9_unread_39 ?_
    cases h
    exact g_iretX C E () rfl dX9_unread_40
  · rw [if_neg he] at h
    cases h
    exact gt_out C he E (Nat.le_of_ble_eq_true rfl) (Nat.le_of_ble_eq_true rfl) () rfl
noncomputable def f_X9_coming_68  (s_tied : Int32) (s_gone : Nat → Int32) (p_beds : Int32) (p_letters : Int32) (p_drain : Nat → Int32) (p_length : Nat → Int32) (n1 : Int32) (n2 : Int32) (k24 : Int32 → Int32 → Int32 → Int32 → Option (Nat × Int32 × Int32 × Int32)) (x3 : Int32) (x4 : Int32) (y0 : Int32) (y1 : Int32) (x_missing : Int32) (x_misused : Int32) : Option (Nat × Int32 × Int32 × Int32) := if y0 = y1 then b1 (f_X4_leftOf s_gone p_length x4) (fun v1 => k24 (x3 + v1) (x4 + 1) x_missing x_misused) else k24 x3 (x4 + 1) x_missing x_misused
noncomputable def f_X9_coming_24  (s_tied : Int32) (s_gone : Nat → Int32) (p_beds : Int32) (p_letters : Int32) (p_drain : Nat → Int32) (p_length : Nat → Int32) (n1 : Int32) (n2 : Int32) : Nat → Int32 → Int32 → Int32 → Int32 → Option (Nat × Int32 × Int32 × Int32)
  | 0, _, _, _, _ => none
  | n + 1, x3, x4, x_missing, x_misused => if p_letters ≤ x4 then some (0, x3, x_missing, x_misused) else if ixb x4 6 then if (p_drain x4.toNatClampNeg) = n1 then b1 (f_X4_isTied s_tied x4) (fun v2 => if n2 = 0 then f_X9_coming_68 s_tied s_gone p_beds p_letters p_drain p_length n1 n2 (f_X9_coming_24 s_tied s_gone p_beds p_letters p_drain p_length n1 n2 n) x3 x4 v2 1 x_missing x_misused else f_X9_coming_68 s_tied s_gone p_beds p_letters p_drain p_length n1 n2 (f_X9_coming_24 s_tied s_gone p_beds p_letters p_drain p_length n1 n2 n) x3 x4 v2 0 x_missing x_misused) else f_X9_coming_24 s_tied s_gone p_beds p_letters p_drain p_length n1 n2 n x3 (x4 + 1) x_missing x_misused else none
noncomputable def f_X9_coming (x_missing : Int32) (x_misused : Int32) (s_tied : Int32) (s_gone : Nat → Int32) (p_beds : Int32) (p_letters : Int32) (p_drain : Nat → Int32) (p_length : Nat → Int32) (n1 : Int32) (n2 : Int32) : Option (Nat × Int32 × Int32 × Int32) := b2 (f_X9_needOneOf x_missing n1 p_beds) (fun e3 c4 => if e3 = 0 then b2 (f_X9_needRange x_misused n2 0 1) (fun e5 c6 => if e5 = 0 then f_X9_coming_24 s_tied s_gone p_beds p_letters p_drain p_length n1 n2 FU 0 0 c4 c6 else some (e5, 0, c4, c6)) else some (e3, 0, c4, x_misused))
def rm_X9_coming : Room := { frames := 10, cells := 2, slots := 12, locals := 143 }
set_option maxRecDepth 100000 in
set_option maxHeartbeats 4000000 in
theorem j_X9_coming_68 {J : Jt} {Z : Zt} {a0 : Nat → Nat} {a1 : Nat → Nat} {a2 : Nat → Nat} {k_tape : Nat} {k_trial : Nat} {k_task : Nat} {k_season : Nat} {k_stuffing : Nat} {k_images : Nat} {k_row : Nat} {k_sparePlan : Nat} {k_rule : Nat} {k_spareRule : Nat} {k_notes : Nat} {k_spareNotes : Nat} {x_latest : Value} {x_imageMany : Int32} {x_refusedSteps : Int32} {s_year : Int32} {s_wet : Int32} {s_lost : Int32} {s_eaten : Int32} {s_tied : Int32} {s_ripeMany : Int32} {s_gone : Nat → Int32} {s_place : Nat → Int32} {s_heard : Nat → Int32} {s_many : Nat → Int32} {s_lying : Nat → Int32} {s_ripe : Nat → Int32} {p_beds : Int32} {p_letters : Int32} {p_readers : Int32} {p_far : Nat → Int32} {p_drain : Nat → Int32} {p_length : Nat → Int32} {p_words : Nat → Int32} {p_home : Nat → Int32} {n1 : Int32} {n2 : Int32} {ex : Nat} {r : Int32} {o_x_missing : Int32} {o_x_misused : Int32} {k24 : Int32 → Int32 → Int32 → Int32 → Option (Nat × Int32 × Int32 × Int32)} (C : Cx J Z cX9_coming 5 RX9 (some .int) rm_X9_coming) (hJ : J.1.stackTraces = false) (E : EzX J Z 2 12 ex (some (.int r)) (fun _ : Unit => cs_X9 (a0 0) k_tape (a1 0) k_trial k_task k_season k_stuffing k_images k_row (a2 0) k_sparePlan k_rule k_spareRule k_notes k_spareNotes x_latest x_imageMany x_refusedSteps o_x_missing o_x_misused ++ cs_X4 J.2.2.1 a1 s_year s_wet s_lost s_eaten s_tied s_ripeMany s_gone s_place s_heard s_many s_lying s_ripe ++ cs_X2 J.2.2.1 a2 p_beds p_letters p_readers p_far p_drain p_length p_words p_home)) (hk24 : ∀ (x3 : Int32) (x4 : Int32) (x_missing : Int32) (x_misused : Int32), k24 x3 x4 x_missing x_misused = some (ex, r, o_x_missing, o_x_misused) → G J Z 2 12 (cs_X9 (a0 0) k_tape (a1 0) k_trial k_task k_season k_stuffing k_images k_row (a2 0) k_sparePlan k_rule k_spareRule k_notes k_spareNotes x_latest x_imageMany x_refusedSteps x_missing x_misused ++ cs_X4 J.2.2.1 a1 s_year s_wet s_lost s_eaten s_tied s_ripeMany s_gone s_place s_heard s_many s_lying s_ripe ++ cs_X2 J.2.2.1 a2 p_beds p_letters p_readers p_far p_drain p_length p_words p_home) 5 [(0, .ref (a0 0)), (1, .int n1), (2, .int n2), (3, .int x3), (4, .int x4)] 24 []) : ∀ (x3 : Int32) (x4 : Int32) (y0 : Int32) (y1 : Int32) (x_missing : Int32) (x_misused : Int32), f_X9_coming_68 s_tied s_gone p_beds p_letters p_drain p_length n1 n2 k24 x3 x4 y0 y1 x_missing x_misused = some (ex, r, o_x_missing, o_x_misused) → G J Z 2 12 (cs_X9 (a0 0) k_tape (a1 0) k_trial k_task k_season k_stuffing k_images k_row (a2 0) k_sparePlan k_rule k_spareRule k_notes k_spareNotes x_latest x_imageMany x_refusedSteps x_missing x_misused ++ cs_X4 J.2.2.1 a1 s_year s_wet s_lost s_eaten s_tied s_ripeMany s_gone s_place s_heard s_many s_lying s_ripe ++ cs_X2 J.2.2.1 a2 p_beds p_letters p_readers p_far p_drain p_length p_words p_home) 5 [(0, .ref (a0 0)), (1, .int n1), (2, .int n2), (3, .int x3), (4, .int x4)] 68 [.int y1, .int y0] := by
  intro x3 x4 y0 y1 x_missing x_misused h
  unfold f_X9_coming_68 at h
  refine g_icmp_ne (pc := 68) C (tgt := 87) dX9_coming_68 rfl h (fun h => ?_) (fun h => ?_)
  · refine g_iinc (pc := 87) C (j := 4) [(4, .int (x4 + 1)), (0, .ref (a0 0)), (1, .int n1), (2, .int n2), (3, .int x3)] dX9_coming_87 rfl (ii_1 _) (by decide) rfl ?_
    refine g_goto (pc := 90) C (tgt := 24) dX9_coming_90 rfl ?_
    refine g_lv [1, 2, 3, 4, 0] rfl ?_
    exact hk24 x3 (x4 + 1) x_missing x_misused h
  · refine g_iload_n (pc := 71) C 3 rfl dX9_coming_71 ?_
    refine g_aload_n (pc := 72) C 0 rfl dX9_coming_72 ?_
    refine g_get (pc := 73) C FOK_X9 0 rfl rfl 1 (by decide) kw_368 rfl dX9_coming_73 ?_
    refine g_aload_n (pc := 76) C 0 rfl dX9_coming_76 ?_
    refine g_get (pc := 77) C FOK_X9 0 rfl rfl 8 (by decide) kw_375 rfl dX9_coming_77 ?_
    refine g_iload (pc := 80) C 4 rfl dX9_coming_80 ?_
    obtain ⟨v1, hc, h⟩ := b1_of h
    refine g_callV (pc := 82) C (w' := cs_X9 (a0 0) k_tape (a1 0) k_trial k_task k_season k_stuffing k_images k_row (a2 0) k_sparePlan k_rule k_spareRule k_notes k_spareNotes x_latest x_imageMany x_refusedSteps x_missing x_misused ++ cs_X4 J.2.2.1 a1 s_year s_wet s_lost s_eaten s_tied s_ripeMany s_gone s_place s_heard s_many s_lying s_ripe ++ cs_X2 J.2.2.1 a2 p_beds p_letters p_readers p_far p_drain p_length p_words p_home) (As := [.ref (a2 0), .int x4]) (st := [.int x3]) (ci := 4) (q0 := 1) rfl rfl (t_X4_leftOf (a0 := a1) (a1 := a2) hc) (Sub.gen [1, 2, 3, 4, 5, 6, 7, 8, 9, 10, 11, 12, 13] [0] [0, 1, 2, 3, 4, 5, 6, 7, 8, 9, 10, 11, 12, 13] rfl (by decide) rfl (by decide) (by decide) rfl (by decide)) kw_975 kw_465 kw_466 kw_88 hy_X4_leftOf kw_467 rfl (Nat.le_of_ble_eq_true rfl) (Nat.le_of_ble_eq_true rfl) (Nat.le_of_ble_eq_true rfl) (Nat.le_of_ble_eq_true rfl) (Nat.le_of_ble_eq_true rfl) dX9_coming_82 ?_
    refine g_iadd (pc := 85) C dX9_coming_85 ?_
    refine g_istore_n (pc := 86) C [(3, .int (x3 + v1)), (0, .ref (a0 0)), (1, .int n1), (2, .int n2), (4, .int x4)] dX9_coming_86 rfl (by decide) rfl ?_
    refine g_iinc (pc := 87) C (j := 4) [(4, .int (x4 + 1)), (3, .int (x3 + v1)), (0, .ref (a0 0)), (1, .int n1), (2, .int n2)] dX9_coming_87 rfl (ii_1 _) (by decide) rfl ?_
    refine g_goto (pc := 90) C (tgt := 24) dX9_coming_90 rfl ?_
    refine g_lv [2, 3, 4, 1, 0] rfl ?_
    exact hk24 (x3 + v1) (x4 + 1) x_missing x_misused h
set_option maxRecDepth 100000 in
set_option maxHeartbeats 4000000 in
theorem j_X9_coming_24 {J : Jt} {Z : Zt} {a0 : Nat → Nat} {a1 : Nat → Nat} {a2 : Nat → Nat} {k_tape : Nat} {k_trial : Nat} {k_task : Nat} {k_season : Nat} {k_stuffing : Nat} {k_images : Nat} {k_row : Nat} {k_sparePlan : Nat} {k_rule : Nat} {k_spareRule : Nat} {k_notes : Nat} {k_spareNotes : Nat} {x_latest : Value} {x_imageMany : Int32} {x_refusedSteps : Int32} {s_year : Int32} {s_wet : Int32} {s_lost : Int32} {s_eaten : Int32} {s_tied : Int32} {s_ripeMany : Int32} {s_gone : Nat → Int32} {s_place : Nat → Int32} {s_heard : Nat → Int32} {s_many : Nat → Int32} {s_lying : Nat → Int32} {s_ripe : Nat → Int32} {p_beds : Int32} {p_letters : Int32} {p_readers : Int32} {p_far : Nat → Int32} {p_drain : Nat → Int32} {p_length : Nat → Int32} {p_words : Nat → Int32} {p_home : Nat → Int32} {n1 : Int32} {n2 : Int32} {ex : Nat} {r : Int32} {o_x_missing : Int32} {o_x_misused : Int32} (C : Cx J Z cX9_coming 5 RX9 (some .int) rm_X9_coming) (hJ : J.1.stackTraces = false) (E : EzX J Z 2 12 ex (some (.int r)) (fun _ : Unit => cs_X9 (a0 0) k_tape (a1 0) k_trial k_task k_season k_stuffing k_images k_row (a2 0) k_sparePlan k_rule k_spareRule k_notes k_spareNotes x_latest x_imageMany x_refusedSteps o_x_missing o_x_misused ++ cs_X4 J.2.2.1 a1 s_year s_wet s_lost s_eaten s_tied s_ripeMany s_gone s_place s_heard s_many s_lying s_ripe ++ cs_X2 J.2.2.1 a2 p_beds p_letters p_readers p_far p_drain p_length p_words p_home)) : ∀ (n : Nat) (x3 : Int32) (x4 : Int32) (x_missing : Int32) (x_misused : Int32), f_X9_coming_24 s_tied s_gone p_beds p_letters p_drain p_length n1 n2 n x3 x4 x_missing x_misused = some (ex, r, o_x_missing, o_x_misused) → G J Z 2 12 (cs_X9 (a0 0) k_tape (a1 0) k_trial k_task k_season k_stuffing k_images k_row (a2 0) k_sparePlan k_rule k_spareRule k_notes k_spareNotes x_latest x_imageMany x_refusedSteps x_missing x_misused ++ cs_X4 J.2.2.1 a1 s_year s_wet s_lost s_eaten s_tied s_ripeMany s_gone s_place s_heard s_many s_lying s_ripe ++ cs_X2 J.2.2.1 a2 p_beds p_letters p_readers p_far p_drain p_length p_words p_home) 5 [(0, .ref (a0 0)), (1, .int n1), (2, .int n2), (3, .int x3), (4, .int x4)] 24 [] := by
  intro n
  induction n with
  | zero =>
    intro x3 x4 x_missing x_misused h
    rw [f_X9_coming_24] at h
    cases h
  | succ n ih =>
    intro x3 x4 x_missing x_misused h
    rw [f_X9_coming_24] at h
    refine g_iload (pc := 24) C 4 rfl dX9_coming_24 ?_
    refine g_aload_n (pc := 26) C 0 rfl dX9_coming_26 ?_
    refine g_get (pc := 27) C FOK_X9 0 rfl rfl 8 (by decide) kw_375 rfl dX9_coming_27 ?_
    refine g_get (pc := 30) C FOK_X2 8 rfl rfl 1 (by decide) kw_283 rfl dX9_coming_30 ?_
    refine g_icmp_ge (pc := 33) C (tgt := 93) dX9_coming_33 rfl h (fun h => ?_) (fun h => ?_)
    · refine g_iload_n (pc := 93) C 3 rfl dX9_coming_93 ?_
      cases h
      exact g_iretX C E () rfl dX9_coming_94
    · refine g_aload_n (pc := 36) C 0 rfl dX9_coming_36 ?_
      refine g_get (pc := 37) C FOK_X9 0 rfl rfl 8 (by decide) kw_375 rfl dX9_coming_37 ?_
      refine g_get (pc := 40) C FOK_X2 8 rfl rfl 4 (by decide) kw_295 rfl dX9_coming_40 ?_
      refine g_iload (pc := 43) C 4 rfl dX9_coming_43 ?_
      obtain ⟨hi, h⟩ := ix_of h
      refine g_iald (pc := 45) C 10 rfl hi dX9_coming_45 ?_
      refine g_iload_n (pc := 46) C 1 rfl dX9_coming_46 ?_
      refine g_icmp_ne (pc := 47) C (tgt := 87) dX9_coming_47 rfl h (fun h => ?_) (fun h => ?_)
      · refine g_iinc (pc := 87) C (j := 4) [(4, .int (x4 + 1)), (0, .ref (a0 0)), (1, .int n1), (2, .int n2), (3, .int x3)] dX9_coming_87 rfl (ii_1 _) (by decide) rfl ?_
        refine g_goto (pc := 90) C (tgt := 24) dX9_coming_90 rfl ?_
        refine g_lv [1, 2, 3, 4, 0] rfl ?_
        exact ih x3 (x4 + 1) x_missing x_misused h
      · refine g_aload_n (pc := 50) C 0 rfl dX9_coming_50 ?_
        refine g_get (pc := 51) C FOK_X9 0 rfl rfl 1 (by decide) kw_368 rfl dX9_coming_51 ?_
        refine g_iload (pc := 54) C 4 rfl dX9_coming_54 ?_
        obtain ⟨v2, hc, h⟩ := b1_of h
        refine g_callV (pc := 56) C (w' := cs_X9 (a0 0) k_tape (a1 0) k_trial k_task k_season k_stuffing k_images k_row (a2 0) k_sparePlan k_rule k_spareRule k_notes k_spareNotes x_latest x_imageMany x_refusedSteps x_missing x_misused ++ cs_X4 J.2.2.1 a1 s_year s_wet s_lost s_eaten s_tied s_ripeMany s_gone s_place s_heard s_many s_lying s_ripe ++ cs_X2 J.2.2.1 a2 p_beds p_letters p_readers p_far p_drain p_length p_words p_home) (As := [.int x4]) (st := []) (ci := 4) (q0 := 1) rfl rfl (t_X4_isTied (a0 := a1) hc) (Sub.gen [1, 2, 3, 4, 5, 6, 7] [0, 8, 9, 10, 11, 12, 13] [0, 7, 8, 9, 10, 11, 12, 13, 1, 2, 3, 4, 5, 6] rfl (by decide) rfl (by decide) (by decide) rfl (by decide)) kw_977 kw_891 kw_892 kw_88 hy_X4_isTied kw_893 rfl (Nat.le_of_ble_eq_true rfl) (Nat.le_of_ble_eq_true rfl) (Nat.le_of_ble_eq_true rfl) (Nat.le_of_ble_eq_true rfl) (Nat.le_of_ble_eq_true rfl) dX9_coming_56 ?_
        refine g_iload_n (pc := 59) C 2 rfl dX9_coming_59 ?_
        refine g_if_ne (pc := 60) C (tgt := 67) dX9_coming_60 rfl h (fun h => ?_) (fun h => ?_)
        · refine g_iconst (pc := 67) C dX9_coming_67 ci_0 ?_
          exact j_X9_coming_68 C hJ E   ih x3 x4 v2 0 x_missing x_misused h
        · refine g_iconst (pc := 63) C dX9_coming_63 ci_1 ?_
          refine g_goto (pc := 64) C (tgt := 68) dX9_coming_64 rfl ?_
          exact j_X9_coming_68 C hJ E   ih x3 x4 v2 1 x_missing x_misused h
set_option maxRecDepth 100000 in
set_option maxHeartbeats 4000000 in
theorem t_X9_coming {J : Jt} {a0 : Nat → Nat} {a1 : Nat → Nat} {a2 : Nat → Nat} {k_tape : Nat} {k_trial : Nat} {k_task : Nat} {k_season : Nat} {k_stuffing : Nat} {k_images : Nat} {k_row : Nat} {k_sparePlan : Nat} {k_rule : Nat} {k_spareRule : Nat} {k_notes : Nat} {k_spareNotes : Nat} {x_latest : Value} {x_imageMany : Int32} {x_refusedSteps : Int32} {x_missing : Int32} {x_misused : Int32} {s_year : Int32} {s_wet : Int32} {s_lost : Int32} {s_eaten : Int32} {s_tied : Int32} {s_ripeMany : Int32} {s_gone : Nat → Int32} {s_place : Nat → Int32} {s_heard : Nat → Int32} {s_many : Nat → Int32} {s_lying : Nat → Int32} {s_ripe : Nat → Int32} {p_beds : Int32} {p_letters : Int32} {p_readers : Int32} {p_far : Nat → Int32} {p_drain : Nat → Int32} {p_length : Nat → Int32} {p_words : Nat → Int32} {p_home : Nat → Int32} {n1 : Int32} {n2 : Int32} {ex : Nat} {r : Int32} {o_x_missing : Int32} {o_x_misused : Int32} (hJ : J.1.stackTraces = false) (h : f_X9_coming x_missing x_misused s_tied s_gone p_beds p_letters p_drain p_length n1 n2 = some (ex, r, o_x_missing, o_x_misused)) : MtX J yX9_coming cX9_coming 5 (some .int) rm_X9_coming [.ref (a0 0), .int n1, .int n2] (cs_X9 (a0 0) k_tape (a1 0) k_trial k_task k_season k_stuffing k_images k_row (a2 0) k_sparePlan k_rule k_spareRule k_notes k_spareNotes x_latest x_imageMany x_refusedSteps x_missing x_misused ++ cs_X4 J.2.2.1 a1 s_year s_wet s_lost s_eaten s_tied s_ripeMany s_gone s_place s_heard s_many s_lying s_ripe ++ cs_X2 J.2.2.1 a2 p_beds p_letters p_readers p_far p_drain p_length p_words p_home) ex (some (.int r)) (fun _ : Unit => cs_X9 (a0 0) k_tape (a1 0) k_trial k_task k_season k_stuffing k_images k_row (a2 0) k_sparePlan k_rule k_spareRule k_notes k_spareNotes x_latest x_imageMany x_refusedSteps o_x_missing o_x_misused ++ cs_X4 J.2.2.1 a1 s_year s_wet s_lost s_eaten s_tied s_ripeMany s_gone s_place s_heard s_many s_lying s_ripe ++ cs_X2 J.2.2.1 a2 p_beds p_letters p_readers p_far p_drain p_length p_words p_home) := by
  refine MtX_of (own := RX9) (by decide) rfl (Nat.le_of_ble_eq_true rfl) rfl (fun Z C E => ?_)
  unfold f_X9_coming at h
  show G J Z 0 0 (cs_X9 (a0 0) k_tape (a1 0) k_trial k_task k_season k_stuffing k_images k_row (a2 0) k_sparePlan k_rule k_spareRule k_notes k_spareNotes x_latest x_imageMany x_refusedSteps x_missing x_misused ++ cs_X4 J.2.2.1 a1 s_year s_wet s_lost s_eaten s_tied s_ripeMany s_gone s_place s_heard s_many s_lying s_ripe ++ cs_X2 J.2.2.1 a2 p_beds p_letters p_readers p_far p_drain p_length p_words p_home) 5 [(0, .ref (a0 0)), (1, .int n1), (2, .int n2)] 0 []
  refine g_aload_n (pc := 0) C 0 rfl dX9_coming_0 ?_
  refine g_iload_n (pc := 1) C 1 rfl dX9_coming_1 ?_
  refine g_aload_n (pc := 2) C 0 rfl dX9_coming_2 ?_
  refine g_get (pc := 3) C FOK_X9 0 rfl rfl 8 (by decide) kw_375 rfl dX9_coming_3 ?_
  refine g_get (pc := 6) C FOK_X2 8 rfl rfl 0 (by decide) kw_279 rfl dX9_coming_6 ?_
  obtain ⟨e3, c4, hc, h⟩ := b2_of h
  refine g_xcallU (pc := 9) C (w' := cs_X9 (a0 0) k_tape (a1 0) k_trial k_task k_season k_stuffing k_images k_row (a2 0) k_sparePlan k_rule k_spareRule k_notes k_spareNotes x_latest x_imageMany x_refusedSteps c4 x_misused ++ cs_X4 J.2.2.1 a1 s_year s_wet s_lost s_eaten s_tied s_ripeMany s_gone s_place s_heard s_many s_lying s_ripe ++ cs_X2 J.2.2.1 a2 p_beds p_letters p_readers p_far p_drain p_length p_words p_home) (As := [.int n1, .int p_beds]) (st := []) (ci := 9) (q0 := 0) rfl rfl (t_X9_needOneOf (k_tape := k_tape) (k_now := (a1 0)) (k_trial := k_trial) (k_task := k_task) (k_season := k_season) (k_stuffing := k_stuffing) (k_images := k_images) (k_row := k_row) (k_plan := (a2 0)) (k_sparePlan := k_sparePlan) (k_rule := k_rule) (k_spareRule := k_spareRule) (k_notes := k_notes) (k_spareNotes := k_spareNotes) (a0 := a0) hJ hc) (Sub.gen [0] [1, 2, 3, 4, 5, 6, 7, 8, 9, 10, 11, 12, 13] [13, 0, 1, 2, 3, 4, 5, 6, 7, 8, 9, 10, 11, 12] rfl (by decide) rfl (by decide) (by decide) rfl (by decide)) kw_956 kw_958 kw_12 kw_86 hy_X9_needOneOf kw_959 rfl (Nat.le_of_ble_eq_true rfl) (Nat.le_of_ble_eq_true rfl) (Nat.le_of_ble_eq_true rfl) (Nat.le_of_ble_eq_true rfl) (Nat.le_of_ble_eq_true rfl) dX9_coming_9 (fun he => ?_) (fun he => ?_)
  · subst he
    rw [if_pos rfl] at h
    refine g_wid (n' := 1) (k' := 6) (Nat.le_of_ble_eq_true rfl) (Nat.le_of_ble_eq_true rfl) ?_
    refine g_aload_n (pc := 12) C 0 rfl dX9_coming_12 ?_
    refine g_iload_n (pc := 13) C 2 rfl dX9_coming_13 ?_
    refine g_iconst (pc := 14) C dX9_coming_14 ci_0 ?_
    refine g_iconst (pc := 15) C dX9_coming_15 ci_1 ?_
    obtain ⟨e5, c6, hc, h⟩ := b2_of h
    refine g_xcallU (pc := 16) C (w' := cs_X9 (a0 0) k_tape (a1 0) k_trial k_task k_season k_stuffing k_images k_row (a2 0) k_sparePlan k_rule k_spareRule k_notes k_spareNotes x_latest x_imageMany x_refusedSteps c4 c6 ++ cs_X4 J.2.2.1 a1 s_year s_wet s_lost s_eaten s_tied s_ripeMany s_gone s_place s_heard s_many s_lying s_ripe ++ cs_X2 J.2.2.1 a2 p_beds p_letters p_readers p_far p_drain p_length p_words p_home) (As := [.int n2, .int 0, .int 1]) (st := []) (ci := 9) (q0 := 0) rfl rfl (t_X9_needRange (k_tape := k_tape) (k_now := (a1 0)) (k_trial := k_trial) (k_task := k_task) (k_season := k_season) (k_stuffing := k_stuffing) (k_images := k_images) (k_row := k_row) (k_plan := (a2 0)) (k_sparePlan := k_sparePlan) (k_rule := k_rule) (k_spareRule := k_spareRule) (k_notes := k_notes) (k_spareNotes := k_spareNotes) (a0 := a0) hJ hc) (Sub.gen [0] [1, 2, 3, 4, 5, 6, 7, 8, 9, 10, 11, 12, 13] [13, 0, 1, 2, 3, 4, 5, 6, 7, 8, 9, 10, 11, 12] rfl (by decide) rfl (by decide) (by decide) rfl (by decide)) kw_545 kw_547 kw_2 kw_86 hy_X9_needRange kw_548 rfl (Nat.le_of_ble_eq_true rfl) (Nat.le_of_ble_eq_true rfl) (Nat.le_of_ble_eq_true rfl) (Nat.le_of_ble_eq_true rfl) (Nat.le_of_ble_eq_true rfl) dX9_coming_16 (fun he => ?_) (fun he => ?_)
    · subst he
      rw [if_pos rfl] at h
      refine g_wid (n' := 2) (k' := 12) (Nat.le_of_ble_eq_true rfl) (Nat.le_of_ble_eq_true rfl) ?_
      refine g_iconst (pc := 19) C dX9_coming_19 ci_0 ?_
      refine g_istore_n (pc := 20) C [(3, .int 0), (0, .ref (a0 0)), (1, .int n1), (2, .int n2)] dX9_coming_20 rfl (by decide) rfl ?_
      refine g_iconst (pc := 21) C dX9_coming_21 ci_0 ?_
      refine g_istore (pc := 22) C [(4, .int 0), (3, .int 0), (0, .ref (a0 0)), (1, .int n1), (2, .int n2)] dX9_coming_22 (by decide) rfl ?_
      refine g_lv [2, 3, 4, 1, 0] rfl ?_
      exact j_X9_coming_24 C hJ E    FU 0 0 c4 c6 h
    · rw [if_neg he] at h
      cases h
      exact gt_out C he E (Nat.le_of_ble_eq_true rfl) (Nat.le_of_ble_eq_true rfl) () rfl
  · rw [if_neg he] at h
    cases h
    exact gt_out C he E (Nat.le_of_ble_eq_true rfl) (Nat.le_of_ble_eq_true rfl) () rfl
noncomputable def f_X9_shared (x_missing : Int32) (s_heard : Nat → Int32) (p_readers : Int32) (n1 : Int32) (n2 : Int32) : Option (Nat × Int32 × Int32) := b2 (f_X9_needOneOf x_missing n1 p_readers) (fun e1 c2 => if e1 = 0 then b2 (f_X9_needOneOf c2 n2 p_readers) (fun e3 c4 => if e3 = 0 then if ixb n1 5 then if ixb n2 5 then b1 (f_J6_bitCount_0f7a4 ((s_heard n1.toNatClampNeg) &&& (s_heard n2.toNatClampNeg))) (fun v5 => some (0, v5, c4)) else none else none else some (e3, 0, c4)) else some (e1, 0, c2))
def rm_X9_shared : Room := { frames := 10, cells := 2, slots := 12, locals := 142 }
set_option maxRecDepth 100000 in
set_option maxHeartbeats 4000000 in
theorem t_X9_shared {J : Jt} {a0 : Nat → Nat} {a1 : Nat → Nat} {a2 : Nat → Nat} {k_tape : Nat} {k_trial : Nat} {k_task : Nat} {k_season : Nat} {k_stuffing : Nat} {k_images : Nat} {k_row : Nat} {k_sparePlan : Nat} {k_rule : Nat} {k_spareRule : Nat} {k_notes : Nat} {k_spareNotes : Nat} {x_latest : Value} {x_imageMany : Int32} {x_refusedSteps : Int32} {x_missing : Int32} {x_misused : Int32} {s_year : Int32} {s_wet : Int32} {s_lost : Int32} {s_eaten : Int32} {s_tied : Int32} {s_ripeMany : Int32} {s_gone : Nat → Int32} {s_place : Nat → Int32} {s_heard : Nat → Int32} {s_many : Nat → Int32} {s_lying : Nat → Int32} {s_ripe : Nat → Int32} {p_beds : Int32} {p_letters : Int32} {p_readers : Int32} {p_far : Nat → Int32} {p_drain : Nat → Int32} {p_length : Nat → Int32} {p_words : Nat → Int32} {p_home : Nat → Int32} {n1 : Int32} {n2 : Int32} {ex : Nat} {r : Int32} {o_x_missing : Int32} (hJ : J.1.stackTraces = false) (h : f_X9_shared x_missing s_heard p_readers n1 n2 = some (ex, r, o_x_missing)) : MtX J yX9_shared cX9_shared 3 (some .int) rm_X9_shared [.ref (a0 0), .int n1, .int n2] (cs_X9 (a0 0) k_tape (a1 0) k_trial k_task k_season k_stuffing k_images k_row (a2 0) k_sparePlan k_rule k_spareRule k_notes k_spareNotes x_latest x_imageMany x_refusedSteps x_missing x_misused ++ cs_X4 J.2.2.1 a1 s_year s_wet s_lost s_eaten s_tied s_ripeMany s_gone s_place s_heard s_many s_lying s_ripe ++ cs_X2 J.2.2.1 a2 p_beds p_letters p_readers p_far p_drain p_length p_words p_home) ex (some (.int r)) (fun _ : Unit => cs_X9 (a0 0) k_tape (a1 0) k_trial k_task k_season k_stuffing k_images k_row (a2 0) k_sparePlan k_rule k_spareRule k_notes k_spareNotes x_latest x_imageMany x_refusedSteps o_x_missing x_misused ++ cs_X4 J.2.2.1 a1 s_year s_wet s_lost s_eaten s_tied s_ripeMany s_gone s_place s_heard s_many s_lying s_ripe ++ cs_X2 J.2.2.1 a2 p_beds p_letters p_readers p_far p_drain p_length p_words p_home) := by
  refine MtX_of (own := RX9) (by decide) rfl (Nat.le_of_ble_eq_true rfl) rfl (fun Z C E => ?_)
  unfold f_X9_shared at h
  show G J Z 0 0 (cs_X9 (a0 0) k_tape (a1 0) k_trial k_task k_season k_stuffing k_images k_row (a2 0) k_sparePlan k_rule k_spareRule k_notes k_spareNotes x_latest x_imageMany x_refusedSteps x_missing x_misused ++ cs_X4 J.2.2.1 a1 s_year s_wet s_lost s_eaten s_tied s_ripeMany s_gone s_place s_heard s_many s_lying s_ripe ++ cs_X2 J.2.2.1 a2 p_beds p_letters p_readers p_far p_drain p_length p_words p_home) 3 [(0, .ref (a0 0)), (1, .int n1), (2, .int n2)] 0 []
  refine g_aload_n (pc := 0) C 0 rfl dX9_shared_0 ?_
  refine g_iload_n (pc := 1) C 1 rfl dX9_shared_1 ?_
  refine g_aload_n (pc := 2) C 0 rfl dX9_shared_2 ?_
  refine g_get (pc := 3) C FOK_X9 0 rfl rfl 8 (by decide) kw_375 rfl dX9_shared_3 ?_
  refine g_get (pc := 6) C FOK_X2 8 rfl rfl 2 (by decide) kw_289 rfl dX9_shared_6 ?_
  obtain ⟨e1, c2, hc, h⟩ := b2_of h
  refine g_xcallU (pc := 9) C (w' := cs_X9 (a0 0) k_tape (a1 0) k_trial k_task k_season k_stuffing k_images k_row (a2 0) k_sparePlan k_rule k_spareRule k_notes k_spareNotes x_latest x_imageMany x_refusedSteps c2 x_misused ++ cs_X4 J.2.2.1 a1 s_year s_wet s_lost s_eaten s_tied s_ripeMany s_gone s_place s_heard s_many s_lying s_ripe ++ cs_X2 J.2.2.1 a2 p_beds p_letters p_readers p_far p_drain p_length p_words p_home) (As := [.int n1, .int p_readers]) (st := []) (ci := 9) (q0 := 0) rfl rfl (t_X9_needOneOf (k_tape := k_tape) (k_now := (a1 0)) (k_trial := k_trial) (k_task := k_task) (k_season := k_season) (k_stuffing := k_stuffing) (k_images := k_images) (k_row := k_row) (k_plan := (a2 0)) (k_sparePlan := k_sparePlan) (k_rule := k_rule) (k_spareRule := k_spareRule) (k_notes := k_notes) (k_spareNotes := k_spareNotes) (a0 := a0) hJ hc) (Sub.gen [0] [1, 2, 3, 4, 5, 6, 7, 8, 9, 10, 11, 12, 13] [13, 0, 1, 2, 3, 4, 5, 6, 7, 8, 9, 10, 11, 12] rfl (by decide) rfl (by decide) (by decide) rfl (by decide)) kw_956 kw_958 kw_12 kw_86 hy_X9_needOneOf kw_959 rfl (Nat.le_of_ble_eq_true rfl) (Nat.le_of_ble_eq_true rfl) (Nat.le_of_ble_eq_true rfl) (Nat.le_of_ble_eq_true rfl) (Nat.le_of_ble_eq_true rfl) dX9_shared_9 (fun he => ?_) (fun he => ?_)
  · subst he
    rw [if_pos rfl] at h
    refine g_wid (n' := 1) (k' := 6) (Nat.le_of_ble_eq_true rfl) (Nat.le_of_ble_eq_true rfl) ?_
    refine g_aload_n (pc := 12) C 0 rfl dX9_shared_12 ?_
    refine g_iload_n (pc := 13) C 2 rfl dX9_shared_13 ?_
    refine g_aload_n (pc := 14) C 0 rfl dX9_shared_14 ?_
    refine g_get (pc := 15) C FOK_X9 0 rfl rfl 8 (by decide) kw_375 rfl dX9_shared_15 ?_
    refine g_get (pc := 18) C FOK_X2 8 rfl rfl 2 (by decide) kw_289 rfl dX9_shared_18 ?_
    obtain ⟨e3, c4, hc, h⟩ := b2_of h
    refine g_xcallU (pc := 21) C (w' := cs_X9 (a0 0) k_tape (a1 0) k_trial k_task k_season k_stuffing k_images k_row (a2 0) k_sparePlan k_rule k_spareRule k_notes k_spareNotes x_latest x_imageMany x_refusedSteps c4 x_misused ++ cs_X4 J.2.2.1 a1 s_year s_wet s_lost s_eaten s_tied s_ripeMany s_gone s_place s_heard s_many s_lying s_ripe ++ cs_X2 J.2.2.1 a2 p_beds p_letters p_readers p_far p_drain p_length p_words p_home) (As := [.int n2, .int p_readers]) (st := []) (ci := 9) (q0 := 0) rfl rfl (t_X9_needOneOf (k_tape := k_tape) (k_now := (a1 0)) (k_trial := k_trial) (k_task := k_task) (k_season := k_season) (k_stuffing := k_stuffing) (k_images := k_images) (k_row := k_row) (k_plan := (a2 0)) (k_sparePlan := k_sparePlan) (k_rule := k_rule) (k_spareRule := k_spareRule) (k_notes := k_notes) (k_spareNotes := k_spareNotes) (a0 := a0) hJ hc) (Sub.gen [0] [1, 2, 3, 4, 5, 6, 7, 8, 9, 10, 11, 12, 13] [13, 0, 1, 2, 3, 4, 5, 6, 7, 8, 9, 10, 11, 12] rfl (by decide) rfl (by decide) (by decide) rfl (by decide)) kw_956 kw_958 kw_12 kw_86 hy_X9_needOneOf kw_959 rfl (Nat.le_of_ble_eq_true rfl) (Nat.le_of_ble_eq_true rfl) (Nat.le_of_ble_eq_true rfl) (Nat.le_of_ble_eq_true rfl) (Nat.le_of_ble_eq_true rfl) dX9_shared_21 (fun he => ?_) (fun he => ?_)
    · subst he
      rw [if_pos rfl] at h
      refine g_wid (n' := 2) (k' := 12) (Nat.le_of_ble_eq_true rfl) (Nat.le_of_ble_eq_true rfl) ?_
      refine g_aload_n (pc := 24) C 0 rfl dX9_shared_24 ?_
      refine g_get (pc := 25) C FOK_X9 0 rfl rfl 1 (by decide) kw_368 rfl dX9_shared_25 ?_
      refine g_get (pc := 28) C FOK_X4 1 rfl rfl 8 (by decide) kw_171 rfl dX9_shared_28 ?_
      refine g_iload_n (pc := 31) C 1 rfl dX9_shared_31 ?_
      obtain ⟨hi, h⟩ := ix_of h
      refine g_iald (pc := 32) C 4 rfl hi dX9_shared_32 ?_
      refine g_aload_n (pc := 33) C 0 rfl dX9_shared_33 ?_
      refine g_get (pc := 34) C FOK_X9 0 rfl rfl 1 (by decide) kw_368 rfl dX9_shared_34 ?_
      refine g_get (pc := 37) C FOK_X4 1 rfl rfl 8 (by decide) kw_171 rfl dX9_shared_37 ?_
      refine g_iload_n (pc := 40) C 2 rfl dX9_shared_40 ?_
      obtain ⟨hi, h⟩ := ix_of h
      refine g_iald (pc := 41) C 4 rfl hi dX9_shared_41 ?_
      refine g_iand (pc := 42) C dX9_shared_42 ?_
      obtain ⟨v5, hc, h⟩ := b1_of h
      refine g_callSX (pc := 43) C (w' := cs_X9 (a0 0) k_tape (a1 0) k_trial k_task k_season k_stuffing k_images k_row (a2 0) k_sparePlan k_rule k_spareRule k_notes k_spareNotes x_latest x_imageMany x_refusedSteps c4 x_misused ++ cs_X4 J.2.2.1 a1 s_year s_wet s_lost s_eaten s_tied s_ripeMany s_gone s_place s_heard s_many s_lying s_ripe ++ cs_X2 J.2.2.1 a2 p_beds p_letters p_readers p_far p_drain p_length p_words p_home) (As := [.int ((s_heard n1.toNatClampNeg) &&& (s_heard n2.toNatClampNeg))]) (st := []) (t_J6_bitCount_0f7a4 hc) Sub.nil kw_1077 kw_1078 kw_108 hn_J6_bitCount_0f7a4 kw_1079 rfl (Nat.le_of_ble_eq_true rfl) (Nat.le_of_ble_eq_true rfl) (Nat.le_of_ble_eq_true rfl) (Nat.le_of_ble_eq_true rfl) (Nat.le_of_ble_eq_true rfl) dX9_shared_43 ?_
      cases h
      exact g_iretX C E () rfl dX9_shared_46
    · rw [if_neg he] at h
      cases h
      exact gt_out C he E (Nat.le_of_ble_eq_true rfl) (Nat.le_of_ble_eq_true rfl) () rfl
  · rw [if_neg he] at h
    cases h
    exact gt_out C he E (Nat.le_of_ble_eq_true rfl) (Nat.le_of_ble_eq_true rfl) () rfl
noncomputable def f_X9_summer (x_misused : Int32) (s_year : Int32) (s_wet : Int32) (s_lost : Int32) (s_eaten : Int32) (s_tied : Int32) (s_ripeMany : Int32) (s_gone : Nat → Int32) (s_place : Nat → Int32) (s_heard : Nat → Int32) (s_many : Nat → Int32) (s_lying : Nat → Int32) (s_ripe : Nat → Int32) (s2_year : Int32) (s2_wet : Int32) (s2_lost : Int32) (s2_eaten : Int32) (s2_tied : Int32) (s2_ripeMany : Int32) (s2_gone : Nat → Int32) (s2_place : Nat → Int32) (s2_heard : Nat → Int32) (s2_many : Nat → Int32) (s2_lying : Nat → Int32) (s2_ripe : Nat → Int32) (u_drawn : Int32) (p_beds : Int32) (p_letters : Int32) (p_readers : Int32) (p_far : Nat → Int32) (p_drain : Nat → Int32) (p_length : Nat → Int32) (p_words : Nat → Int32) (l_code : Nat → Int32) (l_values : Nat → Int32) (l_stack : Nat → Int32) (l_length : Int32) (n1 : Int32) (n2 : Int32) (n3 : Int32) (n4 : Int32) : Option (Nat × Int32 × Int32 × Int32 × Int32 × Int32 × Int32 × Int32 × Int32 × (Nat → Int32) × (Nat → Int32) × (Nat → Int32) × (Nat → Int32) × (Nat → Int32) × (Nat → Int32) × Int32 × (Nat → Int32) × (Nat → Int32)) := b2 (f_X9_needRange x_misused n2 0 16) (fun e1 c2 => if e1 = 0 then b2 (f_X9_needRange c2 n3 1 48) (fun e3 c4 => if e3 = 0 then b2 (f_X9_needRange c4 n4 0 3) (fun e5 c6 => if e5 = 0 then b12 (f_X4_copy s2_year s2_wet s2_lost s2_eaten s2_tied s2_ripeMany s2_gone s2_place s2_heard s2_many s2_lying s2_ripe s_year s_wet s_lost s_eaten s_tied s_ripeMany s_gone s_place s_heard s_many s_lying s_ripe) (fun c7 c8 c9 c10 c11 c12 c13 c14 c15 c16 c17 c18 => b13 (f_X6_pass u_drawn c7 c8 c9 c11 c12 c13 c14 c15 c16 c17 c18 p_beds p_letters p_readers p_far p_drain p_length p_words l_code l_values l_stack l_length n1 n2 n3) (fun c19 c20 c21 c22 c23 c24 c25 c26 c27 c28 c29 c30 c31 => if n4 = 0 then b1 (f_X4_leftOfAll c24 p_letters p_length) (fun v32 => some (0, v32, c6, c20, c21, c22, c10, c11, c23, c24, c25, c26, c27, c28, c29, c19, c30, c31)) else if n4 = 1 then some (0, c23, c6, c20, c21, c22, c10, c11, c23, c24, c25, c26, c27, c28, c29, c19, c30, c31) else if n4 = 2 then b1 (f_X4_lyingInAll c27) (fun v33 => some (0, v33, c6, c20, c21, c22, c10, c11, c23, c24, c25, c26, c27, c28, c29, c19, c30, c31)) else b1 (f_X4_heardByAny c26 p_readers) (fun v34 => some (0, v34, c6, c20, c21, c22, c10, c11, c23, c24, c25, c26, c27, c28, c29, c19, c30, c31)))) else some (e5, 0, c6, s2_year, s2_wet, s2_lost, s2_eaten, s2_tied, s2_ripeMany, s2_gone, s2_place, s2_heard, s2_many, s2_lying, s2_ripe, u_drawn, l_values, l_stack)) else some (e3, 0, c4, s2_year, s2_wet, s2_lost, s2_eaten, s2_tied, s2_ripeMany, s2_gone, s2_place, s2_heard, s2_many, s2_lying, s2_ripe, u_drawn, l_values, l_stack)) else some (e1, 0, c2, s2_year, s2_wet, s2_lost, s2_eaten, s2_tied, s2_ripeMany, s2_gone, s2_place, s2_heard, s2_many, s2_lying, s2_ripe, u_drawn, l_values, l_stack))
def rm_X9_summer : Room := { frames := 10, cells := 3, slots := 18, locals := 156 }
set_option maxRecDepth 100000 in
set_option maxHeartbeats 4000000 in
theorem t_X9_summer {J : Jt} {a0 : Nat → Nat} {a1 : Nat → Nat} {a2 : Nat → Nat} {a3 : Nat → Nat} {a4 : Nat → Nat} {a5 : Nat → Nat} {k_tape : Nat} {k_task : Nat} {k_stuffing : Nat} {k_images : Nat} {k_row : Nat} {k_sparePlan : Nat} {k_spareRule : Nat} {k_notes : Nat} {k_spareNotes : Nat} {x_latest : Value} {x_imageMany : Int32} {x_refusedSteps : Int32} {x_missing : Int32} {x_misused : Int32} {s_year : Int32} {s_wet : Int32} {s_lost : Int32} {s_eaten : Int32} {s_tied : Int32} {s_ripeMany : Int32} {s_gone : Nat → Int32} {s_place : Nat → Int32} {s_heard : Nat → Int32} {s_many : Nat → Int32} {s_lying : Nat → Int32} {s_ripe : Nat → Int32} {s2_year : Int32} {s2_wet : Int32} {s2_lost : Int32} {s2_eaten : Int32} {s2_tied : Int32} {s2_ripeMany : Int32} {s2_gone : Nat → Int32} {s2_place : Nat → Int32} {s2_heard : Nat → Int32} {s2_many : Nat → Int32} {s2_lying : Nat → Int32} {s2_ripe : Nat → Int32} {u_drawn : Int32} {p_beds : Int32} {p_letters : Int32} {p_readers : Int32} {p_far : Nat → Int32} {p_drain : Nat → Int32} {p_length : Nat → Int32} {p_words : Nat → Int32} {p_home : Nat → Int32} {l_code : Nat → Int32} {l_values : Nat → Int32} {l_stack : Nat → Int32} {l_length : Int32} {n1 : Int32} {n2 : Int32} {n3 : Int32} {n4 : Int32} {ex : Nat} {r : Int32} {o_x_misused : Int32} {o_s2_year : Int32} {o_s2_wet : Int32} {o_s2_lost : Int32} {o_s2_eaten : Int32} {o_s2_tied : Int32} {o_s2_ripeMany : Int32} {o_s2_gone : Nat → Int32} {o_s2_place : Nat → Int32} {o_s2_heard : Nat → Int32} {o_s2_many : Nat → Int32} {o_s2_lying : Nat → Int32} {o_s2_ripe : Nat → Int32} {o_u_drawn : Int32} {o_l_values : Nat → Int32} {o_l_stack : Nat → Int32} (hJ : J.1.stackTraces = false) (h : f_X9_summer x_misused s_year s_wet s_lost s_eaten s_tied s_ripeMany s_gone s_place s_heard s_many s_lying s_ripe s2_year s2_wet s2_lost s2_eaten s2_tied s2_ripeMany s2_gone s2_place s2_heard s2_many s2_lying s2_ripe u_drawn p_beds p_letters p_readers p_far p_drain p_length p_words l_code l_values l_stack l_length n1 n2 n3 n4 = some (ex, r, o_x_misused, o_s2_year, o_s2_wet, o_s2_lost, o_s2_eaten, o_s2_tied, o_s2_ripeMany, o_s2_gone, o_s2_place, o_s2_heard, o_s2_many, o_s2_lying, o_s2_ripe, o_u_drawn, o_l_values, o_l_stack)) : MtX J yX9_summer cX9_summer 5 (some .int) rm_X9_summer [.ref (a0 0), .int n1, .int n2, .int n3, .int n4] (cs_X9 (a0 0) k_tape (a1 0) (a2 0) k_task (a3 0) k_stuffing k_images k_row (a4 0) k_sparePlan (a5 0) k_spareRule k_notes k_spareNotes x_latest x_imageMany x_refusedSteps x_missing x_misused ++ cs_X4 J.2.2.1 a1 s_year s_wet s_lost s_eaten s_tied s_ripeMany s_gone s_place s_heard s_many s_lying s_ripe ++ cs_X4 J.2.2.1 a2 s2_year s2_wet s2_lost s2_eaten s2_tied s2_ripeMany s2_gone s2_place s2_heard s2_many s2_lying s2_ripe ++ cs_X6 J.2.2.1 a3 u_drawn ++ cs_X2 J.2.2.1 a4 p_beds p_letters p_readers p_far p_drain p_length p_words p_home ++ cs_X1 J.2.2.1 a5 l_code l_values l_stack l_length) ex (some (.int r)) (fun _ : Unit => cs_X9 (a0 0) k_tape (a1 0) (a2 0) k_task (a3 0) k_stuffing k_images k_row (a4 0) k_sparePlan (a5 0) k_spareRule k_notes k_spareNotes x_latest x_imageMany x_refusedSteps x_missing o_x_misused ++ cs_X4 J.2.2.1 a1 s_year s_wet s_lost s_eaten s_tied s_ripeMany s_gone s_place s_heard s_many s_lying s_ripe ++ cs_X4 J.2.2.1 a2 o_s2_year o_s2_wet o_s2_lost o_s2_eaten o_s2_tied o_s2_ripeMany o_s2_gone o_s2_place o_s2_heard o_s2_many o_s2_lying o_s2_ripe ++ cs_X6 J.2.2.1 a3 o_u_drawn ++ cs_X2 J.2.2.1 a4 p_beds p_letters p_readers p_far p_drain p_length p_words p_home ++ cs_X1 J.2.2.1 a5 l_code o_l_values o_l_stack l_length) := by
  refine MtX_of (own := RX9) (by decide) rfl (Nat.le_of_ble_eq_true rfl) rfl (fun Z C E => ?_)
  unfold f_X9_summer at h
  show G J Z 0 0 (cs_X9 (a0 0) k_tape (a1 0) (a2 0) k_task (a3 0) k_stuffing k_images k_row (a4 0) k_sparePlan (a5 0) k_spareRule k_notes k_spareNotes x_latest x_imageMany x_refusedSteps x_missing x_misused ++ cs_X4 J.2.2.1 a1 s_year s_wet s_lost s_eaten s_tied s_ripeMany s_gone s_place s_heard s_many s_lying s_ripe ++ cs_X4 J.2.2.1 a2 s2_year s2_wet s2_lost s2_eaten s2_tied s2_ripeMany s2_gone s2_place s2_heard s2_many s2_lying s2_ripe ++ cs_X6 J.2.2.1 a3 u_drawn ++ cs_X2 J.2.2.1 a4 p_beds p_letters p_readers p_far p_drain p_length p_words p_home ++ cs_X1 J.2.2.1 a5 l_code l_values l_stack l_length) 5 [(0, .ref (a0 0)), (1, .int n1), (2, .int n2), (3, .int n3), (4, .int n4)] 0 []
  refine g_aload_n (pc := 0) C 0 rfl dX9_summer_0 ?_
  refine g_iload_n (pc := 1) C 2 rfl dX9_summer_1 ?_
  refine g_iconst (pc := 2) C dX9_summer_2 ci_0 ?_
  refine g_bipush (pc := 3) C dX9_summer_3 cb_16 ?_
  obtain ⟨e1, c2, hc, h⟩ := b2_of h
  refine g_xcallU (pc := 5) C (w' := cs_X9 (a0 0) k_tape (a1 0) (a2 0) k_task (a3 0) k_stuffing k_images k_row (a4 0) k_sparePlan (a5 0) k_spareRule k_notes k_spareNotes x_latest x_imageMany x_refusedSteps x_missing c2 ++ cs_X4 J.2.2.1 a1 s_year s_wet s_lost s_eaten s_tied s_ripeMany s_gone s_place s_heard s_many s_lying s_ripe ++ cs_X4 J.2.2.1 a2 s2_year s2_wet s2_lost s2_eaten s2_tied s2_ripeMany s2_gone s2_place s2_heard s2_many s2_lying s2_ripe ++ cs_X6 J.2.2.1 a3 u_drawn ++ cs_X2 J.2.2.1 a4 p_beds p_letters p_readers p_far p_drain p_length p_words p_home ++ cs_X1 J.2.2.1 a5 l_code l_values l_stack l_length) (As := [.int n2, .int 0, .int 16]) (st := []) (ci := 9) (q0 := 0) rfl rfl (t_X9_needRange (k_tape := k_tape) (k_now := (a1 0)) (k_trial := (a2 0)) (k_task := k_task) (k_season := (a3 0)) (k_stuffing := k_stuffing) (k_images := k_images) (k_row := k_row) (k_plan := (a4 0)) (k_sparePlan := k_sparePlan) (k_rule := (a5 0)) (k_spareRule := k_spareRule) (k_notes := k_notes) (k_spareNotes := k_spareNotes) (a0 := a0) hJ hc) (Sub.gen [0] [1, 2, 3, 4, 5, 6, 7, 8, 9, 10, 11, 12, 13, 14, 15, 16, 17, 18, 19, 20, 21, 22, 23, 24, 25] [25, 0, 1, 2, 3, 4, 5, 6, 7, 8, 9, 10, 11, 12, 13, 14, 15, 16, 17, 18, 19, 20, 21, 22, 23, 24] rfl (by decide) rfl (by decide) (by decide) rfl (by decide)) kw_545 kw_547 kw_2 kw_86 hy_X9_needRange kw_548 rfl (Nat.le_of_ble_eq_true rfl) (Nat.le_of_ble_eq_true rfl) (Nat.le_of_ble_eq_true rfl) (Nat.le_of_ble_eq_true rfl) (Nat.le_of_ble_eq_true rfl) dX9_summer_5 (fun he => ?_) (fun he => ?_)
  · subst he
    rw [if_pos rfl] at h
    refine g_wid (n' := 1) (k' := 6) (Nat.le_of_ble_eq_true rfl) (Nat.le_of_ble_eq_true rfl) ?_
    refine g_aload_n (pc := 8) C 0 rfl dX9_summer_8 ?_
    refine g_iload_n (pc := 9) C 3 rfl dX9_summer_9 ?_
    refine g_iconst (pc := 10) C dX9_summer_10 ci_1 ?_
    refine g_bipush (pc := 11) C dX9_summer_11 cb_48 ?_
    obtain ⟨e3, c4, hc, h⟩ := b2_of h
    refine g_xcallU (pc := 13) C (w' := cs_X9 (a0 0) k_tape (a1 0) (a2 0) k_task (a3 0) k_stuffing k_images k_row (a4 0) k_sparePlan (a5 0) k_spareRule k_notes k_spareNotes x_latest x_imageMany x_refusedSteps x_missing c4 ++ cs_X4 J.2.2.1 a1 s_year s_wet s_lost s_eaten s_tied s_ripeMany s_gone s_place s_heard s_many s_lying s_ripe ++ cs_X4 J.2.2.1 a2 s2_year s2_wet s2_lost s2_eaten s2_tied s2_ripeMany s2_gone s2_place s2_heard s2_many s2_lying s2_ripe ++ cs_X6 J.2.2.1 a3 u_drawn ++ cs_X2 J.2.2.1 a4 p_beds p_letters p_readers p_far p_drain p_length p_words p_home ++ cs_X1 J.2.2.1 a5 l_code l_values l_stack l_length) (As := [.int n3, .int 1, .int 48]) (st := []) (ci := 9) (q0 := 0) rfl rfl (t_X9_needRange (k_tape := k_tape) (k_now := (a1 0)) (k_trial := (a2 0)) (k_task := k_task) (k_season := (a3 0)) (k_stuffing := k_stuffing) (k_images := k_images) (k_row := k_row) (k_plan := (a4 0)) (k_sparePlan := k_sparePlan) (k_rule := (a5 0)) (k_spareRule := k_spareRule) (k_notes := k_notes) (k_spareNotes := k_spareNotes) (a0 := a0) hJ hc) (Sub.gen [0] [1, 2, 3, 4, 5, 6, 7, 8, 9, 10, 11, 12, 13, 14, 15, 16, 17, 18, 19, 20, 21, 22, 23, 24, 25] [25, 0, 1, 2, 3, 4, 5, 6, 7, 8, 9, 10, 11, 12, 13, 14, 15, 16, 17, 18, 19, 20, 21, 22, 23, 24] rfl (by decide) rfl (by decide) (by decide) rfl (by decide)) kw_545 kw_547 kw_2 kw_86 hy_X9_needRange kw_548 rfl (Nat.le_of_ble_eq_true rfl) (Nat.le_of_ble_eq_true rfl) (Nat.le_of_ble_eq_true rfl) (Nat.le_of_ble_eq_true rfl) (Nat.le_of_ble_eq_true rfl) dX9_summer_13 (fun he => ?_) (fun he => ?_)
    · subst he
      rw [if_pos rfl] at h
      refine g_wid (n' := 2) (k' := 12) (Nat.le_of_ble_eq_true rfl) (Nat.le_of_ble_eq_true rfl) ?_
      refine g_aload_n (pc := 16) C 0 rfl dX9_summer_16 ?_
      refine g_iload (pc := 17) C 4 rfl dX9_summer_17 ?_
      refine g_iconst (pc := 19) C dX9_summer_19 ci_0 ?_
      refine g_iconst (pc := 20) C dX9_summer_20 ci_3 ?_
      obtain ⟨e5, c6, hc, h⟩ := b2_of h
      refine g_xcallU (pc := 21) C (w' := cs_X9 (a0 0) k_tape (a1 0) (a2 0) k_task (a3 0) k_stuffing k_images k_row (a4 0) k_sparePlan (a5 0) k_spareRule k_notes k_spareNotes x_latest x_imageMany x_refusedSteps x_missing c6 ++ cs_X4 J.2.2.1 a1 s_year s_wet s_lost s_eaten s_tied s_ripeMany s_gone s_place s_heard s_many s_lying s_ripe ++ cs_X4 J.2.2.1 a2 s2_year s2_wet s2_lost s2_eaten s2_tied s2_ripeMany s2_gone s2_place s2_heard s2_many s2_lying s2_ripe ++ cs_X6 J.2.2.1 a3 u_drawn ++ cs_X2 J.2.2.1 a4 p_beds p_letters p_readers p_far p_drain p_length p_words p_home ++ cs_X1 J.2.2.1 a5 l_code l_values l_stack l_length) (As := [.int n4, .int 0, .int 3]) (st := []) (ci := 9) (q0 := 0) rfl rfl (t_X9_needRange (k_tape := k_tape) (k_now := (a1 0)) (k_trial := (a2 0)) (k_task := k_task) (k_season := (a3 0)) (k_stuffing := k_stuffing) (k_images := k_images) (k_row := k_row) (k_plan := (a4 0)) (k_sparePlan := k_sparePlan) (k_rule := (a5 0)) (k_spareRule := k_spareRule) (k_notes := k_notes) (k_spareNotes := k_spareNotes) (a0 := a0) hJ hc) (Sub.gen [0] [1, 2, 3, 4, 5, 6, 7, 8, 9, 10, 11, 12, 13, 14, 15, 16, 17, 18, 19, 20, 21, 22, 23, 24, 25] [25, 0, 1, 2, 3, 4, 5, 6, 7, 8, 9, 10, 11, 12, 13, 14, 15, 16, 17, 18, 19, 20, 21, 22, 23, 24] rfl (by decide) rfl (by decide) (by decide) rfl (by decide)) kw_545 kw_547 kw_2 kw_86 hy_X9_needRange kw_548 rfl (Nat.le_of_ble_eq_true rfl) (Nat.le_of_ble_eq_true rfl) (Nat.le_of_ble_eq_true rfl) (Nat.le_of_ble_eq_true rfl) (Nat.le_of_ble_eq_true rfl) dX9_summer_21 (fun he => ?_) (fun he => ?_)
      · subst he
        rw [if_pos rfl] at h
        refine g_wid (n' := 3) (k' := 18) (Nat.le_of_ble_eq_true rfl) (Nat.le_of_ble_eq_true rfl) ?_
        refine g_aload_n (pc := 24) C 0 rfl dX9_summer_24 ?_
        refine g_get (pc := 25) C FOK_X9 0 rfl rfl 2 (by decide) kw_369 rfl dX9_summer_25 ?_
        refine g_aload_n (pc := 28) C 0 rfl dX9_summer_28 ?_
        refine g_get (pc := 29) C FOK_X9 0 rfl rfl 1 (by decide) kw_368 rfl dX9_summer_29 ?_
        obtain ⟨c7, c8, c9, c10, c11, c12, c13, c14, c15, c16, c17, c18, hc, h⟩ := b12_of h
        refine g_callV (pc := 32) C (w' := cs_X9 (a0 0) k_tape (a1 0) (a2 0) k_task (a3 0) k_stuffing k_images k_row (a4 0) k_sparePlan (a5 0) k_spareRule k_notes k_spareNotes x_latest x_imageMany x_refusedSteps x_missing c6 ++ cs_X4 J.2.2.1 a1 s_year s_wet s_lost s_eaten s_tied s_ripeMany s_gone s_place s_heard s_many s_lying s_ripe ++ cs_X4 J.2.2.1 a2 c7 c8 c9 c10 c11 c12 c13 c14 c15 c16 c17 c18 ++ cs_X6 J.2.2.1 a3 u_drawn ++ cs_X2 J.2.2.1 a4 p_beds p_letters p_readers p_far p_drain p_length p_words p_home ++ cs_X1 J.2.2.1 a5 l_code l_values l_stack l_length) (As := [.ref (a1 0)]) (st := []) (ci := 4) (q0 := 8) rfl rfl (t_X4_copy (a0 := a2) (a1 := a1) hc) (Sub.gen [8, 9, 10, 11, 12, 13, 14, 1, 2, 3, 4, 5, 6, 7] [0, 15, 16, 17, 18, 19, 20, 21, 22, 23, 24, 25] [0, 19, 20, 21, 22, 23, 24, 25, 12, 13, 14, 15, 16, 17, 18, 1, 2, 3, 4, 5, 6, 7, 8, 9, 10, 11] rfl (by decide) rfl (by decide) (by decide) rfl (by decide)) kw_445 kw_446 kw_447 kw_88 hy_X4_copy kw_448 rfl (Nat.le_of_ble_eq_true rfl) (Nat.le_of_ble_eq_true rfl) (Nat.le_of_ble_eq_true rfl) (Nat.le_of_ble_eq_true rfl) (Nat.le_of_ble_eq_true rfl) dX9_summer_32 ?_
        refine g_aload_n (pc := 35) C 0 rfl dX9_summer_35 ?_
        refine g_get (pc := 36) C FOK_X9 0 rfl rfl 4 (by decide) kw_371 rfl dX9_summer_36 ?_
        refine g_aload_n (pc := 39) C 0 rfl dX9_summer_39 ?_
        refine g_get (pc := 40) C FOK_X9 0 rfl rfl 2 (by decide) kw_369 rfl dX9_summer_40 ?_
        refine g_aload_n (pc := 43) C 0 rfl dX9_summer_43 ?_
        refine g_get (pc := 44) C FOK_X9 0 rfl rfl 8 (by decide) kw_375 rfl dX9_summer_44 ?_
        refine g_aload_n (pc := 47) C 0 rfl dX9_summer_47 ?_
        refine g_get (pc := 48) C FOK_X9 0 rfl rfl 10 (by decide) kw_377 rfl dX9_summer_48 ?_
        refine g_iload_n (pc := 51) C 1 rfl dX9_summer_51 ?_
        refine g_iload_n (pc := 52) C 2 rfl dX9_summer_52 ?_
        refine g_iload_n (pc := 53) C 3 rfl dX9_summer_53 ?_
        obtain ⟨c19, c20, c21, c22, c23, c24, c25, c26, c27, c28, c29, c30, c31, hc, h⟩ := b13_of h
        refine g_callV (pc := 54) C (w' := cs_X9 (a0 0) k_tape (a1 0) (a2 0) k_task (a3 0) k_stuffing k_images k_row (a4 0) k_sparePlan (a5 0) k_spareRule k_notes k_spareNotes x_latest x_imageMany x_refusedSteps x_missing c6 ++ cs_X4 J.2.2.1 a1 s_year s_wet s_lost s_eaten s_tied s_ripeMany s_gone s_place s_heard s_many s_lying s_ripe ++ cs_X4 J.2.2.1 a2 c20 c21 c22 c10 c11 c23 c24 c25 c26 c27 c28 c29 ++ cs_X6 J.2.2.1 a3 c19 ++ cs_X2 J.2.2.1 a4 p_beds p_letters p_readers p_far p_drain p_length p_words p_home ++ cs_X1 J.2.2.1 a5 l_code c30 c31 l_length) (As := [.ref (a2 0), .ref (a4 0), .ref (a5 0), .int n1, .int n2, .int n3]) (st := []) (ci := 6) (q0 := 15) rfl rfl (t_X6_pass (a0 := a3) (a1 := a2) (a2 := a4) (a3 := a5) hc) (Sub.gen [15, 8, 9, 10, 11, 12, 13, 14, 16, 17, 18, 19, 20, 21, 22, 23, 24, 25] [0, 1, 2, 3, 4, 5, 6, 7] [0, 1, 2, 3, 4, 5, 6, 7, 9, 10, 11, 12, 13, 14, 15, 8, 16, 17, 18, 19, 20, 21, 22, 23, 24, 25] rfl (by decide) rfl (by decide) (by decide) rfl (by decide)) kw_1227 kw_1228 kw_1229 kw_90 hy_X6_pass kw_1230 rfl (Nat.le_of_ble_eq_true rfl) (Nat.le_of_ble_eq_true rfl) (Nat.le_of_ble_eq_true rfl) (Nat.le_of_ble_eq_true rfl) (Nat.le_of_ble_eq_true rfl) dX9_summer_54 ?_
        refine g_iload (pc := 57) C 4 rfl dX9_summer_57 ?_
        rcases ite_of h with ⟨hc, h⟩ | ⟨hn0, h⟩
        · refine g_tsIn (pc := 59) C (tgt := 84) dX9_summer_59 (by rw [hc]; decide) (by rw [hc]; decide) (by rw [hc]; rfl) rfl ?_
          refine g_aload_n (pc := 84) C 0 rfl dX9_summer_84 ?_
          refine g_get (pc := 85) C FOK_X9 0 rfl rfl 2 (by decide) kw_369 rfl dX9_summer_85 ?_
          refine g_aload_n (pc := 88) C 0 rfl dX9_summer_88 ?_
          refine g_get (pc := 89) C FOK_X9 0 rfl rfl 8 (by decide) kw_375 rfl dX9_summer_89 ?_
          obtain ⟨v32, hc, h⟩ := b1_of h
          refine g_callV (pc := 92) C (w' := cs_X9 (a0 0) k_tape (a1 0) (a2 0) k_task (a3 0) k_stuffing k_images k_row (a4 0) k_sparePlan (a5 0) k_spareRule k_notes k_spareNotes x_latest x_imageMany x_refusedSteps x_missing c6 ++ cs_X4 J.2.2.1 a1 s_year s_wet s_lost s_eaten s_tied s_ripeMany s_gone s_place s_heard s_many s_lying s_ripe ++ cs_X4 J.2.2.1 a2 c20 c21 c22 c10 c11 c23 c24 c25 c26 c27 c28 c29 ++ cs_X6 J.2.2.1 a3 c19 ++ cs_X2 J.2.2.1 a4 p_beds p_letters p_readers p_far p_drain p_length p_words p_home ++ cs_X1 J.2.2.1 a5 l_code c30 c31 l_length) (As := [.ref (a4 0)]) (st := []) (ci := 4) (q0 := 8) rfl rfl (t_X4_leftOfAll (a0 := a2) (a1 := a4) hc) (Sub.gen [8, 9, 10, 11, 12, 13, 14, 16, 17, 18, 19, 20, 21] [0, 1, 2, 3, 4, 5, 6, 7, 15, 22, 23, 24, 25] [0, 1, 2, 3, 4, 5, 6, 7, 13, 14, 15, 16, 17, 18, 19, 8, 20, 21, 22, 23, 24, 25, 9, 10, 11, 12] rfl (by decide) rfl (by decide) (by decide) rfl (by decide)) kw_940 kw_941 kw_942 kw_88 hy_X4_leftOfAll kw_943 rfl (Nat.le_of_ble_eq_true rfl) (Nat.le_of_ble_eq_true rfl) (Nat.le_of_ble_eq_true rfl) (Nat.le_of_ble_eq_true rfl) (Nat.le_of_ble_eq_true rfl) dX9_summer_92 ?_
          cases h
          exact g_iretX C E () rfl dX9_summer_95
        rcases ite_of h with ⟨hc, h⟩ | ⟨hn1, h⟩
        · refine g_tsIn (pc := 59) C (tgt := 96) dX9_summer_59 (by rw [hc]; decide) (by rw [hc]; decide) (by rw [hc]; rfl) rfl ?_
          refine g_aload_n (pc := 96) C 0 rfl dX9_summer_96 ?_
          refine g_get (pc := 97) C FOK_X9 0 rfl rfl 2 (by decide) kw_369 rfl dX9_summer_97 ?_
          refine g_get (pc := 100) C FOK_X4 8 rfl rfl 5 (by decide) kw_166 rfl dX9_summer_100 ?_
          cases h
          exact g_iretX C E () rfl dX9_summer_103
        rcases ite_of h with ⟨hc, h⟩ | ⟨hn2, h⟩
        · refine g_tsIn (pc := 59) C (tgt := 104) dX9_summer_59 (by rw [hc]; decide) (by rw [hc]; decide) (by rw [hc]; rfl) rfl ?_
          refine g_aload_n (pc := 104) C 0 rfl dX9_summer_104 ?_
          refine g_get (pc := 105) C FOK_X9 0 rfl rfl 2 (by decide) kw_369 rfl dX9_summer_105 ?_
          obtain ⟨v33, hc, h⟩ := b1_of h
          refine g_callV (pc := 108) C (w' := cs_X9 (a0 0) k_tape (a1 0) (a2 0) k_task (a3 0) k_stuffing k_images k_row (a4 0) k_sparePlan (a5 0) k_spareRule k_notes k_spareNotes x_latest x_imageMany x_refusedSteps x_missing c6 ++ cs_X4 J.2.2.1 a1 s_year s_wet s_lost s_eaten s_tied s_ripeMany s_gone s_place s_heard s_many s_lying s_ripe ++ cs_X4 J.2.2.1 a2 c20 c21 c22 c10 c11 c23 c24 c25 c26 c27 c28 c29 ++ cs_X6 J.2.2.1 a3 c19 ++ cs_X2 J.2.2.1 a4 p_beds p_letters p_readers p_far p_drain p_length p_words p_home ++ cs_X1 J.2.2.1 a5 l_code c30 c31 l_length) (As := []) (st := []) (ci := 4) (q0 := 8) rfl rfl (t_X4_lyingInAll (a0 := a2) hc) (Sub.gen [8, 9, 10, 11, 12, 13, 14] [0, 1, 2, 3, 4, 5, 6, 7, 15, 16, 17, 18, 19, 20, 21, 22, 23, 24, 25] [0, 1, 2, 3, 4, 5, 6, 7, 19, 20, 21, 22, 23, 24, 25, 8, 9, 10, 11, 12, 13, 14, 15, 16, 17, 18] rfl (by decide) rfl (by decide) (by decide) rfl (by decide)) kw_944 kw_945 kw_946 kw_88 hy_X4_lyingInAll kw_947 rfl (Nat.le_of_ble_eq_true rfl) (Nat.le_of_ble_eq_true rfl) (Nat.le_of_ble_eq_true rfl) (Nat.le_of_ble_eq_true rfl) (Nat.le_of_ble_eq_true rfl) dX9_summer_108 ?_
          cases h
          exact g_iretX C E () rfl dX9_summer_111
        have hq0 := lv_neT hn0 (a := 0) (by decide)
        have hq1 := lv_neT hn1 (a := 1) (by decide)
        have hq2 := lv_neT hn2 (a := 2) (by decide)
        refine g_tsOut (pc := 59) C (tgt := 112) dX9_summer_59 (by omega) rfl ?_
        refine g_aload_n (pc := 112) C 0 rfl dX9_summer_112 ?_
        refine g_get (pc := 113) C FOK_X9 0 rfl rfl 2 (by decide) kw_369 rfl dX9_summer_113 ?_
        refine g_aload_n (pc := 116) C 0 rfl dX9_summer_116 ?_
        refine g_get (pc := 117) C FOK_X9 0 rfl rfl 8 (by decide) kw_375 rfl dX9_summer_117 ?_
        obtain ⟨v34, hc, h⟩ := b1_of h
        refine g_callV (pc := 120) C (w' := cs_X9 (a0 0) k_tape (a1 0) (a2 0) k_task (a3 0) k_stuffing k_images k_row (a4 0) k_sparePlan (a5 0) k_spareRule k_notes k_spareNotes x_latest x_imageMany x_refusedSteps x_missing c6 ++ cs_X4 J.2.2.1 a1 s_year s_wet s_lost s_eaten s_tied s_ripeMany s_gone s_place s_heard s_many s_lying s_ripe ++ cs_X4 J.2.2.1 a2 c20 c21 c22 c10 c11 c23 c24 c25 c26 c27 c28 c29 ++ cs_X6 J.2.2.1 a3 c19 ++ cs_X2 J.2.2.1 a4 p_beds p_letters p_readers p_far p_drain p_length p_words p_home ++ cs_X1 J.2.2.1 a5 l_code c30 c31 l_length) (As := [.ref (a4 0)]) (st := []) (ci := 4) (q0 := 8) rfl rfl (t_X4_heardByAny (a0 := a2) (a1 := a4) hc) (Sub.gen [8, 9, 10, 11, 12, 13, 14, 16, 17, 18, 19, 20, 21] [0, 1, 2, 3, 4, 5, 6, 7, 15, 22, 23, 24, 25] [0, 1, 2, 3, 4, 5, 6, 7, 13, 14, 15, 16, 17, 18, 19, 8, 20, 21, 22, 23, 24, 25, 9, 10, 11, 12] rfl (by decide) rfl (by decide) (by decide) rfl (by decide)) kw_1244 kw_1245 kw_1246 kw_88 hy_X4_heardByAny kw_1247 rfl (Nat.le_of_ble_eq_true rfl) (Nat.le_of_ble_eq_true rfl) (Nat.le_of_ble_eq_true rfl) (Nat.le_of_ble_eq_true rfl) (Nat.le_of_ble_eq_true rfl) dX9_summer_120 ?_
        cases h
        exact g_iretX C E () rfl dX9_summer_123
      · rw [if_neg he] at h
        cases h
        exact gt_out C he E (Nat.le_of_ble_eq_true rfl) (Nat.le_of_ble_eq_true rfl) () rfl
    · rw [if_neg he] at h
      cases h
      exact gt_out C he E (Nat.le_of_ble_eq_true rfl) (Nat.le_of_ble_eq_true rfl) () rfl
  · rw [if_neg he] at h
    cases h
    exact gt_out C he E (Nat.le_of_ble_eq_true rfl) (Nat.le_of_ble_eq_true rfl) () rfl
noncomputable def f_X9_span_62  (s_year : Int32) (s_wet : Int32) (s_lost : Int32) (s_eaten : Int32) (s_tied : Int32) (s_ripeMany : Int32) (s_gone : Nat → Int32) (s_place : Nat → Int32) (s_heard : Nat → Int32) (s_many : Nat → Int32) (s_lying : Nat → Int32) (s_ripe : Nat → Int32) (p_beds : Int32) (p_letters : Int32) (p_readers : Int32) (p_far : Nat → Int32) (p_drain : Nat → Int32) (p_length : Nat → Int32) (p_words : Nat → Int32) (l_code : Nat → Int32) (l_length : Int32) (n1 : Int32) (n2 : Int32) (n3 : Int32) (n4 : Int32) (n5 : Int32) (n6 : Int32) : Nat → Int32 → Int32 → Int32 → Int32 → Int32 → Int32 → Int32 → Int32 → Int32 → Int32 → Int32 → (Nat → Int32) → (Nat → Int32) → (Nat → Int32) → (Nat → Int32) → (Nat → Int32) → (Nat → Int32) → Int32 → (Nat → Int32) → (Nat → Int32) → Option (Nat × Int32 × Int32 × Int32 × Int32 × Int32 × Int32 × Int32 × Int32 × (Nat → Int32) × (Nat → Int32) × (Nat → Int32) × (Nat → Int32) × (Nat → Int32) × (Nat → Int32) × Int32 × (Nat → Int32) × (Nat → Int32))
  | 0, _, _, _, _, _, _, _, _, _, _, _, _, _, _, _, _, _, _, _, _ => none
  | n + 1, x7, x8, x9, x10, x_misused, s2_year, s2_wet, s2_lost, s2_eaten, s2_tied, s2_ripeMany, s2_gone, s2_place, s2_heard, s2_many, s2_lying, s2_ripe, u_drawn, l_values, l_stack => if n2 ≤ x10 then if n5 = 0 then some (0, x7, x_misused, s2_year, s2_wet, s2_lost, s2_eaten, s2_tied, s2_ripeMany, s2_gone, s2_place, s2_heard, s2_many, s2_lying, s2_ripe, u_drawn, l_values, l_stack) else if n5 = 1 then some (0, x8, x_misused, s2_year, s2_wet, s2_lost, s2_eaten, s2_tied, s2_ripeMany, s2_gone, s2_place, s2_heard, s2_many, s2_lying, s2_ripe, u_drawn, l_values, l_stack) else some (0, x9, x_misused, s2_year, s2_wet, s2_lost, s2_eaten, s2_tied, s2_ripeMany, s2_gone, s2_place, s2_heard, s2_many, s2_lying, s2_ripe, u_drawn, l_values, l_stack) else b12 (f_X4_copy s2_year s2_wet s2_lost s2_eaten s2_tied s2_ripeMany s2_gone s2_place s2_heard s2_many s2_lying s2_ripe s_year s_wet s_lost s_eaten s_tied s_ripeMany s_gone s_place s_heard s_many s_lying s_ripe) (fun c1 c2 c3 c4 c5 c6 c7 c8 c9 c10 c11 c12 => b13 (f_X6_pass u_drawn c1 c2 c3 c5 c6 c7 c8 c9 c10 c11 c12 p_beds p_letters p_readers p_far p_drain p_length p_words l_code l_values l_stack l_length (n1 + x10) n3 n4) (fun c13 c14 c15 c16 c17 c18 c19 c20 c21 c22 c23 c24 c25 => b1 (f_X4_leftOfAll c18 p_letters p_length) (fun v26 => b1 (f_X4_leftOfAll c18 p_letters p_length) (fun v27 => if ixb n6 6 then if (c21 n6.toNatClampNeg) ≤ 0 then f_X9_span_62 s_year s_wet s_lost s_eaten s_tied s_ripeMany s_gone s_place s_heard s_many s_lying s_ripe p_beds p_letters p_readers p_far p_drain p_length p_words l_code l_length n1 n2 n3 n4 n5 n6 n (imin x7 v26) (imax x8 v27) (x9 + 0) (x10 + 1) x_misused c14 c15 c16 c4 c5 c17 c18 c19 c20 c21 c22 c23 c13 c24 c25 else f_X9_span_62 s_year s_wet s_lost s_eaten s_tied s_ripeMany s_gone s_place s_heard s_many s_lying s_ripe p_beds p_letters p_readers p_far p_drain p_length p_words l_code l_length n1 n2 n3 n4 n5 n6 n (imin x7 v26) (imax x8 v27) (x9 + 1) (x10 + 1) x_misused c14 c15 c16 c4 c5 c17 c18 c19 c20 c21 c22 c23 c13 c24 c25 else none))))
noncomputable def f_X9_span (x_misused : Int32) (s_year : Int32) (s_wet : Int32) (s_lost : Int32) (s_eaten : Int32) (s_tied : Int32) (s_ripeMany : Int32) (s_gone : Nat → Int32) (s_place : Nat → Int32) (s_heard : Nat → Int32) (s_many : Nat → Int32) (s_lying : Nat → Int32) (s_ripe : Nat → Int32) (s2_year : Int32) (s2_wet : Int32) (s2_lost : Int32) (s2_eaten : Int32) (s2_tied : Int32) (s2_ripeMany : Int32) (s2_gone : Nat → Int32) (s2_place : Nat → Int32) (s2_heard : Nat → Int32) (s2_many : Nat → Int32) (s2_lying : Nat → Int32) (s2_ripe : Nat → Int32) (u_drawn : Int32) (p_beds : Int32) (p_letters : Int32) (p_readers : Int32) (p_far : Nat → Int32) (p_drain : Nat → Int32) (p_length : Nat → Int32) (p_words : Nat → Int32) (l_code : Nat → Int32) (l_values : Nat → Int32) (l_stack : Nat → Int32) (l_length : Int32) (n1 : Int32) (n2 : Int32) (n3 : Int32) (n4 : Int32) (n5 : Int32) (n6 : Int32) : Option (Nat × Int32 × Int32 × Int32 × Int32 × Int32 × Int32 × Int32 × Int32 × (Nat → Int32) × (Nat → Int32) × (Nat → Int32) × (Nat → Int32) × (Nat → Int32) × (Nat → Int32) × Int32 × (Nat → Int32) × (Nat → Int32)) := b2 (f_X9_needRange x_misused n2 1 10) (fun e28 c29 => if e28 = 0 then b2 (f_X9_needRange c29 n3 0 16) (fun e30 c31 => if e30 = 0 then b2 (f_X9_needRange c31 n4 1 48) (fun e32 c33 => if e32 = 0 then b2 (f_X9_needRange c33 n5 0 2) (fun e34 c35 => if e34 = 0 then b2 (f_X9_needRange c35 n6 0 (p_beds - 1)) (fun e36 c37 => if e36 = 0 then f_X9_span_62 s_year s_wet s_lost s_eaten s_tied s_ripeMany s_gone s_place s_heard s_many s_lying s_ripe p_beds p_letters p_readers p_far p_drain p_length p_words l_code l_length n1 n2 n3 n4 n5 n6 FU 48 0 0 0 c37 s2_year s2_wet s2_lost s2_eaten s2_tied s2_ripeMany s2_gone s2_place s2_heard s2_many s2_lying s2_ripe u_drawn l_values l_stack else some (e36, 0, c37, s2_year, s2_wet, s2_lost, s2_eaten, s2_tied, s2_ripeMany, s2_gone, s2_place, s2_heard, s2_many, s2_lying, s2_ripe, u_drawn, l_values, l_stack)) else some (e34, 0, c35, s2_year, s2_wet, s2_lost, s2_eaten, s2_tied, s2_ripeMany, s2_gone, s2_place, s2_heard, s2_many, s2_lying, s2_ripe, u_drawn, l_values, l_stack)) else some (e32, 0, c33, s2_year, s2_wet, s2_lost, s2_eaten, s2_tied, s2_ripeMany, s2_gone, s2_place, s2_heard, s2_many, s2_lying, s2_ripe, u_drawn, l_values, l_stack)) else some (e30, 0, c31, s2_year, s2_wet, s2_lost, s2_eaten, s2_tied, s2_ripeMany, s2_gone, s2_place, s2_heard, s2_many, s2_lying, s2_ripe, u_drawn, l_values, l_stack)) else some (e28, 0, c29, s2_year, s2_wet, s2_lost, s2_eaten, s2_tied, s2_ripeMany, s2_gone, s2_place, s2_heard, s2_many, s2_lying, s2_ripe, u_drawn, l_values, l_stack))
def rm_X9_span : Room := { frames := 10, cells := 5, slots := 30, locals := 156 }
set_option maxRecDepth 100000 in
set_option maxHeartbeats 4000000 in
theorem j_X9_span_62 {J : Jt} {Z : Zt} {a0 : Nat → Nat} {a1 : Nat → Nat} {a2 : Nat → Nat} {a3 : Nat → Nat} {a4 : Nat → Nat} {a5 : Nat → Nat} {k_tape : Nat} {k_task : Nat} {k_stuffing : Nat} {k_images : Nat} {k_row : Nat} {k_sparePlan : Nat} {k_spareRule : Nat} {k_notes : Nat} {k_spareNotes : Nat} {x_latest : Value} {x_imageMany : Int32} {x_refusedSteps : Int32} {x_missing : Int32} {s_year : Int32} {s_wet : Int32} {s_lost : Int32} {s_eaten : Int32} {s_tied : Int32} {s_ripeMany : Int32} {s_gone : Nat → Int32} {s_place : Nat → Int32} {s_heard : Nat → Int32} {s_many : Nat → Int32} {s_lying : Nat → Int32} {s_ripe : Nat → Int32} {p_beds : Int32} {p_letters : Int32} {p_readers : Int32} {p_far : Nat → Int32} {p_drain : Nat → Int32} {p_length : Nat → Int32} {p_words : Nat → Int32} {p_home : Nat → Int32} {l_code : Nat → Int32} {l_length : Int32} {n1 : Int32} {n2 : Int32} {n3 : Int32} {n4 : Int32} {n5 : Int32} {n6 : Int32} {ex : Nat} {r : Int32} {o_x_misused : Int32} {o_s2_year : Int32} {o_s2_wet : Int32} {o_s2_lost : Int32} {o_s2_eaten : Int32} {o_s2_tied : Int32} {o_s2_ripeMany : Int32} {o_s2_gone : Nat → Int32} {o_s2_place : Nat → Int32} {o_s2_heard : Nat → Int32} {o_s2_many : Nat → Int32} {o_s2_lying : Nat → Int32} {o_s2_ripe : Nat → Int32} {o_u_drawn : Int32} {o_l_values : Nat → Int32} {o_l_stack : Nat → Int32} (C : Cx J Z cX9_span 11 RX9 (some .int) rm_X9_span) (hJ : J.1.stackTraces = false) (E : EzX J Z 5 30 ex (some (.int r)) (fun _ : Unit => cs_X9 (a0 0) k_tape (a1 0) (a2 0) k_task (a3 0) k_stuffing k_images k_row (a4 0) k_sparePlan (a5 0) k_spareRule k_notes k_spareNotes x_latest x_imageMany x_refusedSteps x_missing o_x_misused ++ cs_X4 J.2.2.1 a1 s_year s_wet s_lost s_eaten s_tied s_ripeMany s_gone s_place s_heard s_many s_lying s_ripe ++ cs_X4 J.2.2.1 a2 o_s2_year o_s2_wet o_s2_lost o_s2_eaten o_s2_tied o_s2_ripeMany o_s2_gone o_s2_place o_s2_heard o_s2_many o_s2_lying o_s2_ripe ++ cs_X6 J.2.2.1 a3 o_u_drawn ++ cs_X2 J.2.2.1 a4 p_beds p_letters p_readers p_far p_drain p_length p_words p_home ++ cs_X1 J.2.2.1 a5 l_code o_l_values o_l_stack l_length)) : ∀ (n : Nat) (x7 : Int32) (x8 : Int32) (x9 : Int32) (x10 : Int32) (x_misused : Int32) (s2_year : Int32) (s2_wet : Int32) (s2_lost : Int32) (s2_eaten : Int32) (s2_tied : Int32) (s2_ripeMany : Int32) (s2_gone : Nat → Int32) (s2_place : Nat → Int32) (s2_heard : Nat → Int32) (s2_many : Nat → Int32) (s2_lying : Nat → Int32) (s2_ripe : Nat → Int32) (u_drawn : Int32) (l_values : Nat → Int32) (l_stack : Nat → Int32), f_X9_span_62 s_year s_wet s_lost s_eaten s_tied s_ripeMany s_gone s_place s_heard s_many s_lying s_ripe p_beds p_letters p_readers p_far p_drain p_length p_words l_code l_length n1 n2 n3 n4 n5 n6 n x7 x8 x9 x10 x_misused s2_year s2_wet s2_lost s2_eaten s2_tied s2_ripeMany s2_gone s2_place s2_heard s2_many s2_lying s2_ripe u_drawn l_values l_stack = some (ex, r, o_x_misused, o_s2_year, o_s2_wet, o_s2_lost, o_s2_eaten, o_s2_tied, o_s2_ripeMany, o_s2_gone, o_s2_place, o_s2_heard, o_s2_many, o_s2_lying, o_s2_ripe, o_u_drawn, o_l_values, o_l_stack) → G J Z 5 30 (cs_X9 (a0 0) k_tape (a1 0) (a2 0) k_task (a3 0) k_stuffing k_images k_row (a4 0) k_sparePlan (a5 0) k_spareRule k_notes k_spareNotes x_latest x_imageMany x_refusedSteps x_missing x_misused ++ cs_X4 J.2.2.1 a1 s_year s_wet s_lost s_eaten s_tied s_ripeMany s_gone s_place s_heard s_many s_lying s_ripe ++ cs_X4 J.2.2.1 a2 s2_year s2_wet s2_lost s2_eaten s2_tied s2_ripeMany s2_gone s2_place s2_heard s2_many s2_lying s2_ripe ++ cs_X6 J.2.2.1 a3 u_drawn ++ cs_X2 J.2.2.1 a4 p_beds p_letters p_readers p_far p_drain p_length p_words p_home ++ cs_X1 J.2.2.1 a5 l_code l_values l_stack l_length) 11 [(0, .ref (a0 0)), (1, .int n1), (2, .int n2), (3, .int n3), (4, .int n4), (5, .int n5), (6, .int n6), (7, .int x7), (8, .int x8), (9, .int x9), (10, .int x10)] 62 [] := by
  intro n
  induction n with
  | zero =>
    intro x7 x8 x9 x10 x_misused s2_year s2_wet s2_lost s2_eaten s2_tied s2_ripeMany s2_gone s2_place s2_heard s2_many s2_lying s2_ripe u_drawn l_values l_stack h
    rw [f_X9_span_62] at h
    cases h
  | succ n ih =>
    intro x7 x8 x9 x10 x_misused s2_year s2_wet s2_lost s2_eaten s2_tied s2_ripeMany s2_gone s2_place s2_heard s2_many s2_lying s2_ripe u_drawn l_values l_stack h
    rw [f_X9_span_62] at h
    refine g_iload (pc := 62) C 10 rfl dX9_span_62 ?_
    refine g_iload_n (pc := 64) C 2 rfl dX9_span_64 ?_
    refine g_icmp_ge (pc := 65) C (tgt := 170) dX9_span_65 rfl h (fun h => ?_) (fun h => ?_)
    · refine g_iload (pc := 170) C 5 rfl dX9_span_170 ?_
      rcases ite_of h with ⟨hc, h⟩ | ⟨hn0, h⟩
      · refine g_lk (pc := 172) C (tgt := 200) dX9_span_172 (by decide +kernel) (by rw [hc]; decide +kernel) rfl ?_
        refine g_iload (pc := 200) C 7 rfl dX9_span_200 ?_
        cases h
        exact g_iretX C E () rfl dX9_span_202
      rcases ite_of h with ⟨hc, h⟩ | ⟨hn1, h⟩
      · refine g_lk (pc := 172) C (tgt := 203) dX9_span_172 (by decide +kernel) (by rw [hc]; decide +kernel) rfl ?_
        refine g_iload (pc := 203) C 8 rfl dX9_span_203 ?_
        cases h
        exact g_iretX C E () rfl dX9_span_205
      have hq0 := lv_neT hn0 (a := 0) (by decide)
      have hq1 := lv_neT hn1 (a := 1) (by decide)
      refine g_lk (pc := 172) C (tgt := 206) dX9_span_172 (by decide +kernel) (lk_2 hq0 hq1) rfl ?_
      refine g_iload (pc := 206) C 9 rfl dX9_span_206 ?_
      cases h
      exact g_iretX C E () rfl dX9_span_208
    · refine g_aload_n (pc := 68) C 0 rfl dX9_span_68 ?_
      refine g_get (pc := 69) C FOK_X9 0 rfl rfl 2 (by decide) kw_369 rfl dX9_span_69 ?_
      refine g_aload_n (pc := 72) C 0 rfl dX9_span_72 ?_
      refine g_get (pc := 73) C FOK_X9 0 rfl rfl 1 (by decide) kw_368 rfl dX9_span_73 ?_
      obtain ⟨c1, c2, c3, c4, c5, c6, c7, c8, c9, c10, c11, c12, hc, h⟩ := b12_of h
      refine g_callV (pc := 76) C (w' := cs_X9 (a0 0) k_tape (a1 0) (a2 0) k_task (a3 0) k_stuffing k_images k_row (a4 0) k_sparePlan (a5 0) k_spareRule k_notes k_spareNotes x_latest x_imageMany x_refusedSteps x_missing x_misused ++ cs_X4 J.2.2.1 a1 s_year s_wet s_lost s_eaten s_tied s_ripeMany s_gone s_place s_heard s_many s_lying s_ripe ++ cs_X4 J.2.2.1 a2 c1 c2 c3 c4 c5 c6 c7 c8 c9 c10 c11 c12 ++ cs_X6 J.2.2.1 a3 u_drawn ++ cs_X2 J.2.2.1 a4 p_beds p_letters p_readers p_far p_drain p_length p_words p_home ++ cs_X1 J.2.2.1 a5 l_code l_values l_stack l_length) (As := [.ref (a1 0)]) (st := []) (ci := 4) (q0 := 8) rfl rfl (t_X4_copy (a0 := a2) (a1 := a1) hc) (Sub.gen [8, 9, 10, 11, 12, 13, 14, 1, 2, 3, 4, 5, 6, 7] [0, 15, 16, 17, 18, 19, 20, 21, 22, 23, 24, 25] [0, 19, 20, 21, 22, 23, 24, 25, 12, 13, 14, 15, 16, 17, 18, 1, 2, 3, 4, 5, 6, 7, 8, 9, 10, 11] rfl (by decide) rfl (by decide) (by decide) rfl (by decide)) kw_445 kw_446 kw_447 kw_88 hy_X4_copy kw_448 rfl (Nat.le_of_ble_eq_true rfl) (Nat.le_of_ble_eq_true rfl) (Nat.le_of_ble_eq_true rfl) (Nat.le_of_ble_eq_true rfl) (Nat.le_of_ble_eq_true rfl) dX9_span_76 ?_
      refine g_aload_n (pc := 79) C 0 rfl dX9_span_79 ?_
      refine g_get (pc := 80) C FOK_X9 0 rfl rfl 4 (by decide) kw_371 rfl dX9_span_80 ?_
      refine g_aload_n (pc := 83) C 0 rfl dX9_span_83 ?_
      refine g_get (pc := 84) C FOK_X9 0 rfl rfl 2 (by decide) kw_369 rfl dX9_span_84 ?_
      refine g_aload_n (pc := 87) C 0 rfl dX9_span_87 ?_
      refine g_get (pc := 88) C FOK_X9 0 rfl rfl 8 (by decide) kw_375 rfl dX9_span_88 ?_
      refine g_aload_n (pc := 91) C 0 rfl dX9_span_91 ?_
      refine g_get (pc := 92) C FOK_X9 0 rfl rfl 10 (by decide) kw_377 rfl dX9_span_92 ?_
      refine g_iload_n (pc := 95) C 1 rfl dX9_span_95 ?_
      refine g_iload (pc := 96) C 10 rfl dX9_span_96 ?_
      refine g_iadd (pc := 98) C dX9_span_98 ?_
      refine g_iload_n (pc := 99) C 3 rfl dX9_span_99 ?_
      refine g_iload (pc := 100) C 4 rfl dX9_span_100 ?_
      obtain ⟨c13, c14, c15, c16, c17, c18, c19, c20, c21, c22, c23, c24, c25, hc, h⟩ := b13_of h
      refine g_callV (pc := 102) C (w' := cs_X9 (a0 0) k_tape (a1 0) (a2 0) k_task (a3 0) k_stuffing k_images k_row (a4 0) k_sparePlan (a5 0) k_spareRule k_notes k_spareNotes x_latest x_imageMany x_refusedSteps x_missing x_misused ++ cs_X4 J.2.2.1 a1 s_year s_wet s_lost s_eaten s_tied s_ripeMany s_gone s_place s_heard s_many s_lying s_ripe ++ cs_X4 J.2.2.1 a2 c14 c15 c16 c4 c5 c17 c18 c19 c20 c21 c22 c23 ++ cs_X6 J.2.2.1 a3 c13 ++ cs_X2 J.2.2.1 a4 p_beds p_letters p_readers p_far p_drain p_length p_words p_home ++ cs_X1 J.2.2.1 a5 l_code c24 c25 l_length) (As := [.ref (a2 0), .ref (a4 0), .ref (a5 0), .int (n1 + x10), .int n3, .int n4]) (st := []) (ci := 6) (q0 := 15) rfl rfl (t_X6_pass (a0 := a3) (a1 := a2) (a2 := a4) (a3 := a5) hc) (Sub.gen [15, 8, 9, 10, 11, 12, 13, 14, 16, 17, 18, 19, 20, 21, 22, 23, 24, 25] [0, 1, 2, 3, 4, 5, 6, 7] [0, 1, 2, 3, 4, 5, 6, 7, 9, 10, 11, 12, 13, 14, 15, 8, 16, 17, 18, 19, 20, 21, 22, 23, 24, 25] rfl (by decide) rfl (by decide) (by decide) rfl (by decide)) kw_1227 kw_1228 kw_1229 kw_90 hy_X6_pass kw_1230 rfl (Nat.le_of_ble_eq_true rfl) (Nat.le_of_ble_eq_true rfl) (Nat.le_of_ble_eq_true rfl) (Nat.le_of_ble_eq_true rfl) (Nat.le_of_ble_eq_true rfl) dX9_span_102 ?_
      refine g_iload (pc := 105) C 7 rfl dX9_span_105 ?_
      refine g_aload_n (pc := 107) C 0 rfl dX9_span_107 ?_
      refine g_get (pc := 108) C FOK_X9 0 rfl rfl 2 (by decide) kw_369 rfl dX9_span_108 ?_
      refine g_aload_n (pc := 111) C 0 rfl dX9_span_111 ?_
      refine g_get (pc := 112) C FOK_X9 0 rfl rfl 8 (by decide) kw_375 rfl dX9_span_112 ?_
      obtain ⟨v26, hc, h⟩ := b1_of h
      refine g_callV (pc := 115) C (w' := cs_X9 (a0 0) k_tape (a1 0) (a2 0) k_task (a3 0) k_stuffing k_images k_row (a4 0) k_sparePlan (a5 0) k_spareRule k_notes k_spareNotes x_latest x_imageMany x_refusedSteps x_missing x_misused ++ cs_X4 J.2.2.1 a1 s_year s_wet s_lost s_eaten s_tied s_ripeMany s_gone s_place s_heard s_many s_lying s_ripe ++ cs_X4 J.2.2.1 a2 c14 c15 c16 c4 c5 c17 c18 c19 c20 c21 c22 c23 ++ cs_X6 J.2.2.1 a3 c13 ++ cs_X2 J.2.2.1 a4 p_beds p_letters p_readers p_far p_drain p_length p_words p_home ++ cs_X1 J.2.2.1 a5 l_code c24 c25 l_length) (As := [.ref (a4 0)]) (st := [.int x7]) (ci := 4) (q0 := 8) rfl rfl (t_X4_leftOfAll (a0 := a2) (a1 := a4) hc) (Sub.gen [8, 9, 10, 11, 12, 13, 14, 16, 17, 18, 19, 20, 21] [0, 1, 2, 3, 4, 5, 6, 7, 15, 22, 23, 24, 25] [0, 1, 2, 3, 4, 5, 6, 7, 13, 14, 15, 16, 17, 18, 19, 8, 20, 21, 22, 23, 24, 25, 9, 10, 11, 12] rfl (by decide) rfl (by decide) (by decide) rfl (by decide)) kw_940 kw_941 kw_942 kw_88 hy_X4_leftOfAll kw_943 rfl (Nat.le_of_ble_eq_true rfl) (Nat.le_of_ble_eq_true rfl) (Nat.le_of_ble_eq_true rfl) (Nat.le_of_ble_eq_true rfl) (Nat.le_of_ble_eq_true rfl) dX9_span_115 ?_
      refine g_imin (pc := 118) C kw_542 kw_543 kw_96 kw_544 (Nat.le_of_ble_eq_true rfl) (Nat.le_of_ble_eq_true rfl) (Nat.le_of_ble_eq_true rfl) (Nat.le_of_ble_eq_true rfl) dX9_span_118 ?_
      refine g_istore (pc := 121) C [(7, .int (imin x7 v26)), (0, .ref (a0 0)), (1, .int n1), (2, .int n2), (3, .int n3), (4, .int n4), (5, .int n5), (6, .int n6), (8, .int x8), (9, .int x9), (10, .int x10)] dX9_span_121 (by decide) rfl ?_
      refine g_iload (pc := 123) C 8 rfl dX9_span_123 ?_
      refine g_aload_n (pc := 125) C 1 rfl dX9_span_125 ?_
      refine g_get (pc := 126) C FOK_X9 0 rfl rfl 2 (by decide) kw_369 rfl dX9_span_126 ?_
      refine g_aload_n (pc := 129) C 1 rfl dX9_span_129 ?_
      refine g_get (pc := 130) C FOK_X9 0 rfl rfl 8 (by decide) kw_375 rfl dX9_span_130 ?_
      obtain ⟨v27, hc, h⟩ := b1_of h
      refine g_callV (pc := 133) C (w' := cs_X9 (a0 0) k_tape (a1 0) (a2 0) k_task (a3 0) k_stuffing k_images k_row (a4 0) k_sparePlan (a5 0) k_spareRule k_notes k_spareNotes x_latest x_imageMany x_refusedSteps x_missing x_misused ++ cs_X4 J.2.2.1 a1 s_year s_wet s_lost s_eaten s_tied s_ripeMany s_gone s_place s_heard s_many s_lying s_ripe ++ cs_X4 J.2.2.1 a2 c14 c15 c16 c4 c5 c17 c18 c19 c20 c21 c22 c23 ++ cs_X6 J.2.2.1 a3 c13 ++ cs_X2 J.2.2.1 a4 p_beds p_letters p_readers p_far p_drain p_length p_words p_home ++ cs_X1 J.2.2.1 a5 l_code c24 c25 l_length) (As := [.ref (a4 0)]) (st := [.int x8]) (ci := 4) (q0 := 8) rfl rfl (t_X4_leftOfAll (a0 := a2) (a1 := a4) hc) (Sub.gen [8, 9, 10, 11, 12, 13, 14, 16, 17, 18, 19, 20, 21] [0, 1, 2, 3, 4, 5, 6, 7, 15, 22, 23, 24, 25] [0, 1, 2, 3, 4, 5, 6, 7, 13, 14, 15, 16, 17, 18, 19, 8, 20, 21, 22, 23, 24, 25, 9, 10, 11, 12] rfl (by decide) rfl (by decide) (by decide) rfl (by decide)) kw_940 kw_941 kw_942 kw_88 hy_X4_leftOfAll kw_943 rfl (Nat.le_of_ble_eq_true rfl) (Nat.le_of_ble_eq_true rfl) (Nat.le_of_ble_eq_true rfl) (Nat.le_of_ble_eq_true rfl) (Nat.le_of_ble_eq_true rfl) dX9_span_133 ?_
      refine g_imax (pc := 136) C kw_1121 kw_1122 kw_96 kw_1123 (Nat.le_of_ble_eq_true rfl) (Nat.le_of_ble_eq_true rfl) (Nat.le_of_ble_eq_true rfl) (Nat.le_of_ble_eq_true rfl) dX9_span_136 ?_
      refine g_istore (pc := 139) C [(8, .int (imax x8 v27)), (7, .int (imin x7 v26)), (0, .ref (a0 0)), (1, .int n1), (2, .int n2), (3, .int n3), (4, .int n4), (5, .int n5), (6, .int n6), (9, .int x9), (10, .int x10)] dX9_span_139 (by decide) rfl ?_
      refine g_iload (pc := 141) C 9 rfl dX9_span_141 ?_
      refine g_aload_n (pc := 143) C 2 rfl dX9_span_143 ?_
      refine g_get (pc := 144) C FOK_X9 0 rfl rfl 2 (by decide) kw_369 rfl dX9_span_144 ?_
      refine g_get (pc := 147) C FOK_X4 8 rfl rfl 9 (by decide) kw_173 rfl dX9_span_147 ?_
      refine g_iload (pc := 150) C 8 rfl dX9_span_150 ?_
      obtain ⟨hi, h⟩ := ix_of h
      refine g_iald (pc := 152) C 12 rfl hi dX9_span_152 ?_
      refine g_if_le (pc := 153) C (tgt := 160) dX9_span_153 rfl h (fun h => ?_) (fun h => ?_)
      · refine g_iconst (pc := 160) C dX9_span_160 ci_0 ?_
        refine g_iadd (pc := 161) C dX9_span_161 ?_
        refine g_istore (pc := 162) C [(9, .int (x9 + 0)), (8, .int (imax x8 v27)), (7, .int (imin x7 v26)), (0, .ref (a0 0)), (1, .int n1), (2, .int n2), (3, .int n3), (4, .int n4), (5, .int n5), (6, .int n6), (10, .int x10)] dX9_span_162 (by decide) rfl ?_
        refine g_iinc (pc := 164) C (j := 10) [(10, .int (x10 + 1)), (9, .int (x9 + 0)), (8, .int (imax x8 v27)), (7, .int (imin x7 v26)), (0, .ref (a0 0)), (1, .int n1), (2, .int n2), (3, .int n3), (4, .int n4), (5, .int n5), (6, .int n6)] dX9_span_164 rfl (ii_1 _) (by decide) rfl ?_
        refine g_goto (pc := 167) C (tgt := 62) dX9_span_167 rfl ?_
        refine g_lv [4, 5, 6, 7, 8, 9, 10, 3, 2, 1, 0] rfl ?_
        exact ih (imin x7 v26) (imax x8 v27) (x9 + 0) (x10 + 1) x_misused c14 c15 c16 c4 c5 c17 c18 c19 c20 c21 c22 c23 c13 c24 c25 h
      · refine g_iconst (pc := 156) C dX9_span_156 ci_1 ?_
        refine g_goto (pc := 157) C (tgt := 161) dX9_span_157 rfl ?_
        refine g_iadd (pc := 161) C dX9_span_161 ?_
        refine g_istore (pc := 162) C [(9, .int (x9 + 1)), (8, .int (imax x8 v27)), (7, .int (imin x7 v26)), (0, .ref (a0 0)), (1, .int n1), (2, .int n2), (3, .int n3), (4, .int n4), (5, .int n5), (6, .int n6), (10, .int x10)] dX9_span_162 (by decide) rfl ?_
        refine g_iinc (pc := 164) C (j := 10) [(10, .int (x10 + 1)), (9, .int (x9 + 1)), (8, .int (imax x8 v27)), (7, .int (imin x7 v26)), (0, .ref (a0 0)), (1, .int n1), (2, .int n2), (3, .int n3), (4, .int n4), (5, .int n5), (6, .int n6)] dX9_span_164 rfl (ii_1 _) (by decide) rfl ?_
        refine g_goto (pc := 167) C (tgt := 62) dX9_span_167 rfl ?_
        refine g_lv [4, 5, 6, 7, 8, 9, 10, 3, 2, 1, 0] rfl ?_
        exact ih (imin x7 v26) (imax x8 v27) (x9 + 1) (x10 + 1) x_misused c14 c15 c16 c4 c5 c17 c18 c19 c20 c21 c22 c23 c13 c24 c25 h
set_option maxRecDepth 100000 in
set_option maxHeartbeats 4000000 in
theorem t_X9_span {J : Jt} {a0 : Nat → Nat} {a1 : Nat → Nat} {a2 : Nat → Nat} {a3 : Nat → Nat} {a4 : Nat → Nat} {a5 : Nat → Nat} {k_tape : Nat} {k_task : Nat} {k_stuffing : Nat} {k_images : Nat} {k_row : Nat} {k_sparePlan : Nat} {k_spareRule : Nat} {k_notes : Nat} {k_spareNotes : Nat} {x_latest : Value} {x_imageMany : Int32} {x_refusedSteps : Int32} {x_missing : Int32} {x_misused : Int32} {s_year : Int32} {s_wet : Int32} {s_lost : Int32} {s_eaten : Int32} {s_tied : Int32} {s_ripeMany : Int32} {s_gone : Nat → Int32} {s_place : Nat → Int32} {s_heard : Nat → Int32} {s_many : Nat → Int32} {s_lying : Nat → Int32} {s_ripe : Nat → Int32} {s2_year : Int32} {s2_wet : Int32} {s2_lost : Int32} {s2_eaten : Int32} {s2_tied : Int32} {s2_ripeMany : Int32} {s2_gone : Nat → Int32} {s2_place : Nat → Int32} {s2_heard : Nat → Int32} {s2_many : Nat → Int32} {s2_lying : Nat → Int32} {s2_ripe : Nat → Int32} {u_drawn : Int32} {p_beds : Int32} {p_letters : Int32} {p_readers : Int32} {p_far : Nat → Int32} {p_drain : Nat → Int32} {p_length : Nat → Int32} {p_words : Nat → Int32} {p_home : Nat → Int32} {l_code : Nat → Int32} {l_values : Nat → Int32} {l_stack : Nat → Int32} {l_length : Int32} {n1 : Int32} {n2 : Int32} {n3 : Int32} {n4 : Int32} {n5 : Int32} {n6 : Int32} {ex : Nat} {r : Int32} {o_x_misused : Int32} {o_s2_year : Int32} {o_s2_wet : Int32} {o_s2_lost : Int32} {o_s2_eaten : Int32} {o_s2_tied : Int32} {o_s2_ripeMany : Int32} {o_s2_gone : Nat → Int32} {o_s2_place : Nat → Int32} {o_s2_heard : Nat → Int32} {o_s2_many : Nat → Int32} {o_s2_lying : Nat → Int32} {o_s2_ripe : Nat → Int32} {o_u_drawn : Int32} {o_l_values : Nat → Int32} {o_l_stack : Nat → Int32} (hJ : J.1.stackTraces = false) (h : f_X9_span x_misused s_year s_wet s_lost s_eaten s_tied s_ripeMany s_gone s_place s_heard s_many s_lying s_ripe s2_year s2_wet s2_lost s2_eaten s2_tied s2_ripeMany s2_gone s2_place s2_heard s2_many s2_lying s2_ripe u_drawn p_beds p_letters p_readers p_far p_drain p_length p_words l_code l_values l_stack l_length n1 n2 n3 n4 n5 n6 = some (ex, r, o_x_misused, o_s2_year, o_s2_wet, o_s2_lost, o_s2_eaten, o_s2_tied, o_s2_ripeMany, o_s2_gone, o_s2_place, o_s2_heard, o_s2_many, o_s2_lying, o_s2_ripe, o_u_drawn, o_l_values, o_l_stack)) : MtX J yX9_span cX9_span 11 (some .int) rm_X9_span [.ref (a0 0), .int n1, .int n2, .int n3, .int n4, .int n5, .int n6] (cs_X9 (a0 0) k_tape (a1 0) (a2 0) k_task (a3 0) k_stuffing k_images k_row (a4 0) k_sparePlan (a5 0) k_spareRule k_notes k_spareNotes x_latest x_imageMany x_refusedSteps x_missing x_misused ++ cs_X4 J.2.2.1 a1 s_year s_wet s_lost s_eaten s_tied s_ripeMany s_gone s_place s_heard s_many s_lying s_ripe ++ cs_X4 J.2.2.1 a2 s2_year s2_wet s2_lost s2_eaten s2_tied s2_ripeMany s2_gone s2_place s2_heard s2_many s2_lying s2_ripe ++ cs_X6 J.2.2.1 a3 u_drawn ++ cs_X2 J.2.2.1 a4 p_beds p_letters p_readers p_far p_drain p_length p_words p_home ++ cs_X1 J.2.2.1 a5 l_code l_values l_stack l_length) ex (some (.int r)) (fun _ : Unit => cs_X9 (a0 0) k_tape (a1 0) (a2 0) k_task (a3 0) k_stuffing k_images k_row (a4 0) k_sparePlan (a5 0) k_spareRule k_notes k_spareNotes x_latest x_imageMany x_refusedSteps x_missing o_x_misused ++ cs_X4 J.2.2.1 a1 s_year s_wet s_lost s_eaten s_tied s_ripeMany s_gone s_place s_heard s_many s_lying s_ripe ++ cs_X4 J.2.2.1 a2 o_s2_year o_s2_wet o_s2_lost o_s2_eaten o_s2_tied o_s2_ripeMany o_s2_gone o_s2_place o_s2_heard o_s2_many o_s2_lying o_s2_ripe ++ cs_X6 J.2.2.1 a3 o_u_drawn ++ cs_X2 J.2.2.1 a4 p_beds p_letters p_readers p_far p_drain p_length p_words p_home ++ cs_X1 J.2.2.1 a5 l_code o_l_values o_l_stack l_length) := by
  refine MtX_of (own := RX9) (by decide) rfl (Nat.le_of_ble_eq_true rfl) rfl (fun Z C E => ?_)
  unfold f_X9_span at h
  show G J Z 0 0 (cs_X9 (a0 0) k_tape (a1 0) (a2 0) k_task (a3 0) k_stuffing k_images k_row (a4 0) k_sparePlan (a5 0) k_spareRule k_notes k_spareNotes x_latest x_imageMany x_refusedSteps x_missing x_misused ++ cs_X4 J.2.2.1 a1 s_year s_wet s_lost s_eaten s_tied s_ripeMany s_gone s_place s_heard s_many s_lying s_ripe ++ cs_X4 J.2.2.1 a2 s2_year s2_wet s2_lost s2_eaten s2_tied s2_ripeMany s2_gone s2_place s2_heard s2_many s2_lying s2_ripe ++ cs_X6 J.2.2.1 a3 u_drawn ++ cs_X2 J.2.2.1 a4 p_beds p_letters p_readers p_far p_drain p_length p_words p_home ++ cs_X1 J.2.2.1 a5 l_code l_values l_stack l_length) 11 [(0, .ref (a0 0)), (1, .int n1), (2, .int n2), (3, .int n3), (4, .int n4), (5, .int n5), (6, .int n6)] 0 []
  refine g_aload_n (pc := 0) C 0 rfl dX9_span_0 ?_
  refine g_iload_n (pc := 1) C 2 rfl dX9_span_1 ?_
  refine g_iconst (pc := 2) C dX9_span_2 ci_1 ?_
  refine g_bipush (pc := 3) C dX9_span_3 cb_10 ?_
  obtain ⟨e28, c29, hc, h⟩ := b2_of h
  refine g_xcallU (pc := 5) C (w' := cs_X9 (a0 0) k_tape (a1 0) (a2 0) k_task (a3 0) k_stuffing k_images k_row (a4 0) k_sparePlan (a5 0) k_spareRule k_notes k_spareNotes x_latest x_imageMany x_refusedSteps x_missing c29 ++ cs_X4 J.2.2.1 a1 s_year s_wet s_lost s_eaten s_tied s_ripeMany s_gone s_place s_heard s_many s_lying s_ripe ++ cs_X4 J.2.2.1 a2 s2_year s2_wet s2_lost s2_eaten s2_tied s2_ripeMany s2_gone s2_place s2_heard s2_many s2_lying s2_ripe ++ cs_X6 J.2.2.1 a3 u_drawn ++ cs_X2 J.2.2.1 a4 p_beds p_letters p_readers p_far p_drain p_length p_words p_home ++ cs_X1 J.2.2.1 a5 l_code l_values l_stack l_length) (As := [.int n2, .int 1, .int 10]) (st := []) (ci := 9) (q0 := 0) rfl rfl (t_X9_needRange (k_tape := k_tape) (k_now := (a1 0)) (k_trial := (a2 0)) (k_task := k_task) (k_season := (a3 0)) (k_stuffing := k_stuffing) (k_images := k_images) (k_row := k_row) (k_plan := (a4 0)) (k_sparePlan := k_sparePlan) (k_rule := (a5 0)) (k_spareRule := k_spareRule) (k_notes := k_notes) (k_spareNotes := k_spareNotes) (a0 := a0) hJ hc) (Sub.gen [0] [1, 2, 3, 4, 5, 6, 7, 8, 9, 10, 11, 12, 13, 14, 15, 16, 17, 18, 19, 20, 21, 22, 23, 24, 25] [25, 0, 1, 2, 3, 4, 5, 6, 7, 8, 9, 10, 11, 12, 13, 14, 15, 16, 17, 18, 19, 20, 21, 22, 23, 24] rfl (by decide) rfl (by decide) (by decide) rfl (by decide)) kw_545 kw_547 kw_2 kw_86 hy_X9_needRange kw_548 rfl (Nat.le_of_ble_eq_true rfl) (Nat.le_of_ble_eq_true rfl) (Nat.le_of_ble_eq_true rfl) (Nat.le_of_ble_eq_true rfl) (Nat.le_of_ble_eq_true rfl) dX9_span_5 (fun he => ?_) (fun he => ?_)
  · subst he
    rw [if_pos rfl] at h
    refine g_wid (n' := 1) (k' := 6) (Nat.le_of_ble_eq_true rfl) (Nat.le_of_ble_eq_true rfl) ?_
    refine g_aload_n (pc := 8) C 0 rfl dX9_span_8 ?_
    refine g_iload_n (pc := 9) C 3 rfl dX9_span_9 ?_
    refine g_iconst (pc := 10) C dX9_span_10 ci_0 ?_
    refine g_bipush (pc := 11) C dX9_span_11 cb_16 ?_
    obtain ⟨e30, c31, hc, h⟩ := b2_of h
    refine g_xcallU (pc := 13) C (w' := cs_X9 (a0 0) k_tape (a1 0) (a2 0) k_task (a3 0) k_stuffing k_images k_row (a4 0) k_sparePlan (a5 0) k_spareRule k_notes k_spareNotes x_latest x_imageMany x_refusedSteps x_missing c31 ++ cs_X4 J.2.2.1 a1 s_year s_wet s_lost s_eaten s_tied s_ripeMany s_gone s_place s_heard s_many s_lying s_ripe ++ cs_X4 J.2.2.1 a2 s2_year s2_wet s2_lost s2_eaten s2_tied s2_ripeMany s2_gone s2_place s2_heard s2_many s2_lying s2_ripe ++ cs_X6 J.2.2.1 a3 u_drawn ++ cs_X2 J.2.2.1 a4 p_beds p_letters p_readers p_far p_drain p_length p_words p_home ++ cs_X1 J.2.2.1 a5 l_code l_values l_stack l_length) (As := [.int n3, .int 0, .int 16]) (st := []) (ci := 9) (q0 := 0) rfl rfl (t_X9_needRange (k_tape := k_tape) (k_now := (a1 0)) (k_trial := (a2 0)) (k_task := k_task) (k_season := (a3 0)) (k_stuffing := k_stuffing) (k_images := k_images) (k_row := k_row) (k_plan := (a4 0)) (k_sparePlan := k_sparePlan) (k_rule := (a5 0)) (k_spareRule := k_spareRule) (k_notes := k_notes) (k_spareNotes := k_spareNotes) (a0 := a0) hJ hc) (Sub.gen [0] [1, 2, 3, 4, 5, 6, 7, 8, 9, 10, 11, 12, 13, 14, 15, 16, 17, 18, 19, 20, 21, 22, 23, 24, 25] [25, 0, 1, 2, 3, 4, 5, 6, 7, 8, 9, 10, 11, 12, 13, 14, 15, 16, 17, 18, 19, 20, 21, 22, 23, 24] rfl (by decide) rfl (by decide) (by decide) rfl (by decide)) kw_545 kw_547 kw_2 kw_86 hy_X9_needRange kw_548 rfl (Nat.le_of_ble_eq_true rfl) (Nat.le_of_ble_eq_true rfl) (Nat.le_of_ble_eq_true rfl) (Nat.le_of_ble_eq_true rfl) (Nat.le_of_ble_eq_true rfl) dX9_span_13 (fun he => ?_) (fun he => ?_)
    · subst he
      rw [if_pos rfl] at h
      refine g_wid (n' := 2) (k' := 12) (Nat.le_of_ble_eq_true rfl) (Nat.le_of_ble_eq_true rfl) ?_
      refine g_aload_n (pc := 16) C 0 rfl dX9_span_16 ?_
      refine g_iload (pc := 17) C 4 rfl dX9_span_17 ?_
      refine g_iconst (pc := 19) C dX9_span_19 ci_1 ?_
      refine g_bipush (pc := 20) C dX9_span_20 cb_48 ?_
      obtain ⟨e32, c33, hc, h⟩ := b2_of h
      refine g_xcallU (pc := 22) C (w' := cs_X9 (a0 0) k_tape (a1 0) (a2 0) k_task (a3 0) k_stuffing k_images k_row (a4 0) k_sparePlan (a5 0) k_spareRule k_notes k_spareNotes x_latest x_imageMany x_refusedSteps x_missing c33 ++ cs_X4 J.2.2.1 a1 s_year s_wet s_lost s_eaten s_tied s_ripeMany s_gone s_place s_heard s_many s_lying s_ripe ++ cs_X4 J.2.2.1 a2 s2_year s2_wet s2_lost s2_eaten s2_tied s2_ripeMany s2_gone s2_place s2_heard s2_many s2_lying s2_ripe ++ cs_X6 J.2.2.1 a3 u_drawn ++ cs_X2 J.2.2.1 a4 p_beds p_letters p_readers p_far p_drain p_length p_words p_home ++ cs_X1 J.2.2.1 a5 l_code l_values l_stack l_length) (As := [.int n4, .int 1, .int 48]) (st := []) (ci := 9) (q0 := 0) rfl rfl (t_X9_needRange (k_tape := k_tape) (k_now := (a1 0)) (k_trial := (a2 0)) (k_task := k_task) (k_season := (a3 0)) (k_stuffing := k_stuffing) (k_images := k_images) (k_row := k_row) (k_plan := (a4 0)) (k_sparePlan := k_sparePlan) (k_rule := (a5 0)) (k_spareRule := k_spareRule) (k_notes := k_notes) (k_spareNotes := k_spareNotes) (a0 := a0) hJ hc) (Sub.gen [0] [1, 2, 3, 4, 5, 6, 7, 8, 9, 10, 11, 12, 13, 14, 15, 16, 17, 18, 19, 20, 21, 22, 23, 24, 25] [25, 0, 1, 2, 3, 4, 5, 6, 7, 8, 9, 10, 11, 12, 13, 14, 15, 16, 17, 18, 19, 20, 21, 22, 23, 24] rfl (by decide) rfl (by decide) (by decide) rfl (by decide)) kw_545 kw_547 kw_2 kw_86 hy_X9_needRange kw_548 rfl (Nat.le_of_ble_eq_true rfl) (Nat.le_of_ble_eq_true rfl) (Nat.le_of_ble_eq_true rfl) (Nat.le_of_ble_eq_true rfl) (Nat.le_of_ble_eq_true rfl) dX9_span_22 (fun he => ?_) (fun he => ?_)
      · subst he
        rw [if_pos rfl] at h
        refine g_wid (n' := 3) (k' := 18) (Nat.le_of_ble_eq_true rfl) (Nat.le_of_ble_eq_true rfl) ?_
        refine g_aload_n (pc := 25) C 0 rfl dX9_span_25 ?_
        refine g_iload (pc := 26) C 5 rfl dX9_span_26 ?_
        refine g_iconst (pc := 28) C dX9_span_28 ci_0 ?_
        refine g_iconst (pc := 29) C dX9_span_29 ci_2 ?_
        obtain ⟨e34, c35, hc, h⟩ := b2_of h
        refine g_xcallU (pc := 30) C (w' := cs_X9 (a0 0) k_tape (a1 0) (a2 0) k_task (a3 0) k_stuffing k_images k_row (a4 0) k_sparePlan (a5 0) k_spareRule k_notes k_spareNotes x_latest x_imageMany x_refusedSteps x_missing c35 ++ cs_X4 J.2.2.1 a1 s_year s_wet s_lost s_eaten s_tied s_ripeMany s_gone s_place s_heard s_many s_lying s_ripe ++ cs_X4 J.2.2.1 a2 s2_year s2_wet s2_lost s2_eaten s2_tied s2_ripeMany s2_gone s2_place s2_heard s2_many s2_lying s2_ripe ++ cs_X6 J.2.2.1 a3 u_drawn ++ cs_X2 J.2.2.1 a4 p_beds p_letters p_readers p_far p_drain p_length p_words p_home ++ cs_X1 J.2.2.1 a5 l_code l_values l_stack l_length) (As := [.int n5, .int 0, .int 2]) (st := []) (ci := 9) (q0 := 0) rfl rfl (t_X9_needRange (k_tape := k_tape) (k_now := (a1 0)) (k_trial := (a2 0)) (k_task := k_task) (k_season := (a3 0)) (k_stuffing := k_stuffing) (k_images := k_images) (k_row := k_row) (k_plan := (a4 0)) (k_sparePlan := k_sparePlan) (k_rule := (a5 0)) (k_spareRule := k_spareRule) (k_notes := k_notes) (k_spareNotes := k_spareNotes) (a0 := a0) hJ hc) (Sub.gen [0] [1, 2, 3, 4, 5, 6, 7, 8, 9, 10, 11, 12, 13, 14, 15, 16, 17, 18, 19, 20, 21, 22, 23, 24, 25] [25, 0, 1, 2, 3, 4, 5, 6, 7, 8, 9, 10, 11, 12, 13, 14, 15, 16, 17, 18, 19, 20, 21, 22, 23, 24] rfl (by decide) rfl (by decide) (by decide) rfl (by decide)) kw_545 kw_547 kw_2 kw_86 hy_X9_needRange kw_548 rfl (Nat.le_of_ble_eq_true rfl) (Nat.le_of_ble_eq_true rfl) (Nat.le_of_ble_eq_true rfl) (Nat.le_of_ble_eq_true rfl) (Nat.le_of_ble_eq_true rfl) dX9_span_30 (fun he => ?_) (fun he => ?_)
        · subst he
          rw [if_pos rfl] at h
          refine g_wid (n' := 4) (k' := 24) (Nat.le_of_ble_eq_true rfl) (Nat.le_of_ble_eq_true rfl) ?_
          refine g_aload_n (pc := 33) C 0 rfl dX9_span_33 ?_
          refine g_iload (pc := 34) C 6 rfl dX9_span_34 ?_
          refine g_iconst (pc := 36) C dX9_span_36 ci_0 ?_
          refine g_aload_n (pc := 37) C 0 rfl dX9_span_37 ?_
          refine g_get (pc := 38) C FOK_X9 0 rfl rfl 8 (by decide) kw_375 rfl dX9_span_38 ?_
          refine g_get (pc := 41) C FOK_X2 16 rfl rfl 0 (by decide) kw_279 rfl dX9_span_41 ?_
          refine g_iconst (pc := 44) C dX9_span_44 ci_1 ?_
          refine g_isub (pc := 45) C dX9_span_45 ?_
          obtain ⟨e36, c37, hc, h⟩ := b2_of h
          refine g_xcallU (pc := 46) C (w' := cs_X9 (a0 0) k_tape (a1 0) (a2 0) k_task (a3 0) k_stuffing k_images k_row (a4 0) k_sparePlan (a5 0) k_spareRule k_notes k_spareNotes x_latest x_imageMany x_refusedSteps x_missing c37 ++ cs_X4 J.2.2.1 a1 s_year s_wet s_lost s_eaten s_tied s_ripeMany s_gone s_place s_heard s_many s_lying s_ripe ++ cs_X4 J.2.2.1 a2 s2_year s2_wet s2_lost s2_eaten s2_tied s2_ripeMany s2_gone s2_place s2_heard s2_many s2_lying s2_ripe ++ cs_X6 J.2.2.1 a3 u_drawn ++ cs_X2 J.2.2.1 a4 p_beds p_letters p_readers p_far p_drain p_length p_words p_home ++ cs_X1 J.2.2.1 a5 l_code l_values l_stack l_length) (As := [.int n6, .int 0, .int (p_beds - 1)]) (st := []) (ci := 9) (q0 := 0) rfl rfl (t_X9_needRange (k_tape := k_tape) (k_now := (a1 0)) (k_trial := (a2 0)) (k_task := k_task) (k_season := (a3 0)) (k_stuffing := k_stuffing) (k_images := k_images) (k_row := k_row) (k_plan := (a4 0)) (k_sparePlan := k_sparePlan) (k_rule := (a5 0)) (k_spareRule := k_spareRule) (k_notes := k_notes) (k_spareNotes := k_spareNotes) (a0 := a0) hJ hc) (Sub.gen [0] [1, 2, 3, 4, 5, 6, 7, 8, 9, 10, 11, 12, 13, 14, 15, 16, 17, 18, 19, 20, 21, 22, 23, 24, 25] [25, 0, 1, 2, 3, 4, 5, 6, 7, 8, 9, 10, 11, 12, 13, 14, 15, 16, 17, 18, 19, 20, 21, 22, 23, 24] rfl (by decide) rfl (by decide) (by decide) rfl (by decide)) kw_545 kw_547 kw_2 kw_86 hy_X9_needRange kw_548 rfl (Nat.le_of_ble_eq_true rfl) (Nat.le_of_ble_eq_true rfl) (Nat.le_of_ble_eq_true rfl) (Nat.le_of_ble_eq_true rfl) (Nat.le_of_ble_eq_true rfl) dX9_span_46 (fun he => ?_) (fun he => ?_)
          · subst he
            rw [if_pos rfl] at h
            refine g_wid (n' := 5) (k' := 30) (Nat.le_of_ble_eq_true rfl) (Nat.le_of_ble_eq_true rfl) ?_
            refine g_bipush (pc := 49) C dX9_span_49 cb_48 ?_
            refine g_istore (pc := 51) C [(7, .int 48), (0, .ref (a0 0)), (1, .int n1), (2, .int n2), (3, .int n3), (4, .int n4), (5, .int n5), (6, .int n6)] dX9_span_51 (by decide) rfl ?_
            refine g_iconst (pc := 53) C dX9_span_53 ci_0 ?_
            refine g_istore (pc := 54) C [(8, .int 0), (7, .int 48), (0, .ref (a0 0)), (1, .int n1), (2, .int n2), (3, .int n3), (4, .int n4), (5, .int n5), (6, .int n6)] dX9_span_54 (by decide) rfl ?_
            refine g_iconst (pc := 56) C dX9_span_56 ci_0 ?_
            refine g_istore (pc := 57) C [(9, .int 0), (8, .int 0), (7, .int 48), (0, .ref (a0 0)), (1, .int n1), (2, .int n2), (3, .int n3), (4, .int n4), (5, .int n5), (6, .int n6)] dX9_span_57 (by decide) rfl ?_
            refine g_iconst (pc := 59) C dX9_span_59 ci_0 ?_
            refine g_istore (pc := 60) C [(10, .int 0), (9, .int 0), (8, .int 0), (7, .int 48), (0, .ref (a0 0)), (1, .int n1), (2, .int n2), (3, .int n3), (4, .int n4), (5, .int n5), (6, .int n6)] dX9_span_60 (by decide) rfl ?_
            refine g_lv [4, 5, 6, 7, 8, 9, 10, 3, 2, 1, 0] rfl ?_
            exact j_X9_span_62 C hJ E    FU 48 0 0 0 c37 s2_year s2_wet s2_lost s2_eaten s2_tied s2_ripeMany s2_gone s2_place s2_heard s2_many s2_lying s2_ripe u_drawn l_values l_stack h
          · rw [if_neg he] at h
            cases h
            exact gt_out C he E (Nat.le_of_ble_eq_true rfl) (Nat.le_of_ble_eq_true rfl) () rfl
        · rw [if_neg he] at h
          cases h
          exact gt_out C he E (Nat.le_of_ble_eq_true rfl) (Nat.le_of_ble_eq_true rfl) () rfl
      · rw [if_neg he] at h
        cases h
        exact gt_out C he E (Nat.le_of_ble_eq_true rfl) (Nat.le_of_ble_eq_true rfl) () rfl
    · rw [if_neg he] at h
      cases h
      exact gt_out C he E (Nat.le_of_ble_eq_true rfl) (Nat.le_of_ble_eq_true rfl) () rfl
  · rw [if_neg he] at h
    cases h
    exact gt_out C he E (Nat.le_of_ble_eq_true rfl) (Nat.le_of_ble_eq_true rfl) () rfl
noncomputable def f_X9_status (x_missing : Int32) (x_misused : Int32) (n1 : Int32) : Option (Int32) := if n1 = 0 then some x_missing else if n1 = 1 then some x_misused else some (-1)
def rm_X9_status : Room := { frames := 0, cells := 0, slots := 0, locals := 0 }
set_option maxRecDepth 100000 in
set_option maxHeartbeats 4000000 in
theorem t_X9_status {J : Jt} {a0 : Nat → Nat} {k_tape : Nat} {k_now : Nat} {k_trial : Nat} {k_task : Nat} {k_season : Nat} {k_stuffing : Nat} {k_images : Nat} {k_row : Nat} {k_plan : Nat} {k_sparePlan : Nat} {k_rule : Nat} {k_spareRule : Nat} {k_notes : Nat} {k_spareNotes : Nat} {x_latest : Value} {x_imageMany : Int32} {x_refusedSteps : Int32} {x_missing : Int32} {x_misused : Int32} {n1 : Int32} {r : Int32} (h : f_X9_status x_missing x_misused n1 = some r) : Mt J yX9_status cX9_status 2 (some .int) rm_X9_status [.ref (a0 0), .int n1] (cs_X9 (a0 0) k_tape k_now k_trial k_task k_season k_stuffing k_images k_row k_plan k_sparePlan k_rule k_spareRule k_notes k_spareNotes x_latest x_imageMany x_refusedSteps x_missing x_misused) (some (.int r)) (cs_X9 (a0 0) k_tape k_now k_trial k_task k_season k_stuffing k_images k_row k_plan k_sparePlan k_rule k_spareRule k_notes k_spareNotes x_latest x_imageMany x_refusedSteps x_missing x_misused) := by
  refine Mt_of (own := RX9) (by decide) rfl (Nat.le_of_ble_eq_true rfl) rfl (fun Z C E => ?_)
  unfold f_X9_status at h
  show G J Z 0 0 (cs_X9 (a0 0) k_tape k_now k_trial k_task k_season k_stuffing k_images k_row k_plan k_sparePlan k_rule k_spareRule k_notes k_spareNotes x_latest x_imageMany x_refusedSteps x_missing x_misused) 2 [(0, .ref (a0 0)), (1, .int n1)] 0 []
  refine g_iload_n (pc := 0) C 1 rfl dX9_status_0 ?_
  rcases ite_of h with ⟨hc, h⟩ | ⟨hn0, h⟩
  · refine g_lk (pc := 1) C (tgt := 28) dX9_status_1 (by decide +kernel) (by rw [hc]; decide +kernel) rfl ?_
    refine g_aload_n (pc := 28) C 0 rfl dX9_status_28 ?_
    refine g_get (pc := 29) C FOK_X9 0 rfl rfl 17 (by decide) kw_384 rfl dX9_status_29 ?_
    cases h
    exact g_iret C E dX9_status_32
  rcases ite_of h with ⟨hc, h⟩ | ⟨hn1, h⟩
  · refine g_lk (pc := 1) C (tgt := 33) dX9_status_1 (by decide +kernel) (by rw [hc]; decide +kernel) rfl ?_
    refine g_aload_n (pc := 33) C 0 rfl dX9_status_33 ?_
    refine g_get (pc := 34) C FOK_X9 0 rfl rfl 18 (by decide) kw_385 rfl dX9_status_34 ?_
    cases h
    exact g_iret C E dX9_status_37
  have hq0 := lv_neT hn0 (a := 0) (by decide)
  have hq1 := lv_neT hn1 (a := 1) (by decide)
  refine g_lk (pc := 1) C (tgt := 38) dX9_status_1 (by decide +kernel) (lk_2 hq0 hq1) rfl ?_
  refine g_iconst (pc := 38) C dX9_status_38 ci_m1 ?_
  cases h
  exact g_iret C E dX9_status_39
