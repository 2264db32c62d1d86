noncomputable def f_X9_feed (t_bytes : Nat → Int32) (t_held : Int32) (n1 : Int32) (n2 : Int32) (n3 : Int32) (n4 : Int32) (n5 : Int32) : Option (Int32 × (Nat → Int32) × Int32) := b1 (f_X7_hasRoom t_held) (fun v1 => if v1 = 0 then some ((-1), t_bytes, t_held) else b2 (f_X7_put t_bytes t_held n1) (fun c2 c3 => b2 (f_X7_put c2 c3 n2) (fun c4 c5 => b2 (f_X7_put c4 c5 n3) (fun c6 c7 => b2 (f_X7_put c6 c7 n4) (fun c8 c9 => b2 (f_X7_put c8 c9 n5) (fun c10 c11 => some (c11, c10, c11)))))))
def rm_X9_feed : Room := { frames := 1, cells := 0, slots := 0, locals := 22 }
set_option maxRecDepth 100000 in
set_option maxHeartbeats 4000000 in
theorem t_X9_feed {J : Jt} {a0 : Nat → Nat} {a1 : Nat → Nat} {k_now : Nat} {k_trial : Nat} {k_task : Nat} {k_season : Nat} {k_stuffing : Nat} {k_images : Nat} {k_row : Nat} {k_plan : Nat} {k_sparePlan : Nat} {k_rule : Nat} {k_spareRule : Nat} {k_notes : Nat} {k_spareNotes : Nat} {x_latest : Value} {x_imageMany : Int32} {x_refusedSteps : Int32} {x_missing : Int32} {x_misused : Int32} {t_bytes : Nat → Int32} {t_held : Int32} {t_end : Int32} {t_at : Int32} {t_start : Int32} {t_faultKind : Int32} {t_faultPlace : Int32} {n1 : Int32} {n2 : Int32} {n3 : Int32} {n4 : Int32} {n5 : Int32} {r : Int32} {o_t_bytes : Nat → Int32} {o_t_held : Int32} (h : f_X9_feed t_bytes t_held n1 n2 n3 n4 n5 = some (r, o_t_bytes, o_t_held)) : Mt J yX9_feed cX9_feed 6 (some .int) rm_X9_feed [.ref (a0 0), .int n1, .int n2, .int n3, .int n4, .int n5] (cs_X9 (a0 0) (a1 0) k_now k_trial k_task k_season k_stuffing k_images k_row k_plan k_sparePlan k_rule k_spareRule k_notes k_spareNotes x_latest x_imageMany x_refusedSteps x_missing x_misused ++ cs_X7 J.2.2.1 a1 t_bytes t_held t_end t_at t_start t_faultKind t_faultPlace) (some (.int r)) (cs_X9 (a0 0) (a1 0) k_now k_trial k_task k_season k_stuffing k_images k_row k_plan k_sparePlan k_rule k_spareRule k_notes k_spareNotes x_latest x_imageMany x_refusedSteps x_missing x_misused ++ cs_X7 J.2.2.1 a1 o_t_bytes o_t_held t_end t_at t_start t_faultKind t_faultPlace) := by
  refine Mt_of (own := RX9) (by decide) rfl (Nat.le_of_ble_eq_true rfl) rfl (fun Z C E => ?_)
  unfold f_X9_feed at h
  show G J Z 0 0 (cs_X9 (a0 0) (a1 0) k_now k_trial k_task k_season k_stuffing k_images k_row k_plan k_sparePlan k_rule k_spareRule k_notes k_spareNotes x_latest x_imageMany x_refusedSteps x_missing x_misused ++ cs_X7 J.2.2.1 a1 t_bytes t_held t_end t_at t_start t_faultKind t_faultPlace) 6 [(0, .ref (a0 0)), (1, .int n1), (2, .int n2), (3, .int n3), (4, .int n4), (5, .int n5)] 0 []
  refine g_aload_n (pc := 0) C 0 rfl dX9_feed_0 ?_
  refine g_get (pc := 1) C FOK_X9 0 rfl rfl 0 (by decide) kw_367 rfl dX9_feed_1 ?_
  obtain ⟨v1, hc, h⟩ := b1_of h
  refine g_callV (pc := 4) C (w' := cs_X9 (a0 0) (a1 0) k_now k_trial k_task k_season k_stuffing k_images k_row k_plan k_sparePlan k_rule k_spareRule k_notes k_spareNotes x_latest x_imageMany x_refusedSteps x_missing x_misused ++ cs_X7 J.2.2.1 a1 t_bytes t_held t_end t_at t_start t_faultKind t_faultPlace) (As := []) (st := []) (ci := 7) (q0 := 1) rfl rfl (t_X7_hasRoom (a0 := a1) hc) (Sub.gen [1, 2] [0] [0, 1, 2] rfl (by decide) rfl (by decide) (by decide) rfl (by decide)) kw_429 kw_430 kw_431 kw_87 hy_X7_hasRoom kw_432 rfl (Nat.le_of_ble_eq_true rfl) (Nat.le_of_ble_eq_true rfl) (Nat.le_of_ble_eq_true rfl) (Nat.le_of_ble_eq_true rfl) (Nat.le_of_ble_eq_true rfl) dX9_feed_4 ?_
  refine g_if_ne (pc := 7) C (tgt := 12) dX9_feed_7 rfl h (fun h => ?_) (fun h => ?_)
  · refine g_aload_n (pc := 12) C 0 rfl dX9_feed_12 ?_
    refine g_get (pc := 13) C FOK_X9 0 rfl rfl 0 (by decide) kw_367 rfl dX9_feed_13 ?_
    refine g_iload_n (pc := 16) C 1 rfl dX9_feed_16 ?_
    obtain ⟨c2, c3, hc, h⟩ := b2_of h
    refine g_callV (pc := 17) C (w' := cs_X9 (a0 0) (a1 0) k_now k_trial k_task k_season k_stuffing k_images k_row k_plan k_sparePlan k_rule k_spareRule k_notes k_spareNotes x_latest x_imageMany x_refusedSteps x_missing x_misused ++ cs_X7 J.2.2.1 a1 c2 c3 t_end t_at t_start t_faultKind t_faultPlace) (As := [.int n1]) (st := []) (ci := 7) (q0 := 1) rfl rfl (t_X7_put (a0 := a1) hc) (Sub.gen [1, 2] [0] [0, 1, 2] rfl (by decide) rfl (by decide) (by decide) rfl (by decide)) kw_433 kw_434 kw_435 kw_87 hy_X7_put kw_436 rfl (Nat.le_of_ble_eq_true rfl) (Nat.le_of_ble_eq_true rfl) (Nat.le_of_ble_eq_true rfl) (Nat.le_of_ble_eq_true rfl) (Nat.le_of_ble_eq_true rfl) dX9_feed_17 ?_
    refine g_aload_n (pc := 20) C 0 rfl dX9_feed_20 ?_
    refine g_get (pc := 21) C FOK_X9 0 rfl rfl 0 (by decide) kw_367 rfl dX9_feed_21 ?_
    refine g_iload_n (pc := 24) C 2 rfl dX9_feed_24 ?_
    obtain ⟨c4, c5, hc, h⟩ := b2_of h
    refine g_callV (pc := 25) C (w' := cs_X9 (a0 0) (a1 0) k_now k_trial k_task k_season k_stuffing k_images k_row k_plan k_sparePlan k_rule k_spareRule k_notes k_spareNotes x_latest x_imageMany x_refusedSteps x_missing x_misused ++ cs_X7 J.2.2.1 a1 c4 c5 t_end t_at t_start t_faultKind t_faultPlace) (As := [.int n2]) (st := []) (ci := 7) (q0 := 1) rfl rfl (t_X7_put (a0 := a1) hc) (Sub.gen [1, 2] [0] [0, 1, 2] rfl (by decide) rfl (by decide) (by decide) rfl (by decide)) kw_433 kw_434 kw_435 kw_87 hy_X7_put kw_436 rfl (Nat.le_of_ble_eq_true rfl) (Nat.le_of_ble_eq_true rfl) (Nat.le_of_ble_eq_true rfl) (Nat.le_of_ble_eq_true rfl) (Nat.le_of_ble_eq_true rfl) dX9_feed_25 ?_
    refine g_aload_n (pc := 28) C 0 rfl dX9_feed_28 ?_
    refine g_get (pc := 29) C FOK_X9 0 rfl rfl 0 (by decide) kw_367 rfl dX9_feed_29 ?_
    refine g_iload_n (pc := 32) C 3 rfl dX9_feed_32 ?_
    obtain ⟨c6, c7, hc, h⟩ := b2_of h
    refine g_callV (pc := 33) C (w' := cs_X9 (a0 0) (a1 0) k_now k_trial k_task k_season k_stuffing k_images k_row k_plan k_sparePlan k_rule k_spareRule k_notes k_spareNotes x_latest x_imageMany x_refusedSteps x_missing x_misused ++ cs_X7 J.2.2.1 a1 c6 c7 t_end t_at t_start t_faultKind t_faultPlace) (As := [.int n3]) (st := []) (ci := 7) (q0 := 1) rfl rfl (t_X7_put (a0 := a1) hc) (Sub.gen [1, 2] [0] [0, 1, 2] rfl (by decide) rfl (by decide) (by decide) rfl (by decide)) kw_433 kw_434 kw_435 kw_87 hy_X7_put kw_436 rfl (Nat.le_of_ble_eq_true rfl) (Nat.le_of_ble_eq_true rfl) (Nat.le_of_ble_eq_true rfl) (Nat.le_of_ble_eq_true rfl) (Nat.le_of_ble_eq_true rfl) dX9_feed_33 ?_
    refine g_aload_n (pc := 36) C 0 rfl dX9_feed_36 ?_
    refine g_get (pc := 37) C FOK_X9 0 rfl rfl 0 (by decide) kw_367 rfl dX9_feed_37 ?_
    refine g_iload (pc := 40) C 4 rfl dX9_feed_40 ?_
    obtain ⟨c8, c9, hc, h⟩ := b2_of h
    refine g_callV (pc := 42) C (w' := cs_X9 (a0 0) (a1 0) k_now k_trial k_task k_season k_stuffing k_images k_row k_plan k_sparePlan k_rule k_spareRule k_notes k_spareNotes x_latest x_imageMany x_refusedSteps x_missing x_misused ++ cs_X7 J.2.2.1 a1 c8 c9 t_end t_at t_start t_faultKind t_faultPlace) (As := [.int n4]) (st := []) (ci := 7) (q0 := 1) rfl rfl (t_X7_put (a0 := a1) hc) (Sub.gen [1, 2] [0] [0, 1, 2] rfl (by decide) rfl (by decide) (by decide) rfl (by decide)) kw_433 kw_434 kw_435 kw_87 hy_X7_put kw_436 rfl (Nat.le_of_ble_eq_true rfl) (Nat.le_of_ble_eq_true rfl) (Nat.le_of_ble_eq_true rfl) (Nat.le_of_ble_eq_true rfl) (Nat.le_of_ble_eq_true rfl) dX9_feed_42 ?_
    refine g_aload_n (pc := 45) C 0 rfl dX9_feed_45 ?_
    refine g_get (pc := 46) C FOK_X9 0 rfl rfl 0 (by decide) kw_367 rfl dX9_feed_46 ?_
    refine g_iload (pc := 49) C 5 rfl dX9_feed_49 ?_
    obtain ⟨c10, c11, hc, h⟩ := b2_of h
    refine g_callV (pc := 51) C (w' := cs_X9 (a0 0) (a1 0) k_now k_trial k_task k_season k_stuffing k_images k_row k_plan k_sparePlan k_rule k_spareRule k_notes k_spareNotes x_latest x_imageMany x_refusedSteps x_missing x_misused ++ cs_X7 J.2.2.1 a1 c10 c11 t_end t_at t_start t_faultKind t_faultPlace) (As := [.int n5]) (st := []) (ci := 7) (q0 := 1) rfl rfl (t_X7_put (a0 := a1) hc) (Sub.gen [1, 2] [0] [0, 1, 2] rfl (by decide) rfl (by decide) (by decide) rfl (by decide)) kw_433 kw_434 kw_435 kw_87 hy_X7_put kw_436 rfl (Nat.le_of_ble_eq_true rfl) (Nat.le_of_ble_eq_true rfl) (Nat.le_of_ble_eq_true rfl) (Nat.le_of_ble_eq_true rfl) (Nat.le_of_ble_eq_true rfl) dX9_feed_51 ?_
    refine g_aload_n (pc := 54) C 0 rfl dX9_feed_54 ?_
    refine g_get (pc := 55) C FOK_X9 0 rfl rfl 0 (by decide) kw_367 rfl dX9_feed_55 ?_
    refine g_get (pc := 58) C FOK_X7 1 rfl rfl 1 (by decide) kw_125 rfl dX9_feed_58 ?_
    cases h
    exact g_iret C E dX9_feed_61
  · refine g_iconst (pc := 10) C dX9_feed_10 ci_m1 ?_
    cases h
    exact g_iret C E dX9_feed_11
noncomputable def f_X9_forgetImages_2   : Nat → Int32 → Int32 → (Nat → Option Nat) → Option (Int32 × (Nat → Option Nat))
  | 0, _, _, _ => none
  | n + 1, x1, x_imageMany, i_v => if 3 ≤ x1 then some (0, i_v) else if ixb x1 3 then f_X9_forgetImages_2 n (x1 + 1) x_imageMany (va_up i_v x1.toNatClampNeg none) else none
noncomputable def f_X9_forgetImages (x_imageMany : Int32) (i_v : Nat → Option Nat) : Option (Int32 × (Nat → Option Nat)) := f_X9_forgetImages_2 FU 0 x_imageMany i_v
def rm_X9_forgetImages : Room := { frames := 0, cells := 0, slots := 0, locals := 0 }
set_option maxRecDepth 100000 in
set_option maxHeartbeats 4000000 in
theorem j_X9_forgetImages_2 {J : Jt} {Z : Zt} {a0 : Nat → Nat} {a1 : Nat → Nat} {k_tape : Nat} {k_now : Nat} {k_trial : Nat} {k_task : Nat} {k_season : Nat} {k_stuffing : Nat} {k_row : Nat} {k_plan : Nat} {k_sparePlan : Nat} {k_rule : Nat} {k_spareRule : Nat} {k_notes : Nat} {k_spareNotes : Nat} {x_latest : Value} {x_refusedSteps : Int32} {x_missing : Int32} {x_misused : Int32} {o_x_imageMany : Int32} {o_i_v : Nat → Option Nat} (C : Cx J Z cX9_forgetImages 2 RX9 none rm_X9_forgetImages) (E : Ez J Z 0 0 none (cs_X9 (a0 0) k_tape k_now k_trial k_task k_season k_stuffing (a1 0) k_row k_plan k_sparePlan k_rule k_spareRule k_notes k_spareNotes x_latest o_x_imageMany x_refusedSteps x_missing x_misused ++ cs_Q J.2.2.1 a1 o_i_v)) : ∀ (n : Nat) (x1 : Int32) (x_imageMany : Int32) (i_v : Nat → Option Nat), f_X9_forgetImages_2 n x1 x_imageMany i_v = some (o_x_imageMany, o_i_v) → G J Z 0 0 (cs_X9 (a0 0) k_tape k_now k_trial k_task k_season k_stuffing (a1 0) k_row k_plan k_sparePlan k_rule k_spareRule k_notes k_spareNotes x_latest x_imageMany x_refusedSteps x_missing x_misused ++ cs_Q J.2.2.1 a1 i_v) 2 [(0, .ref (a0 0)), (1, .int x1)] 2 [] := by
  intro n
  induction n with
  | zero =>
    intro x1 x_imageMany i_v h
    rw [f_X9_forgetImages_2] at h
    cases h
  | succ n ih =>
    intro x1 x_imageMany i_v h
    rw [f_X9_forgetImages_2] at h
    refine g_iload_n (pc := 2) C 1 rfl dX9_forgetImages_2 ?_
    refine g_iconst (pc := 3) C dX9_forgetImages_3 ci_3 ?_
    refine g_icmp_ge (pc := 4) C (tgt := 20) dX9_forgetImages_4 rfl h (fun h => ?_) (fun h => ?_)
    · refine g_aload_n (pc := 20) C 0 rfl dX9_forgetImages_20 ?_
      refine g_iconst (pc := 21) C dX9_forgetImages_21 ci_0 ?_
      refine g_put (pc := 22) C (w' := cs_X9 (a0 0) k_tape k_now k_trial k_task k_season k_stuffing (a1 0) k_row k_plan k_sparePlan k_rule k_spareRule k_notes k_spareNotes x_latest 0 x_refusedSteps x_missing x_misused ++ cs_Q J.2.2.1 a1 i_v) FOK_X9 0 rfl rfl 15 (by decide) kw_382 rfl rfl rfl (Nat.le_of_ble_eq_true rfl) dX9_forgetImages_22 rfl ?_
      cases h
      exact g_vret C E dX9_forgetImages_25
    · refine g_aload_n (pc := 7) C 0 rfl dX9_forgetImages_7 ?_
      refine g_get (pc := 8) C FOK_X9 0 rfl rfl 6 (by decide) kw_373 rfl dX9_forgetImages_8 ?_
      refine g_iload_n (pc := 11) C 1 rfl dX9_forgetImages_11 ?_
      refine g_null (pc := 12) C dX9_forgetImages_12 ?_
      obtain ⟨hi, h⟩ := ix_of h
      refine g_astqN (pc := 13) C (w' := cs_X9 (a0 0) k_tape k_now k_trial k_task k_season k_stuffing (a1 0) k_row k_plan k_sparePlan k_rule k_spareRule k_notes k_spareNotes x_latest x_imageMany x_refusedSteps x_missing x_misused ++ cs_Q J.2.2.1 a1 (va_up i_v x1.toNatClampNeg none)) 1 rfl hi dX9_forgetImages_13 rfl ?_
      refine g_iinc (pc := 14) C (j := 1) [(1, .int (x1 + 1)), (0, .ref (a0 0))] dX9_forgetImages_14 rfl (ii_1 _) (by decide) rfl ?_
      refine g_goto (pc := 17) C (tgt := 2) dX9_forgetImages_17 rfl ?_
      refine g_lv [1, 0] rfl ?_
      exact ih (x1 + 1) x_imageMany (va_up i_v x1.toNatClampNeg none) h
set_option maxRecDepth 100000 in
set_option maxHeartbeats 4000000 in
theorem t_X9_forgetImages {J : Jt} {a0 : Nat → Nat} {a1 : Nat → Nat} {k_tape : Nat} {k_now : Nat} {k_trial : Nat} {k_task : Nat} {k_season : Nat} {k_stuffing : Nat} {k_row : Nat} {k_plan : Nat} {k_sparePlan : Nat} {k_rule : Nat} {k_spareRule : Nat} {k_notes : Nat} {k_spareNotes : Nat} {x_latest : Value} {x_imageMany : Int32} {x_refusedSteps : Int32} {x_missing : Int32} {x_misused : Int32} {i_v : Nat → Option Nat} {o_x_imageMany : Int32} {o_i_v : Nat → Option Nat} (h : f_X9_forgetImages x_imageMany i_v = some (o_x_imageMany, o_i_v)) : Mt J yX9_forgetImages cX9_forgetImages 2 none rm_X9_forgetImages [.ref (a0 0)] (cs_X9 (a0 0) k_tape k_now k_trial k_task k_season k_stuffing (a1 0) k_row k_plan k_sparePlan k_rule k_spareRule k_notes k_spareNotes x_latest x_imageMany x_refusedSteps x_missing x_misused ++ cs_Q J.2.2.1 a1 i_v) none (cs_X9 (a0 0) k_tape k_now k_trial k_task k_season k_stuffing (a1 0) k_row k_plan k_sparePlan k_rule k_spareRule k_notes k_spareNotes x_latest o_x_imageMany x_refusedSteps x_missing x_misused ++ cs_Q J.2.2.1 a1 o_i_v) := by
  refine Mt_of (own := RX9) (by decide) rfl (Nat.le_of_ble_eq_true rfl) rfl (fun Z C E => ?_)
  unfold f_X9_forgetImages at h
  show G J Z 0 0 (cs_X9 (a0 0) k_tape k_now k_trial k_task k_season k_stuffing (a1 0) k_row k_plan k_sparePlan k_rule k_spareRule k_notes k_spareNotes x_latest x_imageMany x_refusedSteps x_missing x_misused ++ cs_Q J.2.2.1 a1 i_v) 2 [(0, .ref (a0 0))] 0 []
  refine g_iconst (pc := 0) C dX9_forgetImages_0 ci_0 ?_
  refine g_istore_n (pc := 1) C [(1, .int 0), (0, .ref (a0 0))] dX9_forgetImages_1 rfl (by decide) rfl ?_
  refine g_lv [1, 0] rfl ?_
  exact j_X9_forgetImages_2 C E    FU 0 x_imageMany i_v h
noncomputable def f_X9_needRange_10   (n1 : Int32) (n2 : Int32) (n3 : Int32) (x_misused : Int32) : Option (Nat × Int32) := some (2, x_misused + 1)
noncomputable def f_X9_needRange (x_misused : Int32) (n1 : Int32) (n2 : Int32) (n3 : Int32) : Option (Nat × Int32) := if n1 < n2 then f_X9_needRange_10 n1 n2 n3 x_misused else if n1 ≤ n3 then some (0, x_misused) else f_X9_needRange_10 n1 n2 n3 x_misused
def rm_X9_needRange : Room := { frames := 9, cells := 1, slots := 6, locals := 120 }
set_option maxRecDepth 100000 in
set_option maxHeartbeats 4000000 in
theorem j_X9_needRange_10 {J : Jt} {Z : Zt} {a0 : Nat → Nat} {k_tape : Nat} {k_now : Nat} {k_trial : Nat} {k_task : Nat} {k_season : Nat} {k_stuffing : Nat} {k_images : Nat} {k_row : Nat} {k_plan : Nat} {k_sparePlan : Nat} {k_rule : Nat} {k_spareRule : Nat} {k_notes : Nat} {k_spareNotes : Nat} {x_latest : Value} {x_imageMany : Int32} {x_refusedSteps : Int32} {x_missing : Int32} {n1 : Int32} {n2 : Int32} {n3 : Int32} {ex : Nat} {o_x_misused : Int32} (C : Cx J Z cX9_needRange 4 RX9 none rm_X9_needRange) (hJ : J.1.stackTraces = false) (E : EzX J Z 1 6 ex none (fun _ : Unit => cs_X9 (a0 0) k_tape k_now k_trial k_task k_season k_stuffing k_images k_row k_plan k_sparePlan k_rule k_spareRule k_notes k_spareNotes x_latest x_imageMany x_refusedSteps x_missing o_x_misused)) : ∀ (x_misused : Int32), f_X9_needRange_10 n1 n2 n3 x_misused = some (ex, o_x_misused) → G J Z 0 0 (cs_X9 (a0 0) k_tape k_now k_trial k_task k_season k_stuffing k_images k_row k_plan k_sparePlan k_rule k_spareRule k_notes k_spareNotes x_latest x_imageMany x_refusedSteps x_missing x_misused) 4 [(0, .ref (a0 0))] 10 [] := by
  intro x_misused h
  unfold f_X9_needRange_10 at h
  refine g_aload_n (pc := 10) C 0 rfl dX9_needRange_10 ?_
  refine g_dup (pc := 11) C dX9_needRange_11 rfl ?_
  refine g_get (pc := 12) C FOK_X9 0 rfl rfl 18 (by decide) kw_385 rfl dX9_needRange_12 ?_
  refine g_iconst (pc := 15) C dX9_needRange_15 ci_1 ?_
  refine g_iadd (pc := 16) C dX9_needRange_16 ?_
  refine g_put (pc := 17) C (w' := cs_X9 (a0 0) k_tape k_now k_trial k_task k_season k_stuffing k_images k_row k_plan k_sparePlan k_rule k_spareRule k_notes k_spareNotes x_latest x_imageMany x_refusedSteps x_missing (x_misused + 1)) FOK_X9 0 rfl rfl 18 (by decide) kw_385 rfl rfl rfl (Nat.le_of_ble_eq_true rfl) dX9_needRange_17 rfl ?_
  cases h
  exact g_throw C hJ (ex := 2) (ik := 368) (ic := 370) (by decide) E () rfl kw_549 kw_100 at_2_370 dX9_needRange_20 dX9_needRange_23 dX9_needRange_24 dX9_needRange_27 (Nat.le_of_ble_eq_true rfl) (Nat.le_of_ble_eq_true rfl) (Nat.le_of_ble_eq_true rfl) (Nat.le_of_ble_eq_true rfl) (Nat.le_of_ble_eq_true rfl) (Nat.le_of_ble_eq_true rfl)
set_option maxRecDepth 100000 in
set_option maxHeartbeats 4000000 in
theorem t_X9_needRange {J : Jt} {a0 : Nat → Nat} {k_tape : Nat} {k_now : Nat} {k_trial : Nat} {k_task : Nat} {k_season : Nat} {k_stuffing : Nat} {k_images : Nat} {k_row : Nat} {k_plan : Nat} {k_sparePlan : Nat} {k_rule : Nat} {k_spareRule : Nat} {k_notes : Nat} {k_spareNotes : Nat} {x_latest : Value} {x_imageMany : Int32} {x_refusedSteps : Int32} {x_missing : Int32} {x_misused : Int32} {n1 : Int32} {n2 : Int32} {n3 : Int32} {ex : Nat} {o_x_misused : Int32} (hJ : J.1.stackTraces = false) (h : f_X9_needRange x_misused n1 n2 n3 = some (ex, o_x_misused)) : MtX J yX9_needRange cX9_needRange 4 none rm_X9_needRange [.ref (a0 0), .int n1, .int n2, .int n3] (cs_X9 (a0 0) k_tape k_now k_trial k_task k_season k_stuffing k_images k_row k_plan k_sparePlan k_rule k_spareRule k_notes k_spareNotes x_latest x_imageMany x_refusedSteps x_missing x_misused) ex none (fun _ : Unit => cs_X9 (a0 0) k_tape k_now k_trial k_task k_season k_stuffing k_images k_row k_plan k_sparePlan k_rule k_spareRule k_notes k_spareNotes x_latest x_imageMany x_refusedSteps x_missing o_x_misused) := by
  refine MtX_of (own := RX9) (by decide) rfl (Nat.le_of_ble_eq_true rfl) rfl (fun Z C E => ?_)
  unfold f_X9_needRange at h
  show G J Z 0 0 (cs_X9 (a0 0) k_tape k_now k_trial k_task k_season k_stuffing k_images k_row k_plan k_sparePlan k_rule k_spareRule k_notes k_spareNotes x_latest x_imageMany x_refusedSteps x_missing x_misused) 4 [(0, .ref (a0 0)), (1, .int n1), (2, .int n2), (3, .int n3)] 0 []
  refine g_iload_n (pc := 0) C 1 rfl dX9_needRange_0 ?_
  refine g_iload_n (pc := 1) C 2 rfl dX9_needRange_1 ?_
  refine g_icmp_lt (pc := 2) C (tgt := 10) dX9_needRange_2 rfl h (fun h => ?_) (fun h => ?_)
  · refine g_lv [0] rfl ?_
    exact j_X9_needRange_10 C hJ E    x_misused h
  · refine g_iload_n (pc := 5) C 1 rfl dX9_needRange_5 ?_
    refine g_iload_n (pc := 6) C 3 rfl dX9_needRange_6 ?_
    refine g_icmp_le (pc := 7) C (tgt := 28) dX9_needRange_7 rfl h (fun h => ?_) (fun h => ?_)
    · refine g_wid (n' := 1) (k' := 6) (Nat.le_of_ble_eq_true rfl) (Nat.le_of_ble_eq_true rfl) ?_
      cases h
      exact g_vretX C E () rfl dX9_needRange_28
    · refine g_lv [0] rfl ?_
      exact j_X9_needRange_10 C hJ E    x_misused h
noncomputable def f_X9_needText (x_misused : Int32) (t_held : Int32) (n1 : Int32) (n2 : Int32) : Option (Nat × Int32) := b2 (f_X9_needRange x_misused n1 0 (imin n2 t_held)) (fun e1 c2 => if e1 = 0 then some (0, c2) else some (e1, c2))
def rm_X9_needText : Room := { frames := 10, cells := 1, slots := 6, locals := 143 }
set_option maxRecDepth 100000 in
set_option maxHeartbeats 4000000 in
theorem t_X9_needText {J : Jt} {a0 : Nat → Nat} {a1 : Nat → Nat} {k_now : Nat} {k_trial : Nat} {k_task : Nat} {k_season : Nat} {k_stuffing : Nat} {k_images : Nat} {k_row : Nat} {k_plan : Nat} {k_sparePlan : Nat} {k_rule : Nat} {k_spareRule : Nat} {k_notes : Nat} {k_spareNotes : Nat} {x_latest : Value} {x_imageMany : Int32} {x_refusedSteps : Int32} {x_missing : Int32} {x_misused : Int32} {t_bytes : Nat → Int32} {t_held : Int32} {t_end : Int32} {t_at : Int32} {t_start : Int32} {t_faultKind : Int32} {t_faultPlace : Int32} {n1 : Int32} {n2 : Int32} {ex : Nat} {o_x_misused : Int32} (hJ : J.1.stackTraces = false) (h : f_X9_needText x_misused t_held n1 n2 = some (ex, o_x_misused)) : MtX J yX9_needText cX9_needText 3 none rm_X9_needText [.ref (a0 0), .int n1, .int n2] (cs_X9 (a0 0) (a1 0) k_now k_trial k_task k_season k_stuffing k_images k_row k_plan k_sparePlan k_rule k_spareRule k_notes k_spareNotes x_latest x_imageMany x_refusedSteps x_missing x_misused ++ cs_X7 J.2.2.1 a1 t_bytes t_held t_end t_at t_start t_faultKind t_faultPlace) ex none (fun _ : Unit => cs_X9 (a0 0) (a1 0) k_now k_trial k_task k_season k_stuffing k_images k_row k_plan k_sparePlan k_rule k_spareRule k_notes k_spareNotes x_latest x_imageMany x_refusedSteps x_missing o_x_misused ++ cs_X7 J.2.2.1 a1 t_bytes t_held t_end t_at t_start t_faultKind t_faultPlace) := by
  refine MtX_of (own := RX9) (by decide) rfl (Nat.le_of_ble_eq_true rfl) rfl (fun Z C E => ?_)
  unfold f_X9_needText at h
  show G J Z 0 0 (cs_X9 (a0 0) (a1 0) k_now k_trial k_task k_season k_stuffing k_images k_row k_plan k_sparePlan k_rule k_spareRule k_notes k_spareNotes x_latest x_imageMany x_refusedSteps x_missing x_misused ++ cs_X7 J.2.2.1 a1 t_bytes t_held t_end t_at t_start t_faultKind t_faultPlace) 3 [(0, .ref (a0 0)), (1, .int n1), (2, .int n2)] 0 []
  refine g_aload_n (pc := 0) C 0 rfl dX9_needText_0 ?_
  refine g_iload_n (pc := 1) C 1 rfl dX9_needText_1 ?_
  refine g_iconst (pc := 2) C dX9_needText_2 ci_0 ?_
  refine g_iload_n (pc := 3) C 2 rfl dX9_needText_3 ?_
  refine g_aload_n (pc := 4) C 0 rfl dX9_needText_4 ?_
  refine g_get (pc := 5) C FOK_X9 0 rfl rfl 0 (by decide) kw_367 rfl dX9_needText_5 ?_
  refine g_get (pc := 8) C FOK_X7 1 rfl rfl 1 (by decide) kw_125 rfl dX9_needText_8 ?_
  refine g_imin (pc := 11) C kw_542 kw_543 kw_96 kw_544 (Nat.le_of_ble_eq_true rfl) (Nat.le_of_ble_eq_true rfl) (Nat.le_of_ble_eq_true rfl) (Nat.le_of_ble_eq_true rfl) dX9_needText_11 ?_
  obtain ⟨e1, c2, hc, h⟩ := b2_of h
  refine g_xcallU (pc := 14) C (w' := cs_X9 (a0 0) (a1 0) k_now k_trial k_task k_season k_stuffing k_images k_row k_plan k_sparePlan k_rule k_spareRule k_notes k_spareNotes x_latest x_imageMany x_refusedSteps x_missing c2 ++ cs_X7 J.2.2.1 a1 t_bytes t_held t_end t_at t_start t_faultKind t_faultPlace) (As := [.int n1, .int 0, .int (imin n2 t_held)]) (st := []) (ci := 9) (q0 := 0) rfl rfl (t_X9_needRange (k_tape := (a1 0)) (k_now := k_now) (k_trial := k_trial) (k_task := k_task) (k_season := k_season) (k_stuffing := k_stuffing) (k_images := k_images) (k_row := k_row) (k_plan := k_plan) (k_sparePlan := k_sparePlan) (k_rule := k_rule) (k_spareRule := k_spareRule) (k_notes := k_notes) (k_spareNotes := k_spareNotes) (a0 := a0) hJ hc) (Sub.gen [0] [1, 2] [2, 0, 1] rfl (by decide) rfl (by decide) (by decide) rfl (by decide)) kw_545 kw_547 kw_2 kw_86 hy_X9_needRange kw_548 rfl (Nat.le_of_ble_eq_true rfl) (Nat.le_of_ble_eq_true rfl) (Nat.le_of_ble_eq_true rfl) (Nat.le_of_ble_eq_true rfl) (Nat.le_of_ble_eq_true rfl) dX9_needText_14 (fun he => ?_) (fun he => ?_)
  · subst he
    rw [if_pos rfl] at h
    refine g_wid (n' := 1) (k' := 6) (Nat.le_of_ble_eq_true rfl) (Nat.le_of_ble_eq_true rfl) ?_
    cases h
    exact g_vretX C E () rfl dX9_needText_17
  · rw [if_neg he] at h
    cases h
    exact gt_out C he E (Nat.le_of_ble_eq_true rfl) (Nat.le_of_ble_eq_true rfl) () rfl
noncomputable def f_X9_garden (x_latest : Value) (x_imageMany : Int32) (x_refusedSteps : Int32) (x_misused : Int32) (t_bytes : Nat → Int32) (t_held : Int32) (t_end : Int32) (t_at : Int32) (t_start : Int32) (t_faultKind : Int32) (t_faultPlace : Int32) (s_year : Int32) (s_wet : Int32) (s_lost : Int32) (s_eaten : Int32) (s_tied : Int32) (s_ripeMany : Int32) (s_gone : Nat → Int32) (s_place : Nat → Int32) (s_heard : Nat → Int32) (s_many : Nat → Int32) (i_v : Nat → Option Nat) (p2_beds : Int32) (p2_letters : Int32) (p2_readers : Int32) (p2_far : Nat → Int32) (p2_drain : Nat → Int32) (p2_length : Nat → Int32) (p2_words : Nat → Int32) (p2_home : Nat → Int32) (l_code : Nat → Int32) (l_length : Int32) (b_last : Nat → Int32) (b_lines : Int32) (n1 : Int32) : Option (Nat × Int32 × Value × Int32 × Int32 × Int32 × Int32 × Int32 × Int32 × Int32 × Int32 × Int32 × Int32 × Int32 × Int32 × Int32 × Int32 × Int32 × (Nat → Int32) × (Nat → Int32) × (Nat → Int32) × (Nat → Int32) × (Nat → Option Nat) × Int32 × Int32 × Int32 × (Nat → Int32) × (Nat → Int32) × (Nat → Int32) × (Nat → Int32) × (Nat → Int32) × (Nat → Int32) × Int32 × (Nat → Int32) × Int32 × Bool) := b2 (f_X9_needText x_misused t_held n1 600) (fun e1 c2 => if e1 = 0 then b5 (f_X7_open t_end t_at t_start t_faultKind t_faultPlace n1) (fun c3 c4 c5 c6 c7 => b12 (f_X2_read p2_beds p2_letters p2_readers p2_far p2_drain p2_length p2_words p2_home t_bytes c3 c4 c5 c6 c7) (fun c8 c9 c10 c11 c12 c13 c14 c15 c16 c17 c18 c19 => b1 (f_X7_empty t_held) (fun c20 => b1 (f_X7_isSound c18) (fun v21 => if v21 = 0 then b1 (f_X7_answer c18) (fun v38 => some (0, v38, x_latest, x_imageMany, x_refusedSteps, c2, c20, c3, c16, c17, c18, c19, s_year, s_wet, s_lost, s_eaten, s_tied, s_ripeMany, s_gone, s_place, s_heard, s_many, i_v, c8, c9, c10, c11, c12, c13, c14, c15, l_code, l_length, b_last, b_lines, false)) else b2 (f_X1_makePlain l_code l_length) (fun c22 c23 => b2 (f_X0_clear b_last b_lines) (fun c24 c25 => b2 (f_X9_forgetImages x_imageMany i_v) (fun c26 c27 => b10 (f_X4_begin s_year s_wet s_lost s_eaten s_tied s_ripeMany s_gone s_place s_heard s_many c15) (fun c28 c29 c30 c31 c32 c33 c34 c35 c36 c37 => some (0, c9, Value.null, c26, 0, c2, c20, c3, c16, c17, c18, c19, c28, c29, c30, c31, c32, c33, c34, c35, c36, c37, c27, c8, c9, c10, c11, c12, c13, c14, c15, c22, c23, c24, c25, true))))))))) else some (e1, 0, x_latest, x_imageMany, x_refusedSteps, c2, t_held, t_end, t_at, t_start, t_faultKind, t_faultPlace, s_year, s_wet, s_lost, s_eaten, s_tied, s_ripeMany, s_gone, s_place, s_heard, s_many, i_v, p2_beds, p2_letters, p2_readers, p2_far, p2_drain, p2_length, p2_words, p2_home, l_code, l_length, b_last, b_lines, false))
def rm_X9_garden : Room := { frames := 11, cells := 1, slots := 6, locals := 207 }
set_option maxRecDepth 100000 in
set_option maxHeartbeats 4000000 in
theorem t_X9_garden {J : Jt} {a0 : Nat → Nat} {a1 : Nat → Nat} {a2 : Nat → Nat} {a3 : Nat → Nat} {a4 : Nat → Nat} {a5 : Nat → Nat} {a6 : Nat → Nat} {a7 : Nat → Nat} {k_trial : Nat} {k_task : Nat} {k_season : Nat} {k_stuffing : Nat} {k_row : Nat} {k_spareRule : Nat} {k_spareNotes : Nat} {x_latest : Value} {x_imageMany : Int32} {x_refusedSteps : Int32} {x_missing : Int32} {x_misused : Int32} {t_bytes : Nat → Int32} {t_held : Int32} {t_end : Int32} {t_at : Int32} {t_start : Int32} {t_faultKind : Int32} {t_faultPlace : Int32} {s_year : Int32} {s_wet : Int32} {s_lost : Int32} {s_eaten : Int32} {s_tied : Int32} {s_ripeMany : Int32} {s_gone : Nat → Int32} {s_place : Nat → Int32} {s_heard : Nat → Int32} {s_many : Nat → Int32} {s_lying : Nat → Int32} {s_ripe : Nat → Int32} {i_v : Nat → Option Nat} {p_beds : Int32} {p_letters : Int32} {p_readers : Int32} {p_far : Nat → Int32} {p_drain : Nat → Int32} {p_length : Nat → Int32} {p_words : Nat → Int32} {p_home : Nat → Int32} {p2_beds : Int32} {p2_letters : Int32} {p2_readers : Int32} {p2_far : Nat → Int32} {p2_drain : Nat → Int32} {p2_length : Nat → Int32} {p2_words : Nat → Int32} {p2_home : Nat → Int32} {l_code : Nat → Int32} {l_values : Nat → Int32} {l_stack : Nat → Int32} {l_length : Int32} {b_last : Nat → Int32} {b_lines : Int32} {n1 : Int32} {ex : Nat} {r : Int32} {o_x_latest : Value} {o_x_imageMany : Int32} {o_x_refusedSteps : Int32} {o_x_misused : Int32} {o_t_held : Int32} {o_t_end : Int32} {o_t_at : Int32} {o_t_start : Int32} {o_t_faultKind : Int32} {o_t_faultPlace : Int32} {o_s_year : Int32} {o_s_wet : Int32} {o_s_lost : Int32} {o_s_eaten : Int32} {o_s_tied : Int32} {o_s_ripeMany : Int32} {o_s_gone : Nat → Int32} {o_s_place : Nat → Int32} {o_s_heard : Nat → Int32} {o_s_many : Nat → Int32} {o_i_v : Nat → Option Nat} {o_p2_beds : Int32} {o_p2_letters : Int32} {o_p2_readers : Int32} {o_p2_far : Nat → Int32} {o_p2_drain : Nat → Int32} {o_p2_length : Nat → Int32} {o_p2_words : Nat → Int32} {o_p2_home : Nat → Int32} {o_l_code : Nat → Int32} {o_l_length : Int32} {o_b_last : Nat → Int32} {o_b_lines : Int32} {o_sw : Bool} (hJ : J.1.stackTraces = false) (h : f_X9_garden x_latest x_imageMany x_refusedSteps x_misused t_bytes t_held t_end t_at t_start t_faultKind t_faultPlace s_year s_wet s_lost s_eaten s_tied s_ripeMany s_gone s_place s_heard s_many i_v p2_beds p2_letters p2_readers p2_far p2_drain p2_length p2_words p2_home l_code l_length b_last b_lines n1 = some (ex, r, o_x_latest, o_x_imageMany, o_x_refusedSteps, o_x_misused, o_t_held, o_t_end, o_t_at, o_t_start, o_t_faultKind, o_t_faultPlace, o_s_year, o_s_wet, o_s_lost, o_s_eaten, o_s_tied, o_s_ripeMany, o_s_gone, o_s_place, o_s_heard, o_s_many, o_i_v, o_p2_beds, o_p2_letters, o_p2_readers, o_p2_far, o_p2_drain, o_p2_length, o_p2_words, o_p2_home, o_l_code, o_l_length, o_b_last, o_b_lines, o_sw)) : MtX J yX9_garden cX9_garden 3 (some .int) rm_X9_garden [.ref (a0 0), .int n1] (cs_X9 (a0 0) (a1 0) (a2 0) k_trial k_task k_season k_stuffing (a3 0) k_row (a4 0) (a5 0) (a6 0) k_spareRule (a7 0) k_spareNotes x_latest x_imageMany x_refusedSteps x_missing x_misused ++ cs_X7 J.2.2.1 a1 t_bytes t_held t_end t_at t_start t_faultKind t_faultPlace ++ cs_X4 J.2.2.1 a2 s_year s_wet s_lost s_eaten s_tied s_ripeMany s_gone s_place s_heard s_many s_lying s_ripe ++ cs_Q J.2.2.1 a3 i_v ++ cs_X2 J.2.2.1 a4 p_beds p_letters p_readers p_far p_drain p_length p_words p_home ++ cs_X2 J.2.2.1 a5 p2_beds p2_letters p2_readers p2_far p2_drain p2_length p2_words p2_home ++ cs_X1 J.2.2.1 a6 l_code l_values l_stack l_length ++ cs_X0 J.2.2.1 a7 b_last b_lines) ex (some (.int r)) (fun _ : Unit => cs_X9 (a0 0) (a1 0) (a2 0) k_trial k_task k_season k_stuffing (a3 0) k_row (cond o_sw (a5 0) (a4 0)) (cond o_sw (a4 0) (a5 0)) (a6 0) k_spareRule (a7 0) k_spareNotes o_x_latest o_x_imageMany o_x_refusedSteps x_missing o_x_misused ++ cs_X7 J.2.2.1 a1 t_bytes o_t_held o_t_end o_t_at o_t_start o_t_faultKind o_t_faultPlace ++ cs_X4 J.2.2.1 a2 o_s_year o_s_wet o_s_lost o_s_eaten o_s_tied o_s_ripeMany o_s_gone o_s_place o_s_heard o_s_many s_lying s_ripe ++ cs_Q J.2.2.1 a3 o_i_v ++ cs_X2 J.2.2.1 a4 p_beds p_letters p_readers p_far p_drain p_length p_words p_home ++ cs_X2 J.2.2.1 a5 o_p2_beds o_p2_letters o_p2_readers o_p2_far o_p2_drain o_p2_length o_p2_words o_p2_home ++ cs_X1 J.2.2.1 a6 o_l_code l_values l_stack o_l_length ++ cs_X0 J.2.2.1 a7 o_b_last o_b_lines) := by
  refine MtX_of (own := RX9) (by decide) rfl (Nat.le_of_ble_eq_true rfl) rfl (fun Z C E => ?_)
  unfold f_X9_garden at h
  show G J Z 0 0 (cs_X9 (a0 0) (a1 0) (a2 0) k_trial k_task k_season k_stuffing (a3 0) k_row (a4 0) (a5 0) (a6 0) k_spareRule (a7 0) k_spareNotes x_latest x_imageMany x_refusedSteps x_missing x_misused ++ cs_X7 J.2.2.1 a1 t_bytes t_held t_end t_at t_start t_faultKind t_faultPlace ++ cs_X4 J.2.2.1 a2 s_year s_wet s_lost s_eaten s_tied s_ripeMany s_gone s_place s_heard s_many s_lying s_ripe ++ cs_Q J.2.2.1 a3 i_v ++ cs_X2 J.2.2.1 a4 p_beds p_letters p_readers p_far p_drain p_length p_words p_home ++ cs_X2 J.2.2.1 a5 p2_beds p2_letters p2_readers p2_far p2_drain p2_length p2_words p2_home ++ cs_X1 J.2.2.1 a6 l_code l_values l_stack l_length ++ cs_X0 J.2.2.1 a7 b_last b_lines) 3 [(0, .ref (a0 0)), (1, .int n1)] 0 []
  refine g_aload_n (pc := 0) C 0 rfl dX9_garden_0 ?_
  refine g_iload_n (pc := 1) C 1 rfl dX9_garden_1 ?_
  refine g_sipush (pc := 2) C dX9_garden_2 cs_600 ?_
  obtain ⟨e1, c2, hc, h⟩ := b2_of h
  refine g_xcallU (pc := 5) C (w' := cs_X9 (a0 0) (a1 0) (a2 0) k_trial k_task k_season k_stuffing (a3 0) k_row (a4 0) (a5 0) (a6 0) k_spareRule (a7 0) k_spareNotes x_latest x_imageMany x_refusedSteps x_missing c2 ++ cs_X7 J.2.2.1 a1 t_bytes t_held t_end t_at t_start t_faultKind t_faultPlace ++ cs_X4 J.2.2.1 a2 s_year s_wet s_lost s_eaten s_tied s_ripeMany s_gone s_place s_heard s_many s_lying s_ripe ++ cs_Q J.2.2.1 a3 i_v ++ cs_X2 J.2.2.1 a4 p_beds p_letters p_readers p_far p_drain p_length p_words p_home ++ cs_X2 J.2.2.1 a5 p2_beds p2_letters p2_readers p2_far p2_drain p2_length p2_words p2_home ++ cs_X1 J.2.2.1 a6 l_code l_values l_stack l_length ++ cs_X0 J.2.2.1 a7 b_last b_lines) (As := [.int n1, .int 600]) (st := []) (ci := 9) (q0 := 0) rfl rfl (t_X9_needText (k_now := (a2 0)) (k_trial := k_trial) (k_task := k_task) (k_season := k_season) (k_stuffing := k_stuffing) (k_images := (a3 0)) (k_row := k_row) (k_plan := (a4 0)) (k_sparePlan := (a5 0)) (k_rule := (a6 0)) (k_spareRule := k_spareRule) (k_notes := (a7 0)) (k_spareNotes := k_spareNotes) (a0 := a0) (a1 := a1) hJ hc) (Sub.gen [0, 1, 2] [3, 4, 5, 6, 7, 8, 9, 10, 11, 12, 13, 14, 15, 16, 17, 18, 19, 20, 21, 22, 23, 24, 25, 26, 27, 28] [26, 27, 28, 0, 1, 2, 3, 4, 5, 6, 7, 8, 9, 10, 11, 12, 13, 14, 15, 16, 17, 18, 19, 20, 21, 22, 23, 24, 25] rfl (by decide) rfl (by decide) (by decide) rfl (by decide)) kw_538 kw_540 kw_1 kw_86 hy_X9_needText kw_541 rfl (Nat.le_of_ble_eq_true rfl) (Nat.le_of_ble_eq_true rfl) (Nat.le_of_ble_eq_true rfl) (Nat.le_of_ble_eq_true rfl) (Nat.le_of_ble_eq_true rfl) dX9_garden_5 (fun he => ?_) (fun he => ?_)
  · subst he
    rw [if_pos rfl] at h
    refine g_wid (n' := 1) (k' := 6) (Nat.le_of_ble_eq_true rfl) (Nat.le_of_ble_eq_true rfl) ?_
    refine g_aload_n (pc := 8) C 0 rfl dX9_garden_8 ?_
    refine g_get (pc := 9) C FOK_X9 0 rfl rfl 0 (by decide) kw_367 rfl dX9_garden_9 ?_
    refine g_iload_n (pc := 12) C 1 rfl dX9_garden_12 ?_
    obtain ⟨c3, c4, c5, c6, c7, hc, h⟩ := b5_of h
    refine g_callV (pc := 13) C (w' := cs_X9 (a0 0) (a1 0) (a2 0) k_trial k_task k_season k_stuffing (a3 0) k_row (a4 0) (a5 0) (a6 0) k_spareRule (a7 0) k_spareNotes x_latest x_imageMany x_refusedSteps x_missing c2 ++ cs_X7 J.2.2.1 a1 t_bytes t_held c3 c4 c5 c6 c7 ++ cs_X4 J.2.2.1 a2 s_year s_wet s_lost s_eaten s_tied s_ripeMany s_gone s_place s_heard s_many s_lying s_ripe ++ cs_Q J.2.2.1 a3 i_v ++ cs_X2 J.2.2.1 a4 p_beds p_letters p_readers p_far p_drain p_length p_words p_home ++ cs_X2 J.2.2.1 a5 p2_beds p2_letters p2_readers p2_far p2_drain p2_length p2_words p2_home ++ cs_X1 J.2.2.1 a6 l_code l_values l_stack l_length ++ cs_X0 J.2.2.1 a7 b_last b_lines) (As := [.int n1]) (st := []) (ci := 7) (q0 := 1) rfl rfl (t_X7_open (a0 := a1) hc) (Sub.gen [1, 2] [0, 3, 4, 5, 6, 7, 8, 9, 10, 11, 12, 13, 14, 15, 16, 17, 18, 19, 20, 21, 22, 23, 24, 25, 26, 27, 28] [0, 27, 28, 1, 2, 3, 4, 5, 6, 7, 8, 9, 10, 11, 12, 13, 14, 15, 16, 17, 18, 19, 20, 21, 22, 23, 24, 25, 26] rfl (by decide) rfl (by decide) (by decide) rfl (by decide)) kw_611 kw_612 kw_613 kw_87 hy_X7_open kw_614 rfl (Nat.le_of_ble_eq_true rfl) (Nat.le_of_ble_eq_true rfl) (Nat.le_of_ble_eq_true rfl) (Nat.le_of_ble_eq_true rfl) (Nat.le_of_ble_eq_true rfl) dX9_garden_13 ?_
    refine g_aload_n (pc := 16) C 0 rfl dX9_garden_16 ?_
    refine g_get (pc := 17) C FOK_X9 0 rfl rfl 9 (by decide) kw_376 rfl dX9_garden_17 ?_
    refine g_aload_n (pc := 20) C 0 rfl dX9_garden_20 ?_
    refine g_get (pc := 21) C FOK_X9 0 rfl rfl 0 (by decide) kw_367 rfl dX9_garden_21 ?_
    obtain ⟨c8, c9, c10, c11, c12, c13, c14, c15, c16, c17, c18, c19, hc, h⟩ := b12_of h
    refine g_callV (pc := 24) C (w' := cs_X9 (a0 0) (a1 0) (a2 0) k_trial k_task k_season k_stuffing (a3 0) k_row (a4 0) (a5 0) (a6 0) k_spareRule (a7 0) k_spareNotes x_latest x_imageMany x_refusedSteps x_missing c2 ++ cs_X7 J.2.2.1 a1 t_bytes t_held c3 c16 c17 c18 c19 ++ cs_X4 J.2.2.1 a2 s_year s_wet s_lost s_eaten s_tied s_ripeMany s_gone s_place s_heard s_many s_lying s_ripe ++ cs_Q J.2.2.1 a3 i_v ++ cs_X2 J.2.2.1 a4 p_beds p_letters p_readers p_far p_drain p_length p_words p_home ++ cs_X2 J.2.2.1 a5 c8 c9 c10 c11 c12 c13 c14 c15 ++ cs_X1 J.2.2.1 a6 l_code l_values l_stack l_length ++ cs_X0 J.2.2.1 a7 b_last b_lines) (As := [.ref (a1 0)]) (st := []) (ci := 2) (q0 := 17) rfl rfl (t_X2_read (a0 := a5) (a1 := a1) hc) (Sub.gen [17, 18, 19, 20, 21, 22, 1, 2] [0, 3, 4, 5, 6, 7, 8, 9, 10, 11, 12, 13, 14, 15, 16, 23, 24, 25, 26, 27, 28] [0, 27, 28, 1, 2, 3, 4, 5, 6, 7, 8, 9, 10, 11, 12, 13, 14, 21, 22, 23, 24, 25, 26, 15, 16, 17, 18, 19, 20] rfl (by decide) rfl (by decide) (by decide) rfl (by decide)) kw_615 kw_616 kw_617 kw_92 hy_X2_read kw_618 rfl (Nat.le_of_ble_eq_true rfl) (Nat.le_of_ble_eq_true rfl) (Nat.le_of_ble_eq_true rfl) (Nat.le_of_ble_eq_true rfl) (Nat.le_of_ble_eq_true rfl) dX9_garden_24 ?_
    refine g_aload_n (pc := 27) C 0 rfl dX9_garden_27 ?_
    refine g_get (pc := 28) C FOK_X9 0 rfl rfl 0 (by decide) kw_367 rfl dX9_garden_28 ?_
    obtain ⟨c20, hc, h⟩ := b1_of h
    refine g_callV (pc := 31) C (w' := cs_X9 (a0 0) (a1 0) (a2 0) k_trial k_task k_season k_stuffing (a3 0) k_row (a4 0) (a5 0) (a6 0) k_spareRule (a7 0) k_spareNotes x_latest x_imageMany x_refusedSteps x_missing c2 ++ cs_X7 J.2.2.1 a1 t_bytes c20 c3 c16 c17 c18 c19 ++ cs_X4 J.2.2.1 a2 s_year s_wet s_lost s_eaten s_tied s_ripeMany s_gone s_place s_heard s_many s_lying s_ripe ++ cs_Q J.2.2.1 a3 i_v ++ cs_X2 J.2.2.1 a4 p_beds p_letters p_readers p_far p_drain p_length p_words p_home ++ cs_X2 J.2.2.1 a5 c8 c9 c10 c11 c12 c13 c14 c15 ++ cs_X1 J.2.2.1 a6 l_code l_values l_stack l_length ++ cs_X0 J.2.2.1 a7 b_last b_lines) (As := []) (st := []) (ci := 7) (q0 := 1) rfl rfl (t_X7_empty (a0 := a1) hc) (Sub.gen [1, 2] [0, 3, 4, 5, 6, 7, 8, 9, 10, 11, 12, 13, 14, 15, 16, 17, 18, 19, 20, 21, 22, 23, 24, 25, 26, 27, 28] [0, 27, 28, 1, 2, 3, 4, 5, 6, 7, 8, 9, 10, 11, 12, 13, 14, 15, 16, 17, 18, 19, 20, 21, 22, 23, 24, 25, 26] rfl (by decide) rfl (by decide) (by decide) rfl (by decide)) kw_726 kw_727 kw_728 kw_87 hy_X7_empty kw_729 rfl (Nat.le_of_ble_eq_true rfl) (Nat.le_of_ble_eq_true rfl) (Nat.le_of_ble_eq_true rfl) (Nat.le_of_ble_eq_true rfl) (Nat.le_of_ble_eq_true rfl) dX9_garden_31 ?_
    refine g_aload_n (pc := 34) C 0 rfl dX9_garden_34 ?_
    refine g_get (pc := 35) C FOK_X9 0 rfl rfl 0 (by decide) kw_367 rfl dX9_garden_35 ?_
    obtain ⟨v21, hc, h⟩ := b1_of h
    refine g_callV (pc := 38) C (w' := cs_X9 (a0 0) (a1 0) (a2 0) k_trial k_task k_season k_stuffing (a3 0) k_row (a4 0) (a5 0) (a6 0) k_spareRule (a7 0) k_spareNotes x_latest x_imageMany x_refusedSteps x_missing c2 ++ cs_X7 J.2.2.1 a1 t_bytes c20 c3 c16 c17 c18 c19 ++ cs_X4 J.2.2.1 a2 s_year s_wet s_lost s_eaten s_tied s_ripeMany s_gone s_place s_heard s_many s_lying s_ripe ++ cs_Q J.2.2.1 a3 i_v ++ cs_X2 J.2.2.1 a4 p_beds p_letters p_readers p_far p_drain p_length p_words p_home ++ cs_X2 J.2.2.1 a5 c8 c9 c10 c11 c12 c13 c14 c15 ++ cs_X1 J.2.2.1 a6 l_code l_values l_stack l_length ++ cs_X0 J.2.2.1 a7 b_last b_lines) (As := []) (st := []) (ci := 7) (q0 := 1) rfl rfl (t_X7_isSound (a0 := a1) hc) (Sub.gen [1, 2] [0, 3, 4, 5, 6, 7, 8, 9, 10, 11, 12, 13, 14, 15, 16, 17, 18, 19, 20, 21, 22, 23, 24, 25, 26, 27, 28] [0, 27, 28, 1, 2, 3, 4, 5, 6, 7, 8, 9, 10, 11, 12, 13, 14, 15, 16, 17, 18, 19, 20, 21, 22, 23, 24, 25, 26] rfl (by decide) rfl (by decide) (by decide) rfl (by decide)) kw_730 kw_731 kw_732 kw_87 hy_X7_isSound kw_733 rfl (Nat.le_of_ble_eq_true rfl) (Nat.le_of_ble_eq_true rfl) (Nat.le_of_ble_eq_true rfl) (Nat.le_of_ble_eq_true rfl) (Nat.le_of_ble_eq_true rfl) dX9_garden_38 ?_
    refine g_if_ne (pc := 41) C (tgt := 52) dX9_garden_41 rfl h (fun h => ?_) (fun h => ?_)
    · refine g_aload_n (pc := 52) C 0 rfl dX9_garden_52 ?_
      refine g_get (pc := 53) C FOK_X9 0 rfl rfl 8 (by decide) kw_375 rfl dX9_garden_53 ?_
      refine g_astore_n (pc := 56) C [(2, .ref (a4 0)), (0, .ref (a0 0)), (1, .int n1)] dX9_garden_56 rfl (by decide) rfl ?_
      refine g_aload_n (pc := 57) C 1 rfl dX9_garden_57 ?_
      refine g_aload_n (pc := 58) C 1 rfl dX9_garden_58 ?_
      refine g_get (pc := 59) C FOK_X9 0 rfl rfl 9 (by decide) kw_376 rfl dX9_garden_59 ?_
      refine g_put (pc := 62) C (w' := cs_X9 (a0 0) (a1 0) (a2 0) k_trial k_task k_season k_stuffing (a3 0) k_row (a5 0) (a5 0) (a6 0) k_spareRule (a7 0) k_spareNotes x_latest x_imageMany x_refusedSteps x_missing c2 ++ cs_X7 J.2.2.1 a1 t_bytes c20 c3 c16 c17 c18 c19 ++ cs_X4 J.2.2.1 a2 s_year s_wet s_lost s_eaten s_tied s_ripeMany s_gone s_place s_heard s_many s_lying s_ripe ++ cs_Q J.2.2.1 a3 i_v ++ cs_X2 J.2.2.1 a4 p_beds p_letters p_readers p_far p_drain p_length p_words p_home ++ cs_X2 J.2.2.1 a5 c8 c9 c10 c11 c12 c13 c14 c15 ++ cs_X1 J.2.2.1 a6 l_code l_values l_stack l_length ++ cs_X0 J.2.2.1 a7 b_last b_lines) FOK_X9 0 rfl rfl 8 (by decide) kw_375 rfl rfl rfl (Nat.le_of_ble_eq_true rfl) dX9_garden_62 rfl ?_
      refine g_aload_n (pc := 65) C 1 rfl dX9_garden_65 ?_
      refine g_aload_n (pc := 66) C 0 rfl dX9_garden_66 ?_
      refine g_put (pc := 67) C (w' := cs_X9 (a0 0) (a1 0) (a2 0) k_trial k_task k_season k_stuffing (a3 0) k_row (a5 0) (a4 0) (a6 0) k_spareRule (a7 0) k_spareNotes x_latest x_imageMany x_refusedSteps x_missing c2 ++ cs_X7 J.2.2.1 a1 t_bytes c20 c3 c16 c17 c18 c19 ++ cs_X4 J.2.2.1 a2 s_year s_wet s_lost s_eaten s_tied s_ripeMany s_gone s_place s_heard s_many s_lying s_ripe ++ cs_Q J.2.2.1 a3 i_v ++ cs_X2 J.2.2.1 a4 p_beds p_letters p_readers p_far p_drain p_length p_words p_home ++ cs_X2 J.2.2.1 a5 c8 c9 c10 c11 c12 c13 c14 c15 ++ cs_X1 J.2.2.1 a6 l_code l_values l_stack l_length ++ cs_X0 J.2.2.1 a7 b_last b_lines) FOK_X9 0 rfl rfl 9 (by decide) kw_376 rfl rfl rfl (Nat.le_of_ble_eq_true rfl) dX9_garden_67 rfl ?_
      refine g_aload_n (pc := 70) C 1 rfl dX9_garden_70 ?_
      refine g_get (pc := 71) C FOK_X9 0 rfl rfl 10 (by decide) kw_377 rfl dX9_garden_71 ?_
      obtain ⟨c22, c23, hc, h⟩ := b2_of h
      refine g_callV (pc := 74) C (w' := cs_X9 (a0 0) (a1 0) (a2 0) k_trial k_task k_season k_stuffing (a3 0) k_row (a5 0) (a4 0) (a6 0) k_spareRule (a7 0) k_spareNotes x_latest x_imageMany x_refusedSteps x_missing c2 ++ cs_X7 J.2.2.1 a1 t_bytes c20 c3 c16 c17 c18 c19 ++ cs_X4 J.2.2.1 a2 s_year s_wet s_lost s_eaten s_tied s_ripeMany s_gone s_place s_heard s_many s_lying s_ripe ++ cs_Q J.2.2.1 a3 i_v ++ cs_X2 J.2.2.1 a4 p_beds p_letters p_readers p_far p_drain p_length p_words p_home ++ cs_X2 J.2.2.1 a5 c8 c9 c10 c11 c12 c13 c14 c15 ++ cs_X1 J.2.2.1 a6 c22 l_values l_stack c23 ++ cs_X0 J.2.2.1 a7 b_last b_lines) (As := []) (st := []) (ci := 1) (q0 := 23) rfl rfl (t_X1_makePlain (a0 := a6) hc) (Sub.gen [23, 24, 25, 26] [0, 1, 2, 3, 4, 5, 6, 7, 8, 9, 10, 11, 12, 13, 14, 15, 16, 17, 18, 19, 20, 21, 22, 27, 28] [0, 1, 2, 3, 4, 5, 6, 7, 8, 9, 10, 11, 12, 13, 14, 15, 16, 17, 18, 19, 20, 21, 22, 25, 26, 27, 28, 23, 24] rfl (by decide) rfl (by decide) (by decide) rfl (by decide)) kw_738 kw_328 kw_329 kw_93 hy_X1_makePlain kw_330 rfl (Nat.le_of_ble_eq_true rfl) (Nat.le_of_ble_eq_true rfl) (Nat.le_of_ble_eq_true rfl) (Nat.le_of_ble_eq_true rfl) (Nat.le_of_ble_eq_true rfl) dX9_garden_74 ?_
      refine g_aload_n (pc := 77) C 1 rfl dX9_garden_77 ?_
      refine g_get (pc := 78) C FOK_X9 0 rfl rfl 12 (by decide) kw_379 rfl dX9_garden_78 ?_
      obtain ⟨c24, c25, hc, h⟩ := b2_of h
      refine g_callV (pc := 81) C (w' := cs_X9 (a0 0) (a1 0) (a2 0) k_trial k_task k_season k_stuffing (a3 0) k_row (a5 0) (a4 0) (a6 0) k_spareRule (a7 0) k_spareNotes x_latest x_imageMany x_refusedSteps x_missing c2 ++ cs_X7 J.2.2.1 a1 t_bytes c20 c3 c16 c17 c18 c19 ++ cs_X4 J.2.2.1 a2 s_year s_wet s_lost s_eaten s_tied s_ripeMany s_gone s_place s_heard s_many s_lying s_ripe ++ cs_Q J.2.2.1 a3 i_v ++ cs_X2 J.2.2.1 a4 p_beds p_letters p_readers p_far p_drain p_length p_words p_home ++ cs_X2 J.2.2.1 a5 c8 c9 c10 c11 c12 c13 c14 c15 ++ cs_X1 J.2.2.1 a6 c22 l_values l_stack c23 ++ cs_X0 J.2.2.1 a7 c24 c25) (As := []) (st := []) (ci := 0) (q0 := 27) rfl rfl (t_X0_clear (a0 := a7) hc) (Sub.gen [27, 28] [0, 1, 2, 3, 4, 5, 6, 7, 8, 9, 10, 11, 12, 13, 14, 15, 16, 17, 18, 19, 20, 21, 22, 23, 24, 25, 26] [0, 1, 2, 3, 4, 5, 6, 7, 8, 9, 10, 11, 12, 13, 14, 15, 16, 17, 18, 19, 20, 21, 22, 23, 24, 25, 26, 27, 28] rfl (by decide) rfl (by decide) (by decide) rfl (by decide)) kw_739 kw_355 kw_356 kw_94 hy_X0_clear kw_357 rfl (Nat.le_of_ble_eq_true rfl) (Nat.le_of_ble_eq_true rfl) (Nat.le_of_ble_eq_true rfl) (Nat.le_of_ble_eq_true rfl) (Nat.le_of_ble_eq_true rfl) dX9_garden_81 ?_
      refine g_aload_n (pc := 84) C 1 rfl dX9_garden_84 ?_
      obtain ⟨c26, c27, hc, h⟩ := b2_of h
      refine g_callV (pc := 85) C (w' := cs_X9 (a0 0) (a1 0) (a2 0) k_trial k_task k_season k_stuffing (a3 0) k_row (a5 0) (a4 0) (a6 0) k_spareRule (a7 0) k_spareNotes x_latest c26 x_refusedSteps x_missing c2 ++ cs_X7 J.2.2.1 a1 t_bytes c20 c3 c16 c17 c18 c19 ++ cs_X4 J.2.2.1 a2 s_year s_wet s_lost s_eaten s_tied s_ripeMany s_gone s_place s_heard s_many s_lying s_ripe ++ cs_Q J.2.2.1 a3 c27 ++ cs_X2 J.2.2.1 a4 p_beds p_letters p_readers p_far p_drain p_length p_words p_home ++ cs_X2 J.2.2.1 a5 c8 c9 c10 c11 c12 c13 c14 c15 ++ cs_X1 J.2.2.1 a6 c22 l_values l_stack c23 ++ cs_X0 J.2.2.1 a7 c24 c25) (As := []) (st := []) (ci := 9) (q0 := 0) rfl rfl (t_X9_forgetImages (k_tape := (a1 0)) (k_now := (a2 0)) (k_trial := k_trial) (k_task := k_task) (k_season := k_season) (k_stuffing := k_stuffing) (k_row := k_row) (k_plan := (a5 0)) (k_sparePlan := (a4 0)) (k_rule := (a6 0)) (k_spareRule := k_spareRule) (k_notes := (a7 0)) (k_spareNotes := k_spareNotes) (a0 := a0) (a1 := a3) hc) (Sub.gen [0, 10] [1, 2, 3, 4, 5, 6, 7, 8, 9, 11, 12, 13, 14, 15, 16, 17, 18, 19, 20, 21, 22, 23, 24, 25, 26, 27, 28] [27, 0, 1, 2, 3, 4, 5, 6, 7, 8, 28, 9, 10, 11, 12, 13, 14, 15, 16, 17, 18, 19, 20, 21, 22, 23, 24, 25, 26] rfl (by decide) rfl (by decide) (by decide) rfl (by decide)) kw_740 kw_742 kw_4 kw_86 hy_X9_forgetImages kw_743 rfl (Nat.le_of_ble_eq_true rfl) (Nat.le_of_ble_eq_true rfl) (Nat.le_of_ble_eq_true rfl) (Nat.le_of_ble_eq_true rfl) (Nat.le_of_ble_eq_true rfl) dX9_garden_85 ?_
      refine g_aload_n (pc := 88) C 1 rfl dX9_garden_88 ?_
      refine g_null (pc := 89) C dX9_garden_89 ?_
      refine g_put (pc := 90) C (w' := cs_X9 (a0 0) (a1 0) (a2 0) k_trial k_task k_season k_stuffing (a3 0) k_row (a5 0) (a4 0) (a6 0) k_spareRule (a7 0) k_spareNotes Value.null c26 x_refusedSteps x_missing c2 ++ cs_X7 J.2.2.1 a1 t_bytes c20 c3 c16 c17 c18 c19 ++ cs_X4 J.2.2.1 a2 s_year s_wet s_lost s_eaten s_tied s_ripeMany s_gone s_place s_heard s_many s_lying s_ripe ++ cs_Q J.2.2.1 a3 c27 ++ cs_X2 J.2.2.1 a4 p_beds p_letters p_readers p_far p_drain p_length p_words p_home ++ cs_X2 J.2.2.1 a5 c8 c9 c10 c11 c12 c13 c14 c15 ++ cs_X1 J.2.2.1 a6 c22 l_values l_stack c23 ++ cs_X0 J.2.2.1 a7 c24 c25) FOK_X9 0 rfl rfl 14 (by decide) kw_381 rfl rfl rfl (Nat.le_of_ble_eq_true rfl) dX9_garden_90 rfl ?_
      refine g_aload_n (pc := 93) C 1 rfl dX9_garden_93 ?_
      refine g_iconst (pc := 94) C dX9_garden_94 ci_0 ?_
      refine g_put (pc := 95) C (w' := cs_X9 (a0 0) (a1 0) (a2 0) k_trial k_task k_season k_stuffing (a3 0) k_row (a5 0) (a4 0) (a6 0) k_spareRule (a7 0) k_spareNotes Value.null c26 0 x_missing c2 ++ cs_X7 J.2.2.1 a1 t_bytes c20 c3 c16 c17 c18 c19 ++ cs_X4 J.2.2.1 a2 s_year s_wet s_lost s_eaten s_tied s_ripeMany s_gone s_place s_heard s_many s_lying s_ripe ++ cs_Q J.2.2.1 a3 c27 ++ cs_X2 J.2.2.1 a4 p_beds p_letters p_readers p_far p_drain p_length p_words p_home ++ cs_X2 J.2.2.1 a5 c8 c9 c10 c11 c12 c13 c14 c15 ++ cs_X1 J.2.2.1 a6 c22 l_values l_stack c23 ++ cs_X0 J.2.2.1 a7 c24 c25) FOK_X9 0 rfl rfl 16 (by decide) kw_383 rfl rfl rfl (Nat.le_of_ble_eq_true rfl) dX9_garden_95 rfl ?_
      refine g_aload_n (pc := 98) C 1 rfl dX9_garden_98 ?_
      refine g_get (pc := 99) C FOK_X9 0 rfl rfl 1 (by decide) kw_368 rfl dX9_garden_99 ?_
      refine g_aload_n (pc := 102) C 1 rfl dX9_garden_102 ?_
      refine g_get (pc := 103) C FOK_X9 0 rfl rfl 8 (by decide) kw_375 rfl dX9_garden_103 ?_
      obtain ⟨c28, c29, c30, c31, c32, c33, c34, c35, c36, c37, hc, h⟩ := b10_of h
      refine g_callV (pc := 106) C (w' := cs_X9 (a0 0) (a1 0) (a2 0) k_trial k_task k_season k_stuffing (a3 0) k_row (a5 0) (a4 0) (a6 0) k_spareRule (a7 0) k_spareNotes Value.null c26 0 x_missing c2 ++ cs_X7 J.2.2.1 a1 t_bytes c20 c3 c16 c17 c18 c19 ++ cs_X4 J.2.2.1 a2 c28 c29 c30 c31 c32 c33 c34 c35 c36 c37 s_lying s_ripe ++ cs_Q J.2.2.1 a3 c27 ++ cs_X2 J.2.2.1 a4 p_beds p_letters p_readers p_far p_drain p_length p_words p_home ++ cs_X2 J.2.2.1 a5 c8 c9 c10 c11 c12 c13 c14 c15 ++ cs_X1 J.2.2.1 a6 c22 l_values l_stack c23 ++ cs_X0 J.2.2.1 a7 c24 c25) (As := [.ref (a5 0)]) (st := []) (ci := 4) (q0 := 3) rfl rfl (t_X4_begin (a0 := a2) (a1 := a5) hc) (Sub.gen [3, 4, 5, 6, 7, 8, 9, 17, 18, 19, 20, 21, 22] [0, 1, 2, 10, 11, 12, 13, 14, 15, 16, 23, 24, 25, 26, 27, 28] [0, 1, 2, 16, 17, 18, 19, 20, 21, 22, 3, 4, 5, 6, 7, 8, 9, 23, 24, 25, 26, 27, 28, 10, 11, 12, 13, 14, 15] rfl (by decide) rfl (by decide) (by decide) rfl (by decide)) kw_744 kw_745 kw_746 kw_88 hy_X4_begin kw_747 rfl (Nat.le_of_ble_eq_true rfl) (Nat.le_of_ble_eq_true rfl) (Nat.le_of_ble_eq_true rfl) (Nat.le_of_ble_eq_true rfl) (Nat.le_of_ble_eq_true rfl) dX9_garden_106 ?_
      refine g_aload_n (pc := 109) C 1 rfl dX9_garden_109 ?_
      refine g_get (pc := 110) C FOK_X9 0 rfl rfl 8 (by decide) kw_375 rfl dX9_garden_110 ?_
      refine g_get (pc := 113) C FOK_X2 17 rfl rfl 1 (by decide) kw_283 rfl dX9_garden_113 ?_
      cases h
      exact g_iretX C E () rfl dX9_garden_116
    · refine g_aload_n (pc := 44) C 0 rfl dX9_garden_44 ?_
      refine g_get (pc := 45) C FOK_X9 0 rfl rfl 0 (by decide) kw_367 rfl dX9_garden_45 ?_
      obtain ⟨v38, hc, h⟩ := b1_of h
      refine g_callV (pc := 48) C (w' := cs_X9 (a0 0) (a1 0) (a2 0) k_trial k_task k_season k_stuffing (a3 0) k_row (a4 0) (a5 0) (a6 0) k_spareRule (a7 0) k_spareNotes x_latest x_imageMany x_refusedSteps x_missing c2 ++ cs_X7 J.2.2.1 a1 t_bytes c20 c3 c16 c17 c18 c19 ++ cs_X4 J.2.2.1 a2 s_year s_wet s_lost s_eaten s_tied s_ripeMany s_gone s_place s_heard s_many s_lying s_ripe ++ cs_Q J.2.2.1 a3 i_v ++ cs_X2 J.2.2.1 a4 p_beds p_letters p_readers p_far p_drain p_length p_words p_home ++ cs_X2 J.2.2.1 a5 c8 c9 c10 c11 c12 c13 c14 c15 ++ cs_X1 J.2.2.1 a6 l_code l_values l_stack l_length ++ cs_X0 J.2.2.1 a7 b_last b_lines) (As := []) (st := []) (ci := 7) (q0 := 1) rfl rfl (t_X7_answer (a0 := a1) hc) (Sub.gen [1, 2] [0, 3, 4, 5, 6, 7, 8, 9, 10, 11, 12, 13, 14, 15, 16, 17, 18, 19, 20, 21, 22, 23, 24, 25, 26, 27, 28] [0, 27, 28, 1, 2, 3, 4, 5, 6, 7, 8, 9, 10, 11, 12, 13, 14, 15, 16, 17, 18, 19, 20, 21, 22, 23, 24, 25, 26] rfl (by decide) rfl (by decide) (by decide) rfl (by decide)) kw_734 kw_735 kw_736 kw_87 hy_X7_answer kw_737 rfl (Nat.le_of_ble_eq_true rfl) (Nat.le_of_ble_eq_true rfl) (Nat.le_of_ble_eq_true rfl) (Nat.le_of_ble_eq_true rfl) (Nat.le_of_ble_eq_true rfl) dX9_garden_48 ?_
      cases h
      exact g_iretX C E () rfl dX9_garden_51
  · rw [if_neg he] at h
    cases h
    exact gt_out C he E (Nat.le_of_ble_eq_true rfl) (Nat.le_of_ble_eq_true rfl) () rfl
noncomputable def f_X9_law (x_misused : Int32) (t_bytes : Nat → Int32) (t_held : Int32) (t_end : Int32) (t_at : Int32) (t_start : Int32) (t_faultKind : Int32) (t_faultPlace : Int32) (l2_code : Nat → Int32) (l2_length : Int32) (n1 : Int32) : Option (Nat × Int32 × Int32 × Int32 × Int32 × Int32 × Int32 × Int32 × Int32 × (Nat → Int32) × Int32 × Bool) := b2 (f_X9_needText x_misused t_held n1 150) (fun e1 c2 => if e1 = 0 then b5 (f_X7_open t_end t_at t_start t_faultKind t_faultPlace n1) (fun c3 c4 c5 c6 c7 => b6 (f_X1_read l2_code l2_length t_bytes c3 c4 c5 c6 c7) (fun c8 c9 c10 c11 c12 c13 => b1 (f_X7_empty t_held) (fun c14 => b1 (f_X7_isSound c12) (fun v15 => if v15 = 0 then b1 (f_X7_answer c12) (fun v16 => some (0, v16, c2, c14, c3, c10, c11, c12, c13, c8, c9, false)) else some (0, 1, c2, c14, c3, c10, c11, c12, c13, c8, c9, true))))) else some (e1, 0, c2, t_held, t_end, t_at, t_start, t_faultKind, t_faultPlace, l2_code, l2_length, false))
def rm_X9_law : Room := { frames := 48, cells := 1, slots := 6, locals := 1191 }
set_option maxRecDepth 100000 in
set_option maxHeartbeats 4000000 in
theorem t_X9_law {J : Jt} {a0 : Nat → Nat} {a1 : Nat → Nat} {a2 : Nat → Nat} {a3 : Nat → Nat} {k_now : Nat} {k_trial : Nat} {k_task : Nat} {k_season : Nat} {k_stuffing : Nat} {k_images : Nat} {k_row : Nat} {k_plan : Nat} {k_sparePlan : Nat} {k_notes : Nat} {k_spareNotes : Nat} {x_latest : Value} {x_imageMany : Int32} {x_refusedSteps : Int32} {x_missing : Int32} {x_misused : Int32} {t_bytes : Nat → Int32} {t_held : Int32} {t_end : Int32} {t_at : Int32} {t_start : Int32} {t_faultKind : Int32} {t_faultPlace : Int32} {l_code : Nat → Int32} {l_values : Nat → Int32} {l_stack : Nat → Int32} {l_length : Int32} {l2_code : Nat → Int32} {l2_values : Nat → Int32} {l2_stack : Nat → Int32} {l2_length : Int32} {n1 : Int32} {ex : Nat} {r : Int32} {o_x_misused : Int32} {o_t_held : Int32} {o_t_end : Int32} {o_t_at : Int32} {o_t_start : Int32} {o_t_faultKind : Int32} {o_t_faultPlace : Int32} {o_l2_code : Nat → Int32} {o_l2_length : Int32} {o_sw : Bool} (hJ : J.1.stackTraces = false) (h : f_X9_law x_misused t_bytes t_held t_end t_at t_start t_faultKind t_faultPlace l2_code l2_length n1 = some (ex, r, o_x_misused, o_t_held, o_t_end, o_t_at, o_t_start, o_t_faultKind, o_t_faultPlace, o_l2_code, o_l2_length, o_sw)) : MtX J yX9_law cX9_law 3 (some .int) rm_X9_law [.ref (a0 0), .int n1] (cs_X9 (a0 0) (a1 0) k_now k_trial k_task k_season k_stuffing k_images k_row k_plan k_sparePlan (a2 0) (a3 0) k_notes k_spareNotes x_latest x_imageMany x_refusedSteps x_missing x_misused ++ cs_X7 J.2.2.1 a1 t_bytes t_held t_end t_at t_start t_faultKind t_faultPlace ++ cs_X1 J.2.2.1 a2 l_code l_values l_stack l_length ++ cs_X1 J.2.2.1 a3 l2_code l2_values l2_stack l2_length) ex (some (.int r)) (fun _ : Unit => cs_X9 (a0 0) (a1 0) k_now k_trial k_task k_season k_stuffing k_images k_row k_plan k_sparePlan (cond o_sw (a3 0) (a2 0)) (cond o_sw (a2 0) (a3 0)) k_notes k_spareNotes x_latest x_imageMany x_refusedSteps x_missing o_x_misused ++ cs_X7 J.2.2.1 a1 t_bytes o_t_held o_t_end o_t_at o_t_start o_t_faultKind o_t_faultPlace ++ cs_X1 J.2.2.1 a2 l_code l_values l_stack l_length ++ cs_X1 J.2.2.1 a3 o_l2_code l2_values l2_stack o_l2_length) := by
  refine MtX_of (own := RX9) (by decide) rfl (Nat.le_of_ble_eq_true rfl) rfl (fun Z C E => ?_)
  unfold f_X9_law at h
  show G J Z 0 0 (cs_X9 (a0 0) (a1 0) k_now k_trial k_task k_season k_stuffing k_images k_row k_plan k_sparePlan (a2 0) (a3 0) k_notes k_spareNotes x_latest x_imageMany x_refusedSteps x_missing x_misused ++ cs_X7 J.2.2.1 a1 t_bytes t_held t_end t_at t_start t_faultKind t_faultPlace ++ cs_X1 J.2.2.1 a2 l_code l_values l_stack l_length ++ cs_X1 J.2.2.1 a3 l2_code l2_values l2_stack l2_length) 3 [(0, .ref (a0 0)), (1, .int n1)] 0 []
  refine g_aload_n (pc := 0) C 0 rfl dX9_law_0 ?_
  refine g_iload_n (pc := 1) C 1 rfl dX9_law_1 ?_
  refine g_sipush (pc := 2) C dX9_law_2 cs_150 ?_
  obtain ⟨e1, c2, hc, h⟩ := b2_of h
  refine g_xcallU (pc := 5) C (w' := cs_X9 (a0 0) (a1 0) k_now k_trial k_task k_season k_stuffing k_images k_row k_plan k_sparePlan (a2 0) (a3 0) k_notes k_spareNotes x_latest x_imageMany x_refusedSteps x_missing c2 ++ cs_X7 J.2.2.1 a1 t_bytes t_held t_end t_at t_start t_faultKind t_faultPlace ++ cs_X1 J.2.2.1 a2 l_code l_values l_stack l_length ++ cs_X1 J.2.2.1 a3 l2_code l2_values l2_stack l2_length) (As := [.int n1, .int 150]) (st := []) (ci := 9) (q0 := 0) rfl rfl (t_X9_needText (k_now := k_now) (k_trial := k_trial) (k_task := k_task) (k_season := k_season) (k_stuffing := k_stuffing) (k_images := k_images) (k_row := k_row) (k_plan := k_plan) (k_sparePlan := k_sparePlan) (k_rule := (a2 0)) (k_spareRule := (a3 0)) (k_notes := k_notes) (k_spareNotes := k_spareNotes) (a0 := a0) (a1 := a1) hJ hc) (Sub.gen [0, 1, 2] [3, 4, 5, 6, 7, 8, 9, 10] [8, 9, 10, 0, 1, 2, 3, 4, 5, 6, 7] rfl (by decide) rfl (by decide) (by decide) rfl (by decide)) kw_538 kw_540 kw_1 kw_86 hy_X9_needText kw_541 rfl (Nat.le_of_ble_eq_true rfl) (Nat.le_of_ble_eq_true rfl) (Nat.le_of_ble_eq_true rfl) (Nat.le_of_ble_eq_true rfl) (Nat.le_of_ble_eq_true rfl) dX9_law_5 (fun he => ?_) (fun he => ?_)
  · subst he
    rw [if_pos rfl] at h
    refine g_wid (n' := 1) (k' := 6) (Nat.le_of_ble_eq_true rfl) (Nat.le_of_ble_eq_true rfl) ?_
    refine g_aload_n (pc := 8) C 0 rfl dX9_law_8 ?_
    refine g_get (pc := 9) C FOK_X9 0 rfl rfl 0 (by decide) kw_367 rfl dX9_law_9 ?_
    refine g_iload_n (pc := 12) C 1 rfl dX9_law_12 ?_
    obtain ⟨c3, c4, c5, c6, c7, hc, h⟩ := b5_of h
    refine g_callV (pc := 13) C (w' := cs_X9 (a0 0) (a1 0) k_now k_trial k_task k_season k_stuffing k_images k_row k_plan k_sparePlan (a2 0) (a3 0) k_notes k_spareNotes x_latest x_imageMany x_refusedSteps x_missing c2 ++ cs_X7 J.2.2.1 a1 t_bytes t_held c3 c4 c5 c6 c7 ++ cs_X1 J.2.2.1 a2 l_code l_values l_stack l_length ++ cs_X1 J.2.2.1 a3 l2_code l2_values l2_stack l2_length) (As := [.int n1]) (st := []) (ci := 7) (q0 := 1) rfl rfl (t_X7_open (a0 := a1) hc) (Sub.gen [1, 2] [0, 3, 4, 5, 6, 7, 8, 9, 10] [0, 9, 10, 1, 2, 3, 4, 5, 6, 7, 8] rfl (by decide) rfl (by decide) (by decide) rfl (by decide)) kw_611 kw_612 kw_613 kw_87 hy_X7_open kw_614 rfl (Nat.le_of_ble_eq_true rfl) (Nat.le_of_ble_eq_true rfl) (Nat.le_of_ble_eq_true rfl) (Nat.le_of_ble_eq_true rfl) (Nat.le_of_ble_eq_true rfl) dX9_law_13 ?_
    refine g_aload_n (pc := 16) C 0 rfl dX9_law_16 ?_
    refine g_get (pc := 17) C FOK_X9 0 rfl rfl 11 (by decide) kw_378 rfl dX9_law_17 ?_
    refine g_aload_n (pc := 20) C 0 rfl dX9_law_20 ?_
    refine g_get (pc := 21) C FOK_X9 0 rfl rfl 0 (by decide) kw_367 rfl dX9_law_21 ?_
    obtain ⟨c8, c9, c10, c11, c12, c13, hc, h⟩ := b6_of h
    refine g_callV (pc := 24) C (w' := cs_X9 (a0 0) (a1 0) k_now k_trial k_task k_season k_stuffing k_images k_row k_plan k_sparePlan (a2 0) (a3 0) k_notes k_spareNotes x_latest x_imageMany x_refusedSteps x_missing c2 ++ cs_X7 J.2.2.1 a1 t_bytes t_held c3 c10 c11 c12 c13 ++ cs_X1 J.2.2.1 a2 l_code l_values l_stack l_length ++ cs_X1 J.2.2.1 a3 c8 l2_values l2_stack c9) (As := [.ref (a1 0)]) (st := []) (ci := 1) (q0 := 7) rfl rfl (t_X1_read (a0 := a3) (a1 := a1) hc) (Sub.gen [7, 8, 9, 10, 1, 2] [0, 3, 4, 5, 6] [0, 9, 10, 1, 2, 3, 4, 5, 6, 7, 8] rfl (by decide) rfl (by decide) (by decide) rfl (by decide)) kw_755 kw_756 kw_757 kw_93 hy_X1_read kw_758 rfl (Nat.le_of_ble_eq_true rfl) (Nat.le_of_ble_eq_true rfl) (Nat.le_of_ble_eq_true rfl) (Nat.le_of_ble_eq_true rfl) (Nat.le_of_ble_eq_true rfl) dX9_law_24 ?_
    refine g_aload_n (pc := 27) C 0 rfl dX9_law_27 ?_
    refine g_get (pc := 28) C FOK_X9 0 rfl rfl 0 (by decide) kw_367 rfl dX9_law_28 ?_
    obtain ⟨c14, hc, h⟩ := b1_of h
    refine g_callV (pc := 31) C (w' := cs_X9 (a0 0) (a1 0) k_now k_trial k_task k_season k_stuffing k_images k_row k_plan k_sparePlan (a2 0) (a3 0) k_notes k_spareNotes x_latest x_imageMany x_refusedSteps x_missing c2 ++ cs_X7 J.2.2.1 a1 t_bytes c14 c3 c10 c11 c12 c13 ++ cs_X1 J.2.2.1 a2 l_code l_values l_stack l_length ++ cs_X1 J.2.2.1 a3 c8 l2_values l2_stack c9) (As := []) (st := []) (ci := 7) (q0 := 1) rfl rfl (t_X7_empty (a0 := a1) hc) (Sub.gen [1, 2] [0, 3, 4, 5, 6, 7, 8, 9, 10] [0, 9, 10, 1, 2, 3, 4, 5, 6, 7, 8] rfl (by decide) rfl (by decide) (by decide) rfl (by decide)) kw_726 kw_727 kw_728 kw_87 hy_X7_empty kw_729 rfl (Nat.le_of_ble_eq_true rfl) (Nat.le_of_ble_eq_true rfl) (Nat.le_of_ble_eq_true rfl) (Nat.le_of_ble_eq_true rfl) (Nat.le_of_ble_eq_true rfl) dX9_law_31 ?_
    refine g_aload_n (pc := 34) C 0 rfl dX9_law_34 ?_
    refine g_get (pc := 35) C FOK_X9 0 rfl rfl 0 (by decide) kw_367 rfl dX9_law_35 ?_
    obtain ⟨v15, hc, h⟩ := b1_of h
    refine g_callV (pc := 38) C (w' := cs_X9 (a0 0) (a1 0) k_now k_trial k_task k_season k_stuffing k_images k_row k_plan k_sparePlan (a2 0) (a3 0) k_notes k_spareNotes x_latest x_imageMany x_refusedSteps x_missing c2 ++ cs_X7 J.2.2.1 a1 t_bytes c14 c3 c10 c11 c12 c13 ++ cs_X1 J.2.2.1 a2 l_code l_values l_stack l_length ++ cs_X1 J.2.2.1 a3 c8 l2_values l2_stack c9) (As := []) (st := []) (ci := 7) (q0 := 1) rfl rfl (t_X7_isSound (a0 := a1) hc) (Sub.gen [1, 2] [0, 3, 4, 5, 6, 7, 8, 9, 10] [0, 9, 10, 1, 2, 3, 4, 5, 6, 7, 8] rfl (by decide) rfl (by decide) (by decide) rfl (by decide)) kw_730 kw_731 kw_732 kw_87 hy_X7_isSound kw_733 rfl (Nat.le_of_ble_eq_true rfl) (Nat.le_of_ble_eq_true rfl) (Nat.le_of_ble_eq_true rfl) (Nat.le_of_ble_eq_true rfl) (Nat.le_of_ble_eq_true rfl) dX9_law_38 ?_
    refine g_if_ne (pc := 41) C (tgt := 52) dX9_law_41 rfl h (fun h => ?_) (fun h => ?_)
    · refine g_aload_n (pc := 52) C 0 rfl dX9_law_52 ?_
      refine g_get (pc := 53) C FOK_X9 0 rfl rfl 10 (by decide) kw_377 rfl dX9_law_53 ?_
      refine g_astore_n (pc := 56) C [(2, .ref (a2 0)), (0, .ref (a0 0)), (1, .int n1)] dX9_law_56 rfl (by decide) rfl ?_
      refine g_aload_n (pc := 57) C 1 rfl dX9_law_57 ?_
      refine g_aload_n (pc := 58) C 1 rfl dX9_law_58 ?_
      refine g_get (pc := 59) C FOK_X9 0 rfl rfl 11 (by decide) kw_378 rfl dX9_law_59 ?_
      refine g_put (pc := 62) C (w' := cs_X9 (a0 0) (a1 0) k_now k_trial k_task k_season k_stuffing k_images k_row k_plan k_sparePlan (a3 0) (a3 0) k_notes k_spareNotes x_latest x_imageMany x_refusedSteps x_missing c2 ++ cs_X7 J.2.2.1 a1 t_bytes c14 c3 c10 c11 c12 c13 ++ cs_X1 J.2.2.1 a2 l_code l_values l_stack l_length ++ cs_X1 J.2.2.1 a3 c8 l2_values l2_stack c9) FOK_X9 0 rfl rfl 10 (by decide) kw_377 rfl rfl rfl (Nat.le_of_ble_eq_true rfl) dX9_law_62 rfl ?_
      refine g_aload_n (pc := 65) C 1 rfl dX9_law_65 ?_
      refine g_aload_n (pc := 66) C 0 rfl dX9_law_66 ?_
      refine g_put (pc := 67) C (w' := cs_X9 (a0 0) (a1 0) k_now k_trial k_task k_season k_stuffing k_images k_row k_plan k_sparePlan (a3 0) (a2 0) k_notes k_spareNotes x_latest x_imageMany x_refusedSteps x_missing c2 ++ cs_X7 J.2.2.1 a1 t_bytes c14 c3 c10 c11 c12 c13 ++ cs_X1 J.2.2.1 a2 l_code l_values l_stack l_length ++ cs_X1 J.2.2.1 a3 c8 l2_values l2_stack c9) FOK_X9 0 rfl rfl 11 (by decide) kw_378 rfl rfl rfl (Nat.le_of_ble_eq_true rfl) dX9_law_67 rfl ?_
      refine g_iconst (pc := 70) C dX9_law_70 ci_1 ?_
      cases h
      exact g_iretX C E () rfl dX9_law_71
    · refine g_aload_n (pc := 44) C 0 rfl dX9_law_44 ?_
      refine g_get (pc := 45) C FOK_X9 0 rfl rfl 0 (by decide) kw_367 rfl dX9_law_45 ?_
      obtain ⟨v16, hc, h⟩ := b1_of h
      refine g_callV (pc := 48) C (w' := cs_X9 (a0 0) (a1 0) k_now k_trial k_task k_season k_stuffing k_images k_row k_plan k_sparePlan (a2 0) (a3 0) k_notes k_spareNotes x_latest x_imageMany x_refusedSteps x_missing c2 ++ cs_X7 J.2.2.1 a1 t_bytes c14 c3 c10 c11 c12 c13 ++ cs_X1 J.2.2.1 a2 l_code l_values l_stack l_length ++ cs_X1 J.2.2.1 a3 c8 l2_values l2_stack c9) (As := []) (st := []) (ci := 7) (q0 := 1) rfl rfl (t_X7_answer (a0 := a1) hc) (Sub.gen [1, 2] [0, 3, 4, 5, 6, 7, 8, 9, 10] [0, 9, 10, 1, 2, 3, 4, 5, 6, 7, 8] rfl (by decide) rfl (by decide) (by decide) rfl (by decide)) kw_734 kw_735 kw_736 kw_87 hy_X7_answer kw_737 rfl (Nat.le_of_ble_eq_true rfl) (Nat.le_of_ble_eq_true rfl) (Nat.le_of_ble_eq_true rfl) (Nat.le_of_ble_eq_true rfl) (Nat.le_of_ble_eq_true rfl) dX9_law_48 ?_
      cases h
      exact g_iretX C E () rfl dX9_law_51
  · rw [if_neg he] at h
    cases h
    exact gt_out C he E (Nat.le_of_ble_eq_true rfl) (Nat.le_of_ble_eq_true rfl) () rfl
noncomputable def f_X9_book (x_misused : Int32) (t_bytes : Nat → Int32) (t_held : Int32) (t_end : Int32) (t_at : Int32) (t_start : Int32) (t_faultKind : Int32) (t_faultPlace : Int32) (p_beds : Int32) (b2_last : Nat → Int32) (b2_lines : Int32) (n1 : Int32) : Option (Nat × Int32 × Int32 × Int32 × Int32 × Int32 × Int32 × Int32 × Int32 × (Nat → Int32) × Int32 × Bool) := b2 (f_X9_needText x_misused t_held n1 60) (fun e1 c2 => if e1 = 0 then b5 (f_X7_open t_end t_at t_start t_faultKind t_faultPlace n1) (fun c3 c4 c5 c6 c7 => b6 (f_X0_read b2_last b2_lines t_bytes c3 c4 c5 c6 c7 p_beds) (fun c8 c9 c10 c11 c12 c13 => b1 (f_X7_empty t_held) (fun c14 => b1 (f_X7_isSound c12) (fun v15 => if v15 = 0 then b1 (f_X7_answer c12) (fun v16 => some (0, v16, c2, c14, c3, c10, c11, c12, c13, c8, c9, false)) else some (0, c9, c2, c14, c3, c10, c11, c12, c13, c8, c9, true))))) else some (e1, 0, c2, t_held, t_end, t_at, t_start, t_faultKind, t_faultPlace, b2_last, b2_lines, false))
def rm_X9_book : Room := { frames := 11, cells := 1, slots := 6, locals := 165 }
set_option maxRecDepth 100000 in
set_option maxHeartbeats 4000000 in
theorem t_X9_book {J : Jt} {a0 : Nat → Nat} {a1 : Nat → Nat} {a2 : Nat → Nat} {a3 : Nat → Nat} {a4 : Nat → Nat} {k_now : Nat} {k_trial : Nat} {k_task : Nat} {k_season : Nat} {k_stuffing : Nat} {k_images : Nat} {k_row : Nat} {k_sparePlan : Nat} {k_rule : Nat} {k_spareRule : Nat} {x_latest : Value} {x_imageMany : Int32} {x_refusedSteps : Int32} {x_missing : Int32} {x_misused : Int32} {t_bytes : Nat → Int32} {t_held : Int32} {t_end : Int32} {t_at : Int32} {t_start : Int32} {t_faultKind : Int32} {t_faultPlace : Int32} {p_beds : Int32} {p_letters : Int32} {p_readers : Int32} {p_far : Nat → Int32} {p_drain : Nat → Int32} {p_length : Nat → Int32} {p_words : Nat → Int32} {p_home : Nat → Int32} {b_last : Nat → Int32} {b_lines : Int32} {b2_last : Nat → Int32} {b2_lines : Int32} {n1 : Int32} {ex : Nat} {r : Int32} {o_x_misused : Int32} {o_t_held : Int32} {o_t_end : Int32} {o_t_at : Int32} {o_t_start : Int32} {o_t_faultKind : Int32} {o_t_faultPlace : Int32} {o_b2_last : Nat → Int32} {o_b2_lines : Int32} {o_sw : Bool} (hJ : J.1.stackTraces = false) (h : f_X9_book x_misused t_bytes t_held t_end t_at t_start t_faultKind t_faultPlace p_beds b2_last b2_lines n1 = some (ex, r, o_x_misused, o_t_held, o_t_end, o_t_at, o_t_start, o_t_faultKind, o_t_faultPlace, o_b2_last, o_b2_lines, o_sw)) : MtX J yX9_book cX9_book 3 (some .int) rm_X9_book [.ref (a0 0), .int n1] (cs_X9 (a0 0) (a1 0) k_now k_trial k_task k_season k_stuffing k_images k_row (a2 0) k_sparePlan k_rule k_spareRule (a3 0) (a4 0) x_latest x_imageMany x_refusedSteps x_missing x_misused ++ cs_X7 J.2.2.1 a1 t_bytes t_held t_end t_at t_start t_faultKind t_faultPlace ++ cs_X2 J.2.2.1 a2 p_beds p_letters p_readers p_far p_drain p_length p_words p_home ++ cs_X0 J.2.2.1 a3 b_last b_lines ++ cs_X0 J.2.2.1 a4 b2_last b2_lines) ex (some (.int r)) (fun _ : Unit => cs_X9 (a0 0) (a1 0) k_now k_trial k_task k_season k_stuffing k_images k_row (a2 0) k_sparePlan k_rule k_spareRule (cond o_sw (a4 0) (a3 0)) (cond o_sw (a3 0) (a4 0)) x_latest x_imageMany x_refusedSteps x_missing o_x_misused ++ cs_X7 J.2.2.1 a1 t_bytes o_t_held o_t_end o_t_at o_t_start o_t_faultKind o_t_faultPlace ++ cs_X2 J.2.2.1 a2 p_beds p_letters p_readers p_far p_drain p_length p_words p_home ++ cs_X0 J.2.2.1 a3 b_last b_lines ++ cs_X0 J.2.2.1 a4 o_b2_last o_b2_lines) := by
  refine MtX_of (own := RX9) (by decide) rfl (Nat.le_of_ble_eq_true rfl) rfl (fun Z C E => ?_)
  unfold f_X9_book at h
  show G J Z 0 0 (cs_X9 (a0 0) (a1 0) k_now k_trial k_task k_season k_stuffing k_images k_row (a2 0) k_sparePlan k_rule k_spareRule (a3 0) (a4 0) x_latest x_imageMany x_refusedSteps x_missing x_misused ++ cs_X7 J.2.2.1 a1 t_bytes t_held t_end t_at t_start t_faultKind t_faultPlace ++ cs_X2 J.2.2.1 a2 p_beds p_letters p_readers p_far p_drain p_length p_words p_home ++ cs_X0 J.2.2.1 a3 b_last b_lines ++ cs_X0 J.2.2.1 a4 b2_last b2_lines) 3 [(0, .ref (a0 0)), (1, .int n1)] 0 []
  refine g_aload_n (pc := 0) C 0 rfl dX9_book_0 ?_
  refine g_iload_n (pc := 1) C 1 rfl dX9_book_1 ?_
  refine g_bipush (pc := 2) C dX9_book_2 cb_60 ?_
  obtain ⟨e1, c2, hc, h⟩ := b2_of h
  refine g_xcallU (pc := 4) C (w' := cs_X9 (a0 0) (a1 0) k_now k_trial k_task k_season k_stuffing k_images k_row (a2 0) k_sparePlan k_rule k_spareRule (a3 0) (a4 0) x_latest x_imageMany x_refusedSteps x_missing c2 ++ cs_X7 J.2.2.1 a1 t_bytes t_held t_end t_at t_start t_faultKind t_faultPlace ++ cs_X2 J.2.2.1 a2 p_beds p_letters p_readers p_far p_drain p_length p_words p_home ++ cs_X0 J.2.2.1 a3 b_last b_lines ++ cs_X0 J.2.2.1 a4 b2_last b2_lines) (As := [.int n1, .int 60]) (st := []) (ci := 9) (q0 := 0) rfl rfl (t_X9_needText (k_now := k_now) (k_trial := k_trial) (k_task := k_task) (k_season := k_season) (k_stuffing := k_stuffing) (k_images := k_images) (k_row := k_row) (k_plan := (a2 0)) (k_sparePlan := k_sparePlan) (k_rule := k_rule) (k_spareRule := k_spareRule) (k_notes := (a3 0)) (k_spareNotes := (a4 0)) (a0 := a0) (a1 := a1) hJ hc) (Sub.gen [0, 1, 2] [3, 4, 5, 6, 7, 8, 9, 10, 11, 12] [10, 11, 12, 0, 1, 2, 3, 4, 5, 6, 7, 8, 9] rfl (by decide) rfl (by decide) (by decide) rfl (by decide)) kw_538 kw_540 kw_1 kw_86 hy_X9_needText kw_541 rfl (Nat.le_of_ble_eq_true rfl) (Nat.le_of_ble_eq_true rfl) (Nat.le_of_ble_eq_true rfl) (Nat.le_of_ble_eq_true rfl) (Nat.le_of_ble_eq_true rfl) dX9_book_4 (fun he => ?_) (fun he => ?_)
  · subst he
    rw [if_pos rfl] at h
    refine g_wid (n' := 1) (k' := 6) (Nat.le_of_ble_eq_true rfl) (Nat.le_of_ble_eq_true rfl) ?_
    refine g_aload_n (pc := 7) C 0 rfl dX9_book_7 ?_
    refine g_get (pc := 8) C FOK_X9 0 rfl rfl 0 (by decide) kw_367 rfl dX9_book_8 ?_
    refine g_iload_n (pc := 11) C 1 rfl dX9_book_11 ?_
    obtain ⟨c3, c4, c5, c6, c7, hc, h⟩ := b5_of h
    refine g_callV (pc := 12) C (w' := cs_X9 (a0 0) (a1 0) k_now k_trial k_task k_season k_stuffing k_images k_row (a2 0) k_sparePlan k_rule k_spareRule (a3 0) (a4 0) x_latest x_imageMany x_refusedSteps x_missing c2 ++ cs_X7 J.2.2.1 a1 t_bytes t_held c3 c4 c5 c6 c7 ++ cs_X2 J.2.2.1 a2 p_beds p_letters p_readers p_far p_drain p_length p_words p_home ++ cs_X0 J.2.2.1 a3 b_last b_lines ++ cs_X0 J.2.2.1 a4 b2_last b2_lines) (As := [.int n1]) (st := []) (ci := 7) (q0 := 1) rfl rfl (t_X7_open (a0 := a1) hc) (Sub.gen [1, 2] [0, 3, 4, 5, 6, 7, 8, 9, 10, 11, 12] [0, 11, 12, 1, 2, 3, 4, 5, 6, 7, 8, 9, 10] rfl (by decide) rfl (by decide) (by decide) rfl (by decide)) kw_611 kw_612 kw_613 kw_87 hy_X7_open kw_614 rfl (Nat.le_of_ble_eq_true rfl) (Nat.le_of_ble_eq_true rfl) (Nat.le_of_ble_eq_true rfl) (Nat.le_of_ble_eq_true rfl) (Nat.le_of_ble_eq_true rfl) dX9_book_12 ?_
    refine g_aload_n (pc := 15) C 0 rfl dX9_book_15 ?_
    refine g_get (pc := 16) C FOK_X9 0 rfl rfl 13 (by decide) kw_380 rfl dX9_book_16 ?_
    refine g_aload_n (pc := 19) C 0 rfl dX9_book_19 ?_
    refine g_get (pc := 20) C FOK_X9 0 rfl rfl 0 (by decide) kw_367 rfl dX9_book_20 ?_
    refine g_aload_n (pc := 23) C 0 rfl dX9_book_23 ?_
    refine g_get (pc := 24) C FOK_X9 0 rfl rfl 8 (by decide) kw_375 rfl dX9_book_24 ?_
    refine g_get (pc := 27) C FOK_X2 3 rfl rfl 0 (by decide) kw_279 rfl dX9_book_27 ?_
    obtain ⟨c8, c9, c10, c11, c12, c13, hc, h⟩ := b6_of h
    refine g_callV (pc := 30) C (w' := cs_X9 (a0 0) (a1 0) k_now k_trial k_task k_season k_stuffing k_images k_row (a2 0) k_sparePlan k_rule k_spareRule (a3 0) (a4 0) x_latest x_imageMany x_refusedSteps x_missing c2 ++ cs_X7 J.2.2.1 a1 t_bytes t_held c3 c10 c11 c12 c13 ++ cs_X2 J.2.2.1 a2 p_beds p_letters p_readers p_far p_drain p_length p_words p_home ++ cs_X0 J.2.2.1 a3 b_last b_lines ++ cs_X0 J.2.2.1 a4 c8 c9) (As := [.ref (a1 0), .int p_beds]) (st := []) (ci := 0) (q0 := 11) rfl rfl (t_X0_read (a0 := a4) (a1 := a1) hc) (Sub.gen [11, 12, 1, 2] [0, 3, 4, 5, 6, 7, 8, 9, 10] [0, 11, 12, 1, 2, 3, 4, 5, 6, 7, 8, 9, 10] rfl (by decide) rfl (by decide) (by decide) rfl (by decide)) kw_925 kw_926 kw_927 kw_94 hy_X0_read kw_928 rfl (Nat.le_of_ble_eq_true rfl) (Nat.le_of_ble_eq_true rfl) (Nat.le_of_ble_eq_true rfl) (Nat.le_of_ble_eq_true rfl) (Nat.le_of_ble_eq_true rfl) dX9_book_30 ?_
    refine g_aload_n (pc := 33) C 0 rfl dX9_book_33 ?_
    refine g_get (pc := 34) C FOK_X9 0 rfl rfl 0 (by decide) kw_367 rfl dX9_book_34 ?_
    obtain ⟨c14, hc, h⟩ := b1_of h
    refine g_callV (pc := 37) C (w' := cs_X9 (a0 0) (a1 0) k_now k_trial k_task k_season k_stuffing k_images k_row (a2 0) k_sparePlan k_rule k_spareRule (a3 0) (a4 0) x_latest x_imageMany x_refusedSteps x_missing c2 ++ cs_X7 J.2.2.1 a1 t_bytes c14 c3 c10 c11 c12 c13 ++ cs_X2 J.2.2.1 a2 p_beds p_letters p_readers p_far p_drain p_length p_words p_home ++ cs_X0 J.2.2.1 a3 b_last b_lines ++ cs_X0 J.2.2.1 a4 c8 c9) (As := []) (st := []) (ci := 7) (q0 := 1) rfl rfl (t_X7_empty (a0 := a1) hc) (Sub.gen [1, 2] [0, 3, 4, 5, 6, 7, 8, 9, 10, 11, 12] [0, 11, 12, 1, 2, 3, 4, 5, 6, 7, 8, 9, 10] rfl (by decide) rfl (by decide) (by decide) rfl (by decide)) kw_726 kw_727 kw_728 kw_87 hy_X7_empty kw_729 rfl (Nat.le_of_ble_eq_true rfl) (Nat.le_of_ble_eq_true rfl) (Nat.le_of_ble_eq_true rfl) (Nat.le_of_ble_eq_true rfl) (Nat.le_of_ble_eq_true rfl) dX9_book_37 ?_
    refine g_aload_n (pc := 40) C 0 rfl dX9_book_40 ?_
    refine g_get (pc := 41) C FOK_X9 0 rfl rfl 0 (by decide) kw_367 rfl dX9_book_41 ?_
    obtain ⟨v15, hc, h⟩ := b1_of h
    refine g_callV (pc := 44) C (w' := cs_X9 (a0 0) (a1 0) k_now k_trial k_task k_season k_stuffing k_images k_row (a2 0) k_sparePlan k_rule k_spareRule (a3 0) (a4 0) x_latest x_imageMany x_refusedSteps x_missing c2 ++ cs_X7 J.2.2.1 a1 t_bytes c14 c3 c10 c11 c12 c13 ++ cs_X2 J.2.2.1 a2 p_beds p_letters p_readers p_far p_drain p_length p_words p_home ++ cs_X0 J.2.2.1 a3 b_last b_lines ++ cs_X0 J.2.2.1 a4 c8 c9) (As := []) (st := []) (ci := 7) (q0 := 1) rfl rfl (t_X7_isSound (a0 := a1) hc) (Sub.gen [1, 2] [0, 3, 4, 5, 6, 7, 8, 9, 10, 11, 12] [0, 11, 12, 1, 2, 3, 4, 5, 6, 7, 8, 9, 10] rfl (by decide) rfl (by decide) (by decide) rfl (by decide)) kw_730 kw_731 kw_732 kw_87 hy_X7_isSound kw_733 rfl (Nat.le_of_ble_eq_true rfl) (Nat.le_of_ble_eq_true rfl) (Nat.le_of_ble_eq_true rfl) (Nat.le_of_ble_eq_true rfl) (Nat.le_of_ble_eq_true rfl) dX9_book_44 ?_
    refine g_if_ne (pc := 47) C (tgt := 58) dX9_book_47 rfl h (fun h => ?_) (fun h => ?_)
    · refine g_aload_n (pc := 58) C 0 rfl dX9_book_58 ?_
      refine g_get (pc := 59) C FOK_X9 0 rfl rfl 12 (by decide) kw_379 rfl dX9_book_59 ?_
      refine g_astore_n (pc := 62) C [(2, .ref (a3 0)), (0, .ref (a0 0)), (1, .int n1)] dX9_book_62 rfl (by decide) rfl ?_
      refine g_aload_n (pc := 63) C 1 rfl dX9_book_63 ?_
      refine g_aload_n (pc := 64) C 1 rfl dX9_book_64 ?_
      refine g_get (pc := 65) C FOK_X9 0 rfl rfl 13 (by decide) kw_380 rfl dX9_book_65 ?_
      refine g_put (pc := 68) C (w' := cs_X9 (a0 0) (a1 0) k_now k_trial k_task k_season k_stuffing k_images k_row (a2 0) k_sparePlan k_rule k_spareRule (a4 0) (a4 0) x_latest x_imageMany x_refusedSteps x_missing c2 ++ cs_X7 J.2.2.1 a1 t_bytes c14 c3 c10 c11 c12 c13 ++ cs_X2 J.2.2.1 a2 p_beds p_letters p_readers p_far p_drain p_length p_words p_home ++ cs_X0 J.2.2.1 a3 b_last b_lines ++ cs_X0 J.2.2.1 a4 c8 c9) FOK_X9 0 rfl rfl 12 (by decide) kw_379 rfl rfl rfl (Nat.le_of_ble_eq_true rfl) dX9_book_68 rfl ?_
      refine g_aload_n (pc := 71) C 1 rfl dX9_book_71 ?_
      refine g_aload_n (pc := 72) C 0 rfl dX9_book_72 ?_
      refine g_put (pc := 73) C (w' := cs_X9 (a0 0) (a1 0) k_now k_trial k_task k_season k_stuffing k_images k_row (a2 0) k_sparePlan k_rule k_spareRule (a4 0) (a3 0) x_latest x_imageMany x_refusedSteps x_missing c2 ++ cs_X7 J.2.2.1 a1 t_bytes c14 c3 c10 c11 c12 c13 ++ cs_X2 J.2.2.1 a2 p_beds p_letters p_readers p_far p_drain p_length p_words p_home ++ cs_X0 J.2.2.1 a3 b_last b_lines ++ cs_X0 J.2.2.1 a4 c8 c9) FOK_X9 0 rfl rfl 13 (by decide) kw_380 rfl rfl rfl (Nat.le_of_ble_eq_true rfl) dX9_book_73 rfl ?_
      refine g_aload_n (pc := 76) C 1 rfl dX9_book_76 ?_
      refine g_get (pc := 77) C FOK_X9 0 rfl rfl 12 (by decide) kw_379 rfl dX9_book_77 ?_
      refine g_get (pc := 80) C FOK_X0 11 rfl rfl 1 (by decide) kw_361 rfl dX9_book_80 ?_
      cases h
      exact g_iretX C E () rfl dX9_book_83
    · refine g_aload_n (pc := 50) C 0 rfl dX9_book_50 ?_
      refine g_get (pc := 51) C FOK_X9 0 rfl rfl 0 (by decide) kw_367 rfl dX9_book_51 ?_
      obtain ⟨v16, hc, h⟩ := b1_of h
      refine g_callV (pc := 54) C (w' := cs_X9 (a0 0) (a1 0) k_now k_trial k_task k_season k_stuffing k_images k_row (a2 0) k_sparePlan k_rule k_spareRule (a3 0) (a4 0) x_latest x_imageMany x_refusedSteps x_missing c2 ++ cs_X7 J.2.2.1 a1 t_bytes c14 c3 c10 c11 c12 c13 ++ cs_X2 J.2.2.1 a2 p_beds p_letters p_readers p_far p_drain p_length p_words p_home ++ cs_X0 J.2.2.1 a3 b_last b_lines ++ cs_X0 J.2.2.1 a4 c8 c9) (As := []) (st := []) (ci := 7) (q0 := 1) rfl rfl (t_X7_answer (a0 := a1) hc) (Sub.gen [1, 2] [0, 3, 4, 5, 6, 7, 8, 9, 10, 11, 12] [0, 11, 12, 1, 2, 3, 4, 5, 6, 7, 8, 9, 10] rfl (by decide) rfl (by decide) (by decide) rfl (by decide)) kw_734 kw_735 kw_736 kw_87 hy_X7_answer kw_737 rfl (Nat.le_of_ble_eq_true rfl) (Nat.le_of_ble_eq_true rfl) (Nat.le_of_ble_eq_true rfl) (Nat.le_of_ble_eq_true rfl) (Nat.le_of_ble_eq_true rfl) dX9_book_54 ?_
      cases h
      exact g_iretX C E () rfl dX9_book_57
  · rw [if_neg he] at h
    cases h
    exact gt_out C he E (Nat.le_of_ble_eq_true rfl) (Nat.le_of_ble_eq_true rfl) () rfl
noncomputable def f_X9_fault (t_faultPlace : Int32) : Option (Int32) := some t_faultPlace
def rm_X9_fault : Room := { frames := 0, cells := 0, slots := 0, locals := 0 }
set_option maxRecDepth 100000 in
set_option maxHeartbeats 4000000 in
theorem t_X9_fault {J : Jt} {a0 : Nat → Nat} {a1 : Nat → Nat} {k_now : Nat} {k_trial : Nat} {k_task : Nat} {k_season : Nat} {k_stuffing : Nat} {k_images : Nat} {k_row : Nat} {k_plan : Nat} {k_sparePlan : Nat} {k_rule : Nat} {k_spareRule : Nat} {k_notes : Nat} {k_spareNotes : Nat} {x_latest : Value} {x_imageMany : Int32} {x_refusedSteps : Int32} {x_missing : Int32} {x_misused : Int32} {t_bytes : Nat → Int32} {t_held : Int32} {t_end : Int32} {t_at : Int32} {t_start : Int32} {t_faultKind : Int32} {t_faultPlace : Int32} {r : Int32} (h : f_X9_fault t_faultPlace = some r) : Mt J yX9_fault cX9_fault 1 (some .int) rm_X9_fault [.ref (a0 0)] (cs_X9 (a0 0) (a1 0) k_now k_trial k_task k_season k_stuffing k_images k_row k_plan k_sparePlan k_rule k_spareRule k_notes k_spareNotes x_latest x_imageMany x_refusedSteps x_missing x_misused ++ cs_X7 J.2.2.1 a1 t_bytes t_held t_end t_at t_start t_faultKind t_faultPlace) (some (.int r)) (cs_X9 (a0 0) (a1 0) k_now k_trial k_task k_season k_stuffing k_images k_row k_plan k_sparePlan k_rule k_spareRule k_notes k_spareNotes x_latest x_imageMany x_refusedSteps x_missing x_misused ++ cs_X7 J.2.2.1 a1 t_bytes t_held t_end t_at t_start t_faultKind t_faultPlace) := by
  refine Mt_of (own := RX9) (by decide) rfl (Nat.le_of_ble_eq_true rfl) rfl (fun Z C E => ?_)
  unfold f_X9_fault at h
  show G J Z 0 0 (cs_X9 (a0 0) (a1 0) k_now k_trial k_task k_season k_stuffing k_images k_row k_plan k_sparePlan k_rule k_spareRule k_notes k_spareNotes x_latest x_imageMany x_refusedSteps x_missing x_misused ++ cs_X7 J.2.2.1 a1 t_bytes t_held t_end t_at t_start t_faultKind t_faultPlace) 1 [(0, .ref (a0 0))] 0 []
  refine g_aload_n (pc := 0) C 0 rfl dX9_fault_0 ?_
  refine g_get (pc := 1) C FOK_X9 0 rfl rfl 0 (by decide) kw_367 rfl dX9_fault_1 ?_
  refine g_get (pc := 4) C FOK_X7 1 rfl rfl 6 (by decide) kw_131 rfl dX9_fault_4 ?_
  cases h
  exact g_iret C E dX9_fault_7
noncomputable def f_X9_told (x_refusedSteps : Int32) (x_misused : Int32) (s_year : Int32) (s_wet : Int32) (s_lost : Int32) (s_eaten : Int32) (s_ripeMany : Int32) (s_gone : Nat → Int32) (s_many : Nat → Int32) (p_beds : Int32) (p_letters : Int32) (p_readers : Int32) (p_length : Nat → Int32) (b_lines : Int32) (n1 : Int32) : Option (Nat × Int32 × Int32) := b2 (f_X9_needRange x_misused n1 0 11) (fun e1 c2 => if e1 = 0 then if n1 = 0 then some (0, p_beds, c2) else if n1 = 1 then some (0, p_letters, c2) else if n1 = 2 then some (0, p_readers, c2) else if n1 = 3 then some (0, s_year, c2) else if n1 = 4 then some (0, s_wet, c2) else if n1 = 5 then b1 (f_X4_leftOfAll s_gone p_letters p_length) (fun v3 => some (0, v3, c2)) else if n1 = 6 then b1 (f_X4_lyingInAll s_many) (fun v4 => some (0, v4, c2)) else if n1 = 7 then some (0, s_lost, c2) else if n1 = 8 then some (0, s_eaten, c2) else if n1 = 9 then some (0, b_lines, c2) else if n1 = 10 then some (0, x_refusedSteps, c2) else some (0, s_ripeMany, c2) else some (e1, 0, c2))
def rm_X9_told : Room := { frames := 10, cells := 1, slots := 6, locals := 143 }
set_option maxRecDepth 100000 in
set_option maxHeartbeats 4000000 in
theorem t_X9_told {J : Jt} {a0 : Nat → Nat} {a1 : Nat → Nat} {a2 : Nat → Nat} {a3 : Nat → Nat} {k_tape : Nat} {k_trial : Nat} {k_task : Nat} {k_season : Nat} {k_stuffing : Nat} {k_images : Nat} {k_row : Nat} {k_sparePlan : Nat} {k_rule : Nat} {k_spareRule : Nat} {k_spareNotes : Nat} {x_latest : Value} {x_imageMany : Int32} {x_refusedSteps : Int32} {x_missing : Int32} {x_misused : Int32} {s_year : Int32} {s_wet : Int32} {s_lost : Int32} {s_eaten : Int32} {s_tied : Int32} {s_ripeMany : Int32} {s_gone : Nat → Int32} {s_place : Nat → Int32} {s_heard : Nat → Int32} {s_many : Nat → Int32} {s_lying : Nat → Int32} {s_ripe : Nat → Int32} {p_beds : Int32} {p_letters : Int32} {p_readers : Int32} {p_far : Nat → Int32} {p_drain : Nat → Int32} {p_length : Nat → Int32} {p_words : Nat → Int32} {p_home : Nat → Int32} {b_last : Nat → Int32} {b_lines : Int32} {n1 : Int32} {ex : Nat} {r : Int32} {o_x_misused : Int32} (hJ : J.1.stackTraces = false) (h : f_X9_told x_refusedSteps x_misused s_year s_wet s_lost s_eaten s_ripeMany s_gone s_many p_beds p_letters p_readers p_length b_lines n1 = some (ex, r, o_x_misused)) : MtX J yX9_told cX9_told 2 (some .int) rm_X9_told [.ref (a0 0), .int n1] (cs_X9 (a0 0) k_tape (a1 0) k_trial k_task k_season k_stuffing k_images k_row (a2 0) k_sparePlan k_rule k_spareRule (a3 0) k_spareNotes x_latest x_imageMany x_refusedSteps x_missing x_misused ++ cs_X4 J.2.2.1 a1 s_year s_wet s_lost s_eaten s_tied s_ripeMany s_gone s_place s_heard s_many s_lying s_ripe ++ cs_X2 J.2.2.1 a2 p_beds p_letters p_readers p_far p_drain p_length p_words p_home ++ cs_X0 J.2.2.1 a3 b_last b_lines) ex (some (.int r)) (fun _ : Unit => cs_X9 (a0 0) k_tape (a1 0) k_trial k_task k_season k_stuffing k_images k_row (a2 0) k_sparePlan k_rule k_spareRule (a3 0) k_spareNotes x_latest x_imageMany x_refusedSteps x_missing o_x_misused ++ cs_X4 J.2.2.1 a1 s_year s_wet s_lost s_eaten s_tied s_ripeMany s_gone s_place s_heard s_many s_lying s_ripe ++ cs_X2 J.2.2.1 a2 p_beds p_letters p_readers p_far p_drain p_length p_words p_home ++ cs_X0 J.2.2.1 a3 b_last b_lines) := by
  refine MtX_of (own := RX9) (by decide) rfl (Nat.le_of_ble_eq_true rfl) rfl (fun Z C E => ?_)
  unfold f_X9_told at h
  show G J Z 0 0 (cs_X9 (a0 0) k_tape (a1 0) k_trial k_task k_season k_stuffing k_images k_row (a2 0) k_sparePlan k_rule k_spareRule (a3 0) k_spareNotes x_latest x_imageMany x_refusedSteps x_missing x_misused ++ cs_X4 J.2.2.1 a1 s_year s_wet s_lost s_eaten s_tied s_ripeMany s_gone s_place s_heard s_many s_lying s_ripe ++ cs_X2 J.2.2.1 a2 p_beds p_letters p_readers p_far p_drain p_length p_words p_home ++ cs_X0 J.2.2.1 a3 b_last b_lines) 2 [(0, .ref (a0 0)), (1, .int n1)] 0 []
  refine g_aload_n (pc := 0) C 0 rfl dX9_told_0 ?_
  refine g_iload_n (pc := 1) C 1 rfl dX9_told_1 ?_
  refine g_iconst (pc := 2) C dX9_told_2 ci_0 ?_
  refine g_bipush (pc := 3) C dX9_told_3 cb_11 ?_
  obtain ⟨e1, c2, hc, h⟩ := b2_of h
  refine g_xcallU (pc := 5) C (w' := cs_X9 (a0 0) k_tape (a1 0) k_trial k_task k_season k_stuffing k_images k_row (a2 0) k_sparePlan k_rule k_spareRule (a3 0) k_spareNotes x_latest x_imageMany x_refusedSteps x_missing c2 ++ cs_X4 J.2.2.1 a1 s_year s_wet s_lost s_eaten s_tied s_ripeMany s_gone s_place s_heard s_many s_lying s_ripe ++ cs_X2 J.2.2.1 a2 p_beds p_letters p_readers p_far p_drain p_length p_words p_home ++ cs_X0 J.2.2.1 a3 b_last b_lines) (As := [.int n1, .int 0, .int 11]) (st := []) (ci := 9) (q0 := 0) rfl rfl (t_X9_needRange (k_tape := k_tape) (k_now := (a1 0)) (k_trial := k_trial) (k_task := k_task) (k_season := k_season) (k_stuffing := k_stuffing) (k_images := k_images) (k_row := k_row) (k_plan := (a2 0)) (k_sparePlan := k_sparePlan) (k_rule := k_rule) (k_spareRule := k_spareRule) (k_notes := (a3 0)) (k_spareNotes := k_spareNotes) (a0 := a0) hJ hc) (Sub.gen [0] [1, 2, 3, 4, 5, 6, 7, 8, 9, 10, 11, 12, 13, 14, 15] [15, 0, 1, 2, 3, 4, 5, 6, 7, 8, 9, 10, 11, 12, 13, 14] rfl (by decide) rfl (by decide) (by decide) rfl (by decide)) kw_545 kw_547 kw_2 kw_86 hy_X9_needRange kw_548 rfl (Nat.le_of_ble_eq_true rfl) (Nat.le_of_ble_eq_true rfl) (Nat.le_of_ble_eq_true rfl) (Nat.le_of_ble_eq_true rfl) (Nat.le_of_ble_eq_true rfl) dX9_told_5 (fun he => ?_) (fun he => ?_)
  · subst he
    rw [if_pos rfl] at h
    refine g_wid (n' := 1) (k' := 6) (Nat.le_of_ble_eq_true rfl) (Nat.le_of_ble_eq_true rfl) ?_
    refine g_iload_n (pc := 8) C 1 rfl dX9_told_8 ?_
    rcases ite_of h with ⟨hc, h⟩ | ⟨hn0, h⟩
    · refine g_tsIn (pc := 9) C (tgt := 68) dX9_told_9 (by rw [hc]; decide) (by rw [hc]; decide) (by rw [hc]; rfl) rfl ?_
      refine g_aload_n (pc := 68) C 0 rfl dX9_told_68 ?_
      refine g_get (pc := 69) C FOK_X9 0 rfl rfl 8 (by decide) kw_375 rfl dX9_told_69 ?_
      refine g_get (pc := 72) C FOK_X2 8 rfl rfl 0 (by decide) kw_279 rfl dX9_told_72 ?_
      cases h
      exact g_iretX C E () rfl dX9_told_75
    rcases ite_of h with ⟨hc, h⟩ | ⟨hn1, h⟩
    · refine g_tsIn (pc := 9) C (tgt := 76) dX9_told_9 (by rw [hc]; decide) (by rw [hc]; decide) (by rw [hc]; rfl) rfl ?_
      refine g_aload_n (pc := 76) C 0 rfl dX9_told_76 ?_
      refine g_get (pc := 77) C FOK_X9 0 rfl rfl 8 (by decide) kw_375 rfl dX9_told_77 ?_
      refine g_get (pc := 80) C FOK_X2 8 rfl rfl 1 (by decide) kw_283 rfl dX9_told_80 ?_
      cases h
      exact g_iretX C E () rfl dX9_told_83
    rcases ite_of h with ⟨hc, h⟩ | ⟨hn2, h⟩
    · refine g_tsIn (pc := 9) C (tgt := 84) dX9_told_9 (by rw [hc]; decide) (by rw [hc]; decide) (by rw [hc]; rfl) rfl ?_
      refine g_aload_n (pc := 84) C 0 rfl dX9_told_84 ?_
      refine g_get (pc := 85) C FOK_X9 0 rfl rfl 8 (by decide) kw_375 rfl dX9_told_85 ?_
      refine g_get (pc := 88) C FOK_X2 8 rfl rfl 2 (by decide) kw_289 rfl dX9_told_88 ?_
      cases h
      exact g_iretX C E () rfl dX9_told_91
    rcases ite_of h with ⟨hc, h⟩ | ⟨hn3, h⟩
    · refine g_tsIn (pc := 9) C (tgt := 92) dX9_told_9 (by rw [hc]; decide) (by rw [hc]; decide) (by rw [hc]; rfl) rfl ?_
      refine g_aload_n (pc := 92) C 0 rfl dX9_told_92 ?_
      refine g_get (pc := 93) C FOK_X9 0 rfl rfl 1 (by decide) kw_368 rfl dX9_told_93 ?_
      refine g_get (pc := 96) C FOK_X4 1 rfl rfl 0 (by decide) kw_155 rfl dX9_told_96 ?_
      cases h
      exact g_iretX C E () rfl dX9_told_99
    rcases ite_of h with ⟨hc, h⟩ | ⟨hn4, h⟩
    · refine g_tsIn (pc := 9) C (tgt := 100) dX9_told_9 (by rw [hc]; decide) (by rw [hc]; decide) (by rw [hc]; rfl) rfl ?_
      refine g_aload_n (pc := 100) C 0 rfl dX9_told_100 ?_
      refine g_get (pc := 101) C FOK_X9 0 rfl rfl 1 (by decide) kw_368 rfl dX9_told_101 ?_
      refine g_get (pc := 104) C FOK_X4 1 rfl rfl 1 (by decide) kw_158 rfl dX9_told_104 ?_
      cases h
      exact g_iretX C E () rfl dX9_told_107
    rcases ite_of h with ⟨hc, h⟩ | ⟨hn5, h⟩
    · refine g_tsIn (pc := 9) C (tgt := 108) dX9_told_9 (by rw [hc]; decide) (by rw [hc]; decide) (by rw [hc]; rfl) rfl ?_
      refine g_aload_n (pc := 108) C 0 rfl dX9_told_108 ?_
      refine g_get (pc := 109) C FOK_X9 0 rfl rfl 1 (by decide) kw_368 rfl dX9_told_109 ?_
      refine g_aload_n (pc := 112) C 0 rfl dX9_told_112 ?_
      refine g_get (pc := 113) C FOK_X9 0 rfl rfl 8 (by decide) kw_375 rfl dX9_told_113 ?_
      obtain ⟨v3, hc, h⟩ := b1_of h
      refine g_callV (pc := 116) C (w' := cs_X9 (a0 0) k_tape (a1 0) k_trial k_task k_season k_stuffing k_images k_row (a2 0) k_sparePlan k_rule k_spareRule (a3 0) k_spareNotes x_latest x_imageMany x_refusedSteps x_missing c2 ++ cs_X4 J.2.2.1 a1 s_year s_wet s_lost s_eaten s_tied s_ripeMany s_gone s_place s_heard s_many s_lying s_ripe ++ cs_X2 J.2.2.1 a2 p_beds p_letters p_readers p_far p_drain p_length p_words p_home ++ cs_X0 J.2.2.1 a3 b_last b_lines) (As := [.ref (a2 0)]) (st := []) (ci := 4) (q0 := 1) rfl rfl (t_X4_leftOfAll (a0 := a1) (a1 := a2) hc) (Sub.gen [1, 2, 3, 4, 5, 6, 7, 8, 9, 10, 11, 12, 13] [0, 14, 15] [0, 3, 4, 5, 6, 7, 8, 9, 10, 11, 12, 13, 14, 15, 1, 2] rfl (by decide) rfl (by decide) (by decide) rfl (by decide)) kw_940 kw_941 kw_942 kw_88 hy_X4_leftOfAll kw_943 rfl (Nat.le_of_ble_eq_true rfl) (Nat.le_of_ble_eq_true rfl) (Nat.le_of_ble_eq_true rfl) (Nat.le_of_ble_eq_true rfl) (Nat.le_of_ble_eq_true rfl) dX9_told_116 ?_
      cases h
      exact g_iretX C E () rfl dX9_told_119
    rcases ite_of h with ⟨hc, h⟩ | ⟨hn6, h⟩
    · refine g_tsIn (pc := 9) C (tgt := 120) dX9_told_9 (by rw [hc]; decide) (by rw [hc]; decide) (by rw [hc]; rfl) rfl ?_
      refine g_aload_n (pc := 120) C 0 rfl dX9_told_120 ?_
      refine g_get (pc := 121) C FOK_X9 0 rfl rfl 1 (by decide) kw_368 rfl dX9_told_121 ?_
      obtain ⟨v4, hc, h⟩ := b1_of h
      refine g_callV (pc := 124) C (w' := cs_X9 (a0 0) k_tape (a1 0) k_trial k_task k_season k_stuffing k_images k_row (a2 0) k_sparePlan k_rule k_spareRule (a3 0) k_spareNotes x_latest x_imageMany x_refusedSteps x_missing c2 ++ cs_X4 J.2.2.1 a1 s_year s_wet s_lost s_eaten s_tied s_ripeMany s_gone s_place s_heard s_many s_lying s_ripe ++ cs_X2 J.2.2.1 a2 p_beds p_letters p_readers p_far p_drain p_length p_words p_home ++ cs_X0 J.2.2.1 a3 b_last b_lines) (As := []) (st := []) (ci := 4) (q0 := 1) rfl rfl (t_X4_lyingInAll (a0 := a1) hc) (Sub.gen [1, 2, 3, 4, 5, 6, 7] [0, 8, 9, 10, 11, 12, 13, 14, 15] [0, 9, 10, 11, 12, 13, 14, 15, 1, 2, 3, 4, 5, 6, 7, 8] rfl (by decide) rfl (by decide) (by decide) rfl (by decide)) kw_944 kw_945 kw_946 kw_88 hy_X4_lyingInAll kw_947 rfl (Nat.le_of_ble_eq_true rfl) (Nat.le_of_ble_eq_true rfl) (Nat.le_of_ble_eq_true rfl) (Nat.le_of_ble_eq_true rfl) (Nat.le_of_ble_eq_true rfl) dX9_told_124 ?_
      cases h
      exact g_iretX C E () rfl dX9_told_127
    rcases ite_of h with ⟨hc, h⟩ | ⟨hn7, h⟩
    · refine g_tsIn (pc := 9) C (tgt := 128) dX9_told_9 (by rw [hc]; decide) (by rw [hc]; decide) (by rw [hc]; rfl) rfl ?_
      refine g_aload_n (pc := 128) C 0 rfl dX9_told_128 ?_
      refine g_get (pc := 129) C FOK_X9 0 rfl rfl 1 (by decide) kw_368 rfl dX9_told_129 ?_
      refine g_get (pc := 132) C FOK_X4 1 rfl rfl 2 (by decide) kw_160 rfl dX9_told_132 ?_
      cases h
      exact g_iretX C E () rfl dX9_told_135
    rcases ite_of h with ⟨hc, h⟩ | ⟨hn8, h⟩
    · refine g_tsIn (pc := 9) C (tgt := 136) dX9_told_9 (by rw [hc]; decide) (by rw [hc]; decide) (by rw [hc]; rfl) rfl ?_
      refine g_aload_n (pc := 136) C 0 rfl dX9_told_136 ?_
      refine g_get (pc := 137) C FOK_X9 0 rfl rfl 1 (by decide) kw_368 rfl dX9_told_137 ?_
      refine g_get (pc := 140) C FOK_X4 1 rfl rfl 3 (by decide) kw_162 rfl dX9_told_140 ?_
      cases h
      exact g_iretX C E () rfl dX9_told_143
    rcases ite_of h with ⟨hc, h⟩ | ⟨hn9, h⟩
    · refine g_tsIn (pc := 9) C (tgt := 144) dX9_told_9 (by rw [hc]; decide) (by rw [hc]; decide) (by rw [hc]; rfl) rfl ?_
      refine g_aload_n (pc := 144) C 0 rfl dX9_told_144 ?_
      refine g_get (pc := 145) C FOK_X9 0 rfl rfl 12 (by decide) kw_379 rfl dX9_told_145 ?_
      refine g_get (pc := 148) C FOK_X0 14 rfl rfl 1 (by decide) kw_361 rfl dX9_told_148 ?_
      cases h
      exact g_iretX C E () rfl dX9_told_151
    rcases ite_of h with ⟨hc, h⟩ | ⟨hn10, h⟩
    · refine g_tsIn (pc := 9) C (tgt := 152) dX9_told_9 (by rw [hc]; decide) (by rw [hc]; decide) (by rw [hc]; rfl) rfl ?_
      refine g_aload_n (pc := 152) C 0 rfl dX9_told_152 ?_
      refine g_get (pc := 153) C FOK_X9 0 rfl rfl 16 (by decide) kw_383 rfl dX9_told_153 ?_
      cases h
      exact g_iretX C E () rfl dX9_told_156
    have hq0 := lv_neT hn0 (a := 0) (by decide)
    have hq1 := lv_neT hn1 (a := 1) (by decide)
    have hq2 := lv_neT hn2 (a := 2) (by decide)
    have hq3 := lv_neT hn3 (a := 3) (by decide)
    have hq4 := lv_neT hn4 (a := 4) (by decide)
    have hq5 := lv_neT hn5 (a := 5) (by decide)
    have hq6 := lv_neT hn6 (a := 6) (by decide)
    have hq7 := lv_neT hn7 (a := 7) (by decide)
    have hq8 := lv_neT hn8 (a := 8) (by decide)
    have hq9 := lv_neT hn9 (a := 9) (by decide)
    have hq10 := lv_neT hn10 (a := 10) (by decide)
    refine g_tsOut (pc := 9) C (tgt := 157) dX9_told_9 (by omega) rfl ?_
    refine g_aload_n (pc := 157) C 0 rfl dX9_told_157 ?_
    refine g_get (pc := 158) C FOK_X9 0 rfl rfl 1 (by decide) kw_368 rfl dX9_told_158 ?_
    refine g_get (pc := 161) C FOK_X4 1 rfl rfl 5 (by decide) kw_166 rfl dX9_told_161 ?_
    cases h
    exact g_iretX C E () rfl dX9_told_164
  · rw [if_neg he] at h
    cases h
    exact gt_out C he E (Nat.le_of_ble_eq_true rfl) (Nat.le_of_ble_eq_true rfl) () rfl
noncomputable def f_X9_needOneOf_9   (n1 : Int32) (n2 : Int32) (x_missing : Int32) : Option (Nat × Int32) := some (1, x_missing + 1)
noncomputable def f_X9_needOneOf (x_missing : Int32) (n1 : Int32) (n2 : Int32) : Option (Nat × Int32) := if n1 < 0 then f_X9_needOneOf_9 n1 n2 x_missing else if n1 < n2 then some (0, x_missing) else f_X9_needOneOf_9 n1 n2 x_missing
def rm_X9_needOneOf : Room := { frames := 9, cells := 1, slots := 6, locals := 120 }
set_option maxRecDepth 100000 in
set_option maxHeartbeats 4000000 in
theorem j_X9_needOneOf_9 {J : Jt} {Z : Zt} {a0 : Nat → Nat} {k_tape : Nat} {k_now : Nat} {k_trial : Nat} {k_task : Nat} {k_season : Nat} {k_stuffing : Nat} {k_images : Nat} {k_row : Nat} {k_plan : Nat} {k_sparePlan : Nat} {k_rule : Nat} {k_spareRule : Nat} {k_notes : Nat} {k_spareNotes : Nat} {x_latest : Value} {x_imageMany : Int32} {x_refusedSteps : Int32} {x_misused : Int32} {n1 : Int32} {n2 : Int32} {ex : Nat} {o_x_missing : Int32} (C : Cx J Z cX9_needOneOf 3 RX9 none rm_X9_needOneOf) (hJ : J.1.stackTraces = false) (E : EzX J Z 1 6 ex none (fun _ : Unit => cs_X9 (a0 0) k_tape k_now k_trial k_task k_season k_stuffing k_images k_row k_plan k_sparePlan k_rule k_spareRule k_notes k_spareNotes x_latest x_imageMany x_refusedSteps o_x_missing x_misused)) : ∀ (x_missing : Int32), f_X9_needOneOf_9 n1 n2 x_missing = some (ex, o_x_missing) → G J Z 0 0 (cs_X9 (a0 0) k_tape k_now k_trial k_task k_season k_stuffing k_images k_row k_plan k_sparePlan k_rule k_spareRule k_notes k_spareNotes x_latest x_imageMany x_refusedSteps x_missing x_misused) 3 [(0, .ref (a0 0))] 9 [] := by
  intro x_missing h
  unfold f_X9_needOneOf_9 at h
  refine g_aload_n (pc := 9) C 0 rfl dX9_needOneOf_9 ?_
  refine g_dup (pc := 10) C dX9_needOneOf_10 rfl ?_
  refine g_get (pc := 11) C FOK_X9 0 rfl rfl 17 (by decide) kw_384 rfl dX9_needOneOf_11 ?_
  refine g_iconst (pc := 14) C dX9_needOneOf_14 ci_1 ?_
  refine g_iadd (pc := 15) C dX9_needOneOf_15 ?_
  refine g_put (pc := 16) C (w' := cs_X9 (a0 0) k_tape k_now k_trial k_task k_season k_stuffing k_images k_row k_plan k_sparePlan k_rule k_spareRule k_notes k_spareNotes x_latest x_imageMany x_refusedSteps (x_missing + 1) x_misused) FOK_X9 0 rfl rfl 17 (by decide) kw_384 rfl rfl rfl (Nat.le_of_ble_eq_true rfl) dX9_needOneOf_16 rfl ?_
  cases h
  exact g_throw C hJ (ex := 1) (ik := 371) (ic := 373) (by decide) E () rfl kw_960 kw_107 at_1_373 dX9_needOneOf_19 dX9_needOneOf_22 dX9_needOneOf_23 dX9_needOneOf_26 (Nat.le_of_ble_eq_true rfl) (Nat.le_of_ble_eq_true rfl) (Nat.le_of_ble_eq_true rfl) (Nat.le_of_ble_eq_true rfl) (Nat.le_of_ble_eq_true rfl) (Nat.le_of_ble_eq_true rfl)
set_option maxRecDepth 100000 in
set_option maxHeartbeats 4000000 in
theorem t_X9_needOneOf {J : Jt} {a0 : Nat → Nat} {k_tape : Nat} {k_now : Nat} {k_trial : Nat} {k_task : Nat} {k_season : Nat} {k_stuffing : Nat} {k_images : Nat} {k_row : Nat} {k_plan : Nat} {k_sparePlan : Nat} {k_rule : Nat} {k_spareRule : Nat} {k_notes : Nat} {k_spareNotes : Nat} {x_latest : Value} {x_imageMany : Int32} {x_refusedSteps : Int32} {x_missing : Int32} {x_misused : Int32} {n1 : Int32} {n2 : Int32} {ex : Nat} {o_x_missing : Int32} (hJ : J.1.stackTraces = false) (h : f_X9_needOneOf x_missing n1 n2 = some (ex, o_x_missing)) : MtX J yX9_needOneOf cX9_needOneOf 3 none rm_X9_needOneOf [.ref (a0 0), .int n1, .int n2] (cs_X9 (a0 0) k_tape k_now k_trial k_task k_season k_stuffing k_images k_row k_plan k_sparePlan k_rule k_spareRule k_notes k_spareNotes x_latest x_imageMany x_refusedSteps x_missing x_misused) ex none (fun _ : Unit => cs_X9 (a0 0) k_tape k_now k_trial k_task k_season k_stuffing k_images k_row k_plan k_sparePlan k_rule k_spareRule k_notes k_spareNotes x_latest x_imageMany x_refusedSteps o_x_missing x_misused) := by
  refine MtX_of (own := RX9) (by decide) rfl (Nat.le_of_ble_eq_true rfl) rfl (fun Z C E => ?_)
  unfold f_X9_needOneOf at h
  show G J Z 0 0 (cs_X9 (a0 0) k_tape k_now k_trial k_task k_season k_stuffing k_images k_row k_plan k_sparePlan k_rule k_spareRule k_notes k_spareNotes x_latest x_imageMany x_refusedSteps x_missing x_misused) 3 [(0, .ref (a0 0)), (1, .int n1), (2, .int n2)] 0 []
  refine g_iload_n (pc := 0) C 1 rfl dX9_needOneOf_0 ?_
  refine g_if_lt (pc := 1) C (tgt := 9) dX9_needOneOf_1 rfl h (fun h => ?_) (fun h => ?_)
  · refine g_lv [0] rfl ?_
    exact j_X9_needOneOf_9 C hJ E    x_missing h
  · refine g_iload_n (pc := 4) C 1 rfl dX9_needOneOf_4 ?_
    refine g_iload_n (pc := 5) C 2 rfl dX9_needOneOf_5 ?_
    refine g_icmp_lt (pc := 6) C (tgt := 27) dX9_needOneOf_6 rfl h (fun h => ?_) (fun h => ?_)
    · refine g_wid (n' := 1) (k' := 6) (Nat.le_of_ble_eq_true rfl) (Nat.le_of_ble_eq_true rfl) ?_
      cases h
      exact g_vretX C E () rfl dX9_needOneOf_27
    · refine g_lv [0] rfl ?_
      exact j_X9_needOneOf_9 C hJ E    x_missing h
noncomputable def f_X9_letter (x_missing : Int32) (x_misused : Int32) (s_tied : Int32) (s_gone : Nat → Int32) (p_letters : Int32) (p_drain : Nat → Int32) (p_length : Nat → Int32) (p_words : Nat → Int32) (n1 : Int32) (n2 : Int32) : Option (Nat × Int32 × Int32 × Int32) := b2 (f_X9_needOneOf x_missing n1 p_letters) (fun e1 c2 => if e1 = 0 then b2 (f_X9_needRange x_misused n2 0 4) (fun e3 c4 => if e3 = 0 then if n2 = 0 then if ixb n1 6 then some (0, p_drain n1.toNatClampNeg, c2, c4) else none else if n2 = 1 then if ixb n1 6 then some (0, p_length n1.toNatClampNeg, c2, c4) else none else if n2 = 2 then b1 (f_X4_leftOf s_gone p_length n1) (fun v5 => some (0, v5, c2, c4)) else if n2 = 3 then b1 (f_X4_nextOf s_gone p_length p_words n1) (fun v6 => some (0, v6, c2, c4)) else b1 (f_X4_isTied s_tied n1) (fun v7 => if v7 = 0 then some (0, 0, c2, c4) else some (0, 1, c2, c4)) else some (e3, 0, c2, c4)) else some (e1, 0, c2, x_misused))
def rm_X9_letter : Room := { frames := 10, cells := 2, slots := 12, locals := 143 }
set_option maxRecDepth 100000 in
set_option maxHeartbeats 4000000 in
theorem t_X9_letter {J : Jt} {a0 : Nat → Nat} {a1 : Nat → Nat} {a2 : Nat → Nat} {k_tape : Nat} {k_trial : Nat} {k_task : Nat} {k_season : Nat} {k_stuffing : Nat} {k_images : Nat} {k_row : Nat} {k_sparePlan : Nat} {k_rule : Nat} {k_spareRule : Nat} {k_notes : Nat} {k_spareNotes : Nat} {x_latest : Value} {x_imageMany : Int32} {x_refusedSteps : Int32} {x_missing : Int32} {x_misused : Int32} {s_year : Int32} {s_wet : Int32} {s_lost : Int32} {s_eaten : Int32} {s_tied : Int32} {s_ripeMany : Int32} {s_gone : Nat → Int32} {s_place : Nat → Int32} {s_heard : Nat → Int32} {s_many : Nat → Int32} {s_lying : Nat → Int32} {s_ripe : Nat → Int32} {p_beds : Int32} {p_letters : Int32} {p_readers : Int32} {p_far : Nat → Int32} {p_drain : Nat → Int32} {p_length : Nat → Int32} {p_words : Nat → Int32} {p_home : Nat → Int32} {n1 : Int32} {n2 : Int32} {ex : Nat} {r : Int32} {o_x_missing : Int32} {o_x_misused : Int32} (hJ : J.1.stackTraces = false) (h : f_X9_letter x_missing x_misused s_tied s_gone p_letters p_drain p_length p_words n1 n2 = some (ex, r, o_x_missing, o_x_misused)) : MtX J yX9_letter cX9_letter 3 (some .int) rm_X9_letter [.ref (a0 0), .int n1, .int n2] (cs_X9 (a0 0) k_tape (a1 0) k_trial k_task k_season k_stuffing k_images k_row (a2 0) k_sparePlan k_rule k_spareRule k_notes k_spareNotes x_latest x_imageMany x_refusedSteps x_missing x_misused ++ cs_X4 J.2.2.1 a1 s_year s_wet s_lost s_eaten s_tied s_ripeMany s_gone s_place s_heard s_many s_lying s_ripe ++ cs_X2 J.2.2.1 a2 p_beds p_letters p_readers p_far p_drain p_length p_words p_home) ex (some (.int r)) (fun _ : Unit => cs_X9 (a0 0) k_tape (a1 0) k_trial k_task k_season k_stuffing k_images k_row (a2 0) k_sparePlan k_rule k_spareRule k_notes k_spareNotes x_latest x_imageMany x_refusedSteps o_x_missing o_x_misused ++ cs_X4 J.2.2.1 a1 s_year s_wet s_lost s_eaten s_tied s_ripeMany s_gone s_place s_heard s_many s_lying s_ripe ++ cs_X2 J.2.2.1 a2 p_beds p_letters p_readers p_far p_drain p_length p_words p_home) := by
  refine MtX_of (own := RX9) (by decide) rfl (Nat.le_of_ble_eq_true rfl) rfl (fun Z C E => ?_)
  unfold f_X9_letter at h
  show G J Z 0 0 (cs_X9 (a0 0) k_tape (a1 0) k_trial k_task k_season k_stuffing k_images k_row (a2 0) k_sparePlan k_rule k_spareRule k_notes k_spareNotes x_latest x_imageMany x_refusedSteps x_missing x_misused ++ cs_X4 J.2.2.1 a1 s_year s_wet s_lost s_eaten s_tied s_ripeMany s_gone s_place s_heard s_many s_lying s_ripe ++ cs_X2 J.2.2.1 a2 p_beds p_letters p_readers p_far p_drain p_length p_words p_home) 3 [(0, .ref (a0 0)), (1, .int n1), (2, .int n2)] 0 []
  refine g_aload_n (pc := 0) C 0 rfl dX9_letter_0 ?_
  refine g_iload_n (pc := 1) C 1 rfl dX9_letter_1 ?_
  refine g_aload_n (pc := 2) C 0 rfl dX9_letter_2 ?_
  refine g_get (pc := 3) C FOK_X9 0 rfl rfl 8 (by decide) kw_375 rfl dX9_letter_3 ?_
  refine g_get (pc := 6) C FOK_X2 8 rfl rfl 1 (by decide) kw_283 rfl dX9_letter_6 ?_
  obtain ⟨e1, c2, hc, h⟩ := b2_of h
  refine g_xcallU (pc := 9) C (w' := cs_X9 (a0 0) k_tape (a1 0) k_trial k_task k_season k_stuffing k_images k_row (a2 0) k_sparePlan k_rule k_spareRule k_notes k_spareNotes x_latest x_imageMany x_refusedSteps c2 x_misused ++ cs_X4 J.2.2.1 a1 s_year s_wet s_lost s_eaten s_tied s_ripeMany s_gone s_place s_heard s_many s_lying s_ripe ++ cs_X2 J.2.2.1 a2 p_beds p_letters p_readers p_far p_drain p_length p_words p_home) (As := [.int n1, .int p_letters]) (st := []) (ci := 9) (q0 := 0) rfl rfl (t_X9_needOneOf (k_tape := k_tape) (k_now := (a1 0)) (k_trial := k_trial) (k_task := k_task) (k_season := k_season) (k_stuffing := k_stuffing) (k_images := k_images) (k_row := k_row) (k_plan := (a2 0)) (k_sparePlan := k_sparePlan) (k_rule := k_rule) (k_spareRule := k_spareRule) (k_notes := k_notes) (k_spareNotes := k_spareNotes) (a0 := a0) hJ hc) (Sub.gen [0] [1, 2, 3, 4, 5, 6, 7, 8, 9, 10, 11, 12, 13] [13, 0, 1, 2, 3, 4, 5, 6, 7, 8, 9, 10, 11, 12] rfl (by decide) rfl (by decide) (by decide) rfl (by decide)) kw_956 kw_958 kw_12 kw_86 hy_X9_needOneOf kw_959 rfl (Nat.le_of_ble_eq_true rfl) (Nat.le_of_ble_eq_true rfl) (Nat.le_of_ble_eq_true rfl) (Nat.le_of_ble_eq_true rfl) (Nat.le_of_ble_eq_true rfl) dX9_letter_9 (fun he => ?_) (fun he => ?_)
  · subst he
    rw [if_pos rfl] at h
    refine g_wid (n' := 1) (k' := 6) (Nat.le_of_ble_eq_true rfl) (Nat.le_of_ble_eq_true rfl) ?_
    refine g_aload_n (pc := 12) C 0 rfl dX9_letter_12 ?_
    refine g_iload_n (pc := 13) C 2 rfl dX9_letter_13 ?_
    refine g_iconst (pc := 14) C dX9_letter_14 ci_0 ?_
    refine g_iconst (pc := 15) C dX9_letter_15 ci_4 ?_
    obtain ⟨e3, c4, hc, h⟩ := b2_of h
    refine g_xcallU (pc := 16) C (w' := cs_X9 (a0 0) k_tape (a1 0) k_trial k_task k_season k_stuffing k_images k_row (a2 0) k_sparePlan k_rule k_spareRule k_notes k_spareNotes x_latest x_imageMany x_refusedSteps c2 c4 ++ cs_X4 J.2.2.1 a1 s_year s_wet s_lost s_eaten s_tied s_ripeMany s_gone s_place s_heard s_many s_lying s_ripe ++ cs_X2 J.2.2.1 a2 p_beds p_letters p_readers p_far p_drain p_length p_words p_home) (As := [.int n2, .int 0, .int 4]) (st := []) (ci := 9) (q0 := 0) rfl rfl (t_X9_needRange (k_tape := k_tape) (k_now := (a1 0)) (k_trial := k_trial) (k_task := k_task) (k_season := k_season) (k_stuffing := k_stuffing) (k_images := k_images) (k_row := k_row) (k_plan := (a2 0)) (k_sparePlan := k_sparePlan) (k_rule := k_rule) (k_spareRule := k_spareRule) (k_notes := k_notes) (k_spareNotes := k_spareNotes) (a0 := a0) hJ hc) (Sub.gen [0] [1, 2, 3, 4, 5, 6, 7, 8, 9, 10, 11, 12, 13] [13, 0, 1, 2, 3, 4, 5, 6, 7, 8, 9, 10, 11, 12] rfl (by decide) rfl (by decide) (by decide) rfl (by decide)) kw_545 kw_547 kw_2 kw_86 hy_X9_needRange kw_548 rfl (Nat.le_of_ble_eq_true rfl) (Nat.le_of_ble_eq_true rfl) (Nat.le_of_ble_eq_true rfl) (Nat.le_of_ble_eq_true rfl) (Nat.le_of_ble_eq_true rfl) dX9_letter_16 (fun he => ?_) (fun he => ?_)
    · subst he
      rw [if_pos rfl] at h
      refine g_wid (n' := 2) (k' := 12) (Nat.le_of_ble_eq_true rfl) (Nat.le_of_ble_eq_true rfl) ?_
      refine g_iload_n (pc := 19) C 2 rfl dX9_letter_19 ?_
      rcases ite_of h with ⟨hc, h⟩ | ⟨hn0, h⟩
      · refine g_tsIn (pc := 20) C (tgt := 52) dX9_letter_20 (by rw [hc]; decide) (by rw [hc]; decide) (by rw [hc]; rfl) rfl ?_
        refine g_aload_n (pc := 52) C 0 rfl dX9_letter_52 ?_
        refine g_get (pc := 53) C FOK_X9 0 rfl rfl 8 (by decide) kw_375 rfl dX9_letter_53 ?_
        refine g_get (pc := 56) C FOK_X2 8 rfl rfl 4 (by decide) kw_295 rfl dX9_letter_56 ?_
        refine g_iload_n (pc := 59) C 1 rfl dX9_letter_59 ?_
        obtain ⟨hi, h⟩ := ix_of h
        refine g_iald (pc := 60) C 10 rfl hi dX9_letter_60 ?_
        cases h
        exact g_iretX C E () rfl dX9_letter_61
      rcases ite_of h with ⟨hc, h⟩ | ⟨hn1, h⟩
      · refine g_tsIn (pc := 20) C (tgt := 62) dX9_letter_20 (by rw [hc]; decide) (by rw [hc]; decide) (by rw [hc]; rfl) rfl ?_
        refine g_aload_n (pc := 62) C 0 rfl dX9_letter_62 ?_
        refine g_get (pc := 63) C FOK_X9 0 rfl rfl 8 (by decide) kw_375 rfl dX9_letter_63 ?_
        refine g_get (pc := 66) C FOK_X2 8 rfl rfl 5 (by decide) kw_300 rfl dX9_letter_66 ?_
        refine g_iload_n (pc := 69) C 1 rfl dX9_letter_69 ?_
        obtain ⟨hi, h⟩ := ix_of h
        refine g_iald (pc := 70) C 11 rfl hi dX9_letter_70 ?_
        cases h
        exact g_iretX C E () rfl dX9_letter_71
      rcases ite_of h with ⟨hc, h⟩ | ⟨hn2, h⟩
      · refine g_tsIn (pc := 20) C (tgt := 72) dX9_letter_20 (by rw [hc]; decide) (by rw [hc]; decide) (by rw [hc]; rfl) rfl ?_
        refine g_aload_n (pc := 72) C 0 rfl dX9_letter_72 ?_
        refine g_get (pc := 73) C FOK_X9 0 rfl rfl 1 (by decide) kw_368 rfl dX9_letter_73 ?_
        refine g_aload_n (pc := 76) C 0 rfl dX9_letter_76 ?_
        refine g_get (pc := 77) C FOK_X9 0 rfl rfl 8 (by decide) kw_375 rfl dX9_letter_77 ?_
        refine g_iload_n (pc := 80) C 1 rfl dX9_letter_80 ?_
        obtain ⟨v5, hc, h⟩ := b1_of h
        refine g_callV (pc := 81) C (w' := cs_X9 (a0 0) k_tape (a1 0) k_trial k_task k_season k_stuffing k_images k_row (a2 0) k_sparePlan k_rule k_spareRule k_notes k_spareNotes x_latest x_imageMany x_refusedSteps c2 c4 ++ cs_X4 J.2.2.1 a1 s_year s_wet s_lost s_eaten s_tied s_ripeMany s_gone s_place s_heard s_many s_lying s_ripe ++ cs_X2 J.2.2.1 a2 p_beds p_letters p_readers p_far p_drain p_length p_words p_home) (As := [.ref (a2 0), .int n1]) (st := []) (ci := 4) (q0 := 1) rfl rfl (t_X4_leftOf (a0 := a1) (a1 := a2) hc) (Sub.gen [1, 2, 3, 4, 5, 6, 7, 8, 9, 10, 11, 12, 13] [0] [0, 1, 2, 3, 4, 5, 6, 7, 8, 9, 10, 11, 12, 13] rfl (by decide) rfl (by decide) (by decide) rfl (by decide)) kw_975 kw_465 kw_466 kw_88 hy_X4_leftOf kw_467 rfl (Nat.le_of_ble_eq_true rfl) (Nat.le_of_ble_eq_true rfl) (Nat.le_of_ble_eq_true rfl) (Nat.le_of_ble_eq_true rfl) (Nat.le_of_ble_eq_true rfl) dX9_letter_81 ?_
        cases h
        exact g_iretX C E () rfl dX9_letter_84
      rcases ite_of h with ⟨hc, h⟩ | ⟨hn3, h⟩
      · refine g_tsIn (pc := 20) C (tgt := 85) dX9_letter_20 (by rw [hc]; decide) (by rw [hc]; decide) (by rw [hc]; rfl) rfl ?_
        refine g_aload_n (pc := 85) C 0 rfl dX9_letter_85 ?_
        refine g_get (pc := 86) C FOK_X9 0 rfl rfl 1 (by decide) kw_368 rfl dX9_letter_86 ?_
        refine g_aload_n (pc := 89) C 0 rfl dX9_letter_89 ?_
        refine g_get (pc := 90) C FOK_X9 0 rfl rfl 8 (by decide) kw_375 rfl dX9_letter_90 ?_
        refine g_iload_n (pc := 93) C 1 rfl dX9_letter_93 ?_
        obtain ⟨v6, hc, h⟩ := b1_of h
        refine g_callV (pc := 94) C (w' := cs_X9 (a0 0) k_tape (a1 0) k_trial k_task k_season k_stuffing k_images k_row (a2 0) k_sparePlan k_rule k_spareRule k_notes k_spareNotes x_latest x_imageMany x_refusedSteps c2 c4 ++ cs_X4 J.2.2.1 a1 s_year s_wet s_lost s_eaten s_tied s_ripeMany s_gone s_place s_heard s_many s_lying s_ripe ++ cs_X2 J.2.2.1 a2 p_beds p_letters p_readers p_far p_drain p_length p_words p_home) (As := [.ref (a2 0), .int n1]) (st := []) (ci := 4) (q0 := 1) rfl rfl (t_X4_nextOf (a0 := a1) (a1 := a2) hc) (Sub.gen [1, 2, 3, 4, 5, 6, 7, 8, 9, 10, 11, 12, 13] [0] [0, 1, 2, 3, 4, 5, 6, 7, 8, 9, 10, 11, 12, 13] rfl (by decide) rfl (by decide) (by decide) rfl (by decide)) kw_976 kw_473 kw_474 kw_88 hy_X4_nextOf kw_475 rfl (Nat.le_of_ble_eq_true rfl) (Nat.le_of_ble_eq_true rfl) (Nat.le_of_ble_eq_true rfl) (Nat.le_of_ble_eq_true rfl) (Nat.le_of_ble_eq_true rfl) dX9_letter_94 ?_
        cases h
        exact g_iretX C E () rfl dX9_letter_97
      have hq0 := lv_neT hn0 (a := 0) (by decide)
      have hq1 := lv_neT hn1 (a := 1) (by decide)
      have hq2 := lv_neT hn2 (a := 2) (by decide)
      have hq3 := lv_neT hn3 (a := 3) (by decide)
      refine g_tsOut (pc := 20) C (tgt := 98) dX9_letter_20 (by omega) rfl ?_
      refine g_aload_n (pc := 98) C 0 rfl dX9_letter_98 ?_
      refine g_get (pc := 99) C FOK_X9 0 rfl rfl 1 (by decide) kw_368 rfl dX9_letter_99 ?_
      refine g_iload_n (pc := 102) C 1 rfl dX9_letter_102 ?_
      obtain ⟨v7, hc, h⟩ := b1_of h
      refine g_callV (pc := 103) C (w' := cs_X9 (a0 0) k_tape (a1 0) k_trial k_task k_season k_stuffing k_images k_row (a2 0) k_sparePlan k_rule k_spareRule k_notes k_spareNotes x_latest x_imageMany x_refusedSteps c2 c4 ++ cs_X4 J.2.2.1 a1 s_year s_wet s_lost s_eaten s_tied s_ripeMany s_gone s_place s_heard s_many s_lying s_ripe ++ cs_X2 J.2.2.1 a2 p_beds p_letters p_readers p_far p_drain p_length p_words p_home) (As := [.int n1]) (st := []) (ci := 4) (q0 := 1) rfl rfl (t_X4_isTied (a0 := a1) hc) (Sub.gen [1, 2, 3, 4, 5, 6, 7] [0, 8, 9, 10, 11, 12, 13] [0, 7, 8, 9, 10, 11, 12, 13, 1, 2, 3, 4, 5, 6] rfl (by decide) rfl (by decide) (by decide) rfl (by decide)) kw_977 kw_891 kw_892 kw_88 hy_X4_isTied kw_893 rfl (Nat.le_of_ble_eq_true rfl) (Nat.le_of_ble_eq_true rfl) (Nat.le_of_ble_eq_true rfl) (Nat.le_of_ble_eq_true rfl) (Nat.le_of_ble_eq_true rfl) dX9_letter_103 ?_
      refine g_if_eq (pc := 106) C (tgt := 113) dX9_letter_106 rfl h (fun h => ?_) (fun h => ?_)
      · refine g_iconst (pc := 113) C dX9_letter_113 ci_0 ?_
        cases h
        exact g_iretX C E () rfl dX9_letter_114
      · refine g_iconst (pc := 109) C dX9_letter_109 ci_1 ?_
        refine g_goto (pc := 110) C (tgt := 114) dX9_letter_110 rfl ?_
        cases h
        exact g_iretX C E () rfl dX9_letter_114
    · rw [if_neg he] at h
      cases h
      exact gt_out C he E (Nat.le_of_ble_eq_true rfl) (Nat.le_of_ble_eq_true rfl) () rfl
  · rw [if_neg he] at h
    cases h
    exact gt_out C he E (Nat.le_of_ble_eq_true rfl) (Nat.le_of_ble_eq_true rfl) () rfl
noncomputable def f_X9_word (x_missing : Int32) (x_misused : Int32) (p_letters : Int32) (p_length : Nat → Int32) (p_words : Nat → Int32) (n1 : Int32) (n2 : Int32) : Option (Nat × Int32 × Int32 × Int32) := b2 (f_X9_needOneOf x_missing n1 p_letters) (fun e1 c2 => if e1 = 0 then if ixb n1 6 then b2 (f_X9_needRange x_misused n2 0 ((p_length n1.toNatClampNeg) - 1)) (fun e3 c4 => if e3 = 0 then b1 (f_X2_wordAt p_words n1 n2) (fun v5 => some (0, v5, c2, c4)) else some (e3, 0, c2, c4)) else none else some (e1, 0, c2, x_misused))
def rm_X9_word : Room := { frames := 10, cells := 2, slots := 12, locals := 143 }
set_option maxRecDepth 100000 in
set_option maxHeartbeats 4000000 in
theorem t_X9_word {J : Jt} {a0 : Nat → Nat} {a1 : Nat → Nat} {k_tape : Nat} {k_now : Nat} {k_trial : Nat} {k_task : Nat} {k_season : Nat} {k_stuffing : Nat} {k_images : Nat} {k_row : Nat} {k_sparePlan : Nat} {k_rule : Nat} {k_spareRule : Nat} {k_notes : Nat} {k_spareNotes : Nat} {x_latest : Value} {x_imageMany : Int32} {x_refusedSteps : Int32} {x_missing : Int32} {x_misused : Int32} {p_beds : Int32} {p_letters : Int32} {p_readers : Int32} {p_far : Nat → Int32} {p_drain : Nat → Int32} {p_length : Nat → Int32} {p_words : Nat → Int32} {p_home : Nat → Int32} {n1 : Int32} {n2 : Int32} {ex : Nat} {r : Int32} {o_x_missing : Int32} {o_x_misused : Int32} (hJ : J.1.stackTraces = false) (h : f_X9_word x_missing x_misused p_letters p_length p_words n1 n2 = some (ex, r, o_x_missing, o_x_misused)) : MtX J yX9_word cX9_word 3 (some .int) rm_X9_word [.ref (a0 0), .int n1, .int n2] (cs_X9 (a0 0) k_tape k_now k_trial k_task k_season k_stuffing k_images k_row (a1 0) k_sparePlan k_rule k_spareRule k_notes k_spareNotes x_latest x_imageMany x_refusedSteps x_missing x_misused ++ cs_X2 J.2.2.1 a1 p_beds p_letters p_readers p_far p_drain p_length p_words p_home) ex (some (.int r)) (fun _ : Unit => cs_X9 (a0 0) k_tape k_now k_trial k_task k_season k_stuffing k_images k_row (a1 0) k_sparePlan k_rule k_spareRule k_notes k_spareNotes x_latest x_imageMany x_refusedSteps o_x_missing o_x_misused ++ cs_X2 J.2.2.1 a1 p_beds p_letters p_readers p_far p_drain p_length p_words p_home) := by
  refine MtX_of (own := RX9) (by decide) rfl (Nat.le_of_ble_eq_true rfl) rfl (fun Z C E => ?_)
  unfold f_X9_word at h
  show G J Z 0 0 (cs_X9 (a0 0) k_tape k_now k_trial k_task k_season k_stuffing k_images k_row (a1 0) k_sparePlan k_rule k_spareRule k_notes k_spareNotes x_latest x_imageMany x_refusedSteps x_missing x_misused ++ cs_X2 J.2.2.1 a1 p_beds p_letters p_readers p_far p_drain p_length p_words p_home) 3 [(0, .ref (a0 0)), (1, .int n1), (2, .int n2)] 0 []
  refine g_aload_n (pc := 0) C 0 rfl dX9_word_0 ?_
  refine g_iload_n (pc := 1) C 1 rfl dX9_word_1 ?_
  refine g_aload_n (pc := 2) C 0 rfl dX9_word_2 ?_
  refine g_get (pc := 3) C FOK_X9 0 rfl rfl 8 (by decide) kw_375 rfl dX9_word_3 ?_
  refine g_get (pc := 6) C FOK_X2 1 rfl rfl 1 (by decide) kw_283 rfl dX9_word_6 ?_
  obtain ⟨e1, c2, hc, h⟩ := b2_of h
  refine g_xcallU (pc := 9) C (w' := cs_X9 (a0 0) k_tape k_now k_trial k_task k_season k_stuffing k_images k_row (a1 0) k_sparePlan k_rule k_spareRule k_notes k_spareNotes x_latest x_imageMany x_refusedSteps c2 x_misused ++ cs_X2 J.2.2.1 a1 p_beds p_letters p_readers p_far p_drain p_length p_words p_home) (As := [.int n1, .int p_letters]) (st := []) (ci := 9) (q0 := 0) rfl rfl (t_X9_needOneOf (k_tape := k_tape) (k_now := k_now) (k_trial := k_trial) (k_task := k_task) (k_season := k_season) (k_stuffing := k_stuffing) (k_images := k_images) (k_row := k_row) (k_plan := (a1 0)) (k_sparePlan := k_sparePlan) (k_rule := k_rule) (k_spareRule := k_spareRule) (k_notes := k_notes) (k_spareNotes := k_spareNotes) (a0 := a0) hJ hc) (Sub.gen [0] [1, 2, 3, 4, 5, 6] [6, 0, 1, 2, 3, 4, 5] rfl (by decide) rfl (by decide) (by decide) rfl (by decide)) kw_956 kw_958 kw_12 kw_86 hy_X9_needOneOf kw_959 rfl (Nat.le_of_ble_eq_true rfl) (Nat.le_of_ble_eq_true rfl) (Nat.le_of_ble_eq_true rfl) (Nat.le_of_ble_eq_true rfl) (Nat.le_of_ble_eq_true rfl) dX9_word_9 (fun he => ?_) (fun he => ?_)
  · subst he
    rw [if_pos rfl] at h
    refine g_wid (n' := 1) (k' := 6) (Nat.le_of_ble_eq_true rfl) (Nat.le_of_ble_eq_true rfl) ?_
    refine g_aload_n (pc := 12) C 0 rfl dX9_word_12 ?_
    refine g_iload_n (pc := 13) C 2 rfl dX9_word_13 ?_
    refine g_iconst (pc := 14) C dX9_word_14 ci_0 ?_
    refine g_aload_n (pc := 15) C 0 rfl dX9_word_15 ?_
    refine g_get (pc := 16) C FOK_X9 0 rfl rfl 8 (by decide) kw_375 rfl dX9_word_16 ?_
    refine g_get (pc := 19) C FOK_X2 1 rfl rfl 5 (by decide) kw_300 rfl dX9_word_19 ?_
    refine g_iload_n (pc := 22) C 1 rfl dX9_word_22 ?_
    obtain ⟨hi, h⟩ := ix_of h
    refine g_iald (pc := 23) C 4 rfl hi dX9_word_23 ?_
    refine g_iconst (pc := 24) C dX9_word_24 ci_1 ?_
    refine g_isub (pc := 25) C dX9_word_25 ?_
    obtain ⟨e3, c4, hc, h⟩ := b2_of h
    refine g_xcallU (pc := 26) C (w' := cs_X9 (a0 0) k_tape k_now k_trial k_task k_season k_stuffing k_images k_row (a1 0) k_sparePlan k_rule k_spareRule k_notes k_spareNotes x_latest x_imageMany x_refusedSteps c2 c4 ++ cs_X2 J.2.2.1 a1 p_beds p_letters p_readers p_far p_drain p_length p_words p_home) (As := [.int n2, .int 0, .int ((p_length n1.toNatClampNeg) - 1)]) (st := []) (ci := 9) (q0 := 0) rfl rfl (t_X9_needRange (k_tape := k_tape) (k_now := k_now) (k_trial := k_trial) (k_task := k_task) (k_season := k_season) (k_stuffing := k_stuffing) (k_images := k_images) (k_row := k_row) (k_plan := (a1 0)) (k_sparePlan := k_sparePlan) (k_rule := k_rule) (k_spareRule := k_spareRule) (k_notes := k_notes) (k_spareNotes := k_spareNotes) (a0 := a0) hJ hc) (Sub.gen [0] [1, 2, 3, 4, 5, 6] [6, 0, 1, 2, 3, 4, 5] rfl (by decide) rfl (by decide) (by decide) rfl (by decide)) kw_545 kw_547 kw_2 kw_86 hy_X9_needRange kw_548 rfl (Nat.le_of_ble_eq_true rfl) (Nat.le_of_ble_eq_true rfl) (Nat.le_of_ble_eq_true rfl) (Nat.le_of_ble_eq_true rfl) (Nat.le_of_ble_eq_true rfl) dX9_word_26 (fun he => ?_) (fun he => ?_)
    · subst he
      rw [if_pos rfl] at h
      refine g_wid (n' := 2) (k' := 12) (Nat.le_of_ble_eq_true rfl) (Nat.le_of_ble_eq_true rfl) ?_
      refine g_aload_n (pc := 29) C 0 rfl dX9_word_29 ?_
      refine g_get (pc := 30) C FOK_X9 0 rfl rfl 8 (by decide) kw_375 rfl dX9_word_30 ?_
      refine g_iload_n (pc := 33) C 1 rfl dX9_word_33 ?_
      refine g_iload_n (pc := 34) C 2 rfl dX9_word_34 ?_
      obtain ⟨v5, hc, h⟩ := b1_of h
      refine g_callV (pc := 35) C (w' := cs_X9 (a0 0) k_tape k_now k_trial k_task k_season k_stuffing k_images k_row (a1 0) k_sparePlan k_rule k_spareRule k_notes k_spareNotes x_latest x_imageMany x_refusedSteps c2 c4 ++ cs_X2 J.2.2.1 a1 p_beds p_letters p_readers p_far p_drain p_length p_words p_home) (As := [.int n1, .int n2]) (st := []) (ci := 2) (q0 := 1) rfl rfl (t_X2_wordAt (a0 := a1) hc) (Sub.gen [1, 2, 3, 4, 5, 6] [0] [0, 1, 2, 3, 4, 5, 6] rfl (by decide) rfl (by decide) (by decide) rfl (by decide)) kw_985 kw_469 kw_470 kw_92 hy_X2_wordAt kw_471 rfl (Nat.le_of_ble_eq_true rfl) (Nat.le_of_ble_eq_true rfl) (Nat.le_of_ble_eq_true rfl) (Nat.le_of_ble_eq_true rfl) (Nat.le_of_ble_eq_true rfl) dX9_word_35 ?_
      cases h
      exact g_iretX C E () rfl dX9_word_38
    · rw [if_neg he] at h
      cases h
      exact gt_out C he E (Nat.le_of_ble_eq_true rfl) (Nat.le_of_ble_eq_true rfl) () rfl
  · rw [if_neg he] at h
    cases h
    exact gt_out C he E (Nat.le_of_ble_eq_true rfl) (Nat.le_of_ble_eq_true rfl) () rfl
noncomputable def f_X9_bed (x_missing : Int32) (x_misused : Int32) (s_place : Nat → Int32) (s_many : Nat → Int32) (s_lying : Nat → Int32) (p_beds : Int32) (p_readers : Int32) (p_far : Nat → Int32) (n1 : Int32) (n2 : Int32) : Option (Nat × Int32 × Int32 × Int32) := b2 (f_X9_needOneOf x_missing n1 p_beds) (fun e1 c2 => if e1 = 0 then b2 (f_X9_needRange x_misused n2 0 4) (fun e3 c4 => if e3 = 0 then if n2 = 0 then if ixb n1 6 then some (0, p_far n1.toNatClampNeg, c2, c4) else none else if n2 = 1 then if ixb n1 6 then some (0, s_many n1.toNatClampNeg, c2, c4) else none else if n2 = 2 then b1 (f_X4_wordsIn s_many s_lying n1) (fun v5 => some (0, v5, c2, c4)) else if n2 = 3 then b1 (f_X4_lyingAt s_many s_lying n1 0) (fun v6 => some (0, v6, c2, c4)) else b1 (f_X4_readersAt s_place p_readers n1) (fun v7 => some (0, v7, c2, c4)) else some (e3, 0, c2, c4)) else some (e1, 0, c2, x_misused))
def rm_X9_bed : Room := { frames := 10, cells := 2, slots := 12, locals := 143 }
set_option maxRecDepth 100000 in
set_option maxHeartbeats 4000000 in
theorem t_X9_bed {J : Jt} {a0 : Nat → Nat} {a1 : Nat → Nat} {a2 : Nat → Nat} {k_tape : Nat} {k_trial : Nat} {k_task : Nat} {k_season : Nat} {k_stuffing : Nat} {k_images : Nat} {k_row : Nat} {k_sparePlan : Nat} {k_rule : Nat} {k_spareRule : Nat} {k_notes : Nat} {k_spareNotes : Nat} {x_latest : Value} {x_imageMany : Int32} {x_refusedSteps : Int32} {x_missing : Int32} {x_misused : Int32} {s_year : Int32} {s_wet : Int32} {s_lost : Int32} {s_eaten : Int32} {s_tied : Int32} {s_ripeMany : Int32} {s_gone : Nat → Int32} {s_place : Nat → Int32} {s_heard : Nat → Int32} {s_many : Nat → Int32} {s_lying : Nat → Int32} {s_ripe : Nat → Int32} {p_beds : Int32} {p_letters : Int32} {p_readers : Int32} {p_far : Nat → Int32} {p_drain : Nat → Int32} {p_length : Nat → Int32} {p_words : Nat → Int32} {p_home : Nat → Int32} {n1 : Int32} {n2 : Int32} {ex : Nat} {r : Int32} {o_x_missing : Int32} {o_x_misused : Int32} (hJ : J.1.stackTraces = false) (h : f_X9_bed x_missing x_misused s_place s_many s_lying p_beds p_readers p_far n1 n2 = some (ex, r, o_x_missing, o_x_misused)) : MtX J yX9_bed cX9_bed 3 (some .int) rm_X9_bed [.ref (a0 0), .int n1, .int n2] (cs_X9 (a0 0) k_tape (a1 0) k_trial k_task k_season k_stuffing k_images k_row (a2 0) k_sparePlan k_rule k_spareRule k_notes k_spareNotes x_latest x_imageMany x_refusedSteps x_missing x_misused ++ cs_X4 J.2.2.1 a1 s_year s_wet s_lost s_eaten s_tied s_ripeMany s_gone s_place s_heard s_many s_lying s_ripe ++ cs_X2 J.2.2.1 a2 p_beds p_letters p_readers p_far p_drain p_length p_words p_home) ex (some (.int r)) (fun _ : Unit => cs_X9 (a0 0) k_tape (a1 0) k_trial k_task k_season k_stuffing k_images k_row (a2 0) k_sparePlan k_rule k_spareRule k_notes k_spareNotes x_latest x_imageMany x_refusedSteps o_x_missing o_x_misused ++ cs_X4 J.2.2.1 a1 s_year s_wet s_lost s_eaten s_tied s_ripeMany s_gone s_place s_heard s_many s_lying s_ripe ++ cs_X2 J.2.2.1 a2 p_beds p_letters p_readers p_far p_drain p_length p_words p_home) := by
  refine MtX_of (own := RX9) (by decide) rfl (Nat.le_of_ble_eq_true rfl) rfl (fun Z C E => ?_)
  unfold f_X9_bed at h
  show G J Z 0 0 (cs_X9 (a0 0) k_tape (a1 0) k_trial k_task k_season k_stuffing k_images k_row (a2 0) k_sparePlan k_rule k_spareRule k_notes k_spareNotes x_latest x_imageMany x_refusedSteps x_missing x_misused ++ cs_X4 J.2.2.1 a1 s_year s_wet s_lost s_eaten s_tied s_ripeMany s_gone s_place s_heard s_many s_lying s_ripe ++ cs_X2 J.2.2.1 a2 p_beds p_letters p_readers p_far p_drain p_length p_words p_home) 3 [(0, .ref (a0 0)), (1, .int n1), (2, .int n2)] 0 []
  refine g_aload_n (pc := 0) C 0 rfl dX9_bed_0 ?_
  refine g_iload_n (pc := 1) C 1 rfl dX9_bed_1 ?_
  refine g_aload_n (pc := 2) C 0 rfl dX9_bed_2 ?_
  refine g_get (pc := 3) C FOK_X9 0 rfl rfl 8 (by decide) kw_375 rfl dX9_bed_3 ?_
  refine g_get (pc := 6) C FOK_X2 8 rfl rfl 0 (by decide) kw_279 rfl dX9_bed_6 ?_
  obtain ⟨e1, c2, hc, h⟩ := b2_of h
  refine g_xcallU (pc := 9) C (w' := cs_X9 (a0 0) k_tape (a1 0) k_trial k_task k_season k_stuffing k_images k_row (a2 0) k_sparePlan k_rule k_spareRule k_notes k_spareNotes x_latest x_imageMany x_refusedSteps c2 x_misused ++ cs_X4 J.2.2.1 a1 s_year s_wet s_lost s_eaten s_tied s_ripeMany s_gone s_place s_heard s_many s_lying s_ripe ++ cs_X2 J.2.2.1 a2 p_beds p_letters p_readers p_far p_drain p_length p_words p_home) (As := [.int n1, .int p_beds]) (st := []) (ci := 9) (q0 := 0) rfl rfl (t_X9_needOneOf (k_tape := k_tape) (k_now := (a1 0)) (k_trial := k_trial) (k_task := k_task) (k_season := k_season) (k_stuffing := k_stuffing) (k_images := k_images) (k_row := k_row) (k_plan := (a2 0)) (k_sparePlan := k_sparePlan) (k_rule := k_rule) (k_spareRule := k_spareRule) (k_notes := k_notes) (k_spareNotes := k_spareNotes) (a0 := a0) hJ hc) (Sub.gen [0] [1, 2, 3, 4, 5, 6, 7, 8, 9, 10, 11, 12, 13] [13, 0, 1, 2, 3, 4, 5, 6, 7, 8, 9, 10, 11, 12] rfl (by decide) rfl (by decide) (by decide) rfl (by decide)) kw_956 kw_958 kw_12 kw_86 hy_X9_needOneOf kw_959 rfl (Nat.le_of_ble_eq_true rfl) (Nat.le_of_ble_eq_true rfl) (Nat.le_of_ble_eq_true rfl) (Nat.le_of_ble_eq_true rfl) (Nat.le_of_ble_eq_true rfl) dX9_bed_9 (fun he => ?_) (fun he => ?_)
  · subst he
    rw [if_pos rfl] at h
    refine g_wid (n' := 1) (k' := 6) (Nat.le_of_ble_eq_true rfl) (Nat.le_of_ble_eq_true rfl) ?_
    refine g_aload_n (pc := 12) C 0 rfl dX9_bed_12 ?_
    refine g_iload_n (pc := 13) C 2 rfl dX9_bed_13 ?_
    refine g_iconst (pc := 14) C dX9_bed_14 ci_0 ?_
    refine g_iconst (pc := 15) C dX9_bed_15 ci_4 ?_
    obtain ⟨e3, c4, hc, h⟩ := b2_of h
    refine g_xcallU (pc := 16) C (w' := cs_X9 (a0 0) k_tape (a1 0) k_trial k_task k_season k_stuffing k_images k_row (a2 0) k_sparePlan k_rule k_spareRule k_notes k_spareNotes x_latest x_imageMany x_refusedSteps c2 c4 ++ cs_X4 J.2.2.1 a1 s_year s_wet s_lost s_eaten s_tied s_ripeMany s_gone s_place s_heard s_many s_lying s_ripe ++ cs_X2 J.2.2.1 a2 p_beds p_letters p_readers p_far p_drain p_length p_words p_home) (As := [.int n2, .int 0, .int 4]) (st := []) (ci := 9) (q0 := 0) rfl rfl (t_X9_needRange (k_tape := k_tape) (k_now := (a1 0)) (k_trial := k_trial) (k_task := k_task) (k_season := k_season) (k_stuffing := k_stuffing) (k_images := k_images) (k_row := k_row) (k_plan := (a2 0)) (k_sparePlan := k_sparePlan) (k_rule := k_rule) (k_spareRule := k_spareRule) (k_notes := k_notes) (k_spareNotes := k_spareNotes) (a0 := a0) hJ hc) (Sub.gen [0] [1, 2, 3, 4, 5, 6, 7, 8, 9, 10, 11, 12, 13] [13, 0, 1, 2, 3, 4, 5, 6, 7, 8, 9, 10, 11, 12] rfl (by decide) rfl (by decide) (by decide) rfl (by decide)) kw_545 kw_547 kw_2 kw_86 hy_X9_needRange kw_548 rfl (Nat.le_of_ble_eq_true rfl) (Nat.le_of_ble_eq_true rfl) (Nat.le_of_ble_eq_true rfl) (Nat.le_of_ble_eq_true rfl) (Nat.le_of_ble_eq_true rfl) dX9_bed_16 (fun he => ?_) (fun he => ?_)
    · subst he
      rw [if_pos rfl] at h
      refine g_wid (n' := 2) (k' := 12) (Nat.le_of_ble_eq_true rfl) (Nat.le_of_ble_eq_true rfl) ?_
      refine g_iload_n (pc := 19) C 2 rfl dX9_bed_19 ?_
      rcases ite_of h with ⟨hc, h⟩ | ⟨hn0, h⟩
      · refine g_tsIn (pc := 20) C (tgt := 52) dX9_bed_20 (by rw [hc]; decide) (by rw [hc]; decide) (by rw [hc]; rfl) rfl ?_
        refine g_aload_n (pc := 52) C 0 rfl dX9_bed_52 ?_
        refine g_get (pc := 53) C FOK_X9 0 rfl rfl 8 (by decide) kw_375 rfl dX9_bed_53 ?_
        refine g_get (pc := 56) C FOK_X2 8 rfl rfl 3 (by decide) kw_292 rfl dX9_bed_56 ?_
        refine g_iload_n (pc := 59) C 1 rfl dX9_bed_59 ?_
        obtain ⟨hi, h⟩ := ix_of h
        refine g_iald (pc := 60) C 9 rfl hi dX9_bed_60 ?_
        cases h
        exact g_iretX C E () rfl dX9_bed_61
      rcases ite_of h with ⟨hc, h⟩ | ⟨hn1, h⟩
      · refine g_tsIn (pc := 20) C (tgt := 62) dX9_bed_20 (by rw [hc]; decide) (by rw [hc]; decide) (by rw [hc]; rfl) rfl ?_
        refine g_aload_n (pc := 62) C 0 rfl dX9_bed_62 ?_
        refine g_get (pc := 63) C FOK_X9 0 rfl rfl 1 (by decide) kw_368 rfl dX9_bed_63 ?_
        refine g_get (pc := 66) C FOK_X4 1 rfl rfl 9 (by decide) kw_173 rfl dX9_bed_66 ?_
        refine g_iload_n (pc := 69) C 1 rfl dX9_bed_69 ?_
        obtain ⟨hi, h⟩ := ix_of h
        refine g_iald (pc := 70) C 5 rfl hi dX9_bed_70 ?_
        cases h
        exact g_iretX C E () rfl dX9_bed_71
      rcases ite_of h with ⟨hc, h⟩ | ⟨hn2, h⟩
      · refine g_tsIn (pc := 20) C (tgt := 72) dX9_bed_20 (by rw [hc]; decide) (by rw [hc]; decide) (by rw [hc]; rfl) rfl ?_
        refine g_aload_n (pc := 72) C 0 rfl dX9_bed_72 ?_
        refine g_get (pc := 73) C FOK_X9 0 rfl rfl 1 (by decide) kw_368 rfl dX9_bed_73 ?_
        refine g_iload_n (pc := 76) C 1 rfl dX9_bed_76 ?_
        obtain ⟨v5, hc, h⟩ := b1_of h
        refine g_callV (pc := 77) C (w' := cs_X9 (a0 0) k_tape (a1 0) k_trial k_task k_season k_stuffing k_images k_row (a2 0) k_sparePlan k_rule k_spareRule k_notes k_spareNotes x_latest x_imageMany x_refusedSteps c2 c4 ++ cs_X4 J.2.2.1 a1 s_year s_wet s_lost s_eaten s_tied s_ripeMany s_gone s_place s_heard s_many s_lying s_ripe ++ cs_X2 J.2.2.1 a2 p_beds p_letters p_readers p_far p_drain p_length p_words p_home) (As := [.int n1]) (st := []) (ci := 4) (q0 := 1) rfl rfl (t_X4_wordsIn (a0 := a1) hc) (Sub.gen [1, 2, 3, 4, 5, 6, 7] [0, 8, 9, 10, 11, 12, 13] [0, 7, 8, 9, 10, 11, 12, 13, 1, 2, 3, 4, 5, 6] rfl (by decide) rfl (by decide) (by decide) rfl (by decide)) kw_993 kw_870 kw_871 kw_88 hy_X4_wordsIn kw_872 rfl (Nat.le_of_ble_eq_true rfl) (Nat.le_of_ble_eq_true rfl) (Nat.le_of_ble_eq_true rfl) (Nat.le_of_ble_eq_true rfl) (Nat.le_of_ble_eq_true rfl) dX9_bed_77 ?_
        cases h
        exact g_iretX C E () rfl dX9_bed_80
      rcases ite_of h with ⟨hc, h⟩ | ⟨hn3, h⟩
      · refine g_tsIn (pc := 20) C (tgt := 81) dX9_bed_20 (by rw [hc]; decide) (by rw [hc]; decide) (by rw [hc]; rfl) rfl ?_
        refine g_aload_n (pc := 81) C 0 rfl dX9_bed_81 ?_
        refine g_get (pc := 82) C FOK_X9 0 rfl rfl 1 (by decide) kw_368 rfl dX9_bed_82 ?_
        refine g_iload_n (pc := 85) C 1 rfl dX9_bed_85 ?_
        refine g_iconst (pc := 86) C dX9_bed_86 ci_0 ?_
        obtain ⟨v6, hc, h⟩ := b1_of h
        refine g_callV (pc := 87) C (w' := cs_X9 (a0 0) k_tape (a1 0) k_trial k_task k_season k_stuffing k_images k_row (a2 0) k_sparePlan k_rule k_spareRule k_notes k_spareNotes x_latest x_imageMany x_refusedSteps c2 c4 ++ cs_X4 J.2.2.1 a1 s_year s_wet s_lost s_eaten s_tied s_ripeMany s_gone s_place s_heard s_many s_lying s_ripe ++ cs_X2 J.2.2.1 a2 p_beds p_letters p_readers p_far p_drain p_length p_words p_home) (As := [.int n1, .int 0]) (st := []) (ci := 4) (q0 := 1) rfl rfl (t_X4_lyingAt (a0 := a1) hc) (Sub.gen [1, 2, 3, 4, 5, 6, 7] [0, 8, 9, 10, 11, 12, 13] [0, 7, 8, 9, 10, 11, 12, 13, 1, 2, 3, 4, 5, 6] rfl (by decide) rfl (by decide) (by decide) rfl (by decide)) kw_994 kw_874 kw_875 kw_88 hy_X4_lyingAt kw_876 rfl (Nat.le_of_ble_eq_true rfl) (Nat.le_of_ble_eq_true rfl) (Nat.le_of_ble_eq_true rfl) (Nat.le_of_ble_eq_true rfl) (Nat.le_of_ble_eq_true rfl) dX9_bed_87 ?_
        cases h
        exact g_iretX C E () rfl dX9_bed_90
      have hq0 := lv_neT hn0 (a := 0) (by decide)
      have hq1 := lv_neT hn1 (a := 1) (by decide)
      have hq2 := lv_neT hn2 (a := 2) (by decide)
      have hq3 := lv_neT hn3 (a := 3) (by decide)
      refine g_tsOut (pc := 20) C (tgt := 91) dX9_bed_20 (by omega) rfl ?_
      refine g_aload_n (pc := 91) C 0 rfl dX9_bed_91 ?_
      refine g_get (pc := 92) C FOK_X9 0 rfl rfl 1 (by decide) kw_368 rfl dX9_bed_92 ?_
      refine g_aload_n (pc := 95) C 0 rfl dX9_bed_95 ?_
      refine g_get (pc := 96) C FOK_X9 0 rfl rfl 8 (by decide) kw_375 rfl dX9_bed_96 ?_
      refine g_iload_n (pc := 99) C 1 rfl dX9_bed_99 ?_
      obtain ⟨v7, hc, h⟩ := b1_of h
      refine g_callV (pc := 100) C (w' := cs_X9 (a0 0) k_tape (a1 0) k_trial k_task k_season k_stuffing k_images k_row (a2 0) k_sparePlan k_rule k_spareRule k_notes k_spareNotes x_latest x_imageMany x_refusedSteps c2 c4 ++ cs_X4 J.2.2.1 a1 s_year s_wet s_lost s_eaten s_tied s_ripeMany s_gone s_place s_heard s_many s_lying s_ripe ++ cs_X2 J.2.2.1 a2 p_beds p_letters p_readers p_far p_drain p_length p_words p_home) (As := [.ref (a2 0), .int n1]) (st := []) (ci := 4) (q0 := 1) rfl rfl (t_X4_readersAt (a0 := a1) (a1 := a2) hc) (Sub.gen [1, 2, 3, 4, 5, 6, 7, 8, 9, 10, 11, 12, 13] [0] [0, 1, 2, 3, 4, 5, 6, 7, 8, 9, 10, 11, 12, 13] rfl (by decide) rfl (by decide) (by decide) rfl (by decide)) kw_995 kw_996 kw_997 kw_88 hy_X4_readersAt kw_998 rfl (Nat.le_of_ble_eq_true rfl) (Nat.le_of_ble_eq_true rfl) (Nat.le_of_ble_eq_true rfl) (Nat.le_of_ble_eq_true rfl) (Nat.le_of_ble_eq_true rfl) dX9_bed_100 ?_
      cases h
      exact g_iretX C E () rfl dX9_bed_103
    · rw [if_neg he] at h
      cases h
      exact gt_out C he E (Nat.le_of_ble_eq_true rfl) (Nat.le_of_ble_eq_true rfl) () rfl
  · rw [if_neg he] at h
    cases h
    exact gt_out C he E (Nat.le_of_ble_eq_true rfl) (Nat.le_of_ble_eq_true rfl) () rfl
noncomputable def f_X9_needPlace (x_misused : Int32) (n1 : Int32) : Option (Nat × Int32) := if 0 ≤ n1 then some (0, x_misused) else some (2, x_misused + 1)
def rm_X9_needPlace : Room := { frames := 9, cells := 1, slots := 6, locals := 120 }
set_option maxRecDepth 100000 in
set_option maxHeartbeats 4000000 in
theorem t_X9_needPlace {J : Jt} {a0 : Nat → Nat} {k_tape : Nat} {k_now : Nat} {k_trial : Nat} {k_task : Nat} {k_season : Nat} {k_stuffing : Nat} {k_images : Nat} {k_row : Nat} {k_plan : Nat} {k_sparePlan : Nat} {k_rule : Nat} {k_spareRule : Nat} {k_notes : Nat} {k_spareNotes : Nat} {x_latest : Value} {x_imageMany : Int32} {x_refusedSteps : Int32} {x_missing : Int32} {x_misused : Int32} {n1 : Int32} {ex : Nat} {o_x_misused : Int32} (hJ : J.1.stackTraces = false) (h : f_X9_needPlace x_misused n1 = some (ex, o_x_misused)) : MtX J yX9_needPlace cX9_needPlace 2 none rm_X9_needPlace [.ref (a0 0), .int n1] (cs_X9 (a0 0) k_tape k_now k_trial k_task k_season k_stuffing k_images k_row k_plan k_sparePlan k_rule k_spareRule k_notes k_spareNotes x_latest x_imageMany x_refusedSteps x_missing x_misused) ex none (fun _ : Unit => cs_X9 (a0 0) k_tape k_now k_trial k_task k_season k_stuffing k_images k_row k_plan k_sparePlan k_rule k_spareRule k_notes k_spareNotes x_latest x_imageMany x_refusedSteps x_missing o_x_misused) := by
  refine MtX_of (own := RX9) (by decide) rfl (Nat.le_of_ble_eq_true rfl) rfl (fun Z C E => ?_)
  unfold f_X9_needPlace at h
  show G J Z 0 0 (cs_X9 (a0 0) k_tape k_now k_trial k_task k_season k_stuffing k_images k_row k_plan k_sparePlan k_rule k_spareRule k_notes k_spareNotes x_latest x_imageMany x_refusedSteps x_missing x_misused) 2 [(0, .ref (a0 0)), (1, .int n1)] 0 []
  refine g_iload_n (pc := 0) C 1 rfl dX9_needPlace_0 ?_
  refine g_if_ge (pc := 1) C (tgt := 22) dX9_needPlace_1 rfl h (fun h => ?_) (fun h => ?_)
  · refine g_wid (n' := 1) (k' := 6) (Nat.le_of_ble_eq_true rfl) (Nat.le_of_ble_eq_true rfl) ?_
    cases h
    exact g_vretX C E () rfl dX9_needPlace_22
  · refine g_aload_n (pc := 4) C 0 rfl dX9_needPlace_4 ?_
    refine g_dup (pc := 5) C dX9_needPlace_5 rfl ?_
    refine g_get (pc := 6) C FOK_X9 0 rfl rfl 18 (by decide) kw_385 rfl dX9_needPlace_6 ?_
    refine g_iconst (pc := 9) C dX9_needPlace_9 ci_1 ?_
    refine g_iadd (pc := 10) C dX9_needPlace_10 ?_
    refine g_put (pc := 11) C (w' := cs_X9 (a0 0) k_tape k_now k_trial k_task k_season k_stuffing k_images k_row k_plan k_sparePlan k_rule k_spareRule k_notes k_spareNotes x_latest x_imageMany x_refusedSteps x_missing (x_misused + 1)) FOK_X9 0 rfl rfl 18 (by decide) kw_385 rfl rfl rfl (Nat.le_of_ble_eq_true rfl) dX9_needPlace_11 rfl ?_
    cases h
    exact g_throw C hJ (ex := 2) (ik := 368) (ic := 370) (by decide) E () rfl kw_549 kw_100 at_2_370 dX9_needPlace_14 dX9_needPlace_17 dX9_needPlace_18 dX9_needPlace_21 (Nat.le_of_ble_eq_true rfl) (Nat.le_of_ble_eq_true rfl) (Nat.le_of_ble_eq_true rfl) (Nat.le_of_ble_eq_true rfl) (Nat.le_of_ble_eq_true rfl) (Nat.le_of_ble_eq_true rfl)
noncomputable def f_X9_lies (x_missing : Int32) (x_misused : Int32) (s_many : Nat → Int32) (s_lying : Nat → Int32) (p_beds : Int32) (n1 : Int32) (n2 : Int32) : Option (Nat × Int32 × Int32 × Int32) := b2 (f_X9_needOneOf x_missing n1 p_beds) (fun e1 c2 => if e1 = 0 then b2 (f_X9_needPlace x_misused n2) (fun e3 c4 => if e3 = 0 then b1 (f_X4_lyingAt s_many s_lying n1 n2) (fun v5 => some (0, v5, c2, c4)) else some (e3, 0, c2, c4)) else some (e1, 0, c2, x_misused))
def rm_X9_lies : Room := { frames := 10, cells := 2, slots := 12, locals := 142 }
set_option maxRecDepth 100000 in
set_option maxHeartbeats 4000000 in
theorem t_X9_lies {J : Jt} {a0 : Nat → Nat} {a1 : Nat → Nat} {a2 : Nat → Nat} {k_tape : Nat} {k_trial : Nat} {k_task : Nat} {k_season : Nat} {k_stuffing : Nat} {k_images : Nat} {k_row : Nat} {k_sparePlan : Nat} {k_rule : Nat} {k_spareRule : Nat} {k_notes : Nat} {k_spareNotes : Nat} {x_latest : Value} {x_imageMany : Int32} {x_refusedSteps : Int32} {x_missing : Int32} {x_misused : Int32} {s_year : Int32} {s_wet : Int32} {s_lost : Int32} {s_eaten : Int32} {s_tied : Int32} {s_ripeMany : Int32} {s_gone : Nat → Int32} {s_place : Nat → Int32} {s_heard : Nat → Int32} {s_many : Nat → Int32} {s_lying : Nat → Int32} {s_ripe : Nat → Int32} {p_beds : Int32} {p_letters : Int32} {p_readers : Int32} {p_far : Nat → Int32} {p_drain : Nat → Int32} {p_length : Nat → Int32} {p_words : Nat → Int32} {p_home : Nat → Int32} {n1 : Int32} {n2 : Int32} {ex : Nat} {r : Int32} {o_x_missing : Int32} {o_x_misused : Int32} (hJ : J.1.stackTraces = false) (h : f_X9_lies x_missing x_misused s_many s_lying p_beds n1 n2 = some (ex, r, o_x_missing, o_x_misused)) : MtX J yX9_lies cX9_lies 3 (some .int) rm_X9_lies [.ref (a0 0), .int n1, .int n2] (cs_X9 (a0 0) k_tape (a1 0) k_trial k_task k_season k_stuffing k_images k_row (a2 0) k_sparePlan k_rule k_spareRule k_notes k_spareNotes x_latest x_imageMany x_refusedSteps x_missing x_misused ++ cs_X4 J.2.2.1 a1 s_year s_wet s_lost s_eaten s_tied s_ripeMany s_gone s_place s_heard s_many s_lying s_ripe ++ cs_X2 J.2.2.1 a2 p_beds p_letters p_readers p_far p_drain p_length p_words p_home) ex (some (.int r)) (fun _ : Unit => cs_X9 (a0 0) k_tape (a1 0) k_trial k_task k_season k_stuffing k_images k_row (a2 0) k_sparePlan k_rule k_spareRule k_notes k_spareNotes x_latest x_imageMany x_refusedSteps o_x_missing o_x_misused ++ cs_X4 J.2.2.1 a1 s_year s_wet s_lost s_eaten s_tied s_ripeMany s_gone s_place s_heard s_many s_lying s_ripe ++ cs_X2 J.2.2.1 a2 p_beds p_letters p_readers p_far p_drain p_length p_words p_home) := by
  refine MtX_of (own := RX9) (by decide) rfl (Nat.le_of_ble_eq_true rfl) rfl (fun Z C E => ?_)
  unfold f_X9_lies at h
  show G J Z 0 0 (cs_X9 (a0 0) k_tape (a1 0) k_trial k_task k_season k_stuffing k_images k_row (a2 0) k_sparePlan k_rule k_spareRule k_notes k_spareNotes x_latest x_imageMany x_refusedSteps x_missing x_misused ++ cs_X4 J.2.2.1 a1 s_year s_wet s_lost s_eaten s_tied s_ripeMany s_gone s_place s_heard s_many s_lying s_ripe ++ cs_X2 J.2.2.1 a2 p_beds p_letters p_readers p_far p_drain p_length p_words p_home) 3 [(0, .ref (a0 0)), (1, .int n1), (2, .int n2)] 0 []
  refine g_aload_n (pc := 0) C 0 rfl dX9_lies_0 ?_
  refine g_iload_n (pc := 1) C 1 rfl dX9_lies_1 ?_
  refine g_aload_n (pc := 2) C 0 rfl dX9_lies_2 ?_
  refine g_get (pc := 3) C FOK_X9 0 rfl rfl 8 (by decide) kw_375 rfl dX9_lies_3 ?_
  refine g_get (pc := 6) C FOK_X2 8 rfl rfl 0 (by decide) kw_279 rfl dX9_lies_6 ?_
  obtain ⟨e1, c2, hc, h⟩ := b2_of h
  refine g_xcallU (pc := 9) C (w' := cs_X9 (a0 0) k_tape (a1 0) k_trial k_task k_season k_stuffing k_images k_row (a2 0) k_sparePlan k_rule k_spareRule k_notes k_spareNotes x_latest x_imageMany x_refusedSteps c2 x_misused ++ cs_X4 J.2.2.1 a1 s_year s_wet s_lost s_eaten s_tied s_ripeMany s_gone s_place s_heard s_many s_lying s_ripe ++ cs_X2 J.2.2.1 a2 p_beds p_letters p_readers p_far p_drain p_length p_words p_home) (As := [.int n1, .int p_beds]) (st := []) (ci := 9) (q0 := 0) rfl rfl (t_X9_needOneOf (k_tape := k_tape) (k_now := (a1 0)) (k_trial := k_trial) (k_task := k_task) (k_season := k_season) (k_stuffing := k_stuffing) (k_images := k_images) (k_row := k_row) (k_plan := (a2 0)) (k_sparePlan := k_sparePlan) (k_rule := k_rule) (k_spareRule := k_spareRule) (k_notes := k_notes) (k_spareNotes := k_spareNotes) (a0 := a0) hJ hc) (Sub.gen [0] [1, 2, 3, 4, 5, 6, 7, 8, 9, 10, 11, 12, 13] [13, 0, 1, 2, 3, 4, 5, 6, 7, 8, 9, 10, 11, 12] rfl (by decide) rfl (by decide) (by decide) rfl (by decide)) kw_956 kw_958 kw_12 kw_86 hy_X9_needOneOf kw_959 rfl (Nat.le_of_ble_eq_true rfl) (Nat.le_of_ble_eq_true rfl) (Nat.le_of_ble_eq_true rfl) (Nat.le_of_ble_eq_true rfl) (Nat.le_of_ble_eq_true rfl) dX9_lies_9 (fun he => ?_) (fun he => ?_)
  · subst he
    rw [if_pos rfl] at h
    refine g_wid (n' := 1) (k' := 6) (Nat.le_of_ble_eq_true rfl) (Nat.le_of_ble_eq_true rfl) ?_
    refine g_aload_n (pc := 12) C 0 rfl dX9_lies_12 ?_
    refine g_iload_n (pc := 13) C 2 rfl dX9_lies_13 ?_
    obtain ⟨e3, c4, hc, h⟩ := b2_of h
    refine g_xcallU (pc := 14) C (w' := cs_X9 (a0 0) k_tape (a1 0) k_trial k_task k_season k_stuffing k_images k_row (a2 0) k_sparePlan k_rule k_spareRule k_notes k_spareNotes x_latest x_imageMany x_refusedSteps c2 c4 ++ cs_X4 J.2.2.1 a1 s_year s_wet s_lost s_eaten s_tied s_ripeMany s_gone s_place s_heard s_many s_lying s_ripe ++ cs_X2 J.2.2.1 a2 p_beds p_letters p_readers p_far p_drain p_length p_words p_home) (As := [.int n2]) (st := []) (ci := 9) (q0 := 0) rfl rfl (t_X9_needPlace (k_tape := k_tape) (k_now := (a1 0)) (k_trial := k_trial) (k_task := k_task) (k_season := k_season) (k_stuffing := k_stuffing) (k_images := k_images) (k_row := k_row) (k_plan := (a2 0)) (k_sparePlan := k_sparePlan) (k_rule := k_rule) (k_spareRule := k_spareRule) (k_notes := k_notes) (k_spareNotes := k_spareNotes) (a0 := a0) hJ hc) (Sub.gen [0] [1, 2, 3, 4, 5, 6, 7, 8, 9, 10, 11, 12, 13] [13, 0, 1, 2, 3, 4, 5, 6, 7, 8, 9, 10, 11, 12] rfl (by decide) rfl (by decide) (by decide) rfl (by decide)) kw_1006 kw_1008 kw_13 kw_86 hy_X9_needPlace kw_1009 rfl (Nat.le_of_ble_eq_true rfl) (Nat.le_of_ble_eq_true rfl) (Nat.le_of_ble_eq_true rfl) (Nat.le_of_ble_eq_true rfl) (Nat.le_of_ble_eq_true rfl) dX9_lies_14 (fun he => ?_) (fun he => ?_)
    · subst he
      rw [if_pos rfl] at h
      refine g_wid (n' := 2) (k' := 12) (Nat.le_of_ble_eq_true rfl) (Nat.le_of_ble_eq_true rfl) ?_
      refine g_aload_n (pc := 17) C 0 rfl dX9_lies_17 ?_
      refine g_get (pc := 18) C FOK_X9 0 rfl rfl 1 (by decide) kw_368 rfl dX9_lies_18 ?_
      refine g_iload_n (pc := 21) C 1 rfl dX9_lies_21 ?_
      refine g_iload_n (pc := 22) C 2 rfl dX9_lies_22 ?_
      obtain ⟨v5, hc, h⟩ := b1_of h
      refine g_callV (pc := 23) C (w' := cs_X9 (a0 0) k_tape (a1 0) k_trial k_task k_season k_stuffing k_images k_row (a2 0) k_sparePlan k_rule k_spareRule k_notes k_spareNotes x_latest x_imageMany x_refusedSteps c2 c4 ++ cs_X4 J.2.2.1 a1 s_year s_wet s_lost s_eaten s_tied s_ripeMany s_gone s_place s_heard s_many s_lying s_ripe ++ cs_X2 J.2.2.1 a2 p_beds p_letters p_readers p_far p_drain p_length p_words p_home) (As := [.int n1, .int n2]) (st := []) (ci := 4) (q0 := 1) rfl rfl (t_X4_lyingAt (a0 := a1) hc) (Sub.gen [1, 2, 3, 4, 5, 6, 7] [0, 8, 9, 10, 11, 12, 13] [0, 7, 8, 9, 10, 11, 12, 13, 1, 2, 3, 4, 5, 6] rfl (by decide) rfl (by decide) (by decide) rfl (by decide)) kw_994 kw_874 kw_875 kw_88 hy_X4_lyingAt kw_876 rfl (Nat.le_of_ble_eq_true rfl) (Nat.le_of_ble_eq_true rfl) (Nat.le_of_ble_eq_true rfl) (Nat.le_of_ble_eq_true rfl) (Nat.le_of_ble_eq_true rfl) dX9_lies_23 ?_
      cases h
      exact g_iretX C E () rfl dX9_lies_26
    · rw [if_neg he] at h
      cases h
      exact gt_out C he E (Nat.le_of_ble_eq_true rfl) (Nat.le_of_ble_eq_true rfl) () rfl
  · rw [if_neg he] at h
    cases h
    exact gt_out C he E (Nat.le_of_ble_eq_true rfl) (Nat.le_of_ble_eq_true rfl) () rfl
noncomputable def f_X9_reader (x_missing : Int32) (x_misused : Int32) (s_place : Nat → Int32) (s_heard : Nat → Int32) (p_readers : Int32) (n1 : Int32) (n2 : Int32) : Option (Nat × Int32 × Int32 × Int32) := b2 (f_X9_needOneOf x_missing n1 p_readers) (fun e1 c2 => if e1 = 0 then b2 (f_X9_needRange x_misused n2 0 1) (fun e3 c4 => if e3 = 0 then if n2 = 0 then if ixb n1 5 then some (0, s_place n1.toNatClampNeg, c2, c4) else none else if ixb n1 5 then some (0, s_heard n1.toNatClampNeg, c2, c4) else none else some (e3, 0, c2, c4)) else some (e1, 0, c2, x_misused))
def rm_X9_reader : Room := { frames := 10, cells := 2, slots := 12, locals := 143 }
set_option maxRecDepth 100000 in
set_option maxHeartbeats 4000000 in
theorem t_X9_reader {J : Jt} {a0 : Nat → Nat} {a1 : Nat → Nat} {a2 : Nat → Nat} {k_tape : Nat} {k_trial : Nat} {k_task : Nat} {k_season : Nat} {k_stuffing : Nat} {k_images : Nat} {k_row : Nat} {k_sparePlan : Nat} {k_rule : Nat} {k_spareRule : Nat} {k_notes : Nat} {k_spareNotes : Nat} {x_latest : Value} {x_imageMany : Int32} {x_refusedSteps : Int32} {x_missing : Int32} {x_misused : Int32} {s_year : Int32} {s_wet : Int32} {s_lost : Int32} {s_eaten : Int32} {s_tied : Int32} {s_ripeMany : Int32} {s_gone : Nat → Int32} {s_place : Nat → Int32} {s_heard : Nat → Int32} {s_many : Nat → Int32} {s_lying : Nat → Int32} {s_ripe : Nat → Int32} {p_beds : Int32} {p_letters : Int32} {p_readers : Int32} {p_far : Nat → Int32} {p_drain : Nat → Int32} {p_length : Nat → Int32} {p_words : Nat → Int32} {p_home : Nat → Int32} {n1 : Int32} {n2 : Int32} {ex : Nat} {r : Int32} {o_x_missing : Int32} {o_x_misused : Int32} (hJ : J.1.stackTraces = false) (h : f_X9_reader x_missing x_misused s_place s_heard p_readers n1 n2 = some (ex, r, o_x_missing, o_x_misused)) : MtX J yX9_reader cX9_reader 3 (some .int) rm_X9_reader [.ref (a0 0), .int n1, .int n2] (cs_X9 (a0 0) k_tape (a1 0) k_trial k_task k_season k_stuffing k_images k_row (a2 0) k_sparePlan k_rule k_spareRule k_notes k_spareNotes x_latest x_imageMany x_refusedSteps x_missing x_misused ++ cs_X4 J.2.2.1 a1 s_year s_wet s_lost s_eaten s_tied s_ripeMany s_gone s_place s_heard s_many s_lying s_ripe ++ cs_X2 J.2.2.1 a2 p_beds p_letters p_readers p_far p_drain p_length p_words p_home) ex (some (.int r)) (fun _ : Unit => cs_X9 (a0 0) k_tape (a1 0) k_trial k_task k_season k_stuffing k_images k_row (a2 0) k_sparePlan k_rule k_spareRule k_notes k_spareNotes x_latest x_imageMany x_refusedSteps o_x_missing o_x_misused ++ cs_X4 J.2.2.1 a1 s_year s_wet s_lost s_eaten s_tied s_ripeMany s_gone s_place s_heard s_many s_lying s_ripe ++ cs_X2 J.2.2.1 a2 p_beds p_letters p_readers p_far p_drain p_length p_words p_home) := by
  refine MtX_of (own := RX9) (by decide) rfl (Nat.le_of_ble_eq_true rfl) rfl (fun Z C E => ?_)
  unfold f_X9_reader at h
  show G J Z 0 0 (cs_X9 (a0 0) k_tape (a1 0) k_trial k_task k_season k_stuffing k_images k_row (a2 0) k_sparePlan k_rule k_spareRule k_notes k_spareNotes x_latest x_imageMany x_refusedSteps x_missing x_misused ++ cs_X4 J.2.2.1 a1 s_year s_wet s_lost s_eaten s_tied s_ripeMany s_gone s_place s_heard s_many s_lying s_ripe ++ cs_X2 J.2.2.1 a2 p_beds p_letters p_readers p_far p_drain p_length p_words p_home) 3 [(0, .ref (a0 0)), (1, .int n1), (2, .int n2)] 0 []
  refine g_aload_n (pc := 0) C 0 rfl dX9_reader_0 ?_
  refine g_iload_n (pc := 1) C 1 rfl dX9_reader_1 ?_
  refine g_aload_n (pc := 2) C 0 rfl dX9_reader_2 ?_
  refine g_get (pc := 3) C FOK_X9 0 rfl rfl 8 (by decide) kw_375 rfl dX9_reader_3 ?_
  refine g_get (pc := 6) C FOK_X2 8 rfl rfl 2 (by decide) kw_289 rfl dX9_reader_6 ?_
  obtain ⟨e1, c2, hc, h⟩ := b2_of h
  refine g_xcallU (pc := 9) C (w' := cs_X9 (a0 0) k_tape (a1 0) k_trial k_task k_season k_stuffing k_images k_row (a2 0) k_sparePlan k_rule k_spareRule k_notes k_spareNotes x_latest x_imageMany x_refusedSteps c2 x_misused ++ cs_X4 J.2.2.1 a1 s_year s_wet s_lost s_eaten s_tied s_ripeMany s_gone s_place s_heard s_many s_lying s_ripe ++ cs_X2 J.2.2.1 a2 p_beds p_letters p_readers p_far p_drain p_length p_words p_home) (As := [.int n1, .int p_readers]) (st := []) (ci := 9) (q0 := 0) rfl rfl (t_X9_needOneOf (k_tape := k_tape) (k_now := (a1 0)) (k_trial := k_trial) (k_task := k_task) (k_season := k_season) (k_stuffing := k_stuffing) (k_images := k_images) (k_row := k_row) (k_plan := (a2 0)) (k_sparePlan := k_sparePlan) (k_rule := k_rule) (k_spareRule := k_spareRule) (k_notes := k_notes) (k_spareNotes := k_spareNotes) (a0 := a0) hJ hc) (Sub.gen [0] [1, 2, 3, 4, 5, 6, 7, 8, 9, 10, 11, 12, 13] [13, 0, 1, 2, 3, 4, 5, 6, 7, 8, 9, 10, 11, 12] rfl (by decide) rfl (by decide) (by decide) rfl (by decide)) kw_956 kw_958 kw_12 kw_86 hy_X9_needOneOf kw_959 rfl (Nat.le_of_ble_eq_true rfl) (Nat.le_of_ble_eq_true rfl) (Nat.le_of_ble_eq_true rfl) (Nat.le_of_ble_eq_true rfl) (Nat.le_of_ble_eq_true rfl) dX9_reader_9 (fun he => ?_) (fun he => ?_)
  · subst he
    rw [if_pos rfl] at h
    refine g_wid (n' := 1) (k' := 6) (Nat.le_of_ble_eq_true rfl) (Nat.le_of_ble_eq_true rfl) ?_
    refine g_aload_n (pc := 12) C 0 rfl dX9_reader_12 ?_
    refine g_iload_n (pc := 13) C 2 rfl dX9_reader_13 ?_
    refine g_iconst (pc := 14) C dX9_reader_14 ci_0 ?_
    refine g_iconst (pc := 15) C dX9_reader_15 ci_1 ?_
    obtain ⟨e3, c4, hc, h⟩ := b2_of h
    refine g_xcallU (pc := 16) C (w' := cs_X9 (a0 0) k_tape (a1 0) k_trial k_task k_season k_stuffing k_images k_row (a2 0) k_sparePlan k_rule k_spareRule k_notes k_spareNotes x_latest x_imageMany x_refusedSteps c2 c4 ++ cs_X4 J.2.2.1 a1 s_year s_wet s_lost s_eaten s_tied s_ripeMany s_gone s_place s_heard s_many s_lying s_ripe ++ cs_X2 J.2.2.1 a2 p_beds p_letters p_readers p_far p_drain p_length p_words p_home) (As := [.int n2, .int 0, .int 1]) (st := []) (ci := 9) (q0 := 0) rfl rfl (t_X9_needRange (k_tape := k_tape) (k_now := (a1 0)) (k_trial := k_trial) (k_task := k_task) (k_season := k_season) (k_stuffing := k_stuffing) (k_images := k_images) (k_row := k_row) (k_plan := (a2 0)) (k_sparePlan := k_sparePlan) (k_rule := k_rule) (k_spareRule := k_spareRule) (k_notes := k_notes) (k_spareNotes := k_spareNotes) (a0 := a0) hJ hc) (Sub.gen [0] [1, 2, 3, 4, 5, 6, 7, 8, 9, 10, 11, 12, 13] [13, 0, 1, 2, 3, 4, 5, 6, 7, 8, 9, 10, 11, 12] rfl (by decide) rfl (by decide) (by decide) rfl (by decide)) kw_545 kw_547 kw_2 kw_86 hy_X9_needRange kw_548 rfl (Nat.le_of_ble_eq_true rfl) (Nat.le_of_ble_eq_true rfl) (Nat.le_of_ble_eq_true rfl) (Nat.le_of_ble_eq_true rfl) (Nat.le_of_ble_eq_true rfl) dX9_reader_16 (fun he => ?_) (fun he => ?_)
    · subst he
      rw [if_pos rfl] at h
      refine g_wid (n' := 2) (k' := 12) (Nat.le_of_ble_eq_true rfl) (Nat.le_of_ble_eq_true rfl) ?_
      refine g_iload_n (pc := 19) C 2 rfl dX9_reader_19 ?_
      refine g_if_ne (pc := 20) C (tgt := 35) dX9_reader_20 rfl h (fun h => ?_) (fun h => ?_)
      · refine g_aload_n (pc := 35) C 0 rfl dX9_reader_35 ?_
        refine g_get (pc := 36) C FOK_X9 0 rfl rfl 1 (by decide) kw_368 rfl dX9_reader_36 ?_
        refine g_get (pc := 39) C FOK_X4 1 rfl rfl 8 (by decide) kw_171 rfl dX9_reader_39 ?_
        refine g_iload_n (pc := 42) C 1 rfl dX9_reader_42 ?_
        obtain ⟨hi, h⟩ := ix_of h
        refine g_iald (pc := 43) C 4 rfl hi dX9_reader_43 ?_
        cases h
        exact g_iretX C E () rfl dX9_reader_44
      · refine g_aload_n (pc := 23) C 0 rfl dX9_reader_23 ?_
        refine g_get (pc := 24) C FOK_X9 0 rfl rfl 1 (by decide) kw_368 rfl dX9_reader_24 ?_
        refine g_get (pc := 27) C FOK_X4 1 rfl rfl 7 (by decide) kw_169 rfl dX9_reader_27 ?_
        refine g_iload_n (pc := 30) C 1 rfl dX9_reader_30 ?_
        obtain ⟨hi, h⟩ := ix_of h
        refine g_iald (pc := 31) C 3 rfl hi dX9_reader_31 ?_
        refine g_goto (pc := 32) C (tgt := 44) dX9_reader_32 rfl ?_
        cases h
        exact g_iretX C E () rfl dX9_reader_44
    · rw [if_neg he] at h
      cases h
      exact gt_out C he E (Nat.le_of_ble_eq_true rfl) (Nat.le_of_ble_eq_true rfl) () rfl
  · rw [if_neg he] at h
    cases h
    exact gt_out C he E (Nat.le_of_ble_eq_true rfl) (Nat.le_of_ble_eq_true rfl) () rfl
noncomputable def f_X9_grown (x_misused : Int32) (s_ripeMany : Int32) (s_ripe : Nat → Int32) (n1 : Int32) : Option (Nat × Int32 × Int32) := b2 (f_X9_needPlace x_misused n1) (fun e1 c2 => if e1 = 0 then if s_ripeMany ≤ n1 then some (0, (-1), c2) else if 60 ≤ n1 then some (0, (-1), c2) else if ixb n1 60 then some (0, s_ripe n1.toNatClampNeg, c2) else none else some (e1, 0, c2))
def rm_X9_grown : Room := { frames := 10, cells := 1, slots := 6, locals := 141 }
set_option maxRecDepth 100000 in
set_option maxHeartbeats 4000000 in
theorem t_X9_grown {J : Jt} {a0 : Nat → Nat} {a1 : Nat → Nat} {k_tape : Nat} {k_trial : Nat} {k_task : Nat} {k_season : Nat} {k_stuffing : Nat} {k_images : Nat} {k_row : Nat} {k_plan : Nat} {k_sparePlan : Nat} {k_rule : Nat} {k_spareRule : Nat} {k_notes : Nat} {k_spareNotes : Nat} {x_latest : Value} {x_imageMany : Int32} {x_refusedSteps : Int32} {x_missing : Int32} {x_misused : Int32} {s_year : Int32} {s_wet : Int32} {s_lost : Int32} {s_eaten : Int32} {s_tied : Int32} {s_ripeMany : Int32} {s_gone : Nat → Int32} {s_place : Nat → Int32} {s_heard : Nat → Int32} {s_many : Nat → Int32} {s_lying : Nat → Int32} {s_ripe : Nat → Int32} {n1 : Int32} {ex : Nat} {r : Int32} {o_x_misused : Int32} (hJ : J.1.stackTraces = false) (h : f_X9_grown x_misused s_ripeMany s_ripe n1 = some (ex, r, o_x_misused)) : MtX J yX9_grown cX9_grown 2 (some .int) rm_X9_grown [.ref (a0 0), .int n1] (cs_X9 (a0 0) k_tape (a1 0) k_trial k_task k_season k_stuffing k_images k_row k_plan k_sparePlan k_rule k_spareRule k_notes k_spareNotes x_latest x_imageMany x_refusedSteps x_missing x_misused ++ cs_X4 J.2.2.1 a1 s_year s_wet s_lost s_eaten s_tied s_ripeMany s_gone s_place s_heard s_many s_lying s_ripe) ex (some (.int r)) (fun _ : Unit => cs_X9 (a0 0) k_tape (a1 0) k_trial k_task k_season k_stuffing k_images k_row k_plan k_sparePlan k_rule k_spareRule k_notes k_spareNotes x_latest x_imageMany x_refusedSteps x_missing o_x_misused ++ cs_X4 J.2.2.1 a1 s_year s_wet s_lost s_eaten s_tied s_ripeMany s_gone s_place s_heard s_many s_lying s_ripe) := by
  refine MtX_of (own := RX9) (by decide) rfl (Nat.le_of_ble_eq_true rfl) rfl (fun Z C E => ?_)
  unfold f_X9_grown at h
  show G J Z 0 0 (cs_X9 (a0 0) k_tape (a1 0) k_trial k_task k_season k_stuffing k_images k_row k_plan k_sparePlan k_rule k_spareRule k_notes k_spareNotes x_latest x_imageMany x_refusedSteps x_missing x_misused ++ cs_X4 J.2.2.1 a1 s_year s_wet s_lost s_eaten s_tied s_ripeMany s_gone s_place s_heard s_many s_lying s_ripe) 2 [(0, .ref (a0 0)), (1, .int n1)] 0 []
  refine g_aload_n (pc := 0) C 0 rfl dX9_grown_0 ?_
  refine g_iload_n (pc := 1) C 1 rfl dX9_grown_1 ?_
  obtain ⟨e1, c2, hc, h⟩ := b2_of h
  refine g_xcallU (pc := 2) C (w' := cs_X9 (a0 0) k_tape (a1 0) k_trial k_task k_season k_stuffing k_images k_row k_plan k_sparePlan k_rule k_spareRule k_notes k_spareNotes x_latest x_imageMany x_refusedSteps x_missing c2 ++ cs_X4 J.2.2.1 a1 s_year s_wet s_lost s_eaten s_tied s_ripeMany s_gone s_place s_heard s_many s_lying s_ripe) (As := [.int n1]) (st := []) (ci := 9) (q0 := 0) rfl rfl (t_X9_needPlace (k_tape := k_tape) (k_now := (a1 0)) (k_trial := k_trial) (k_task := k_task) (k_season := k_season) (k_stuffing := k_stuffing) (k_images := k_images) (k_row := k_row) (k_plan := k_plan) (k_sparePlan := k_sparePlan) (k_rule := k_rule) (k_spareRule := k_spareRule) (k_notes := k_notes) (k_spareNotes := k_spareNotes) (a0 := a0) hJ hc) (Sub.gen [0] [1, 2, 3, 4, 5, 6, 7] [7, 0, 1, 2, 3, 4, 5, 6] rfl (by decide) rfl (by decide) (by decide) rfl (by decide)) kw_1006 kw_1008 kw_13 kw_86 hy_X9_needPlace kw_1009 rfl (Nat.le_of_ble_eq_true rfl) (Nat.le_of_ble_eq_true rfl) (Nat.le_of_ble_eq_true rfl) (Nat.le_of_ble_eq_true rfl) (Nat.le_of_ble_eq_true rfl) dX9_grown_2 (fun he => ?_) (fun he => ?_)
  · subst he
    rw [if_pos rfl] at h
    refine g_wid (n' := 1) (k' := 6) (Nat.le_of_ble_eq_true rfl) (Nat.le_of_ble_eq_true rfl) ?_
    refine g_iload_n (pc := 5) C 1 rfl dX9_grown_5 ?_
    refine g_aload_n (pc := 6) C 0 rfl dX9_grown_6 ?_
    refine g_get (pc := 7) C FOK_X9 0 rfl rfl 1 (by decide) kw_368 rfl dX9_grown_7 ?_
    refine g_get (pc := 10) C FOK_X4 1 rfl rfl 5 (by decide) kw_166 rfl dX9_grown_10 ?_
    refine g_icmp_ge (pc := 13) C (tgt := 34) dX9_grown_13 rfl h (fun h => ?_) (fun h => ?_)
    · refine g_iconst (pc := 34) C dX9_grown_34 ci_m1 ?_
      cases h
      exact g_iretX C E () rfl dX9_grown_35
    · refine g_iload_n (pc := 16) C 1 rfl dX9_grown_16 ?_
      refine g_bipush (pc := 17) C dX9_grown_17 cb_60 ?_
      refine g_icmp_ge (pc := 19) C (tgt := 34) dX9_grown_19 rfl h (fun h => ?_) (fun h => ?_)
      · refine g_iconst (pc := 34) C dX9_grown_34 ci_m1 ?_
        cases h
        exact g_iretX C E () rfl dX9_grown_35
      · refine g_aload_n (pc := 22) C 0 rfl dX9_grown_22 ?_
        refine g_get (pc := 23) C FOK_X9 0 rfl rfl 1 (by decide) kw_368 rfl dX9_grown_23 ?_
        refine g_get (pc := 26) C FOK_X4 1 rfl rfl 11 (by decide) kw_176 rfl dX9_grown_26 ?_
        refine g_iload_n (pc := 29) C 1 rfl dX9_grown_29 ?_
        obtain ⟨hi, h⟩ := ix_of h
        refine g_iald (pc := 30) C 7 rfl hi dX9_grown_30 ?_
        refine g_goto (pc := 31) C (tgt := 35) dX9_grown_31 rfl ?_
        cases h
        exact g_iretX C E () rfl dX9_grown_35
  · rw [if_neg he] at h
    cases h
    exact gt_out C he E (Nat.le_of_ble_eq_true rfl) (Nat.le_of_ble_eq_true rfl) () rfl
