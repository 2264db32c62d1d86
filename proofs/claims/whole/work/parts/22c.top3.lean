noncomputable def f_X9_mostLeftBy_39  (s_gone : Nat → Int32) (s_many : Nat → Int32) (s_lying : Nat → Int32) (r_n : Nat) (p_beds : Int32) (p_letters : Int32) (p_drain : Nat → Int32) (p_length : Nat → Int32) (p_words : Nat → Int32) (b_last : Nat → Int32) (n1 : Int32) (k25 : Int32 → Int32 → (Nat → Int32) → Option (Int32 × (Nat → Int32))) : Nat → Int32 → Int32 → Int32 → (Nat → Int32) → Option (Int32 × (Nat → Int32))
  | 0, _, _, _, _ => none
  | n + 1, x2, x3, x4, r_v => if 9 < x4 then k25 x2 (x3 + 1) r_v else b1 (f_X0_isRight b_last s_gone s_many s_lying p_beds p_drain p_length p_words x3 x4) (fun v1 => if v1 = 0 then f_X9_mostLeftBy_39 s_gone s_many s_lying r_n p_beds p_letters p_drain p_length p_words b_last n1 k25 n x2 x3 (x4 + 1) r_v else b1 (f_X4_lastAfter s_gone s_many s_lying p_drain p_length p_words n1 x3 x4) (fun v2 => if v2 < 0 then f_X9_mostLeftBy_39 s_gone s_many s_lying r_n p_beds p_letters p_drain p_length p_words b_last n1 k25 n x2 x3 (x4 + 1) r_v else if 16 < v2 then f_X9_mostLeftBy_39 s_gone s_many s_lying r_n p_beds p_letters p_drain p_length p_words b_last n1 k25 n x2 x3 (x4 + 1) r_v else if ixb v2 r_n then if ixb v2 r_n then if ixb v2 r_n then f_X9_mostLeftBy_39 s_gone s_many s_lying r_n p_beds p_letters p_drain p_length p_words b_last n1 k25 n (imax x2 ((upd r_v v2.toNatClampNeg ((r_v v2.toNatClampNeg) + 1)) v2.toNatClampNeg)) x3 (x4 + 1) (upd r_v v2.toNatClampNeg ((r_v v2.toNatClampNeg) + 1)) else none else none else none))
noncomputable def f_X9_mostLeftBy_25  (s_gone : Nat → Int32) (s_many : Nat → Int32) (s_lying : Nat → Int32) (r_n : Nat) (p_beds : Int32) (p_letters : Int32) (p_drain : Nat → Int32) (p_length : Nat → Int32) (p_words : Nat → Int32) (b_last : Nat → Int32) (n1 : Int32) : Nat → Int32 → Int32 → (Nat → Int32) → Option (Int32 × (Nat → Int32))
  | 0, _, _, _ => none
  | n + 1, x2, x3, r_v => if p_letters ≤ x3 then some (x2, r_v) else f_X9_mostLeftBy_39 s_gone s_many s_lying r_n p_beds p_letters p_drain p_length p_words b_last n1 (f_X9_mostLeftBy_25 s_gone s_many s_lying r_n p_beds p_letters p_drain p_length p_words b_last n1 n) FU x2 x3 1 r_v
noncomputable def f_X9_mostLeftBy_2  (s_gone : Nat → Int32) (s_many : Nat → Int32) (s_lying : Nat → Int32) (r_n : Nat) (p_beds : Int32) (p_letters : Int32) (p_drain : Nat → Int32) (p_length : Nat → Int32) (p_words : Nat → Int32) (b_last : Nat → Int32) (n1 : Int32) : Nat → Int32 → (Nat → Int32) → Option (Int32 × (Nat → Int32))
  | 0, _, _ => none
  | n + 1, x2, r_v => if 16 < x2 then f_X9_mostLeftBy_25 s_gone s_many s_lying r_n p_beds p_letters p_drain p_length p_words b_last n1 FU 0 0 r_v else if ixb x2 r_n then f_X9_mostLeftBy_2 s_gone s_many s_lying r_n p_beds p_letters p_drain p_length p_words b_last n1 n (x2 + 1) (upd r_v x2.toNatClampNeg 0) else none
noncomputable def f_X9_mostLeftBy (s_gone : Nat → Int32) (s_many : Nat → Int32) (s_lying : Nat → Int32) (r_n : Nat) (r_v : Nat → Int32) (p_beds : Int32) (p_letters : Int32) (p_drain : Nat → Int32) (p_length : Nat → Int32) (p_words : Nat → Int32) (b_last : Nat → Int32) (n1 : Int32) : Option (Int32 × (Nat → Int32)) := f_X9_mostLeftBy_2 s_gone s_many s_lying r_n p_beds p_letters p_drain p_length p_words b_last n1 FU 0 r_v
def rm_X9_mostLeftBy : Room := { frames := 3, cells := 0, slots := 0, locals := 91 }
set_option maxRecDepth 100000 in
set_option maxHeartbeats 4000000 in
theorem j_X9_mostLeftBy_39 {J : Jt} {Z : Zt} {a0 : Nat → Nat} {a1 : Nat → Nat} {a2 : Nat → Nat} {a3 : Nat → Nat} {a4 : Nat → Nat} {k_tape : Nat} {k_trial : Nat} {k_task : Nat} {k_season : Nat} {k_stuffing : Nat} {k_images : Nat} {k_sparePlan : Nat} {k_rule : Nat} {k_spareRule : Nat} {k_spareNotes : Nat} {x_latest : Value} {x_imageMany : Int32} {x_refusedSteps : Int32} {x_missing : Int32} {x_misused : Int32} {s_year : Int32} {s_wet : Int32} {s_lost : Int32} {s_eaten : Int32} {s_tied : Int32} {s_ripeMany : Int32} {s_gone : Nat → Int32} {s_place : Nat → Int32} {s_heard : Nat → Int32} {s_many : Nat → Int32} {s_lying : Nat → Int32} {s_ripe : Nat → Int32} {r_n : Nat} {p_beds : Int32} {p_letters : Int32} {p_readers : Int32} {p_far : Nat → Int32} {p_drain : Nat → Int32} {p_length : Nat → Int32} {p_words : Nat → Int32} {p_home : Nat → Int32} {b_last : Nat → Int32} {b_lines : Int32} {n1 : Int32} {r : Int32} {o_r_v : Nat → Int32} {k25 : Int32 → Int32 → (Nat → Int32) → Option (Int32 × (Nat → Int32))} (C : Cx J Z cX9_mostLeftBy 6 RX9 (some .int) rm_X9_mostLeftBy) (E : Ez J Z 0 0 (some (.int r)) (cs_X9 (a0 0) k_tape (a1 0) k_trial k_task k_season k_stuffing k_images (a2 0) (a3 0) k_sparePlan k_rule k_spareRule (a4 0) k_spareNotes x_latest x_imageMany x_refusedSteps x_missing x_misused ++ cs_X4 J.2.2.1 a1 s_year s_wet s_lost s_eaten s_tied s_ripeMany s_gone s_place s_heard s_many s_lying s_ripe ++ cs_A J.2.2.1 a2 r_n o_r_v ++ cs_X2 J.2.2.1 a3 p_beds p_letters p_readers p_far p_drain p_length p_words p_home ++ cs_X0 J.2.2.1 a4 b_last b_lines)) (hk25 : ∀ (x2 : Int32) (x3 : Int32) (r_v : Nat → Int32), k25 x2 x3 r_v = some (r, o_r_v) → G J Z 0 0 (cs_X9 (a0 0) k_tape (a1 0) k_trial k_task k_season k_stuffing k_images (a2 0) (a3 0) k_sparePlan k_rule k_spareRule (a4 0) k_spareNotes x_latest x_imageMany x_refusedSteps x_missing x_misused ++ cs_X4 J.2.2.1 a1 s_year s_wet s_lost s_eaten s_tied s_ripeMany s_gone s_place s_heard s_many s_lying s_ripe ++ cs_A J.2.2.1 a2 r_n r_v ++ cs_X2 J.2.2.1 a3 p_beds p_letters p_readers p_far p_drain p_length p_words p_home ++ cs_X0 J.2.2.1 a4 b_last b_lines) 6 [(0, .ref (a0 0)), (1, .int n1), (2, .int x2), (3, .int x3)] 25 []) : ∀ (n : Nat) (x2 : Int32) (x3 : Int32) (x4 : Int32) (r_v : Nat → Int32), f_X9_mostLeftBy_39 s_gone s_many s_lying r_n p_beds p_letters p_drain p_length p_words b_last n1 k25 n x2 x3 x4 r_v = some (r, o_r_v) → G J Z 0 0 (cs_X9 (a0 0) k_tape (a1 0) k_trial k_task k_season k_stuffing k_images (a2 0) (a3 0) k_sparePlan k_rule k_spareRule (a4 0) k_spareNotes x_latest x_imageMany x_refusedSteps x_missing x_misused ++ cs_X4 J.2.2.1 a1 s_year s_wet s_lost s_eaten s_tied s_ripeMany s_gone s_place s_heard s_many s_lying s_ripe ++ cs_A J.2.2.1 a2 r_n r_v ++ cs_X2 J.2.2.1 a3 p_beds p_letters p_readers p_far p_drain p_length p_words p_home ++ cs_X0 J.2.2.1 a4 b_last b_lines) 6 [(0, .ref (a0 0)), (1, .int n1), (2, .int x2), (3, .int x3), (4, .int x4)] 39 [] := by
  intro n
  induction n with
  | zero =>
    intro x2 x3 x4 r_v h
    rw [f_X9_mostLeftBy_39] at h
    cases h
  | succ n ih =>
    intro x2 x3 x4 r_v h
    rw [f_X9_mostLeftBy_39] at h
    refine g_iload (pc := 39) C 4 rfl dX9_mostLeftBy_39 ?_
    refine g_bipush (pc := 41) C dX9_mostLeftBy_41 cb_9 ?_
    refine g_icmp_gt (pc := 43) C (tgt := 125) dX9_mostLeftBy_43 rfl h (fun h => ?_) (fun h => ?_)
    · refine g_iinc (pc := 125) C (j := 3) [(3, .int (x3 + 1)), (0, .ref (a0 0)), (1, .int n1), (2, .int x2), (4, .int x4)] dX9_mostLeftBy_125 rfl (ii_1 _) (by decide) rfl ?_
      refine g_goto (pc := 128) C (tgt := 25) dX9_mostLeftBy_128 rfl ?_
      refine g_lv [1, 2, 3, 0] rfl ?_
      exact hk25 x2 (x3 + 1) r_v h
    · refine g_aload_n (pc := 46) C 0 rfl dX9_mostLeftBy_46 ?_
      refine g_get (pc := 47) C FOK_X9 0 rfl rfl 12 (by decide) kw_379 rfl dX9_mostLeftBy_47 ?_
      refine g_aload_n (pc := 50) C 0 rfl dX9_mostLeftBy_50 ?_
      refine g_get (pc := 51) C FOK_X9 0 rfl rfl 1 (by decide) kw_368 rfl dX9_mostLeftBy_51 ?_
      refine g_aload_n (pc := 54) C 0 rfl dX9_mostLeftBy_54 ?_
      refine g_get (pc := 55) C FOK_X9 0 rfl rfl 8 (by decide) kw_375 rfl dX9_mostLeftBy_55 ?_
      refine g_iload_n (pc := 58) C 3 rfl dX9_mostLeftBy_58 ?_
      refine g_iload (pc := 59) C 4 rfl dX9_mostLeftBy_59 ?_
      obtain ⟨v1, hc, h⟩ := b1_of h
      refine g_callV (pc := 61) C (w' := cs_X9 (a0 0) k_tape (a1 0) k_trial k_task k_season k_stuffing k_images (a2 0) (a3 0) k_sparePlan k_rule k_spareRule (a4 0) k_spareNotes x_latest x_imageMany x_refusedSteps x_missing x_misused ++ cs_X4 J.2.2.1 a1 s_year s_wet s_lost s_eaten s_tied s_ripeMany s_gone s_place s_heard s_many s_lying s_ripe ++ cs_A J.2.2.1 a2 r_n r_v ++ cs_X2 J.2.2.1 a3 p_beds p_letters p_readers p_far p_drain p_length p_words p_home ++ cs_X0 J.2.2.1 a4 b_last b_lines) (As := [.ref (a1 0), .ref (a3 0), .int x3, .int x4]) (st := []) (ci := 0) (q0 := 15) rfl rfl (t_X0_isRight (a0 := a4) (a1 := a1) (a2 := a3) hc) (Sub.gen [15, 16, 1, 2, 3, 4, 5, 6, 7, 9, 10, 11, 12, 13, 14] [0, 8] [0, 4, 5, 6, 7, 8, 9, 10, 1, 11, 12, 13, 14, 15, 16, 2, 3] rfl (by decide) rfl (by decide) (by decide) rfl (by decide)) kw_1101 kw_1102 kw_1103 kw_94 hy_X0_isRight kw_1104 rfl (Nat.le_of_ble_eq_true rfl) (Nat.le_of_ble_eq_true rfl) (Nat.le_of_ble_eq_true rfl) (Nat.le_of_ble_eq_true rfl) (Nat.le_of_ble_eq_true rfl) dX9_mostLeftBy_61 ?_
      refine g_if_eq (pc := 64) C (tgt := 119) dX9_mostLeftBy_64 rfl h (fun h => ?_) (fun h => ?_)
      · refine g_iinc (pc := 119) C (j := 4) [(4, .int (x4 + 1)), (0, .ref (a0 0)), (1, .int n1), (2, .int x2), (3, .int x3)] dX9_mostLeftBy_119 rfl (ii_1 _) (by decide) rfl ?_
        refine g_goto (pc := 122) C (tgt := 39) dX9_mostLeftBy_122 rfl ?_
        refine g_lv [1, 2, 3, 4, 0] rfl ?_
        exact ih x2 x3 (x4 + 1) r_v h
      · refine g_aload_n (pc := 67) C 0 rfl dX9_mostLeftBy_67 ?_
        refine g_get (pc := 68) C FOK_X9 0 rfl rfl 1 (by decide) kw_368 rfl dX9_mostLeftBy_68 ?_
        refine g_aload_n (pc := 71) C 0 rfl dX9_mostLeftBy_71 ?_
        refine g_get (pc := 72) C FOK_X9 0 rfl rfl 8 (by decide) kw_375 rfl dX9_mostLeftBy_72 ?_
        refine g_iload_n (pc := 75) C 1 rfl dX9_mostLeftBy_75 ?_
        refine g_iload_n (pc := 76) C 3 rfl dX9_mostLeftBy_76 ?_
        refine g_iload (pc := 77) C 4 rfl dX9_mostLeftBy_77 ?_
        obtain ⟨v2, hc, h⟩ := b1_of h
        refine g_callV (pc := 79) C (w' := cs_X9 (a0 0) k_tape (a1 0) k_trial k_task k_season k_stuffing k_images (a2 0) (a3 0) k_sparePlan k_rule k_spareRule (a4 0) k_spareNotes x_latest x_imageMany x_refusedSteps x_missing x_misused ++ cs_X4 J.2.2.1 a1 s_year s_wet s_lost s_eaten s_tied s_ripeMany s_gone s_place s_heard s_many s_lying s_ripe ++ cs_A J.2.2.1 a2 r_n r_v ++ cs_X2 J.2.2.1 a3 p_beds p_letters p_readers p_far p_drain p_length p_words p_home ++ cs_X0 J.2.2.1 a4 b_last b_lines) (As := [.ref (a3 0), .int n1, .int x3, .int x4]) (st := []) (ci := 4) (q0 := 1) rfl rfl (t_X4_lastAfter (a0 := a1) (a1 := a3) hc) (Sub.gen [1, 2, 3, 4, 5, 6, 7, 9, 10, 11, 12, 13, 14] [0, 8, 15, 16] [0, 4, 5, 6, 7, 8, 9, 10, 1, 11, 12, 13, 14, 15, 16, 2, 3] rfl (by decide) rfl (by decide) (by decide) rfl (by decide)) kw_1120 kw_1106 kw_1107 kw_88 hy_X4_lastAfter kw_1108 rfl (Nat.le_of_ble_eq_true rfl) (Nat.le_of_ble_eq_true rfl) (Nat.le_of_ble_eq_true rfl) (Nat.le_of_ble_eq_true rfl) (Nat.le_of_ble_eq_true rfl) dX9_mostLeftBy_79 ?_
        refine g_istore (pc := 82) C [(5, .int v2), (0, .ref (a0 0)), (1, .int n1), (2, .int x2), (3, .int x3), (4, .int x4)] dX9_mostLeftBy_82 (by decide) rfl ?_
        refine g_iload (pc := 84) C 0 rfl dX9_mostLeftBy_84 ?_
        refine g_if_lt (pc := 86) C (tgt := 119) dX9_mostLeftBy_86 rfl h (fun h => ?_) (fun h => ?_)
        · refine g_iinc (pc := 119) C (j := 5) [(4, .int (x4 + 1)), (5, .int v2), (0, .ref (a0 0)), (1, .int n1), (2, .int x2), (3, .int x3)] dX9_mostLeftBy_119 rfl (ii_1 _) (by decide) rfl ?_
          refine g_goto (pc := 122) C (tgt := 39) dX9_mostLeftBy_122 rfl ?_
          refine g_lv [2, 3, 4, 5, 0] rfl ?_
          exact ih x2 x3 (x4 + 1) r_v h
        · refine g_iload (pc := 89) C 0 rfl dX9_mostLeftBy_89 ?_
          refine g_bipush (pc := 91) C dX9_mostLeftBy_91 cb_16 ?_
          refine g_icmp_gt (pc := 93) C (tgt := 119) dX9_mostLeftBy_93 rfl h (fun h => ?_) (fun h => ?_)
          · refine g_iinc (pc := 119) C (j := 5) [(4, .int (x4 + 1)), (5, .int v2), (0, .ref (a0 0)), (1, .int n1), (2, .int x2), (3, .int x3)] dX9_mostLeftBy_119 rfl (ii_1 _) (by decide) rfl ?_
            refine g_goto (pc := 122) C (tgt := 39) dX9_mostLeftBy_122 rfl ?_
            refine g_lv [2, 3, 4, 5, 0] rfl ?_
            exact ih x2 x3 (x4 + 1) r_v h
          · refine g_aload_n (pc := 96) C 1 rfl dX9_mostLeftBy_96 ?_
            refine g_get (pc := 97) C FOK_X9 0 rfl rfl 7 (by decide) kw_374 rfl dX9_mostLeftBy_97 ?_
            refine g_iload (pc := 100) C 0 rfl dX9_mostLeftBy_100 ?_
            refine g_dup2 (pc := 102) C dX9_mostLeftBy_102 rfl rfl ?_
            obtain ⟨hi, h⟩ := ix_of h
            refine g_iald (pc := 103) C 8 rfl hi dX9_mostLeftBy_103 ?_
            refine g_iconst (pc := 104) C dX9_mostLeftBy_104 ci_1 ?_
            refine g_iadd (pc := 105) C dX9_mostLeftBy_105 ?_
            obtain ⟨hi, h⟩ := ix_of h
            refine g_iast (pc := 106) C (w' := cs_X9 (a0 0) k_tape (a1 0) k_trial k_task k_season k_stuffing k_images (a2 0) (a3 0) k_sparePlan k_rule k_spareRule (a4 0) k_spareNotes x_latest x_imageMany x_refusedSteps x_missing x_misused ++ cs_X4 J.2.2.1 a1 s_year s_wet s_lost s_eaten s_tied s_ripeMany s_gone s_place s_heard s_many s_lying s_ripe ++ cs_A J.2.2.1 a2 r_n (upd r_v v2.toNatClampNeg ((r_v v2.toNatClampNeg) + 1)) ++ cs_X2 J.2.2.1 a3 p_beds p_letters p_readers p_far p_drain p_length p_words p_home ++ cs_X0 J.2.2.1 a4 b_last b_lines) 8 rfl hi dX9_mostLeftBy_106 rfl ?_
            refine g_iload_n (pc := 107) C 3 rfl dX9_mostLeftBy_107 ?_
            refine g_aload_n (pc := 108) C 1 rfl dX9_mostLeftBy_108 ?_
            refine g_get (pc := 109) C FOK_X9 0 rfl rfl 7 (by decide) kw_374 rfl dX9_mostLeftBy_109 ?_
            refine g_iload (pc := 112) C 0 rfl dX9_mostLeftBy_112 ?_
            obtain ⟨hi, h⟩ := ix_of h
            refine g_iald (pc := 114) C 8 rfl hi dX9_mostLeftBy_114 ?_
            refine g_imax (pc := 115) C kw_1121 kw_1122 kw_96 kw_1123 (Nat.le_of_ble_eq_true rfl) (Nat.le_of_ble_eq_true rfl) (Nat.le_of_ble_eq_true rfl) (Nat.le_of_ble_eq_true rfl) dX9_mostLeftBy_115 ?_
            refine g_istore_n (pc := 118) C [(2, .int (imax x2 ((upd r_v v2.toNatClampNeg ((r_v v2.toNatClampNeg) + 1)) v2.toNatClampNeg))), (5, .int v2), (0, .ref (a0 0)), (1, .int n1), (3, .int x3), (4, .int x4)] dX9_mostLeftBy_118 rfl (by decide) rfl ?_
            refine g_iinc (pc := 119) C (j := 5) [(4, .int (x4 + 1)), (2, .int (imax x2 ((upd r_v v2.toNatClampNeg ((r_v v2.toNatClampNeg) + 1)) v2.toNatClampNeg))), (5, .int v2), (0, .ref (a0 0)), (1, .int n1), (3, .int x3)] dX9_mostLeftBy_119 rfl (ii_1 _) (by decide) rfl ?_
            refine g_goto (pc := 122) C (tgt := 39) dX9_mostLeftBy_122 rfl ?_
            refine g_lv [3, 4, 1, 5, 0] rfl ?_
            exact ih (imax x2 ((upd r_v v2.toNatClampNeg ((r_v v2.toNatClampNeg) + 1)) v2.toNatClampNeg)) x3 (x4 + 1) (upd r_v v2.toNatClampNeg ((r_v v2.toNatClampNeg) + 1)) h
set_option maxRecDepth 100000 in
set_option maxHeartbeats 4000000 in
theorem j_X9_mostLeftBy_25 {J : Jt} {Z : Zt} {a0 : Nat → Nat} {a1 : Nat → Nat} {a2 : Nat → Nat} {a3 : Nat → Nat} {a4 : Nat → Nat} {k_tape : Nat} {k_trial : Nat} {k_task : Nat} {k_season : Nat} {k_stuffing : Nat} {k_images : Nat} {k_sparePlan : Nat} {k_rule : Nat} {k_spareRule : Nat} {k_spareNotes : Nat} {x_latest : Value} {x_imageMany : Int32} {x_refusedSteps : Int32} {x_missing : Int32} {x_misused : Int32} {s_year : Int32} {s_wet : Int32} {s_lost : Int32} {s_eaten : Int32} {s_tied : Int32} {s_ripeMany : Int32} {s_gone : Nat → Int32} {s_place : Nat → Int32} {s_heard : Nat → Int32} {s_many : Nat → Int32} {s_lying : Nat → Int32} {s_ripe : Nat → Int32} {r_n : Nat} {p_beds : Int32} {p_letters : Int32} {p_readers : Int32} {p_far : Nat → Int32} {p_drain : Nat → Int32} {p_length : Nat → Int32} {p_words : Nat → Int32} {p_home : Nat → Int32} {b_last : Nat → Int32} {b_lines : Int32} {n1 : Int32} {r : Int32} {o_r_v : Nat → Int32} (C : Cx J Z cX9_mostLeftBy 6 RX9 (some .int) rm_X9_mostLeftBy) (E : Ez J Z 0 0 (some (.int r)) (cs_X9 (a0 0) k_tape (a1 0) k_trial k_task k_season k_stuffing k_images (a2 0) (a3 0) k_sparePlan k_rule k_spareRule (a4 0) k_spareNotes x_latest x_imageMany x_refusedSteps x_missing x_misused ++ cs_X4 J.2.2.1 a1 s_year s_wet s_lost s_eaten s_tied s_ripeMany s_gone s_place s_heard s_many s_lying s_ripe ++ cs_A J.2.2.1 a2 r_n o_r_v ++ cs_X2 J.2.2.1 a3 p_beds p_letters p_readers p_far p_drain p_length p_words p_home ++ cs_X0 J.2.2.1 a4 b_last b_lines)) : ∀ (n : Nat) (x2 : Int32) (x3 : Int32) (r_v : Nat → Int32), f_X9_mostLeftBy_25 s_gone s_many s_lying r_n p_beds p_letters p_drain p_length p_words b_last n1 n x2 x3 r_v = some (r, o_r_v) → G J Z 0 0 (cs_X9 (a0 0) k_tape (a1 0) k_trial k_task k_season k_stuffing k_images (a2 0) (a3 0) k_sparePlan k_rule k_spareRule (a4 0) k_spareNotes x_latest x_imageMany x_refusedSteps x_missing x_misused ++ cs_X4 J.2.2.1 a1 s_year s_wet s_lost s_eaten s_tied s_ripeMany s_gone s_place s_heard s_many s_lying s_ripe ++ cs_A J.2.2.1 a2 r_n r_v ++ cs_X2 J.2.2.1 a3 p_beds p_letters p_readers p_far p_drain p_length p_words p_home ++ cs_X0 J.2.2.1 a4 b_last b_lines) 6 [(0, .ref (a0 0)), (1, .int n1), (2, .int x2), (3, .int x3)] 25 [] := by
  intro n
  induction n with
  | zero =>
    intro x2 x3 r_v h
    rw [f_X9_mostLeftBy_25] at h
    cases h
  | succ n ih =>
    intro x2 x3 r_v h
    rw [f_X9_mostLeftBy_25] at h
    refine g_iload_n (pc := 25) C 3 rfl dX9_mostLeftBy_25 ?_
    refine g_aload_n (pc := 26) C 0 rfl dX9_mostLeftBy_26 ?_
    refine g_get (pc := 27) C FOK_X9 0 rfl rfl 8 (by decide) kw_375 rfl dX9_mostLeftBy_27 ?_
    refine g_get (pc := 30) C FOK_X2 9 rfl rfl 1 (by decide) kw_283 rfl dX9_mostLeftBy_30 ?_
    refine g_icmp_ge (pc := 33) C (tgt := 131) dX9_mostLeftBy_33 rfl h (fun h => ?_) (fun h => ?_)
    · refine g_iload_n (pc := 131) C 2 rfl dX9_mostLeftBy_131 ?_
      cases h
      exact g_iret C E dX9_mostLeftBy_132
    · refine g_iconst (pc := 36) C dX9_mostLeftBy_36 ci_1 ?_
      refine g_istore (pc := 37) C [(4, .int 1), (0, .ref (a0 0)), (1, .int n1), (2, .int x2), (3, .int x3)] dX9_mostLeftBy_37 (by decide) rfl ?_
      refine g_lv [1, 2, 3, 4, 0] rfl ?_
      exact j_X9_mostLeftBy_39 C E   ih FU x2 x3 1 r_v h
set_option maxRecDepth 100000 in
set_option maxHeartbeats 4000000 in
theorem j_X9_mostLeftBy_2 {J : Jt} {Z : Zt} {a0 : Nat → Nat} {a1 : Nat → Nat} {a2 : Nat → Nat} {a3 : Nat → Nat} {a4 : Nat → Nat} {k_tape : Nat} {k_trial : Nat} {k_task : Nat} {k_season : Nat} {k_stuffing : Nat} {k_images : Nat} {k_sparePlan : Nat} {k_rule : Nat} {k_spareRule : Nat} {k_spareNotes : Nat} {x_latest : Value} {x_imageMany : Int32} {x_refusedSteps : Int32} {x_missing : Int32} {x_misused : Int32} {s_year : Int32} {s_wet : Int32} {s_lost : Int32} {s_eaten : Int32} {s_tied : Int32} {s_ripeMany : Int32} {s_gone : Nat → Int32} {s_place : Nat → Int32} {s_heard : Nat → Int32} {s_many : Nat → Int32} {s_lying : Nat → Int32} {s_ripe : Nat → Int32} {r_n : Nat} {p_beds : Int32} {p_letters : Int32} {p_readers : Int32} {p_far : Nat → Int32} {p_drain : Nat → Int32} {p_length : Nat → Int32} {p_words : Nat → Int32} {p_home : Nat → Int32} {b_last : Nat → Int32} {b_lines : Int32} {n1 : Int32} {r : Int32} {o_r_v : Nat → Int32} (C : Cx J Z cX9_mostLeftBy 6 RX9 (some .int) rm_X9_mostLeftBy) (E : Ez J Z 0 0 (some (.int r)) (cs_X9 (a0 0) k_tape (a1 0) k_trial k_task k_season k_stuffing k_images (a2 0) (a3 0) k_sparePlan k_rule k_spareRule (a4 0) k_spareNotes x_latest x_imageMany x_refusedSteps x_missing x_misused ++ cs_X4 J.2.2.1 a1 s_year s_wet s_lost s_eaten s_tied s_ripeMany s_gone s_place s_heard s_many s_lying s_ripe ++ cs_A J.2.2.1 a2 r_n o_r_v ++ cs_X2 J.2.2.1 a3 p_beds p_letters p_readers p_far p_drain p_length p_words p_home ++ cs_X0 J.2.2.1 a4 b_last b_lines)) : ∀ (n : Nat) (x2 : Int32) (r_v : Nat → Int32), f_X9_mostLeftBy_2 s_gone s_many s_lying r_n p_beds p_letters p_drain p_length p_words b_last n1 n x2 r_v = some (r, o_r_v) → G J Z 0 0 (cs_X9 (a0 0) k_tape (a1 0) k_trial k_task k_season k_stuffing k_images (a2 0) (a3 0) k_sparePlan k_rule k_spareRule (a4 0) k_spareNotes x_latest x_imageMany x_refusedSteps x_missing x_misused ++ cs_X4 J.2.2.1 a1 s_year s_wet s_lost s_eaten s_tied s_ripeMany s_gone s_place s_heard s_many s_lying s_ripe ++ cs_A J.2.2.1 a2 r_n r_v ++ cs_X2 J.2.2.1 a3 p_beds p_letters p_readers p_far p_drain p_length p_words p_home ++ cs_X0 J.2.2.1 a4 b_last b_lines) 6 [(0, .ref (a0 0)), (1, .int n1), (2, .int x2)] 2 [] := by
  intro n
  induction n with
  | zero =>
    intro x2 r_v h
    rw [f_X9_mostLeftBy_2] at h
    cases h
  | succ n ih =>
    intro x2 r_v h
    rw [f_X9_mostLeftBy_2] at h
    refine g_iload_n (pc := 2) C 2 rfl dX9_mostLeftBy_2 ?_
    refine g_bipush (pc := 3) C dX9_mostLeftBy_3 cb_16 ?_
    refine g_icmp_gt (pc := 5) C (tgt := 21) dX9_mostLeftBy_5 rfl h (fun h => ?_) (fun h => ?_)
    · refine g_iconst (pc := 21) C dX9_mostLeftBy_21 ci_0 ?_
      refine g_istore_n (pc := 22) C [(2, .int 0), (0, .ref (a0 0)), (1, .int n1)] dX9_mostLeftBy_22 rfl (by decide) rfl ?_
      refine g_iconst (pc := 23) C dX9_mostLeftBy_23 ci_0 ?_
      refine g_istore_n (pc := 24) C [(3, .int 0), (2, .int 0), (0, .ref (a0 0)), (1, .int n1)] dX9_mostLeftBy_24 rfl (by decide) rfl ?_
      refine g_lv [2, 3, 1, 0] rfl ?_
      exact j_X9_mostLeftBy_25 C E    FU 0 0 r_v h
    · refine g_aload_n (pc := 8) C 0 rfl dX9_mostLeftBy_8 ?_
      refine g_get (pc := 9) C FOK_X9 0 rfl rfl 7 (by decide) kw_374 rfl dX9_mostLeftBy_9 ?_
      refine g_iload_n (pc := 12) C 2 rfl dX9_mostLeftBy_12 ?_
      refine g_iconst (pc := 13) C dX9_mostLeftBy_13 ci_0 ?_
      obtain ⟨hi, h⟩ := ix_of h
      refine g_iast (pc := 14) C (w' := cs_X9 (a0 0) k_tape (a1 0) k_trial k_task k_season k_stuffing k_images (a2 0) (a3 0) k_sparePlan k_rule k_spareRule (a4 0) k_spareNotes x_latest x_imageMany x_refusedSteps x_missing x_misused ++ cs_X4 J.2.2.1 a1 s_year s_wet s_lost s_eaten s_tied s_ripeMany s_gone s_place s_heard s_many s_lying s_ripe ++ cs_A J.2.2.1 a2 r_n (upd r_v x2.toNatClampNeg 0) ++ cs_X2 J.2.2.1 a3 p_beds p_letters p_readers p_far p_drain p_length p_words p_home ++ cs_X0 J.2.2.1 a4 b_last b_lines) 8 rfl hi dX9_mostLeftBy_14 rfl ?_
      refine g_iinc (pc := 15) C (j := 2) [(2, .int (x2 + 1)), (0, .ref (a0 0)), (1, .int n1)] dX9_mostLeftBy_15 rfl (ii_1 _) (by decide) rfl ?_
      refine g_goto (pc := 18) C (tgt := 2) dX9_mostLeftBy_18 rfl ?_
      refine g_lv [1, 2, 0] rfl ?_
      exact ih (x2 + 1) (upd r_v x2.toNatClampNeg 0) h
set_option maxRecDepth 100000 in
set_option maxHeartbeats 4000000 in
theorem t_X9_mostLeftBy {J : Jt} {a0 : Nat → Nat} {a1 : Nat → Nat} {a2 : Nat → Nat} {a3 : Nat → Nat} {a4 : Nat → Nat} {k_tape : Nat} {k_trial : Nat} {k_task : Nat} {k_season : Nat} {k_stuffing : Nat} {k_images : Nat} {k_sparePlan : Nat} {k_rule : Nat} {k_spareRule : Nat} {k_spareNotes : Nat} {x_latest : Value} {x_imageMany : Int32} {x_refusedSteps : Int32} {x_missing : Int32} {x_misused : Int32} {s_year : Int32} {s_wet : Int32} {s_lost : Int32} {s_eaten : Int32} {s_tied : Int32} {s_ripeMany : Int32} {s_gone : Nat → Int32} {s_place : Nat → Int32} {s_heard : Nat → Int32} {s_many : Nat → Int32} {s_lying : Nat → Int32} {s_ripe : Nat → Int32} {r_n : Nat} {r_v : Nat → Int32} {p_beds : Int32} {p_letters : Int32} {p_readers : Int32} {p_far : Nat → Int32} {p_drain : Nat → Int32} {p_length : Nat → Int32} {p_words : Nat → Int32} {p_home : Nat → Int32} {b_last : Nat → Int32} {b_lines : Int32} {n1 : Int32} {r : Int32} {o_r_v : Nat → Int32} (h : f_X9_mostLeftBy s_gone s_many s_lying r_n r_v p_beds p_letters p_drain p_length p_words b_last n1 = some (r, o_r_v)) : Mt J yX9_mostLeftBy cX9_mostLeftBy 6 (some .int) rm_X9_mostLeftBy [.ref (a0 0), .int n1] (cs_X9 (a0 0) k_tape (a1 0) k_trial k_task k_season k_stuffing k_images (a2 0) (a3 0) k_sparePlan k_rule k_spareRule (a4 0) k_spareNotes x_latest x_imageMany x_refusedSteps x_missing x_misused ++ cs_X4 J.2.2.1 a1 s_year s_wet s_lost s_eaten s_tied s_ripeMany s_gone s_place s_heard s_many s_lying s_ripe ++ cs_A J.2.2.1 a2 r_n r_v ++ cs_X2 J.2.2.1 a3 p_beds p_letters p_readers p_far p_drain p_length p_words p_home ++ cs_X0 J.2.2.1 a4 b_last b_lines) (some (.int r)) (cs_X9 (a0 0) k_tape (a1 0) k_trial k_task k_season k_stuffing k_images (a2 0) (a3 0) k_sparePlan k_rule k_spareRule (a4 0) k_spareNotes x_latest x_imageMany x_refusedSteps x_missing x_misused ++ cs_X4 J.2.2.1 a1 s_year s_wet s_lost s_eaten s_tied s_ripeMany s_gone s_place s_heard s_many s_lying s_ripe ++ cs_A J.2.2.1 a2 r_n o_r_v ++ cs_X2 J.2.2.1 a3 p_beds p_letters p_readers p_far p_drain p_length p_words p_home ++ cs_X0 J.2.2.1 a4 b_last b_lines) := by
  refine Mt_of (own := RX9) (by decide) rfl (Nat.le_of_ble_eq_true rfl) rfl (fun Z C E => ?_)
  unfold f_X9_mostLeftBy at h
  show G J Z 0 0 (cs_X9 (a0 0) k_tape (a1 0) k_trial k_task k_season k_stuffing k_images (a2 0) (a3 0) k_sparePlan k_rule k_spareRule (a4 0) k_spareNotes x_latest x_imageMany x_refusedSteps x_missing x_misused ++ cs_X4 J.2.2.1 a1 s_year s_wet s_lost s_eaten s_tied s_ripeMany s_gone s_place s_heard s_many s_lying s_ripe ++ cs_A J.2.2.1 a2 r_n r_v ++ cs_X2 J.2.2.1 a3 p_beds p_letters p_readers p_far p_drain p_length p_words p_home ++ cs_X0 J.2.2.1 a4 b_last b_lines) 6 [(0, .ref (a0 0)), (1, .int n1)] 0 []
  refine g_iconst (pc := 0) C dX9_mostLeftBy_0 ci_0 ?_
  refine g_istore_n (pc := 1) C [(2, .int 0), (0, .ref (a0 0)), (1, .int n1)] dX9_mostLeftBy_1 rfl (by decide) rfl ?_
  refine g_lv [1, 2, 0] rfl ?_
  exact j_X9_mostLeftBy_2 C E    FU 0 r_v h
noncomputable def f_X9_look_14  (s_gone : Nat → Int32) (s_many : Nat → Int32) (s_lying : Nat → Int32) (r_n : Nat) (p_beds : Int32) (p_letters : Int32) (p_drain : Nat → Int32) (p_length : Nat → Int32) (p_words : Nat → Int32) (b_last : Nat → Int32) (n1 : Int32) : Nat → Int32 → Int32 → Int32 → Int32 → (Nat → Int32) → Option (Nat × Int32 × Int32 × (Nat → Int32))
  | 0, _, _, _, _, _ => none
  | n + 1, x2, x3, x4, x_misused, r_v => if p_beds ≤ x4 then if n1 = 0 then some (0, x2, x_misused, r_v) else some (0, x3, x_misused, r_v) else if ixb x4 6 then if (b_last x4.toNatClampNeg) = (-1) then b2 (f_X9_mostLeftBy s_gone s_many s_lying r_n r_v p_beds p_letters p_drain p_length p_words b_last x4) (fun v1 c2 => if x2 = (-1) then f_X9_look_14 s_gone s_many s_lying r_n p_beds p_letters p_drain p_length p_words b_last n1 n x4 v1 (x4 + 1) x_misused c2 else if x3 ≤ v1 then f_X9_look_14 s_gone s_many s_lying r_n p_beds p_letters p_drain p_length p_words b_last n1 n x2 x3 (x4 + 1) x_misused c2 else f_X9_look_14 s_gone s_many s_lying r_n p_beds p_letters p_drain p_length p_words b_last n1 n x4 v1 (x4 + 1) x_misused c2) else f_X9_look_14 s_gone s_many s_lying r_n p_beds p_letters p_drain p_length p_words b_last n1 n x2 x3 (x4 + 1) x_misused r_v else none
noncomputable def f_X9_look (x_misused : Int32) (s_gone : Nat → Int32) (s_many : Nat → Int32) (s_lying : Nat → Int32) (r_n : Nat) (r_v : Nat → Int32) (p_beds : Int32) (p_letters : Int32) (p_drain : Nat → Int32) (p_length : Nat → Int32) (p_words : Nat → Int32) (b_last : Nat → Int32) (n1 : Int32) : Option (Nat × Int32 × Int32 × (Nat → Int32)) := b2 (f_X9_needRange x_misused n1 0 1) (fun e3 c4 => if e3 = 0 then f_X9_look_14 s_gone s_many s_lying r_n p_beds p_letters p_drain p_length p_words b_last n1 FU (-1) (-1) 0 c4 r_v else some (e3, 0, c4, r_v))
def rm_X9_look : Room := { frames := 10, cells := 1, slots := 6, locals := 143 }
set_option maxRecDepth 100000 in
set_option maxHeartbeats 4000000 in
theorem j_X9_look_14 {J : Jt} {Z : Zt} {a0 : Nat → Nat} {a1 : Nat → Nat} {a2 : Nat → Nat} {a3 : Nat → Nat} {a4 : Nat → Nat} {k_tape : Nat} {k_trial : Nat} {k_task : Nat} {k_season : Nat} {k_stuffing : Nat} {k_images : Nat} {k_sparePlan : Nat} {k_rule : Nat} {k_spareRule : Nat} {k_spareNotes : Nat} {x_latest : Value} {x_imageMany : Int32} {x_refusedSteps : Int32} {x_missing : Int32} {s_year : Int32} {s_wet : Int32} {s_lost : Int32} {s_eaten : Int32} {s_tied : Int32} {s_ripeMany : Int32} {s_gone : Nat → Int32} {s_place : Nat → Int32} {s_heard : Nat → Int32} {s_many : Nat → Int32} {s_lying : Nat → Int32} {s_ripe : Nat → Int32} {r_n : Nat} {p_beds : Int32} {p_letters : Int32} {p_readers : Int32} {p_far : Nat → Int32} {p_drain : Nat → Int32} {p_length : Nat → Int32} {p_words : Nat → Int32} {p_home : Nat → Int32} {b_last : Nat → Int32} {b_lines : Int32} {n1 : Int32} {ex : Nat} {r : Int32} {o_x_misused : Int32} {o_r_v : Nat → Int32} (C : Cx J Z cX9_look 6 RX9 (some .int) rm_X9_look) (hJ : J.1.stackTraces = false) (E : EzX J Z 1 6 ex (some (.int r)) (fun _ : Unit => cs_X9 (a0 0) k_tape (a1 0) k_trial k_task k_season k_stuffing k_images (a2 0) (a3 0) k_sparePlan k_rule k_spareRule (a4 0) k_spareNotes x_latest x_imageMany x_refusedSteps x_missing o_x_misused ++ cs_X4 J.2.2.1 a1 s_year s_wet s_lost s_eaten s_tied s_ripeMany s_gone s_place s_heard s_many s_lying s_ripe ++ cs_A J.2.2.1 a2 r_n o_r_v ++ cs_X2 J.2.2.1 a3 p_beds p_letters p_readers p_far p_drain p_length p_words p_home ++ cs_X0 J.2.2.1 a4 b_last b_lines)) : ∀ (n : Nat) (x2 : Int32) (x3 : Int32) (x4 : Int32) (x_misused : Int32) (r_v : Nat → Int32), f_X9_look_14 s_gone s_many s_lying r_n p_beds p_letters p_drain p_length p_words b_last n1 n x2 x3 x4 x_misused r_v = some (ex, r, o_x_misused, o_r_v) → G J Z 1 6 (cs_X9 (a0 0) k_tape (a1 0) k_trial k_task k_season k_stuffing k_images (a2 0) (a3 0) k_sparePlan k_rule k_spareRule (a4 0) k_spareNotes x_latest x_imageMany x_refusedSteps x_missing x_misused ++ cs_X4 J.2.2.1 a1 s_year s_wet s_lost s_eaten s_tied s_ripeMany s_gone s_place s_heard s_many s_lying s_ripe ++ cs_A J.2.2.1 a2 r_n r_v ++ cs_X2 J.2.2.1 a3 p_beds p_letters p_readers p_far p_drain p_length p_words p_home ++ cs_X0 J.2.2.1 a4 b_last b_lines) 6 [(0, .ref (a0 0)), (1, .int n1), (2, .int x2), (3, .int x3), (4, .int x4)] 14 [] := by
  intro n
  induction n with
  | zero =>
    intro x2 x3 x4 x_misused r_v h
    rw [f_X9_look_14] at h
    cases h
  | succ n ih =>
    intro x2 x3 x4 x_misused r_v h
    rw [f_X9_look_14] at h
    refine g_iload (pc := 14) C 4 rfl dX9_look_14 ?_
    refine g_aload_n (pc := 16) C 0 rfl dX9_look_16 ?_
    refine g_get (pc := 17) C FOK_X9 0 rfl rfl 8 (by decide) kw_375 rfl dX9_look_17 ?_
    refine g_get (pc := 20) C FOK_X2 9 rfl rfl 0 (by decide) kw_279 rfl dX9_look_20 ?_
    refine g_icmp_ge (pc := 23) C (tgt := 74) dX9_look_23 rfl h (fun h => ?_) (fun h => ?_)
    · refine g_iload_n (pc := 74) C 1 rfl dX9_look_74 ?_
      refine g_if_ne (pc := 75) C (tgt := 82) dX9_look_75 rfl h (fun h => ?_) (fun h => ?_)
      · refine g_iload_n (pc := 82) C 3 rfl dX9_look_82 ?_
        cases h
        exact g_iretX C E () rfl dX9_look_83
      · refine g_iload_n (pc := 78) C 2 rfl dX9_look_78 ?_
        refine g_goto (pc := 79) C (tgt := 83) dX9_look_79 rfl ?_
        cases h
        exact g_iretX C E () rfl dX9_look_83
    · refine g_aload_n (pc := 26) C 0 rfl dX9_look_26 ?_
      refine g_get (pc := 27) C FOK_X9 0 rfl rfl 12 (by decide) kw_379 rfl dX9_look_27 ?_
      refine g_get (pc := 30) C FOK_X0 15 rfl rfl 0 (by decide) kw_359 rfl dX9_look_30 ?_
      refine g_iload (pc := 33) C 4 rfl dX9_look_33 ?_
      obtain ⟨hi, h⟩ := ix_of h
      refine g_iald (pc := 35) C 16 rfl hi dX9_look_35 ?_
      refine g_iconst (pc := 36) C dX9_look_36 ci_m1 ?_
      refine g_icmp_eq (pc := 37) C (tgt := 43) dX9_look_37 rfl h (fun h => ?_) (fun h => ?_)
      · refine g_aload_n (pc := 43) C 0 rfl dX9_look_43 ?_
        refine g_iload (pc := 44) C 4 rfl dX9_look_44 ?_
        obtain ⟨v1, c2, hc, h⟩ := b2_of h
        refine g_callV (pc := 46) C (w' := cs_X9 (a0 0) k_tape (a1 0) k_trial k_task k_season k_stuffing k_images (a2 0) (a3 0) k_sparePlan k_rule k_spareRule (a4 0) k_spareNotes x_latest x_imageMany x_refusedSteps x_missing x_misused ++ cs_X4 J.2.2.1 a1 s_year s_wet s_lost s_eaten s_tied s_ripeMany s_gone s_place s_heard s_many s_lying s_ripe ++ cs_A J.2.2.1 a2 r_n c2 ++ cs_X2 J.2.2.1 a3 p_beds p_letters p_readers p_far p_drain p_length p_words p_home ++ cs_X0 J.2.2.1 a4 b_last b_lines) (As := [.int x4]) (st := []) (ci := 9) (q0 := 0) rfl rfl (t_X9_mostLeftBy (k_tape := k_tape) (k_trial := k_trial) (k_task := k_task) (k_season := k_season) (k_stuffing := k_stuffing) (k_images := k_images) (k_sparePlan := k_sparePlan) (k_rule := k_rule) (k_spareRule := k_spareRule) (k_spareNotes := k_spareNotes) (a0 := a0) (a1 := a1) (a2 := a2) (a3 := a3) (a4 := a4) hc) Sub.same kw_1116 kw_1118 kw_15 kw_86 hy_X9_mostLeftBy kw_1119 rfl (Nat.le_of_ble_eq_true rfl) (Nat.le_of_ble_eq_true rfl) (Nat.le_of_ble_eq_true rfl) (Nat.le_of_ble_eq_true rfl) (Nat.le_of_ble_eq_true rfl) dX9_look_46 ?_
        refine g_istore (pc := 49) C [(5, .int v1), (0, .ref (a0 0)), (1, .int n1), (2, .int x2), (3, .int x3), (4, .int x4)] dX9_look_49 (by decide) rfl ?_
        refine g_iload_n (pc := 51) C 3 rfl dX9_look_51 ?_
        refine g_iconst (pc := 52) C dX9_look_52 ci_m1 ?_
        refine g_icmp_eq (pc := 53) C (tgt := 62) dX9_look_53 rfl h (fun h => ?_) (fun h => ?_)
        · refine g_iload (pc := 62) C 5 rfl dX9_look_62 ?_
          refine g_istore_n (pc := 64) C [(2, .int x4), (5, .int v1), (0, .ref (a0 0)), (1, .int n1), (3, .int x3), (4, .int x4)] dX9_look_64 rfl (by decide) rfl ?_
          refine g_iload (pc := 65) C 1 rfl dX9_look_65 ?_
          refine g_istore_n (pc := 67) C [(3, .int v1), (2, .int x4), (5, .int v1), (0, .ref (a0 0)), (1, .int n1), (4, .int x4)] dX9_look_67 rfl (by decide) rfl ?_
          refine g_iinc (pc := 68) C (j := 5) [(4, .int (x4 + 1)), (3, .int v1), (2, .int x4), (5, .int v1), (0, .ref (a0 0)), (1, .int n1)] dX9_look_68 rfl (ii_1 _) (by decide) rfl ?_
          refine g_goto (pc := 71) C (tgt := 14) dX9_look_71 rfl ?_
          refine g_lv [4, 5, 2, 1, 0] rfl ?_
          exact ih x4 v1 (x4 + 1) x_misused c2 h
        · refine g_iload (pc := 56) C 0 rfl dX9_look_56 ?_
          refine g_iload_n (pc := 58) C 4 rfl dX9_look_58 ?_
          refine g_icmp_ge (pc := 59) C (tgt := 68) dX9_look_59 rfl h (fun h => ?_) (fun h => ?_)
          · refine g_iinc (pc := 68) C (j := 5) [(4, .int (x4 + 1)), (5, .int v1), (0, .ref (a0 0)), (1, .int n1), (2, .int x2), (3, .int x3)] dX9_look_68 rfl (ii_1 _) (by decide) rfl ?_
            refine g_goto (pc := 71) C (tgt := 14) dX9_look_71 rfl ?_
            refine g_lv [2, 3, 4, 5, 0] rfl ?_
            exact ih x2 x3 (x4 + 1) x_misused c2 h
          · refine g_iload (pc := 62) C 5 rfl dX9_look_62 ?_
            refine g_istore_n (pc := 64) C [(2, .int x4), (5, .int v1), (0, .ref (a0 0)), (1, .int n1), (3, .int x3), (4, .int x4)] dX9_look_64 rfl (by decide) rfl ?_
            refine g_iload (pc := 65) C 1 rfl dX9_look_65 ?_
            refine g_istore_n (pc := 67) C [(3, .int v1), (2, .int x4), (5, .int v1), (0, .ref (a0 0)), (1, .int n1), (4, .int x4)] dX9_look_67 rfl (by decide) rfl ?_
            refine g_iinc (pc := 68) C (j := 5) [(4, .int (x4 + 1)), (3, .int v1), (2, .int x4), (5, .int v1), (0, .ref (a0 0)), (1, .int n1)] dX9_look_68 rfl (ii_1 _) (by decide) rfl ?_
            refine g_goto (pc := 71) C (tgt := 14) dX9_look_71 rfl ?_
            refine g_lv [4, 5, 2, 1, 0] rfl ?_
            exact ih x4 v1 (x4 + 1) x_misused c2 h
      · refine g_goto (pc := 40) C (tgt := 68) dX9_look_40 rfl ?_
        refine g_iinc (pc := 68) C (j := 4) [(4, .int (x4 + 1)), (0, .ref (a0 0)), (1, .int n1), (2, .int x2), (3, .int x3)] dX9_look_68 rfl (ii_1 _) (by decide) rfl ?_
        refine g_goto (pc := 71) C (tgt := 14) dX9_look_71 rfl ?_
        refine g_lv [1, 2, 3, 4, 0] rfl ?_
        exact ih x2 x3 (x4 + 1) x_misused r_v h
set_option maxRecDepth 100000 in
set_option maxHeartbeats 4000000 in
theorem t_X9_look {J : Jt} {a0 : Nat → Nat} {a1 : Nat → Nat} {a2 : Nat → Nat} {a3 : Nat → Nat} {a4 : Nat → Nat} {k_tape : Nat} {k_trial : Nat} {k_task : Nat} {k_season : Nat} {k_stuffing : Nat} {k_images : Nat} {k_sparePlan : Nat} {k_rule : Nat} {k_spareRule : Nat} {k_spareNotes : Nat} {x_latest : Value} {x_imageMany : Int32} {x_refusedSteps : Int32} {x_missing : Int32} {x_misused : Int32} {s_year : Int32} {s_wet : Int32} {s_lost : Int32} {s_eaten : Int32} {s_tied : Int32} {s_ripeMany : Int32} {s_gone : Nat → Int32} {s_place : Nat → Int32} {s_heard : Nat → Int32} {s_many : Nat → Int32} {s_lying : Nat → Int32} {s_ripe : Nat → Int32} {r_n : Nat} {r_v : Nat → Int32} {p_beds : Int32} {p_letters : Int32} {p_readers : Int32} {p_far : Nat → Int32} {p_drain : Nat → Int32} {p_length : Nat → Int32} {p_words : Nat → Int32} {p_home : Nat → Int32} {b_last : Nat → Int32} {b_lines : Int32} {n1 : Int32} {ex : Nat} {r : Int32} {o_x_misused : Int32} {o_r_v : Nat → Int32} (hJ : J.1.stackTraces = false) (h : f_X9_look x_misused s_gone s_many s_lying r_n r_v p_beds p_letters p_drain p_length p_words b_last n1 = some (ex, r, o_x_misused, o_r_v)) : MtX J yX9_look cX9_look 6 (some .int) rm_X9_look [.ref (a0 0), .int n1] (cs_X9 (a0 0) k_tape (a1 0) k_trial k_task k_season k_stuffing k_images (a2 0) (a3 0) k_sparePlan k_rule k_spareRule (a4 0) k_spareNotes x_latest x_imageMany x_refusedSteps x_missing x_misused ++ cs_X4 J.2.2.1 a1 s_year s_wet s_lost s_eaten s_tied s_ripeMany s_gone s_place s_heard s_many s_lying s_ripe ++ cs_A J.2.2.1 a2 r_n r_v ++ cs_X2 J.2.2.1 a3 p_beds p_letters p_readers p_far p_drain p_length p_words p_home ++ cs_X0 J.2.2.1 a4 b_last b_lines) ex (some (.int r)) (fun _ : Unit => cs_X9 (a0 0) k_tape (a1 0) k_trial k_task k_season k_stuffing k_images (a2 0) (a3 0) k_sparePlan k_rule k_spareRule (a4 0) k_spareNotes x_latest x_imageMany x_refusedSteps x_missing o_x_misused ++ cs_X4 J.2.2.1 a1 s_year s_wet s_lost s_eaten s_tied s_ripeMany s_gone s_place s_heard s_many s_lying s_ripe ++ cs_A J.2.2.1 a2 r_n o_r_v ++ cs_X2 J.2.2.1 a3 p_beds p_letters p_readers p_far p_drain p_length p_words p_home ++ cs_X0 J.2.2.1 a4 b_last b_lines) := by
  refine MtX_of (own := RX9) (by decide) rfl (Nat.le_of_ble_eq_true rfl) rfl (fun Z C E => ?_)
  unfold f_X9_look at h
  show G J Z 0 0 (cs_X9 (a0 0) k_tape (a1 0) k_trial k_task k_season k_stuffing k_images (a2 0) (a3 0) k_sparePlan k_rule k_spareRule (a4 0) k_spareNotes x_latest x_imageMany x_refusedSteps x_missing x_misused ++ cs_X4 J.2.2.1 a1 s_year s_wet s_lost s_eaten s_tied s_ripeMany s_gone s_place s_heard s_many s_lying s_ripe ++ cs_A J.2.2.1 a2 r_n r_v ++ cs_X2 J.2.2.1 a3 p_beds p_letters p_readers p_far p_drain p_length p_words p_home ++ cs_X0 J.2.2.1 a4 b_last b_lines) 6 [(0, .ref (a0 0)), (1, .int n1)] 0 []
  refine g_aload_n (pc := 0) C 0 rfl dX9_look_0 ?_
  refine g_iload_n (pc := 1) C 1 rfl dX9_look_1 ?_
  refine g_iconst (pc := 2) C dX9_look_2 ci_0 ?_
  refine g_iconst (pc := 3) C dX9_look_3 ci_1 ?_
  obtain ⟨e3, c4, hc, h⟩ := b2_of h
  refine g_xcallU (pc := 4) C (w' := cs_X9 (a0 0) k_tape (a1 0) k_trial k_task k_season k_stuffing k_images (a2 0) (a3 0) k_sparePlan k_rule k_spareRule (a4 0) k_spareNotes x_latest x_imageMany x_refusedSteps x_missing c4 ++ cs_X4 J.2.2.1 a1 s_year s_wet s_lost s_eaten s_tied s_ripeMany s_gone s_place s_heard s_many s_lying s_ripe ++ cs_A J.2.2.1 a2 r_n r_v ++ cs_X2 J.2.2.1 a3 p_beds p_letters p_readers p_far p_drain p_length p_words p_home ++ cs_X0 J.2.2.1 a4 b_last b_lines) (As := [.int n1, .int 0, .int 1]) (st := []) (ci := 9) (q0 := 0) rfl rfl (t_X9_needRange (k_tape := k_tape) (k_now := (a1 0)) (k_trial := k_trial) (k_task := k_task) (k_season := k_season) (k_stuffing := k_stuffing) (k_images := k_images) (k_row := (a2 0)) (k_plan := (a3 0)) (k_sparePlan := k_sparePlan) (k_rule := k_rule) (k_spareRule := k_spareRule) (k_notes := (a4 0)) (k_spareNotes := k_spareNotes) (a0 := a0) hJ hc) (Sub.gen [0] [1, 2, 3, 4, 5, 6, 7, 8, 9, 10, 11, 12, 13, 14, 15, 16] [16, 0, 1, 2, 3, 4, 5, 6, 7, 8, 9, 10, 11, 12, 13, 14, 15] rfl (by decide) rfl (by decide) (by decide) rfl (by decide)) kw_545 kw_547 kw_2 kw_86 hy_X9_needRange kw_548 rfl (Nat.le_of_ble_eq_true rfl) (Nat.le_of_ble_eq_true rfl) (Nat.le_of_ble_eq_true rfl) (Nat.le_of_ble_eq_true rfl) (Nat.le_of_ble_eq_true rfl) dX9_look_4 (fun he => ?_) (fun he => ?_)
  · subst he
    rw [if_pos rfl] at h
    refine g_wid (n' := 1) (k' := 6) (Nat.le_of_ble_eq_true rfl) (Nat.le_of_ble_eq_true rfl) ?_
    refine g_iconst (pc := 7) C dX9_look_7 ci_m1 ?_
    refine g_istore_n (pc := 8) C [(2, .int (-1)), (0, .ref (a0 0)), (1, .int n1)] dX9_look_8 rfl (by decide) rfl ?_
    refine g_iconst (pc := 9) C dX9_look_9 ci_m1 ?_
    refine g_istore_n (pc := 10) C [(3, .int (-1)), (2, .int (-1)), (0, .ref (a0 0)), (1, .int n1)] dX9_look_10 rfl (by decide) rfl ?_
    refine g_iconst (pc := 11) C dX9_look_11 ci_0 ?_
    refine g_istore (pc := 12) C [(4, .int 0), (3, .int (-1)), (2, .int (-1)), (0, .ref (a0 0)), (1, .int n1)] dX9_look_12 (by decide) rfl ?_
    refine g_lv [3, 4, 2, 1, 0] rfl ?_
    exact j_X9_look_14 C hJ E    FU (-1) (-1) 0 c4 r_v h
  · rw [if_neg he] at h
    cases h
    exact gt_out C he E (Nat.le_of_ble_eq_true rfl) (Nat.le_of_ble_eq_true rfl) () rfl
noncomputable def f_X9_power_5   (n1 : Int32) (n2 : Int32) : Nat → Int64 → Int32 → Option (Int64)
  | 0, _, _ => none
  | n + 1, x2, x4 => if n2 ≤ x4 then some x2 else f_X9_power_5 n1 n2 n (x2 * n1.toInt64) (x4 + 1)
noncomputable def f_X9_power  (n1 : Int32) (n2 : Int32) : Option (Int64) := f_X9_power_5 n1 n2 FU 1 0
def rm_X9_power : Room := { frames := 0, cells := 0, slots := 0, locals := 0 }
set_option maxRecDepth 100000 in
set_option maxHeartbeats 4000000 in
theorem j_X9_power_5 {J : Jt} {Z : Zt}  {n1 : Int32} {n2 : Int32} {r : Int64} (C : Cx J Z cX9_power 5 RX9 (some .long) rm_X9_power) (E : Ez J Z 0 0 (some (.long r)) ([])) : ∀ (n : Nat) (x2 : Int64) (x4 : Int32), f_X9_power_5 n1 n2 n x2 x4 = some r → G J Z 0 0 ([]) 5 [(0, .int n1), (1, .int n2), (2, .long x2), (4, .int x4)] 5 [] := by
  intro n
  induction n with
  | zero =>
    intro x2 x4 h
    rw [f_X9_power_5] at h
    cases h
  | succ n ih =>
    intro x2 x4 h
    rw [f_X9_power_5] at h
    refine g_iload (pc := 5) C 3 rfl dX9_power_5 ?_
    refine g_iload_n (pc := 7) C 1 rfl dX9_power_7 ?_
    refine g_icmp_ge (pc := 8) C (tgt := 22) dX9_power_8 rfl h (fun h => ?_) (fun h => ?_)
    · refine g_lload_n (pc := 22) C 2 rfl dX9_power_22 ?_
      cases h
      exact g_lret C E dX9_power_23
    · refine g_lload_n (pc := 11) C 2 rfl dX9_power_11 ?_
      refine g_iload_n (pc := 12) C 0 rfl dX9_power_12 ?_
      refine g_i2l (pc := 13) C dX9_power_13 ?_
      refine g_lmul (pc := 14) C dX9_power_14 ?_
      refine g_lstore_n (pc := 15) C [(2, .long (x2 * n1.toInt64)), (0, .int n1), (1, .int n2), (4, .int x4)] dX9_power_15 rfl (by decide) rfl ?_
      refine g_iinc (pc := 16) C (j := 3) [(4, .int (x4 + 1)), (2, .long (x2 * n1.toInt64)), (0, .int n1), (1, .int n2)] dX9_power_16 rfl (ii_1 _) (by decide) rfl ?_
      refine g_goto (pc := 19) C (tgt := 5) dX9_power_19 rfl ?_
      refine g_lv [2, 3, 1, 0] rfl ?_
      exact ih (x2 * n1.toInt64) (x4 + 1) h
set_option maxRecDepth 100000 in
set_option maxHeartbeats 4000000 in
theorem t_X9_power {J : Jt}  {n1 : Int32} {n2 : Int32} {r : Int64} (h : f_X9_power n1 n2 = some r) : Mt J yX9_power cX9_power 5 (some .long) rm_X9_power [.int n1, .int n2] ([]) (some (.long r)) ([]) := by
  refine Mt_of (own := RX9) (by decide) rfl (Nat.le_of_ble_eq_true rfl) rfl (fun Z C E => ?_)
  unfold f_X9_power at h
  show G J Z 0 0 ([]) 5 [(0, .int n1), (1, .int n2)] 0 []
  refine g_lconst (pc := 0) C (v := 1) dX9_power_0 (by decide) ?_
  refine g_lstore_n (pc := 1) C [(2, .long 1), (0, .int n1), (1, .int n2)] dX9_power_1 rfl (by decide) rfl ?_
  refine g_iconst (pc := 2) C dX9_power_2 ci_0 ?_
  refine g_istore (pc := 3) C [(4, .int 0), (2, .long 1), (0, .int n1), (1, .int n2)] dX9_power_3 (by decide) rfl ?_
  refine g_lv [2, 3, 1, 0] rfl ?_
  exact j_X9_power_5 C E    FU 1 0 h
noncomputable def f_X9_pods_159   (n1 : Int32) (n2 : Int32) (n3 : Int32) (n4 : Int32) (x5 : Int64) (x9 : Int64) (x_misused : Int32) : Option (Nat × Int64 × Int32) := if n4 = 0 then some (0, x5, x_misused) else some (0, x9, x_misused)
noncomputable def f_X9_pods_112   (n1 : Int32) (n2 : Int32) (n3 : Int32) (n4 : Int32) : Nat → Int64 → Int64 → Int32 → Int32 → Option (Nat × Int64 × Int32)
  | 0, _, _, _, _ => none
  | n + 1, x5, x9, x11, x_misused => if 48 ≤ x11 then f_X9_pods_159 n1 n2 n3 n4 x5 x9 x_misused else if (lg_cmp x9 1) ≤ 0 then f_X9_pods_159 n1 n2 n3 n4 x5 x9 x_misused else if (lg_cmp (x5 - x5 / 2 * 2) 0) = 0 then f_X9_pods_112 n1 n2 n3 n4 n (x5 / 2) (x9 / 2) (x11 + 1) x_misused else f_X9_pods_159 n1 n2 n3 n4 x5 x9 x_misused
noncomputable def f_X9_pods_79   (n1 : Int32) (n2 : Int32) (n3 : Int32) (n4 : Int32) (k41 : Int64 → Int64 → Int32 → Int32 → Option (Nat × Int64 × Int32)) (x5 : Int64) (x7 : Int64) (x9 : Int32) (x_misused : Int32) : Option (Nat × Int64 × Int32) := if ((x9 + 1).toInt64) = 0 then none else k41 x5 ((x7 * ((n1 - x9).toInt64)) / ((x9 + 1).toInt64)) (x9 + 1) x_misused
noncomputable def f_X9_pods_41   (n1 : Int32) (n2 : Int32) (n3 : Int32) (n4 : Int32) : Nat → Int64 → Int64 → Int32 → Int32 → Option (Nat × Int64 × Int32)
  | 0, _, _, _, _ => none
  | n + 1, x5, x7, x9, x_misused => if n1 < x9 then b1 (f_X9_power 16 n1) (fun v1 => f_X9_pods_112 n1 n2 n3 n4 FU x5 v1 0 x_misused) else if x9 < n2 then f_X9_pods_79 n1 n2 n3 n4 (f_X9_pods_41 n1 n2 n3 n4 n) x5 x7 x9 x_misused else b1 (f_X9_power n3 x9) (fun v2 => b1 (f_X9_power (16 - n3) (n1 - x9)) (fun v3 => f_X9_pods_79 n1 n2 n3 n4 (f_X9_pods_41 n1 n2 n3 n4 n) (x5 + ((x7 * v2) * v3)) x7 x9 x_misused))
noncomputable def f_X9_pods (x_misused : Int32) (n1 : Int32) (n2 : Int32) (n3 : Int32) (n4 : Int32) : Option (Nat × Int64 × Int32) := b2 (f_X9_needRange x_misused n1 0 12) (fun e4 c5 => if e4 = 0 then b2 (f_X9_needRange c5 n2 0 13) (fun e6 c7 => if e6 = 0 then b2 (f_X9_needRange c7 n3 0 16) (fun e8 c9 => if e8 = 0 then b2 (f_X9_needRange c9 n4 0 1) (fun e10 c11 => if e10 = 0 then f_X9_pods_41 n1 n2 n3 n4 FU 0 1 0 c11 else some (e10, 0, c11)) else some (e8, 0, c9)) else some (e6, 0, c7)) else some (e4, 0, c5))
def rm_X9_pods : Room := { frames := 10, cells := 4, slots := 24, locals := 143 }
set_option maxRecDepth 100000 in
set_option maxHeartbeats 4000000 in
theorem j_X9_pods_159 {J : Jt} {Z : Zt} {a0 : Nat → Nat} {k_tape : Nat} {k_now : Nat} {k_trial : Nat} {k_task : Nat} {k_season : Nat} {k_stuffing : Nat} {k_images : Nat} {k_row : Nat} {k_plan : Nat} {k_sparePlan : Nat} {k_rule : Nat} {k_spareRule : Nat} {k_notes : Nat} {k_spareNotes : Nat} {x_latest : Value} {x_imageMany : Int32} {x_refusedSteps : Int32} {x_missing : Int32} {n1 : Int32} {n2 : Int32} {n3 : Int32} {n4 : Int32} {ex : Nat} {r : Int64} {o_x_misused : Int32} (C : Cx J Z cX9_pods 12 RX9 (some .long) rm_X9_pods) (hJ : J.1.stackTraces = false) (E : EzX J Z 4 24 ex (some (.long r)) (fun _ : Unit => cs_X9 (a0 0) k_tape k_now k_trial k_task k_season k_stuffing k_images k_row k_plan k_sparePlan k_rule k_spareRule k_notes k_spareNotes x_latest x_imageMany x_refusedSteps x_missing o_x_misused)) : ∀ (x5 : Int64) (x9 : Int64) (x_misused : Int32), f_X9_pods_159 n1 n2 n3 n4 x5 x9 x_misused = some (ex, r, o_x_misused) → G J Z 4 24 (cs_X9 (a0 0) k_tape k_now k_trial k_task k_season k_stuffing k_images k_row k_plan k_sparePlan k_rule k_spareRule k_notes k_spareNotes x_latest x_imageMany x_refusedSteps x_missing x_misused) 12 [(4, .int n4), (5, .long x5), (9, .long x9)] 159 [] := by
  intro x5 x9 x_misused h
  unfold f_X9_pods_159 at h
  refine g_iload (pc := 159) C 0 rfl dX9_pods_159 ?_
  refine g_if_ne (pc := 161) C (tgt := 169) dX9_pods_161 rfl h (fun h => ?_) (fun h => ?_)
  · refine g_lload (pc := 169) C 2 rfl dX9_pods_169 ?_
    cases h
    exact g_lretX C E () rfl dX9_pods_171
  · refine g_lload (pc := 164) C 1 rfl dX9_pods_164 ?_
    refine g_goto (pc := 166) C (tgt := 171) dX9_pods_166 rfl ?_
    cases h
    exact g_lretX C E () rfl dX9_pods_171
set_option maxRecDepth 100000 in
set_option maxHeartbeats 4000000 in
theorem j_X9_pods_112 {J : Jt} {Z : Zt} {a0 : Nat → Nat} {k_tape : Nat} {k_now : Nat} {k_trial : Nat} {k_task : Nat} {k_season : Nat} {k_stuffing : Nat} {k_images : Nat} {k_row : Nat} {k_plan : Nat} {k_sparePlan : Nat} {k_rule : Nat} {k_spareRule : Nat} {k_notes : Nat} {k_spareNotes : Nat} {x_latest : Value} {x_imageMany : Int32} {x_refusedSteps : Int32} {x_missing : Int32} {n1 : Int32} {n2 : Int32} {n3 : Int32} {n4 : Int32} {ex : Nat} {r : Int64} {o_x_misused : Int32} (C : Cx J Z cX9_pods 12 RX9 (some .long) rm_X9_pods) (hJ : J.1.stackTraces = false) (E : EzX J Z 4 24 ex (some (.long r)) (fun _ : Unit => cs_X9 (a0 0) k_tape k_now k_trial k_task k_season k_stuffing k_images k_row k_plan k_sparePlan k_rule k_spareRule k_notes k_spareNotes x_latest x_imageMany x_refusedSteps x_missing o_x_misused)) : ∀ (n : Nat) (x5 : Int64) (x9 : Int64) (x11 : Int32) (x_misused : Int32), f_X9_pods_112 n1 n2 n3 n4 n x5 x9 x11 x_misused = some (ex, r, o_x_misused) → G J Z 4 24 (cs_X9 (a0 0) k_tape k_now k_trial k_task k_season k_stuffing k_images k_row k_plan k_sparePlan k_rule k_spareRule k_notes k_spareNotes x_latest x_imageMany x_refusedSteps x_missing x_misused) 12 [(4, .int n4), (5, .long x5), (9, .long x9), (11, .int x11)] 112 [] := by
  intro n
  induction n with
  | zero =>
    intro x5 x9 x11 x_misused h
    rw [f_X9_pods_112] at h
    cases h
  | succ n ih =>
    intro x5 x9 x11 x_misused h
    rw [f_X9_pods_112] at h
    refine g_iload (pc := 112) C 3 rfl dX9_pods_112 ?_
    refine g_bipush (pc := 114) C dX9_pods_114 cb_48 ?_
    refine g_icmp_ge (pc := 116) C (tgt := 159) dX9_pods_116 rfl h (fun h => ?_) (fun h => ?_)
    · refine g_lv [0, 1, 2] rfl ?_
      exact j_X9_pods_159 C hJ E    x5 x9 x_misused h
    · refine g_lload (pc := 119) C 2 rfl dX9_pods_119 ?_
      refine g_lconst (pc := 121) C (v := 1) dX9_pods_121 (by decide) ?_
      refine g_lcmp (pc := 122) C dX9_pods_122 ?_
      refine g_if_le (pc := 123) C (tgt := 159) dX9_pods_123 rfl h (fun h => ?_) (fun h => ?_)
      · refine g_lv [0, 1, 2] rfl ?_
        exact j_X9_pods_159 C hJ E    x5 x9 x_misused h
      · refine g_lload (pc := 126) C 1 rfl dX9_pods_126 ?_
        refine g_ldc2 (pc := 128) C dX9_pods_128 kw_1134 ?_
        refine g_lrem (pc := 131) C dX9_pods_131 (by decide) ?_
        refine g_lconst (pc := 132) C (v := 0) dX9_pods_132 (by decide) ?_
        refine g_lcmp (pc := 133) C dX9_pods_133 ?_
        refine g_if_ne (pc := 134) C (tgt := 159) dX9_pods_134 rfl h (fun h => ?_) (fun h => ?_)
        · refine g_lv [0, 1, 2] rfl ?_
          exact j_X9_pods_159 C hJ E    x5 x9 x_misused h
        · refine g_lload (pc := 137) C 1 rfl dX9_pods_137 ?_
          refine g_ldc2 (pc := 139) C dX9_pods_139 kw_1134 ?_
          refine g_ldiv (pc := 142) C dX9_pods_142 (by decide) ?_
          refine g_lstore (pc := 143) C [(5, .long (x5 / 2)), (4, .int n4), (9, .long x9), (11, .int x11)] dX9_pods_143 (by decide) rfl ?_
          refine g_lload (pc := 145) C 2 rfl dX9_pods_145 ?_
          refine g_ldc2 (pc := 147) C dX9_pods_147 kw_1134 ?_
          refine g_ldiv (pc := 150) C dX9_pods_150 (by decide) ?_
          refine g_lstore (pc := 151) C [(9, .long (x9 / 2)), (5, .long (x5 / 2)), (4, .int n4), (11, .int x11)] dX9_pods_151 (by decide) rfl ?_
          refine g_iinc (pc := 153) C (j := 3) [(11, .int (x11 + 1)), (9, .long (x9 / 2)), (5, .long (x5 / 2)), (4, .int n4)] dX9_pods_153 rfl (ii_1 _) (by decide) rfl ?_
          refine g_goto (pc := 156) C (tgt := 112) dX9_pods_156 rfl ?_
          refine g_lv [3, 2, 1, 0] rfl ?_
          exact ih (x5 / 2) (x9 / 2) (x11 + 1) x_misused h
set_option maxRecDepth 100000 in
set_option maxHeartbeats 4000000 in
theorem j_X9_pods_79 {J : Jt} {Z : Zt} {a0 : Nat → Nat} {k_tape : Nat} {k_now : Nat} {k_trial : Nat} {k_task : Nat} {k_season : Nat} {k_stuffing : Nat} {k_images : Nat} {k_row : Nat} {k_plan : Nat} {k_sparePlan : Nat} {k_rule : Nat} {k_spareRule : Nat} {k_notes : Nat} {k_spareNotes : Nat} {x_latest : Value} {x_imageMany : Int32} {x_refusedSteps : Int32} {x_missing : Int32} {n1 : Int32} {n2 : Int32} {n3 : Int32} {n4 : Int32} {ex : Nat} {r : Int64} {o_x_misused : Int32} {k41 : Int64 → Int64 → Int32 → Int32 → Option (Nat × Int64 × Int32)} (C : Cx J Z cX9_pods 12 RX9 (some .long) rm_X9_pods) (hJ : J.1.stackTraces = false) (E : EzX J Z 4 24 ex (some (.long r)) (fun _ : Unit => cs_X9 (a0 0) k_tape k_now k_trial k_task k_season k_stuffing k_images k_row k_plan k_sparePlan k_rule k_spareRule k_notes k_spareNotes x_latest x_imageMany x_refusedSteps x_missing o_x_misused)) (hk41 : ∀ (x5 : Int64) (x7 : Int64) (x9 : Int32) (x_misused : Int32), k41 x5 x7 x9 x_misused = some (ex, r, o_x_misused) → G J Z 4 24 (cs_X9 (a0 0) k_tape k_now k_trial k_task k_season k_stuffing k_images k_row k_plan k_sparePlan k_rule k_spareRule k_notes k_spareNotes x_latest x_imageMany x_refusedSteps x_missing x_misused) 12 [(1, .int n1), (2, .int n2), (3, .int n3), (4, .int n4), (5, .long x5), (7, .long x7), (9, .int x9)] 41 []) : ∀ (x5 : Int64) (x7 : Int64) (x9 : Int32) (x_misused : Int32), f_X9_pods_79 n1 n2 n3 n4 k41 x5 x7 x9 x_misused = some (ex, r, o_x_misused) → G J Z 4 24 (cs_X9 (a0 0) k_tape k_now k_trial k_task k_season k_stuffing k_images k_row k_plan k_sparePlan k_rule k_spareRule k_notes k_spareNotes x_latest x_imageMany x_refusedSteps x_missing x_misused) 12 [(1, .int n1), (2, .int n2), (3, .int n3), (4, .int n4), (5, .long x5), (7, .long x7), (9, .int x9)] 79 [] := by
  intro x5 x7 x9 x_misused h
  unfold f_X9_pods_79 at h
  refine g_lload (pc := 79) C 5 rfl dX9_pods_79 ?_
  refine g_iload_n (pc := 81) C 0 rfl dX9_pods_81 ?_
  refine g_iload (pc := 82) C 6 rfl dX9_pods_82 ?_
  refine g_isub (pc := 84) C dX9_pods_84 ?_
  refine g_i2l (pc := 85) C dX9_pods_85 ?_
  refine g_lmul (pc := 86) C dX9_pods_86 ?_
  refine g_iload (pc := 87) C 6 rfl dX9_pods_87 ?_
  refine g_iconst (pc := 89) C dX9_pods_89 ci_1 ?_
  refine g_iadd (pc := 90) C dX9_pods_90 ?_
  refine g_i2l (pc := 91) C dX9_pods_91 ?_
  obtain ⟨hz, h⟩ := nz_of h
  refine g_ldiv (pc := 92) C dX9_pods_92 hz ?_
  refine g_lstore (pc := 93) C [(7, .long ((x7 * ((n1 - x9).toInt64)) / ((x9 + 1).toInt64))), (1, .int n1), (2, .int n2), (3, .int n3), (4, .int n4), (5, .long x5), (9, .int x9)] dX9_pods_93 (by decide) rfl ?_
  refine g_iinc (pc := 95) C (j := 6) [(9, .int (x9 + 1)), (7, .long ((x7 * ((n1 - x9).toInt64)) / ((x9 + 1).toInt64))), (1, .int n1), (2, .int n2), (3, .int n3), (4, .int n4), (5, .long x5)] dX9_pods_95 rfl (ii_1 _) (by decide) rfl ?_
  refine g_goto (pc := 98) C (tgt := 41) dX9_pods_98 rfl ?_
  refine g_lv [2, 3, 4, 5, 6, 1, 0] rfl ?_
  exact hk41 x5 ((x7 * ((n1 - x9).toInt64)) / ((x9 + 1).toInt64)) (x9 + 1) x_misused h
set_option maxRecDepth 100000 in
set_option maxHeartbeats 4000000 in
theorem j_X9_pods_41 {J : Jt} {Z : Zt} {a0 : Nat → Nat} {k_tape : Nat} {k_now : Nat} {k_trial : Nat} {k_task : Nat} {k_season : Nat} {k_stuffing : Nat} {k_images : Nat} {k_row : Nat} {k_plan : Nat} {k_sparePlan : Nat} {k_rule : Nat} {k_spareRule : Nat} {k_notes : Nat} {k_spareNotes : Nat} {x_latest : Value} {x_imageMany : Int32} {x_refusedSteps : Int32} {x_missing : Int32} {n1 : Int32} {n2 : Int32} {n3 : Int32} {n4 : Int32} {ex : Nat} {r : Int64} {o_x_misused : Int32} (C : Cx J Z cX9_pods 12 RX9 (some .long) rm_X9_pods) (hJ : J.1.stackTraces = false) (E : EzX J Z 4 24 ex (some (.long r)) (fun _ : Unit => cs_X9 (a0 0) k_tape k_now k_trial k_task k_season k_stuffing k_images k_row k_plan k_sparePlan k_rule k_spareRule k_notes k_spareNotes x_latest x_imageMany x_refusedSteps x_missing o_x_misused)) : ∀ (n : Nat) (x5 : Int64) (x7 : Int64) (x9 : Int32) (x_misused : Int32), f_X9_pods_41 n1 n2 n3 n4 n x5 x7 x9 x_misused = some (ex, r, o_x_misused) → G J Z 4 24 (cs_X9 (a0 0) k_tape k_now k_trial k_task k_season k_stuffing k_images k_row k_plan k_sparePlan k_rule k_spareRule k_notes k_spareNotes x_latest x_imageMany x_refusedSteps x_missing x_misused) 12 [(1, .int n1), (2, .int n2), (3, .int n3), (4, .int n4), (5, .long x5), (7, .long x7), (9, .int x9)] 41 [] := by
  intro n
  induction n with
  | zero =>
    intro x5 x7 x9 x_misused h
    rw [f_X9_pods_41] at h
    cases h
  | succ n ih =>
    intro x5 x7 x9 x_misused h
    rw [f_X9_pods_41] at h
    refine g_iload (pc := 41) C 6 rfl dX9_pods_41 ?_
    refine g_iload_n (pc := 43) C 0 rfl dX9_pods_43 ?_
    refine g_icmp_gt (pc := 44) C (tgt := 101) dX9_pods_44 rfl h (fun h => ?_) (fun h => ?_)
    · refine g_bipush (pc := 101) C dX9_pods_101 cb_16 ?_
      refine g_iload_n (pc := 103) C 0 rfl dX9_pods_103 ?_
      obtain ⟨v1, hc, h⟩ := b1_of h
      refine g_callS (pc := 104) C (w' := cs_X9 (a0 0) k_tape k_now k_trial k_task k_season k_stuffing k_images k_row k_plan k_sparePlan k_rule k_spareRule k_notes k_spareNotes x_latest x_imageMany x_refusedSteps x_missing x_misused) (As := [.int 16, .int n1]) (st := []) (t_X9_power hc) Sub.nil kw_1131 kw_1132 kw_86 hy_X9_power kw_1133 rfl (Nat.le_of_ble_eq_true rfl) (Nat.le_of_ble_eq_true rfl) (Nat.le_of_ble_eq_true rfl) (Nat.le_of_ble_eq_true rfl) (Nat.le_of_ble_eq_true rfl) dX9_pods_104 ?_
      refine g_lstore (pc := 107) C [(9, .long v1), (1, .int n1), (2, .int n2), (3, .int n3), (4, .int n4), (5, .long x5), (7, .long x7)] dX9_pods_107 (by decide) rfl ?_
      refine g_iconst (pc := 109) C dX9_pods_109 ci_0 ?_
      refine g_istore (pc := 110) C [(11, .int 0), (9, .long v1), (1, .int n1), (2, .int n2), (3, .int n3), (4, .int n4), (5, .long x5), (7, .long x7)] dX9_pods_110 (by decide) rfl ?_
      refine g_lv [5, 6, 1, 0] rfl ?_
      exact j_X9_pods_112 C hJ E    FU x5 v1 0 x_misused h
    · refine g_iload (pc := 47) C 6 rfl dX9_pods_47 ?_
      refine g_iload_n (pc := 49) C 1 rfl dX9_pods_49 ?_
      refine g_icmp_lt (pc := 50) C (tgt := 79) dX9_pods_50 rfl h (fun h => ?_) (fun h => ?_)
      · exact j_X9_pods_79 C hJ E   ih x5 x7 x9 x_misused h
      · refine g_lload (pc := 53) C 4 rfl dX9_pods_53 ?_
        refine g_lload (pc := 55) C 5 rfl dX9_pods_55 ?_
        refine g_iload_n (pc := 57) C 2 rfl dX9_pods_57 ?_
        refine g_iload (pc := 58) C 6 rfl dX9_pods_58 ?_
        obtain ⟨v2, hc, h⟩ := b1_of h
        refine g_callS (pc := 60) C (w' := cs_X9 (a0 0) k_tape k_now k_trial k_task k_season k_stuffing k_images k_row k_plan k_sparePlan k_rule k_spareRule k_notes k_spareNotes x_latest x_imageMany x_refusedSteps x_missing x_misused) (As := [.int n3, .int x9]) (st := [.long x7, .long x5]) (t_X9_power hc) Sub.nil kw_1131 kw_1132 kw_86 hy_X9_power kw_1133 rfl (Nat.le_of_ble_eq_true rfl) (Nat.le_of_ble_eq_true rfl) (Nat.le_of_ble_eq_true rfl) (Nat.le_of_ble_eq_true rfl) (Nat.le_of_ble_eq_true rfl) dX9_pods_60 ?_
        refine g_lmul (pc := 63) C dX9_pods_63 ?_
        refine g_bipush (pc := 64) C dX9_pods_64 cb_16 ?_
        refine g_iload_n (pc := 66) C 2 rfl dX9_pods_66 ?_
        refine g_isub (pc := 67) C dX9_pods_67 ?_
        refine g_iload_n (pc := 68) C 0 rfl dX9_pods_68 ?_
        refine g_iload (pc := 69) C 6 rfl dX9_pods_69 ?_
        refine g_isub (pc := 71) C dX9_pods_71 ?_
        obtain ⟨v3, hc, h⟩ := b1_of h
        refine g_callS (pc := 72) C (w' := cs_X9 (a0 0) k_tape k_now k_trial k_task k_season k_stuffing k_images k_row k_plan k_sparePlan k_rule k_spareRule k_notes k_spareNotes x_latest x_imageMany x_refusedSteps x_missing x_misused) (As := [.int (16 - n3), .int (n1 - x9)]) (st := [.long (x7 * v2), .long x5]) (t_X9_power hc) Sub.nil kw_1131 kw_1132 kw_86 hy_X9_power kw_1133 rfl (Nat.le_of_ble_eq_true rfl) (Nat.le_of_ble_eq_true rfl) (Nat.le_of_ble_eq_true rfl) (Nat.le_of_ble_eq_true rfl) (Nat.le_of_ble_eq_true rfl) dX9_pods_72 ?_
        refine g_lmul (pc := 75) C dX9_pods_75 ?_
        refine g_ladd (pc := 76) C dX9_pods_76 ?_
        refine g_lstore (pc := 77) C [(5, .long (x5 + ((x7 * v2) * v3))), (1, .int n1), (2, .int n2), (3, .int n3), (4, .int n4), (7, .long x7), (9, .int x9)] dX9_pods_77 (by decide) rfl ?_
        refine g_lv [1, 2, 3, 4, 0, 5, 6] rfl ?_
        exact j_X9_pods_79 C hJ E   ih (x5 + ((x7 * v2) * v3)) x7 x9 x_misused h
set_option maxRecDepth 100000 in
set_option maxHeartbeats 4000000 in
theorem t_X9_pods {J : Jt} {a0 : Nat → Nat} {k_tape : Nat} {k_now : Nat} {k_trial : Nat} {k_task : Nat} {k_season : Nat} {k_stuffing : Nat} {k_images : Nat} {k_row : Nat} {k_plan : Nat} {k_sparePlan : Nat} {k_rule : Nat} {k_spareRule : Nat} {k_notes : Nat} {k_spareNotes : Nat} {x_latest : Value} {x_imageMany : Int32} {x_refusedSteps : Int32} {x_missing : Int32} {x_misused : Int32} {n1 : Int32} {n2 : Int32} {n3 : Int32} {n4 : Int32} {ex : Nat} {r : Int64} {o_x_misused : Int32} (hJ : J.1.stackTraces = false) (h : f_X9_pods x_misused n1 n2 n3 n4 = some (ex, r, o_x_misused)) : MtX J yX9_pods cX9_pods 12 (some .long) rm_X9_pods [.ref (a0 0), .int n1, .int n2, .int n3, .int n4] (cs_X9 (a0 0) k_tape k_now k_trial k_task k_season k_stuffing k_images k_row k_plan k_sparePlan k_rule k_spareRule k_notes k_spareNotes x_latest x_imageMany x_refusedSteps x_missing x_misused) ex (some (.long r)) (fun _ : Unit => cs_X9 (a0 0) k_tape k_now k_trial k_task k_season k_stuffing k_images k_row k_plan k_sparePlan k_rule k_spareRule k_notes k_spareNotes x_latest x_imageMany x_refusedSteps x_missing o_x_misused) := by
  refine MtX_of (own := RX9) (by decide) rfl (Nat.le_of_ble_eq_true rfl) rfl (fun Z C E => ?_)
  unfold f_X9_pods at h
  show G J Z 0 0 (cs_X9 (a0 0) k_tape k_now k_trial k_task k_season k_stuffing k_images k_row k_plan k_sparePlan k_rule k_spareRule k_notes k_spareNotes x_latest x_imageMany x_refusedSteps x_missing x_misused) 12 [(0, .ref (a0 0)), (1, .int n1), (2, .int n2), (3, .int n3), (4, .int n4)] 0 []
  refine g_aload_n (pc := 0) C 0 rfl dX9_pods_0 ?_
  refine g_iload_n (pc := 1) C 1 rfl dX9_pods_1 ?_
  refine g_iconst (pc := 2) C dX9_pods_2 ci_0 ?_
  refine g_bipush (pc := 3) C dX9_pods_3 cb_12 ?_
  obtain ⟨e4, c5, hc, h⟩ := b2_of h
  refine g_xcallU (pc := 5) C (w' := cs_X9 (a0 0) k_tape k_now k_trial k_task k_season k_stuffing k_images k_row k_plan k_sparePlan k_rule k_spareRule k_notes k_spareNotes x_latest x_imageMany x_refusedSteps x_missing c5) (As := [.int n1, .int 0, .int 12]) (st := []) (ci := 9) (q0 := 0) rfl rfl (t_X9_needRange (k_tape := k_tape) (k_now := k_now) (k_trial := k_trial) (k_task := k_task) (k_season := k_season) (k_stuffing := k_stuffing) (k_images := k_images) (k_row := k_row) (k_plan := k_plan) (k_sparePlan := k_sparePlan) (k_rule := k_rule) (k_spareRule := k_spareRule) (k_notes := k_notes) (k_spareNotes := k_spareNotes) (a0 := a0) hJ hc) Sub.same kw_545 kw_547 kw_2 kw_86 hy_X9_needRange kw_548 rfl (Nat.le_of_ble_eq_true rfl) (Nat.le_of_ble_eq_true rfl) (Nat.le_of_ble_eq_true rfl) (Nat.le_of_ble_eq_true rfl) (Nat.le_of_ble_eq_true rfl) dX9_pods_5 (fun he => ?_) (fun he => ?_)
  · subst he
    rw [if_pos rfl] at h
    refine g_wid (n' := 1) (k' := 6) (Nat.le_of_ble_eq_true rfl) (Nat.le_of_ble_eq_true rfl) ?_
    refine g_aload_n (pc := 8) C 0 rfl dX9_pods_8 ?_
    refine g_iload_n (pc := 9) C 2 rfl dX9_pods_9 ?_
    refine g_iconst (pc := 10) C dX9_pods_10 ci_0 ?_
    refine g_bipush (pc := 11) C dX9_pods_11 cb_13 ?_
    obtain ⟨e6, c7, hc, h⟩ := b2_of h
    refine g_xcallU (pc := 13) C (w' := cs_X9 (a0 0) k_tape k_now k_trial k_task k_season k_stuffing k_images k_row k_plan k_sparePlan k_rule k_spareRule k_notes k_spareNotes x_latest x_imageMany x_refusedSteps x_missing c7) (As := [.int n2, .int 0, .int 13]) (st := []) (ci := 9) (q0 := 0) rfl rfl (t_X9_needRange (k_tape := k_tape) (k_now := k_now) (k_trial := k_trial) (k_task := k_task) (k_season := k_season) (k_stuffing := k_stuffing) (k_images := k_images) (k_row := k_row) (k_plan := k_plan) (k_sparePlan := k_sparePlan) (k_rule := k_rule) (k_spareRule := k_spareRule) (k_notes := k_notes) (k_spareNotes := k_spareNotes) (a0 := a0) hJ hc) Sub.same kw_545 kw_547 kw_2 kw_86 hy_X9_needRange kw_548 rfl (Nat.le_of_ble_eq_true rfl) (Nat.le_of_ble_eq_true rfl) (Nat.le_of_ble_eq_true rfl) (Nat.le_of_ble_eq_true rfl) (Nat.le_of_ble_eq_true rfl) dX9_pods_13 (fun he => ?_) (fun he => ?_)
    · subst he
      rw [if_pos rfl] at h
      refine g_wid (n' := 2) (k' := 12) (Nat.le_of_ble_eq_true rfl) (Nat.le_of_ble_eq_true rfl) ?_
      refine g_aload_n (pc := 16) C 0 rfl dX9_pods_16 ?_
      refine g_iload_n (pc := 17) C 3 rfl dX9_pods_17 ?_
      refine g_iconst (pc := 18) C dX9_pods_18 ci_0 ?_
      refine g_bipush (pc := 19) C dX9_pods_19 cb_16 ?_
      obtain ⟨e8, c9, hc, h⟩ := b2_of h
      refine g_xcallU (pc := 21) C (w' := cs_X9 (a0 0) k_tape k_now k_trial k_task k_season k_stuffing k_images k_row k_plan k_sparePlan k_rule k_spareRule k_notes k_spareNotes x_latest x_imageMany x_refusedSteps x_missing c9) (As := [.int n3, .int 0, .int 16]) (st := []) (ci := 9) (q0 := 0) rfl rfl (t_X9_needRange (k_tape := k_tape) (k_now := k_now) (k_trial := k_trial) (k_task := k_task) (k_season := k_season) (k_stuffing := k_stuffing) (k_images := k_images) (k_row := k_row) (k_plan := k_plan) (k_sparePlan := k_sparePlan) (k_rule := k_rule) (k_spareRule := k_spareRule) (k_notes := k_notes) (k_spareNotes := k_spareNotes) (a0 := a0) hJ hc) Sub.same kw_545 kw_547 kw_2 kw_86 hy_X9_needRange kw_548 rfl (Nat.le_of_ble_eq_true rfl) (Nat.le_of_ble_eq_true rfl) (Nat.le_of_ble_eq_true rfl) (Nat.le_of_ble_eq_true rfl) (Nat.le_of_ble_eq_true rfl) dX9_pods_21 (fun he => ?_) (fun he => ?_)
      · subst he
        rw [if_pos rfl] at h
        refine g_wid (n' := 3) (k' := 18) (Nat.le_of_ble_eq_true rfl) (Nat.le_of_ble_eq_true rfl) ?_
        refine g_aload_n (pc := 24) C 0 rfl dX9_pods_24 ?_
        refine g_iload (pc := 25) C 4 rfl dX9_pods_25 ?_
        refine g_iconst (pc := 27) C dX9_pods_27 ci_0 ?_
        refine g_iconst (pc := 28) C dX9_pods_28 ci_1 ?_
        obtain ⟨e10, c11, hc, h⟩ := b2_of h
        refine g_xcallU (pc := 29) C (w' := cs_X9 (a0 0) k_tape k_now k_trial k_task k_season k_stuffing k_images k_row k_plan k_sparePlan k_rule k_spareRule k_notes k_spareNotes x_latest x_imageMany x_refusedSteps x_missing c11) (As := [.int n4, .int 0, .int 1]) (st := []) (ci := 9) (q0 := 0) rfl rfl (t_X9_needRange (k_tape := k_tape) (k_now := k_now) (k_trial := k_trial) (k_task := k_task) (k_season := k_season) (k_stuffing := k_stuffing) (k_images := k_images) (k_row := k_row) (k_plan := k_plan) (k_sparePlan := k_sparePlan) (k_rule := k_rule) (k_spareRule := k_spareRule) (k_notes := k_notes) (k_spareNotes := k_spareNotes) (a0 := a0) hJ hc) Sub.same kw_545 kw_547 kw_2 kw_86 hy_X9_needRange kw_548 rfl (Nat.le_of_ble_eq_true rfl) (Nat.le_of_ble_eq_true rfl) (Nat.le_of_ble_eq_true rfl) (Nat.le_of_ble_eq_true rfl) (Nat.le_of_ble_eq_true rfl) dX9_pods_29 (fun he => ?_) (fun he => ?_)
        · subst he
          rw [if_pos rfl] at h
          refine g_wid (n' := 4) (k' := 24) (Nat.le_of_ble_eq_true rfl) (Nat.le_of_ble_eq_true rfl) ?_
          refine g_lconst (pc := 32) C (v := 0) dX9_pods_32 (by decide) ?_
          refine g_lstore (pc := 33) C [(5, .long 0), (0, .ref (a0 0)), (1, .int n1), (2, .int n2), (3, .int n3), (4, .int n4)] dX9_pods_33 (by decide) rfl ?_
          refine g_lconst (pc := 35) C (v := 1) dX9_pods_35 (by decide) ?_
          refine g_lstore (pc := 36) C [(7, .long 1), (5, .long 0), (0, .ref (a0 0)), (1, .int n1), (2, .int n2), (3, .int n3), (4, .int n4)] dX9_pods_36 (by decide) rfl ?_
          refine g_iconst (pc := 38) C dX9_pods_38 ci_0 ?_
          refine g_istore (pc := 39) C [(9, .int 0), (7, .long 1), (5, .long 0), (0, .ref (a0 0)), (1, .int n1), (2, .int n2), (3, .int n3), (4, .int n4)] dX9_pods_39 (by decide) rfl ?_
          refine g_lv [4, 5, 6, 7, 2, 1, 0] rfl ?_
          exact j_X9_pods_41 C hJ E    FU 0 1 0 c11 h
        · rw [if_neg he] at h
          cases h
          exact gt_out C he E (Nat.le_of_ble_eq_true rfl) (Nat.le_of_ble_eq_true rfl) () rfl
      · rw [if_neg he] at h
        cases h
        exact gt_out C he E (Nat.le_of_ble_eq_true rfl) (Nat.le_of_ble_eq_true rfl) () rfl
    · rw [if_neg he] at h
      cases h
      exact gt_out C he E (Nat.le_of_ble_eq_true rfl) (Nat.le_of_ble_eq_true rfl) () rfl
  · rw [if_neg he] at h
    cases h
    exact gt_out C he E (Nat.le_of_ble_eq_true rfl) (Nat.le_of_ble_eq_true rfl) () rfl
noncomputable def f_X9_getting  (n1 : Int32) (n2 : Int32) (n3 : Int32) (n4 : Int32) : Option (Int32) := if n1 = 0 then if n2 = 0 then some (-n4) else some 0 else if n2 = 0 then some n3 else some (n3 - n4)
def rm_X9_getting : Room := { frames := 0, cells := 0, slots := 0, locals := 0 }
set_option maxRecDepth 100000 in
set_option maxHeartbeats 4000000 in
theorem t_X9_getting {J : Jt}  {n1 : Int32} {n2 : Int32} {n3 : Int32} {n4 : Int32} {r : Int32} (h : f_X9_getting n1 n2 n3 n4 = some r) : Mt J yX9_getting cX9_getting 4 (some .int) rm_X9_getting [.int n1, .int n2, .int n3, .int n4] ([]) (some (.int r)) ([]) := by
  refine Mt_of (own := RX9) (by decide) rfl (Nat.le_of_ble_eq_true rfl) rfl (fun Z C E => ?_)
  unfold f_X9_getting at h
  show G J Z 0 0 ([]) 4 [(0, .int n1), (1, .int n2), (2, .int n3), (3, .int n4)] 0 []
  refine g_iload_n (pc := 0) C 0 rfl dX9_getting_0 ?_
  refine g_if_ne (pc := 1) C (tgt := 15) dX9_getting_1 rfl h (fun h => ?_) (fun h => ?_)
  · refine g_iload_n (pc := 15) C 1 rfl dX9_getting_15 ?_
    refine g_if_ne (pc := 16) C (tgt := 23) dX9_getting_16 rfl h (fun h => ?_) (fun h => ?_)
    · refine g_iload_n (pc := 23) C 2 rfl dX9_getting_23 ?_
      refine g_iload_n (pc := 24) C 3 rfl dX9_getting_24 ?_
      refine g_isub (pc := 25) C dX9_getting_25 ?_
      cases h
      exact g_iret C E dX9_getting_26
    · refine g_iload_n (pc := 19) C 2 rfl dX9_getting_19 ?_
      refine g_goto (pc := 20) C (tgt := 26) dX9_getting_20 rfl ?_
      cases h
      exact g_iret C E dX9_getting_26
  · refine g_iload_n (pc := 4) C 1 rfl dX9_getting_4 ?_
    refine g_if_ne (pc := 5) C (tgt := 13) dX9_getting_5 rfl h (fun h => ?_) (fun h => ?_)
    · refine g_iconst (pc := 13) C dX9_getting_13 ci_0 ?_
      cases h
      exact g_iret C E dX9_getting_14
    · refine g_iload_n (pc := 8) C 3 rfl dX9_getting_8 ?_
      refine g_ineg (pc := 9) C dX9_getting_9 ?_
      refine g_goto (pc := 10) C (tgt := 14) dX9_getting_10 rfl ?_
      cases h
      exact g_iret C E dX9_getting_14
noncomputable def f_X9_isContent  (n1 : Int32) (n2 : Int32) (n3 : Int32) (n4 : Int32) : Option (Int32) := b1 (f_X9_getting n1 n2 n3 n4) (fun v1 => b1 (f_X9_getting (1 - n1) n2 n3 n4) (fun v2 => if v1 < v2 then some 0 else some 1))
def rm_X9_isContent : Room := { frames := 1, cells := 0, slots := 0, locals := 23 }
set_option maxRecDepth 100000 in
set_option maxHeartbeats 4000000 in
theorem t_X9_isContent {J : Jt}  {n1 : Int32} {n2 : Int32} {n3 : Int32} {n4 : Int32} {r : Int32} (h : f_X9_isContent n1 n2 n3 n4 = some r) : Mt J yX9_isContent cX9_isContent 4 (some .boolean) rm_X9_isContent [.int n1, .int n2, .int n3, .int n4] ([]) (some (.int r)) ([]) := by
  refine Mt_of (own := RX9) (by decide) rfl (Nat.le_of_ble_eq_true rfl) rfl (fun Z C E => ?_)
  unfold f_X9_isContent at h
  show G J Z 0 0 ([]) 4 [(0, .int n1), (1, .int n2), (2, .int n3), (3, .int n4)] 0 []
  refine g_iload_n (pc := 0) C 0 rfl dX9_isContent_0 ?_
  refine g_iload_n (pc := 1) C 1 rfl dX9_isContent_1 ?_
  refine g_iload_n (pc := 2) C 2 rfl dX9_isContent_2 ?_
  refine g_iload_n (pc := 3) C 3 rfl dX9_isContent_3 ?_
  obtain ⟨v1, hc, h⟩ := b1_of h
  refine g_callS (pc := 4) C (w' := []) (As := [.int n1, .int n2, .int n3, .int n4]) (st := []) (t_X9_getting hc) Sub.same kw_1145 kw_1146 kw_86 hy_X9_getting kw_1147 rfl (Nat.le_of_ble_eq_true rfl) (Nat.le_of_ble_eq_true rfl) (Nat.le_of_ble_eq_true rfl) (Nat.le_of_ble_eq_true rfl) (Nat.le_of_ble_eq_true rfl) dX9_isContent_4 ?_
  refine g_iconst (pc := 7) C dX9_isContent_7 ci_1 ?_
  refine g_iload_n (pc := 8) C 0 rfl dX9_isContent_8 ?_
  refine g_isub (pc := 9) C dX9_isContent_9 ?_
  refine g_iload_n (pc := 10) C 1 rfl dX9_isContent_10 ?_
  refine g_iload_n (pc := 11) C 2 rfl dX9_isContent_11 ?_
  refine g_iload_n (pc := 12) C 3 rfl dX9_isContent_12 ?_
  obtain ⟨v2, hc, h⟩ := b1_of h
  refine g_callS (pc := 13) C (w' := []) (As := [.int (1 - n1), .int n2, .int n3, .int n4]) (st := [.int v1]) (t_X9_getting hc) Sub.same kw_1145 kw_1146 kw_86 hy_X9_getting kw_1147 rfl (Nat.le_of_ble_eq_true rfl) (Nat.le_of_ble_eq_true rfl) (Nat.le_of_ble_eq_true rfl) (Nat.le_of_ble_eq_true rfl) (Nat.le_of_ble_eq_true rfl) dX9_isContent_13 ?_
  refine g_icmp_lt (pc := 16) C (tgt := 23) dX9_isContent_16 rfl h (fun h => ?_) (fun h => ?_)
  · refine g_iconst (pc := 23) C dX9_isContent_23 ci_0 ?_
    cases h
    exact g_zret C rfl E dX9_isContent_24
  · refine g_iconst (pc := 19) C dX9_isContent_19 ci_1 ?_
    refine g_goto (pc := 20) C (tgt := 24) dX9_isContent_20 rfl ?_
    cases h
    exact g_zret C rfl E dX9_isContent_24
noncomputable def f_X9_she_44   (n1 : Int32) (n2 : Int32) (n3 : Int32) (k35 : Int32 → Int32 → Int32 → Int32 → Int32 → Option (Nat × Int32 × Int32)) : Nat → Int32 → Int32 → Int32 → Int32 → Int32 → Int32 → Option (Nat × Int32 × Int32)
  | 0, _, _, _, _, _, _ => none
  | n + 1, x4, x5, x6, x7, x8, x_misused => if 1 < x8 then k35 x4 x5 x6 (x7 + 1) x_misused else b1 (f_X9_isContent x7 x8 n1 n2) (fun v1 => if v1 = 0 then f_X9_she_44 n1 n2 n3 k35 n x4 x5 x6 x7 (x8 + 1) x_misused else b1 (f_X9_isContent x8 x7 n1 n2) (fun v2 => if v2 = 0 then f_X9_she_44 n1 n2 n3 k35 n x4 x5 x6 x7 (x8 + 1) x_misused else if x5 = (-1) then b1 (f_X9_getting x7 x8 n1 n2) (fun v3 => b1 (f_X9_getting x8 x7 n1 n2) (fun v4 => f_X9_she_44 n1 n2 n3 k35 n (x4 + 1) ((10 * x7) + x8) (v3 + v4) x7 (x8 + 1) x_misused)) else f_X9_she_44 n1 n2 n3 k35 n (x4 + 1) x5 x6 x7 (x8 + 1) x_misused))
noncomputable def f_X9_she_35   (n1 : Int32) (n2 : Int32) (n3 : Int32) : Nat → Int32 → Int32 → Int32 → Int32 → Int32 → Option (Nat × Int32 × Int32)
  | 0, _, _, _, _, _ => none
  | n + 1, x4, x5, x6, x7, x_misused => if 1 < x7 then if n3 = 0 then some (0, x4, x_misused) else if n3 = 1 then some (0, x5, x_misused) else some (0, x6, x_misused) else f_X9_she_44 n1 n2 n3 (f_X9_she_35 n1 n2 n3 n) FU x4 x5 x6 x7 0 x_misused
noncomputable def f_X9_she (x_misused : Int32) (n1 : Int32) (n2 : Int32) (n3 : Int32) : Option (Nat × Int32 × Int32) := b2 (f_X9_needRange x_misused n1 0 99) (fun e5 c6 => if e5 = 0 then b2 (f_X9_needRange c6 n2 0 99) (fun e7 c8 => if e7 = 0 then b2 (f_X9_needRange c8 n3 0 2) (fun e9 c10 => if e9 = 0 then f_X9_she_35 n1 n2 n3 FU 0 (-1) 0 0 c10 else some (e9, 0, c10)) else some (e7, 0, c8)) else some (e5, 0, c6))
def rm_X9_she : Room := { frames := 10, cells := 3, slots := 18, locals := 143 }
set_option maxRecDepth 100000 in
set_option maxHeartbeats 4000000 in
theorem j_X9_she_44 {J : Jt} {Z : Zt} {a0 : Nat → Nat} {k_tape : Nat} {k_now : Nat} {k_trial : Nat} {k_task : Nat} {k_season : Nat} {k_stuffing : Nat} {k_images : Nat} {k_row : Nat} {k_plan : Nat} {k_sparePlan : Nat} {k_rule : Nat} {k_spareRule : Nat} {k_notes : Nat} {k_spareNotes : Nat} {x_latest : Value} {x_imageMany : Int32} {x_refusedSteps : Int32} {x_missing : Int32} {n1 : Int32} {n2 : Int32} {n3 : Int32} {ex : Nat} {r : Int32} {o_x_misused : Int32} {k35 : Int32 → Int32 → Int32 → Int32 → Int32 → Option (Nat × Int32 × Int32)} (C : Cx J Z cX9_she 9 RX9 (some .int) rm_X9_she) (hJ : J.1.stackTraces = false) (E : EzX J Z 3 18 ex (some (.int r)) (fun _ : Unit => cs_X9 (a0 0) k_tape k_now k_trial k_task k_season k_stuffing k_images k_row k_plan k_sparePlan k_rule k_spareRule k_notes k_spareNotes x_latest x_imageMany x_refusedSteps x_missing o_x_misused)) (hk35 : ∀ (x4 : Int32) (x5 : Int32) (x6 : Int32) (x7 : Int32) (x_misused : Int32), k35 x4 x5 x6 x7 x_misused = some (ex, r, o_x_misused) → G J Z 3 18 (cs_X9 (a0 0) k_tape k_now k_trial k_task k_season k_stuffing k_images k_row k_plan k_sparePlan k_rule k_spareRule k_notes k_spareNotes x_latest x_imageMany x_refusedSteps x_missing x_misused) 9 [(1, .int n1), (2, .int n2), (3, .int n3), (4, .int x4), (5, .int x5), (6, .int x6), (7, .int x7)] 35 []) : ∀ (n : Nat) (x4 : Int32) (x5 : Int32) (x6 : Int32) (x7 : Int32) (x8 : Int32) (x_misused : Int32), f_X9_she_44 n1 n2 n3 k35 n x4 x5 x6 x7 x8 x_misused = some (ex, r, o_x_misused) → G J Z 3 18 (cs_X9 (a0 0) k_tape k_now k_trial k_task k_season k_stuffing k_images k_row k_plan k_sparePlan k_rule k_spareRule k_notes k_spareNotes x_latest x_imageMany x_refusedSteps x_missing x_misused) 9 [(1, .int n1), (2, .int n2), (3, .int n3), (4, .int x4), (5, .int x5), (6, .int x6), (7, .int x7), (8, .int x8)] 44 [] := by
  intro n
  induction n with
  | zero =>
    intro x4 x5 x6 x7 x8 x_misused h
    rw [f_X9_she_44] at h
    cases h
  | succ n ih =>
    intro x4 x5 x6 x7 x8 x_misused h
    rw [f_X9_she_44] at h
    refine g_iload (pc := 44) C 7 rfl dX9_she_44 ?_
    refine g_iconst (pc := 46) C dX9_she_46 ci_1 ?_
    refine g_icmp_gt (pc := 47) C (tgt := 120) dX9_she_47 rfl h (fun h => ?_) (fun h => ?_)
    · refine g_iinc (pc := 120) C (j := 6) [(7, .int (x7 + 1)), (1, .int n1), (2, .int n2), (3, .int n3), (4, .int x4), (5, .int x5), (6, .int x6), (8, .int x8)] dX9_she_120 rfl (ii_1 _) (by decide) rfl ?_
      refine g_goto (pc := 123) C (tgt := 35) dX9_she_123 rfl ?_
      refine g_lv [1, 2, 3, 4, 5, 6, 0] rfl ?_
      exact hk35 x4 x5 x6 (x7 + 1) x_misused h
    · refine g_iload (pc := 50) C 6 rfl dX9_she_50 ?_
      refine g_iload (pc := 52) C 7 rfl dX9_she_52 ?_
      refine g_iload_n (pc := 54) C 0 rfl dX9_she_54 ?_
      refine g_iload_n (pc := 55) C 1 rfl dX9_she_55 ?_
      obtain ⟨v1, hc, h⟩ := b1_of h
      refine g_callS (pc := 56) C (w' := cs_X9 (a0 0) k_tape k_now k_trial k_task k_season k_stuffing k_images k_row k_plan k_sparePlan k_rule k_spareRule k_notes k_spareNotes x_latest x_imageMany x_refusedSteps x_missing x_misused) (As := [.int x7, .int x8, .int n1, .int n2]) (st := []) (t_X9_isContent hc) Sub.nil kw_1142 kw_1143 kw_86 hy_X9_isContent kw_1144 rfl (Nat.le_of_ble_eq_true rfl) (Nat.le_of_ble_eq_true rfl) (Nat.le_of_ble_eq_true rfl) (Nat.le_of_ble_eq_true rfl) (Nat.le_of_ble_eq_true rfl) dX9_she_56 ?_
      refine g_if_eq (pc := 59) C (tgt := 114) dX9_she_59 rfl h (fun h => ?_) (fun h => ?_)
      · refine g_iinc (pc := 114) C (j := 7) [(8, .int (x8 + 1)), (1, .int n1), (2, .int n2), (3, .int n3), (4, .int x4), (5, .int x5), (6, .int x6), (7, .int x7)] dX9_she_114 rfl (ii_1 _) (by decide) rfl ?_
        refine g_goto (pc := 117) C (tgt := 44) dX9_she_117 rfl ?_
        refine g_lv [1, 2, 3, 4, 5, 6, 7, 0] rfl ?_
        exact ih x4 x5 x6 x7 (x8 + 1) x_misused h
      · refine g_iload (pc := 62) C 7 rfl dX9_she_62 ?_
        refine g_iload (pc := 64) C 6 rfl dX9_she_64 ?_
        refine g_iload_n (pc := 66) C 0 rfl dX9_she_66 ?_
        refine g_iload_n (pc := 67) C 1 rfl dX9_she_67 ?_
        obtain ⟨v2, hc, h⟩ := b1_of h
        refine g_callS (pc := 68) C (w' := cs_X9 (a0 0) k_tape k_now k_trial k_task k_season k_stuffing k_images k_row k_plan k_sparePlan k_rule k_spareRule k_notes k_spareNotes x_latest x_imageMany x_refusedSteps x_missing x_misused) (As := [.int x8, .int x7, .int n1, .int n2]) (st := []) (t_X9_isContent hc) Sub.nil kw_1142 kw_1143 kw_86 hy_X9_isContent kw_1144 rfl (Nat.le_of_ble_eq_true rfl) (Nat.le_of_ble_eq_true rfl) (Nat.le_of_ble_eq_true rfl) (Nat.le_of_ble_eq_true rfl) (Nat.le_of_ble_eq_true rfl) dX9_she_68 ?_
        refine g_if_eq (pc := 71) C (tgt := 114) dX9_she_71 rfl h (fun h => ?_) (fun h => ?_)
        · refine g_iinc (pc := 114) C (j := 7) [(8, .int (x8 + 1)), (1, .int n1), (2, .int n2), (3, .int n3), (4, .int x4), (5, .int x5), (6, .int x6), (7, .int x7)] dX9_she_114 rfl (ii_1 _) (by decide) rfl ?_
          refine g_goto (pc := 117) C (tgt := 44) dX9_she_117 rfl ?_
          refine g_lv [1, 2, 3, 4, 5, 6, 7, 0] rfl ?_
          exact ih x4 x5 x6 x7 (x8 + 1) x_misused h
        · refine g_iinc (pc := 74) C (j := 3) [(4, .int (x4 + 1)), (1, .int n1), (2, .int n2), (3, .int n3), (5, .int x5), (6, .int x6), (7, .int x7), (8, .int x8)] dX9_she_74 rfl (ii_1 _) (by decide) rfl ?_
          refine g_iload (pc := 77) C 4 rfl dX9_she_77 ?_
          refine g_iconst (pc := 79) C dX9_she_79 ci_m1 ?_
          refine g_icmp_ne (pc := 80) C (tgt := 114) dX9_she_80 rfl h (fun h => ?_) (fun h => ?_)
          · refine g_iinc (pc := 114) C (j := 7) [(8, .int (x8 + 1)), (4, .int (x4 + 1)), (1, .int n1), (2, .int n2), (3, .int n3), (5, .int x5), (6, .int x6), (7, .int x7)] dX9_she_114 rfl (ii_1 _) (by decide) rfl ?_
            refine g_goto (pc := 117) C (tgt := 44) dX9_she_117 rfl ?_
            refine g_lv [2, 3, 4, 1, 5, 6, 7, 0] rfl ?_
            exact ih (x4 + 1) x5 x6 x7 (x8 + 1) x_misused h
          · refine g_bipush (pc := 83) C dX9_she_83 cb_10 ?_
            refine g_iload (pc := 85) C 6 rfl dX9_she_85 ?_
            refine g_imul (pc := 87) C dX9_she_87 ?_
            refine g_iload (pc := 88) C 7 rfl dX9_she_88 ?_
            refine g_iadd (pc := 90) C dX9_she_90 ?_
            refine g_istore (pc := 91) C [(5, .int ((10 * x7) + x8)), (4, .int (x4 + 1)), (1, .int n1), (2, .int n2), (3, .int n3), (6, .int x6), (7, .int x7), (8, .int x8)] dX9_she_91 (by decide) rfl ?_
            refine g_iload (pc := 93) C 6 rfl dX9_she_93 ?_
            refine g_iload (pc := 95) C 7 rfl dX9_she_95 ?_
            refine g_iload_n (pc := 97) C 2 rfl dX9_she_97 ?_
            refine g_iload_n (pc := 98) C 3 rfl dX9_she_98 ?_
            obtain ⟨v3, hc, h⟩ := b1_of h
            refine g_callS (pc := 99) C (w' := cs_X9 (a0 0) k_tape k_now k_trial k_task k_season k_stuffing k_images k_row k_plan k_sparePlan k_rule k_spareRule k_notes k_spareNotes x_latest x_imageMany x_refusedSteps x_missing x_misused) (As := [.int x7, .int x8, .int n1, .int n2]) (st := []) (t_X9_getting hc) Sub.nil kw_1145 kw_1146 kw_86 hy_X9_getting kw_1147 rfl (Nat.le_of_ble_eq_true rfl) (Nat.le_of_ble_eq_true rfl) (Nat.le_of_ble_eq_true rfl) (Nat.le_of_ble_eq_true rfl) (Nat.le_of_ble_eq_true rfl) dX9_she_99 ?_
            refine g_iload (pc := 102) C 7 rfl dX9_she_102 ?_
            refine g_iload (pc := 104) C 6 rfl dX9_she_104 ?_
            refine g_iload_n (pc := 106) C 2 rfl dX9_she_106 ?_
            refine g_iload_n (pc := 107) C 3 rfl dX9_she_107 ?_
            obtain ⟨v4, hc, h⟩ := b1_of h
            refine g_callS (pc := 108) C (w' := cs_X9 (a0 0) k_tape k_now k_trial k_task k_season k_stuffing k_images k_row k_plan k_sparePlan k_rule k_spareRule k_notes k_spareNotes x_latest x_imageMany x_refusedSteps x_missing x_misused) (As := [.int x8, .int x7, .int n1, .int n2]) (st := [.int v3]) (t_X9_getting hc) Sub.nil kw_1145 kw_1146 kw_86 hy_X9_getting kw_1147 rfl (Nat.le_of_ble_eq_true rfl) (Nat.le_of_ble_eq_true rfl) (Nat.le_of_ble_eq_true rfl) (Nat.le_of_ble_eq_true rfl) (Nat.le_of_ble_eq_true rfl) dX9_she_108 ?_
            refine g_iadd (pc := 111) C dX9_she_111 ?_
            refine g_istore (pc := 112) C [(6, .int (v3 + v4)), (5, .int ((10 * x7) + x8)), (4, .int (x4 + 1)), (1, .int n1), (2, .int n2), (3, .int n3), (7, .int x7), (8, .int x8)] dX9_she_112 (by decide) rfl ?_
            refine g_iinc (pc := 114) C (j := 7) [(8, .int (x8 + 1)), (6, .int (v3 + v4)), (5, .int ((10 * x7) + x8)), (4, .int (x4 + 1)), (1, .int n1), (2, .int n2), (3, .int n3), (7, .int x7)] dX9_she_114 rfl (ii_1 _) (by decide) rfl ?_
            refine g_goto (pc := 117) C (tgt := 44) dX9_she_117 rfl ?_
            refine g_lv [4, 5, 6, 3, 2, 1, 7, 0] rfl ?_
            exact ih (x4 + 1) ((10 * x7) + x8) (v3 + v4) x7 (x8 + 1) x_misused h
set_option maxRecDepth 100000 in
set_option maxHeartbeats 4000000 in
theorem j_X9_she_35 {J : Jt} {Z : Zt} {a0 : Nat → Nat} {k_tape : Nat} {k_now : Nat} {k_trial : Nat} {k_task : Nat} {k_season : Nat} {k_stuffing : Nat} {k_images : Nat} {k_row : Nat} {k_plan : Nat} {k_sparePlan : Nat} {k_rule : Nat} {k_spareRule : Nat} {k_notes : Nat} {k_spareNotes : Nat} {x_latest : Value} {x_imageMany : Int32} {x_refusedSteps : Int32} {x_missing : Int32} {n1 : Int32} {n2 : Int32} {n3 : Int32} {ex : Nat} {r : Int32} {o_x_misused : Int32} (C : Cx J Z cX9_she 9 RX9 (some .int) rm_X9_she) (hJ : J.1.stackTraces = false) (E : EzX J Z 3 18 ex (some (.int r)) (fun _ : Unit => cs_X9 (a0 0) k_tape k_now k_trial k_task k_season k_stuffing k_images k_row k_plan k_sparePlan k_rule k_spareRule k_notes k_spareNotes x_latest x_imageMany x_refusedSteps x_missing o_x_misused)) : ∀ (n : Nat) (x4 : Int32) (x5 : Int32) (x6 : Int32) (x7 : Int32) (x_misused : Int32), f_X9_she_35 n1 n2 n3 n x4 x5 x6 x7 x_misused = some (ex, r, o_x_misused) → G J Z 3 18 (cs_X9 (a0 0) k_tape k_now k_trial k_task k_season k_stuffing k_images k_row k_plan k_sparePlan k_rule k_spareRule k_notes k_spareNotes x_latest x_imageMany x_refusedSteps x_missing x_misused) 9 [(1, .int n1), (2, .int n2), (3, .int n3), (4, .int x4), (5, .int x5), (6, .int x6), (7, .int x7)] 35 [] := by
  intro n
  induction n with
  | zero =>
    intro x4 x5 x6 x7 x_misused h
    rw [f_X9_she_35] at h
    cases h
  | succ n ih =>
    intro x4 x5 x6 x7 x_misused h
    rw [f_X9_she_35] at h
    refine g_iload (pc := 35) C 6 rfl dX9_she_35 ?_
    refine g_iconst (pc := 37) C dX9_she_37 ci_1 ?_
    refine g_icmp_gt (pc := 38) C (tgt := 126) dX9_she_38 rfl h (fun h => ?_) (fun h => ?_)
    · refine g_iload_n (pc := 126) C 2 rfl dX9_she_126 ?_
      rcases ite_of h with ⟨hc, h⟩ | ⟨hn0, h⟩
      · refine g_lk (pc := 127) C (tgt := 152) dX9_she_127 (by decide +kernel) (by rw [hc]; decide +kernel) rfl ?_
        refine g_iload (pc := 152) C 3 rfl dX9_she_152 ?_
        cases h
        exact g_iretX C E () rfl dX9_she_154
      rcases ite_of h with ⟨hc, h⟩ | ⟨hn1, h⟩
      · refine g_lk (pc := 127) C (tgt := 155) dX9_she_127 (by decide +kernel) (by rw [hc]; decide +kernel) rfl ?_
        refine g_iload (pc := 155) C 4 rfl dX9_she_155 ?_
        cases h
        exact g_iretX C E () rfl dX9_she_157
      have hq0 := lv_neT hn0 (a := 0) (by decide)
      have hq1 := lv_neT hn1 (a := 1) (by decide)
      refine g_lk (pc := 127) C (tgt := 158) dX9_she_127 (by decide +kernel) (lk_2 hq0 hq1) rfl ?_
      refine g_iload (pc := 158) C 5 rfl dX9_she_158 ?_
      cases h
      exact g_iretX C E () rfl dX9_she_160
    · refine g_iconst (pc := 41) C dX9_she_41 ci_0 ?_
      refine g_istore (pc := 42) C [(8, .int 0), (1, .int n1), (2, .int n2), (3, .int n3), (4, .int x4), (5, .int x5), (6, .int x6), (7, .int x7)] dX9_she_42 (by decide) rfl ?_
      refine g_lv [1, 2, 3, 4, 5, 6, 7, 0] rfl ?_
      exact j_X9_she_44 C hJ E   ih FU x4 x5 x6 x7 0 x_misused h
set_option maxRecDepth 100000 in
set_option maxHeartbeats 4000000 in
theorem t_X9_she {J : Jt} {a0 : Nat → Nat} {k_tape : Nat} {k_now : Nat} {k_trial : Nat} {k_task : Nat} {k_season : Nat} {k_stuffing : Nat} {k_images : Nat} {k_row : Nat} {k_plan : Nat} {k_sparePlan : Nat} {k_rule : Nat} {k_spareRule : Nat} {k_notes : Nat} {k_spareNotes : Nat} {x_latest : Value} {x_imageMany : Int32} {x_refusedSteps : Int32} {x_missing : Int32} {x_misused : Int32} {n1 : Int32} {n2 : Int32} {n3 : Int32} {ex : Nat} {r : Int32} {o_x_misused : Int32} (hJ : J.1.stackTraces = false) (h : f_X9_she x_misused n1 n2 n3 = some (ex, r, o_x_misused)) : MtX J yX9_she cX9_she 9 (some .int) rm_X9_she [.ref (a0 0), .int n1, .int n2, .int n3] (cs_X9 (a0 0) k_tape k_now k_trial k_task k_season k_stuffing k_images k_row k_plan k_sparePlan k_rule k_spareRule k_notes k_spareNotes x_latest x_imageMany x_refusedSteps x_missing x_misused) ex (some (.int r)) (fun _ : Unit => cs_X9 (a0 0) k_tape k_now k_trial k_task k_season k_stuffing k_images k_row k_plan k_sparePlan k_rule k_spareRule k_notes k_spareNotes x_latest x_imageMany x_refusedSteps x_missing o_x_misused) := by
  refine MtX_of (own := RX9) (by decide) rfl (Nat.le_of_ble_eq_true rfl) rfl (fun Z C E => ?_)
  unfold f_X9_she at h
  show G J Z 0 0 (cs_X9 (a0 0) k_tape k_now k_trial k_task k_season k_stuffing k_images k_row k_plan k_sparePlan k_rule k_spareRule k_notes k_spareNotes x_latest x_imageMany x_refusedSteps x_missing x_misused) 9 [(0, .ref (a0 0)), (1, .int n1), (2, .int n2), (3, .int n3)] 0 []
  refine g_aload_n (pc := 0) C 0 rfl dX9_she_0 ?_
  refine g_iload_n (pc := 1) C 1 rfl dX9_she_1 ?_
  refine g_iconst (pc := 2) C dX9_she_2 ci_0 ?_
  refine g_bipush (pc := 3) C dX9_she_3 cb_99 ?_
  obtain ⟨e5, c6, hc, h⟩ := b2_of h
  refine g_xcallU (pc := 5) C (w' := cs_X9 (a0 0) k_tape k_now k_trial k_task k_season k_stuffing k_images k_row k_plan k_sparePlan k_rule k_spareRule k_notes k_spareNotes x_latest x_imageMany x_refusedSteps x_missing c6) (As := [.int n1, .int 0, .int 99]) (st := []) (ci := 9) (q0 := 0) rfl rfl (t_X9_needRange (k_tape := k_tape) (k_now := k_now) (k_trial := k_trial) (k_task := k_task) (k_season := k_season) (k_stuffing := k_stuffing) (k_images := k_images) (k_row := k_row) (k_plan := k_plan) (k_sparePlan := k_sparePlan) (k_rule := k_rule) (k_spareRule := k_spareRule) (k_notes := k_notes) (k_spareNotes := k_spareNotes) (a0 := a0) hJ hc) Sub.same kw_545 kw_547 kw_2 kw_86 hy_X9_needRange kw_548 rfl (Nat.le_of_ble_eq_true rfl) (Nat.le_of_ble_eq_true rfl) (Nat.le_of_ble_eq_true rfl) (Nat.le_of_ble_eq_true rfl) (Nat.le_of_ble_eq_true rfl) dX9_she_5 (fun he => ?_) (fun he => ?_)
  · subst he
    rw [if_pos rfl] at h
    refine g_wid (n' := 1) (k' := 6) (Nat.le_of_ble_eq_true rfl) (Nat.le_of_ble_eq_true rfl) ?_
    refine g_aload_n (pc := 8) C 0 rfl dX9_she_8 ?_
    refine g_iload_n (pc := 9) C 2 rfl dX9_she_9 ?_
    refine g_iconst (pc := 10) C dX9_she_10 ci_0 ?_
    refine g_bipush (pc := 11) C dX9_she_11 cb_99 ?_
    obtain ⟨e7, c8, hc, h⟩ := b2_of h
    refine g_xcallU (pc := 13) C (w' := cs_X9 (a0 0) k_tape k_now k_trial k_task k_season k_stuffing k_images k_row k_plan k_sparePlan k_rule k_spareRule k_notes k_spareNotes x_latest x_imageMany x_refusedSteps x_missing c8) (As := [.int n2, .int 0, .int 99]) (st := []) (ci := 9) (q0 := 0) rfl rfl (t_X9_needRange (k_tape := k_tape) (k_now := k_now) (k_trial := k_trial) (k_task := k_task) (k_season := k_season) (k_stuffing := k_stuffing) (k_images := k_images) (k_row := k_row) (k_plan := k_plan) (k_sparePlan := k_sparePlan) (k_rule := k_rule) (k_spareRule := k_spareRule) (k_notes := k_notes) (k_spareNotes := k_spareNotes) (a0 := a0) hJ hc) Sub.same kw_545 kw_547 kw_2 kw_86 hy_X9_needRange kw_548 rfl (Nat.le_of_ble_eq_true rfl) (Nat.le_of_ble_eq_true rfl) (Nat.le_of_ble_eq_true rfl) (Nat.le_of_ble_eq_true rfl) (Nat.le_of_ble_eq_true rfl) dX9_she_13 (fun he => ?_) (fun he => ?_)
    · subst he
      rw [if_pos rfl] at h
      refine g_wid (n' := 2) (k' := 12) (Nat.le_of_ble_eq_true rfl) (Nat.le_of_ble_eq_true rfl) ?_
      refine g_aload_n (pc := 16) C 0 rfl dX9_she_16 ?_
      refine g_iload_n (pc := 17) C 3 rfl dX9_she_17 ?_
      refine g_iconst (pc := 18) C dX9_she_18 ci_0 ?_
      refine g_iconst (pc := 19) C dX9_she_19 ci_2 ?_
      obtain ⟨e9, c10, hc, h⟩ := b2_of h
      refine g_xcallU (pc := 20) C (w' := cs_X9 (a0 0) k_tape k_now k_trial k_task k_season k_stuffing k_images k_row k_plan k_sparePlan k_rule k_spareRule k_notes k_spareNotes x_latest x_imageMany x_refusedSteps x_missing c10) (As := [.int n3, .int 0, .int 2]) (st := []) (ci := 9) (q0 := 0) rfl rfl (t_X9_needRange (k_tape := k_tape) (k_now := k_now) (k_trial := k_trial) (k_task := k_task) (k_season := k_season) (k_stuffing := k_stuffing) (k_images := k_images) (k_row := k_row) (k_plan := k_plan) (k_sparePlan := k_sparePlan) (k_rule := k_rule) (k_spareRule := k_spareRule) (k_notes := k_notes) (k_spareNotes := k_spareNotes) (a0 := a0) hJ hc) Sub.same kw_545 kw_547 kw_2 kw_86 hy_X9_needRange kw_548 rfl (Nat.le_of_ble_eq_true rfl) (Nat.le_of_ble_eq_true rfl) (Nat.le_of_ble_eq_true rfl) (Nat.le_of_ble_eq_true rfl) (Nat.le_of_ble_eq_true rfl) dX9_she_20 (fun he => ?_) (fun he => ?_)
      · subst he
        rw [if_pos rfl] at h
        refine g_wid (n' := 3) (k' := 18) (Nat.le_of_ble_eq_true rfl) (Nat.le_of_ble_eq_true rfl) ?_
        refine g_iconst (pc := 23) C dX9_she_23 ci_0 ?_
        refine g_istore (pc := 24) C [(4, .int 0), (0, .ref (a0 0)), (1, .int n1), (2, .int n2), (3, .int n3)] dX9_she_24 (by decide) rfl ?_
        refine g_iconst (pc := 26) C dX9_she_26 ci_m1 ?_
        refine g_istore (pc := 27) C [(5, .int (-1)), (4, .int 0), (0, .ref (a0 0)), (1, .int n1), (2, .int n2), (3, .int n3)] dX9_she_27 (by decide) rfl ?_
        refine g_iconst (pc := 29) C dX9_she_29 ci_0 ?_
        refine g_istore (pc := 30) C [(6, .int 0), (5, .int (-1)), (4, .int 0), (0, .ref (a0 0)), (1, .int n1), (2, .int n2), (3, .int n3)] dX9_she_30 (by decide) rfl ?_
        refine g_iconst (pc := 32) C dX9_she_32 ci_0 ?_
        refine g_istore (pc := 33) C [(7, .int 0), (6, .int 0), (5, .int (-1)), (4, .int 0), (0, .ref (a0 0)), (1, .int n1), (2, .int n2), (3, .int n3)] dX9_she_33 (by decide) rfl ?_
        refine g_lv [5, 6, 7, 3, 2, 1, 0] rfl ?_
        exact j_X9_she_35 C hJ E    FU 0 (-1) 0 0 c10 h
      · rw [if_neg he] at h
        cases h
        exact gt_out C he E (Nat.le_of_ble_eq_true rfl) (Nat.le_of_ble_eq_true rfl) () rfl
    · rw [if_neg he] at h
      cases h
      exact gt_out C he E (Nat.le_of_ble_eq_true rfl) (Nat.le_of_ble_eq_true rfl) () rfl
  · rw [if_neg he] at h
    cases h
    exact gt_out C he E (Nat.le_of_ble_eq_true rfl) (Nat.le_of_ble_eq_true rfl) () rfl
noncomputable def f_X9_givenBy_5  (s_many : Nat → Int32) (p_beds : Int32) (n1 : Int32) (n2 : Int32) : Nat → Int32 → Int32 → Option (Int32)
  | 0, _, _ => none
  | n + 1, x3, x4 => if p_beds ≤ x4 then some x3 else b1 (f_X9_has n2 x4) (fun v1 => if v1 = 0 then f_X9_givenBy_5 s_many p_beds n1 n2 n (x3 + 0) (x4 + 1) else if ixb x4 6 then f_X9_givenBy_5 s_many p_beds n1 n2 n (x3 + (imin n1 (s_many x4.toNatClampNeg))) (x4 + 1) else none)
noncomputable def f_X9_givenBy (s_many : Nat → Int32) (p_beds : Int32) (n1 : Int32) (n2 : Int32) : Option (Int32) := f_X9_givenBy_5 s_many p_beds n1 n2 FU 0 0
def rm_X9_givenBy : Room := { frames := 1, cells := 0, slots := 0, locals := 40 }
set_option maxRecDepth 100000 in
set_option maxHeartbeats 4000000 in
theorem j_X9_givenBy_5 {J : Jt} {Z : Zt} {a0 : Nat → Nat} {a1 : Nat → Nat} {a2 : Nat → Nat} {k_tape : Nat} {k_trial : Nat} {k_task : Nat} {k_season : Nat} {k_stuffing : Nat} {k_images : Nat} {k_row : Nat} {k_sparePlan : Nat} {k_rule : Nat} {k_spareRule : Nat} {k_notes : Nat} {k_spareNotes : Nat} {x_latest : Value} {x_imageMany : Int32} {x_refusedSteps : Int32} {x_missing : Int32} {x_misused : Int32} {s_year : Int32} {s_wet : Int32} {s_lost : Int32} {s_eaten : Int32} {s_tied : Int32} {s_ripeMany : Int32} {s_gone : Nat → Int32} {s_place : Nat → Int32} {s_heard : Nat → Int32} {s_many : Nat → Int32} {s_lying : Nat → Int32} {s_ripe : Nat → Int32} {p_beds : Int32} {p_letters : Int32} {p_readers : Int32} {p_far : Nat → Int32} {p_drain : Nat → Int32} {p_length : Nat → Int32} {p_words : Nat → Int32} {p_home : Nat → Int32} {n1 : Int32} {n2 : Int32} {r : Int32} (C : Cx J Z cX9_givenBy 5 RX9 (some .int) rm_X9_givenBy) (E : Ez J Z 0 0 (some (.int r)) (cs_X9 (a0 0) k_tape (a1 0) k_trial k_task k_season k_stuffing k_images k_row (a2 0) k_sparePlan k_rule k_spareRule k_notes k_spareNotes x_latest x_imageMany x_refusedSteps x_missing x_misused ++ cs_X4 J.2.2.1 a1 s_year s_wet s_lost s_eaten s_tied s_ripeMany s_gone s_place s_heard s_many s_lying s_ripe ++ cs_X2 J.2.2.1 a2 p_beds p_letters p_readers p_far p_drain p_length p_words p_home)) : ∀ (n : Nat) (x3 : Int32) (x4 : Int32), f_X9_givenBy_5 s_many p_beds n1 n2 n x3 x4 = some r → G J Z 0 0 (cs_X9 (a0 0) k_tape (a1 0) k_trial k_task k_season k_stuffing k_images k_row (a2 0) k_sparePlan k_rule k_spareRule k_notes k_spareNotes x_latest x_imageMany x_refusedSteps x_missing x_misused ++ cs_X4 J.2.2.1 a1 s_year s_wet s_lost s_eaten s_tied s_ripeMany s_gone s_place s_heard s_many s_lying s_ripe ++ cs_X2 J.2.2.1 a2 p_beds p_letters p_readers p_far p_drain p_length p_words p_home) 5 [(0, .ref (a0 0)), (1, .int n1), (2, .int n2), (3, .int x3), (4, .int x4)] 5 [] := by
  intro n
  induction n with
  | zero =>
    intro x3 x4 h
    rw [f_X9_givenBy_5] at h
    cases h
  | succ n ih =>
    intro x3 x4 h
    rw [f_X9_givenBy_5] at h
    refine g_iload (pc := 5) C 4 rfl dX9_givenBy_5 ?_
    refine g_aload_n (pc := 7) C 0 rfl dX9_givenBy_7 ?_
    refine g_get (pc := 8) C FOK_X9 0 rfl rfl 8 (by decide) kw_375 rfl dX9_givenBy_8 ?_
    refine g_get (pc := 11) C FOK_X2 8 rfl rfl 0 (by decide) kw_279 rfl dX9_givenBy_11 ?_
    refine g_icmp_ge (pc := 14) C (tgt := 53) dX9_givenBy_14 rfl h (fun h => ?_) (fun h => ?_)
    · refine g_iload_n (pc := 53) C 3 rfl dX9_givenBy_53 ?_
      cases h
      exact g_iret C E dX9_givenBy_54
    · refine g_iload_n (pc := 17) C 3 rfl dX9_givenBy_17 ?_
      refine g_iload_n (pc := 18) C 2 rfl dX9_givenBy_18 ?_
      refine g_iload (pc := 19) C 4 rfl dX9_givenBy_19 ?_
      obtain ⟨v1, hc, h⟩ := b1_of h
      refine g_callS (pc := 21) C (w' := cs_X9 (a0 0) k_tape (a1 0) k_trial k_task k_season k_stuffing k_images k_row (a2 0) k_sparePlan k_rule k_spareRule k_notes k_spareNotes x_latest x_imageMany x_refusedSteps x_missing x_misused ++ cs_X4 J.2.2.1 a1 s_year s_wet s_lost s_eaten s_tied s_ripeMany s_gone s_place s_heard s_many s_lying s_ripe ++ cs_X2 J.2.2.1 a2 p_beds p_letters p_readers p_far p_drain p_length p_words p_home) (As := [.int n2, .int x4]) (st := [.int x3]) (t_X9_has hc) Sub.nil kw_1056 kw_483 kw_86 hy_X9_has kw_484 rfl (Nat.le_of_ble_eq_true rfl) (Nat.le_of_ble_eq_true rfl) (Nat.le_of_ble_eq_true rfl) (Nat.le_of_ble_eq_true rfl) (Nat.le_of_ble_eq_true rfl) dX9_givenBy_21 ?_
      refine g_if_eq (pc := 24) C (tgt := 44) dX9_givenBy_24 rfl h (fun h => ?_) (fun h => ?_)
      · refine g_iconst (pc := 44) C dX9_givenBy_44 ci_0 ?_
        refine g_iadd (pc := 45) C dX9_givenBy_45 ?_
        refine g_istore_n (pc := 46) C [(3, .int (x3 + 0)), (0, .ref (a0 0)), (1, .int n1), (2, .int n2), (4, .int x4)] dX9_givenBy_46 rfl (by decide) rfl ?_
        refine g_iinc (pc := 47) C (j := 4) [(4, .int (x4 + 1)), (3, .int (x3 + 0)), (0, .ref (a0 0)), (1, .int n1), (2, .int n2)] dX9_givenBy_47 rfl (ii_1 _) (by decide) rfl ?_
        refine g_goto (pc := 50) C (tgt := 5) dX9_givenBy_50 rfl ?_
        refine g_lv [2, 3, 4, 1, 0] rfl ?_
        exact ih (x3 + 0) (x4 + 1) h
      · refine g_iload_n (pc := 27) C 1 rfl dX9_givenBy_27 ?_
        refine g_aload_n (pc := 28) C 0 rfl dX9_givenBy_28 ?_
        refine g_get (pc := 29) C FOK_X9 0 rfl rfl 1 (by decide) kw_368 rfl dX9_givenBy_29 ?_
        refine g_get (pc := 32) C FOK_X4 1 rfl rfl 9 (by decide) kw_173 rfl dX9_givenBy_32 ?_
        refine g_iload (pc := 35) C 4 rfl dX9_givenBy_35 ?_
        obtain ⟨hi, h⟩ := ix_of h
        refine g_iald (pc := 37) C 5 rfl hi dX9_givenBy_37 ?_
        refine g_imin (pc := 38) C kw_542 kw_543 kw_96 kw_544 (Nat.le_of_ble_eq_true rfl) (Nat.le_of_ble_eq_true rfl) (Nat.le_of_ble_eq_true rfl) (Nat.le_of_ble_eq_true rfl) dX9_givenBy_38 ?_
        refine g_goto (pc := 41) C (tgt := 45) dX9_givenBy_41 rfl ?_
        refine g_iadd (pc := 45) C dX9_givenBy_45 ?_
        refine g_istore_n (pc := 46) C [(3, .int (x3 + (imin n1 (s_many x4.toNatClampNeg)))), (0, .ref (a0 0)), (1, .int n1), (2, .int n2), (4, .int x4)] dX9_givenBy_46 rfl (by decide) rfl ?_
        refine g_iinc (pc := 47) C (j := 4) [(4, .int (x4 + 1)), (3, .int (x3 + (imin n1 (s_many x4.toNatClampNeg)))), (0, .ref (a0 0)), (1, .int n1), (2, .int n2)] dX9_givenBy_47 rfl (ii_1 _) (by decide) rfl ?_
        refine g_goto (pc := 50) C (tgt := 5) dX9_givenBy_50 rfl ?_
        refine g_lv [2, 3, 4, 1, 0] rfl ?_
        exact ih (x3 + (imin n1 (s_many x4.toNatClampNeg))) (x4 + 1) h
set_option maxRecDepth 100000 in
set_option maxHeartbeats 4000000 in
theorem t_X9_givenBy {J : Jt} {a0 : Nat → Nat} {a1 : Nat → Nat} {a2 : Nat → Nat} {k_tape : Nat} {k_trial : Nat} {k_task : Nat} {k_season : Nat} {k_stuffing : Nat} {k_images : Nat} {k_row : Nat} {k_sparePlan : Nat} {k_rule : Nat} {k_spareRule : Nat} {k_notes : Nat} {k_spareNotes : Nat} {x_latest : Value} {x_imageMany : Int32} {x_refusedSteps : Int32} {x_missing : Int32} {x_misused : Int32} {s_year : Int32} {s_wet : Int32} {s_lost : Int32} {s_eaten : Int32} {s_tied : Int32} {s_ripeMany : Int32} {s_gone : Nat → Int32} {s_place : Nat → Int32} {s_heard : Nat → Int32} {s_many : Nat → Int32} {s_lying : Nat → Int32} {s_ripe : Nat → Int32} {p_beds : Int32} {p_letters : Int32} {p_readers : Int32} {p_far : Nat → Int32} {p_drain : Nat → Int32} {p_length : Nat → Int32} {p_words : Nat → Int32} {p_home : Nat → Int32} {n1 : Int32} {n2 : Int32} {r : Int32} (h : f_X9_givenBy s_many p_beds n1 n2 = some r) : Mt J yX9_givenBy cX9_givenBy 5 (some .int) rm_X9_givenBy [.ref (a0 0), .int n1, .int n2] (cs_X9 (a0 0) k_tape (a1 0) k_trial k_task k_season k_stuffing k_images k_row (a2 0) k_sparePlan k_rule k_spareRule k_notes k_spareNotes x_latest x_imageMany x_refusedSteps x_missing x_misused ++ cs_X4 J.2.2.1 a1 s_year s_wet s_lost s_eaten s_tied s_ripeMany s_gone s_place s_heard s_many s_lying s_ripe ++ cs_X2 J.2.2.1 a2 p_beds p_letters p_readers p_far p_drain p_length p_words p_home) (some (.int r)) (cs_X9 (a0 0) k_tape (a1 0) k_trial k_task k_season k_stuffing k_images k_row (a2 0) k_sparePlan k_rule k_spareRule k_notes k_spareNotes x_latest x_imageMany x_refusedSteps x_missing x_misused ++ cs_X4 J.2.2.1 a1 s_year s_wet s_lost s_eaten s_tied s_ripeMany s_gone s_place s_heard s_many s_lying s_ripe ++ cs_X2 J.2.2.1 a2 p_beds p_letters p_readers p_far p_drain p_length p_words p_home) := by
  refine Mt_of (own := RX9) (by decide) rfl (Nat.le_of_ble_eq_true rfl) rfl (fun Z C E => ?_)
  unfold f_X9_givenBy at h
  show G J Z 0 0 (cs_X9 (a0 0) k_tape (a1 0) k_trial k_task k_season k_stuffing k_images k_row (a2 0) k_sparePlan k_rule k_spareRule k_notes k_spareNotes x_latest x_imageMany x_refusedSteps x_missing x_misused ++ cs_X4 J.2.2.1 a1 s_year s_wet s_lost s_eaten s_tied s_ripeMany s_gone s_place s_heard s_many s_lying s_ripe ++ cs_X2 J.2.2.1 a2 p_beds p_letters p_readers p_far p_drain p_length p_words p_home) 5 [(0, .ref (a0 0)), (1, .int n1), (2, .int n2)] 0 []
  refine g_iconst (pc := 0) C dX9_givenBy_0 ci_0 ?_
  refine g_istore_n (pc := 1) C [(3, .int 0), (0, .ref (a0 0)), (1, .int n1), (2, .int n2)] dX9_givenBy_1 rfl (by decide) rfl ?_
  refine g_iconst (pc := 2) C dX9_givenBy_2 ci_0 ?_
  refine g_istore (pc := 3) C [(4, .int 0), (3, .int 0), (0, .ref (a0 0)), (1, .int n1), (2, .int n2)] dX9_givenBy_3 (by decide) rfl ?_
  refine g_lv [2, 3, 4, 1, 0] rfl ?_
  exact j_X9_givenBy_5 C E    FU 0 0 h
noncomputable def f_X9_seed_51  (s_many : Nat → Int32) (p_beds : Int32) (n1 : Int32) (n2 : Int32) (n3 : Int32) : Nat → Int32 → Int32 → Int32 → Option (Nat × Int32 × Int32 × Int32)
  | 0, _, _, _ => none
  | n + 1, x4, x_missing, x_misused => if x4 ≤ 0 then some (0, 0, x_missing, x_misused) else b1 (f_X9_givenBy s_many p_beds x4 n2) (fun v1 => if n3 < v1 then f_X9_seed_51 s_many p_beds n1 n2 n3 n (x4 + (-1)) x_missing x_misused else if ixb n1 6 then some (0, imin x4 (s_many n1.toNatClampNeg), x_missing, x_misused) else none)
noncomputable def f_X9_seed (x_missing : Int32) (x_misused : Int32) (s_many : Nat → Int32) (p_beds : Int32) (n1 : Int32) (n2 : Int32) (n3 : Int32) : Option (Nat × Int32 × Int32 × Int32) := b2 (f_X9_needOneOf x_missing n1 p_beds) (fun e2 c3 => if e2 = 0 then b2 (f_X9_needRange x_misused n2 0 (((1 : Int32) <<< (p_beds &&& 31)) - 1)) (fun e4 c5 => if e4 = 0 then b2 (f_X9_needRange c5 n3 0 99) (fun e6 c7 => if e6 = 0 then b1 (f_X9_has n2 n1) (fun v8 => if v8 = 0 then some (0, 0, c3, c7) else f_X9_seed_51 s_many p_beds n1 n2 n3 FU 12 c3 c7) else some (e6, 0, c3, c7)) else some (e4, 0, c3, c5)) else some (e2, 0, c3, x_misused))
def rm_X9_seed : Room := { frames := 10, cells := 3, slots := 18, locals := 143 }
set_option maxRecDepth 100000 in
set_option maxHeartbeats 4000000 in
theorem j_X9_seed_51 {J : Jt} {Z : Zt} {a0 : Nat → Nat} {a1 : Nat → Nat} {a2 : Nat → Nat} {k_tape : Nat} {k_trial : Nat} {k_task : Nat} {k_season : Nat} {k_stuffing : Nat} {k_images : Nat} {k_row : Nat} {k_sparePlan : Nat} {k_rule : Nat} {k_spareRule : Nat} {k_notes : Nat} {k_spareNotes : Nat} {x_latest : Value} {x_imageMany : Int32} {x_refusedSteps : Int32} {s_year : Int32} {s_wet : Int32} {s_lost : Int32} {s_eaten : Int32} {s_tied : Int32} {s_ripeMany : Int32} {s_gone : Nat → Int32} {s_place : Nat → Int32} {s_heard : Nat → Int32} {s_many : Nat → Int32} {s_lying : Nat → Int32} {s_ripe : Nat → Int32} {p_beds : Int32} {p_letters : Int32} {p_readers : Int32} {p_far : Nat → Int32} {p_drain : Nat → Int32} {p_length : Nat → Int32} {p_words : Nat → Int32} {p_home : Nat → Int32} {n1 : Int32} {n2 : Int32} {n3 : Int32} {ex : Nat} {r : Int32} {o_x_missing : Int32} {o_x_misused : Int32} (C : Cx J Z cX9_seed 5 RX9 (some .int) rm_X9_seed) (hJ : J.1.stackTraces = false) (E : EzX J Z 3 18 ex (some (.int r)) (fun _ : Unit => cs_X9 (a0 0) k_tape (a1 0) k_trial k_task k_season k_stuffing k_images k_row (a2 0) k_sparePlan k_rule k_spareRule k_notes k_spareNotes x_latest x_imageMany x_refusedSteps o_x_missing o_x_misused ++ cs_X4 J.2.2.1 a1 s_year s_wet s_lost s_eaten s_tied s_ripeMany s_gone s_place s_heard s_many s_lying s_ripe ++ cs_X2 J.2.2.1 a2 p_beds p_letters p_readers p_far p_drain p_length p_words p_home)) : ∀ (n : Nat) (x4 : Int32) (x_missing : Int32) (x_misused : Int32), f_X9_seed_51 s_many p_beds n1 n2 n3 n x4 x_missing x_misused = some (ex, r, o_x_missing, o_x_misused) → G J Z 3 18 (cs_X9 (a0 0) k_tape (a1 0) k_trial k_task k_season k_stuffing k_images k_row (a2 0) k_sparePlan k_rule k_spareRule k_notes k_spareNotes x_latest x_imageMany x_refusedSteps x_missing x_misused ++ cs_X4 J.2.2.1 a1 s_year s_wet s_lost s_eaten s_tied s_ripeMany s_gone s_place s_heard s_many s_lying s_ripe ++ cs_X2 J.2.2.1 a2 p_beds p_letters p_readers p_far p_drain p_length p_words p_home) 5 [(0, .ref (a0 0)), (1, .int n1), (2, .int n2), (3, .int n3), (4, .int x4)] 51 [] := by
  intro n
  induction n with
  | zero =>
    intro x4 x_missing x_misused h
    rw [f_X9_seed_51] at h
    cases h
  | succ n ih =>
    intro x4 x_missing x_misused h
    rw [f_X9_seed_51] at h
    refine g_iload (pc := 51) C 4 rfl dX9_seed_51 ?_
    refine g_if_le (pc := 53) C (tgt := 88) dX9_seed_53 rfl h (fun h => ?_) (fun h => ?_)
    · refine g_iconst (pc := 88) C dX9_seed_88 ci_0 ?_
      cases h
      exact g_iretX C E () rfl dX9_seed_89
    · refine g_aload_n (pc := 56) C 0 rfl dX9_seed_56 ?_
      refine g_iload (pc := 57) C 4 rfl dX9_seed_57 ?_
      refine g_iload_n (pc := 59) C 2 rfl dX9_seed_59 ?_
      obtain ⟨v1, hc, h⟩ := b1_of h
      refine g_callV (pc := 60) C (w' := cs_X9 (a0 0) k_tape (a1 0) k_trial k_task k_season k_stuffing k_images k_row (a2 0) k_sparePlan k_rule k_spareRule k_notes k_spareNotes x_latest x_imageMany x_refusedSteps x_missing x_misused ++ cs_X4 J.2.2.1 a1 s_year s_wet s_lost s_eaten s_tied s_ripeMany s_gone s_place s_heard s_many s_lying s_ripe ++ cs_X2 J.2.2.1 a2 p_beds p_letters p_readers p_far p_drain p_length p_words p_home) (As := [.int x4, .int n2]) (st := []) (ci := 9) (q0 := 0) rfl rfl (t_X9_givenBy (k_tape := k_tape) (k_trial := k_trial) (k_task := k_task) (k_season := k_season) (k_stuffing := k_stuffing) (k_images := k_images) (k_row := k_row) (k_sparePlan := k_sparePlan) (k_rule := k_rule) (k_spareRule := k_spareRule) (k_notes := k_notes) (k_spareNotes := k_spareNotes) (a0 := a0) (a1 := a1) (a2 := a2) hc) Sub.same kw_1155 kw_1157 kw_16 kw_86 hy_X9_givenBy kw_1158 rfl (Nat.le_of_ble_eq_true rfl) (Nat.le_of_ble_eq_true rfl) (Nat.le_of_ble_eq_true rfl) (Nat.le_of_ble_eq_true rfl) (Nat.le_of_ble_eq_true rfl) dX9_seed_60 ?_
      refine g_iload_n (pc := 63) C 3 rfl dX9_seed_63 ?_
      refine g_icmp_gt (pc := 64) C (tgt := 82) dX9_seed_64 rfl h (fun h => ?_) (fun h => ?_)
      · refine g_iinc (pc := 82) C (j := 4) [(4, .int (x4 + (-1))), (0, .ref (a0 0)), (1, .int n1), (2, .int n2), (3, .int n3)] dX9_seed_82 rfl (ii_m1 _) (by decide) rfl ?_
        refine g_goto (pc := 85) C (tgt := 51) dX9_seed_85 rfl ?_
        refine g_lv [1, 2, 3, 4, 0] rfl ?_
        exact ih (x4 + (-1)) x_missing x_misused h
      · refine g_iload (pc := 67) C 4 rfl dX9_seed_67 ?_
        refine g_aload_n (pc := 69) C 0 rfl dX9_seed_69 ?_
        refine g_get (pc := 70) C FOK_X9 0 rfl rfl 1 (by decide) kw_368 rfl dX9_seed_70 ?_
        refine g_get (pc := 73) C FOK_X4 1 rfl rfl 9 (by decide) kw_173 rfl dX9_seed_73 ?_
        refine g_iload_n (pc := 76) C 1 rfl dX9_seed_76 ?_
        obtain ⟨hi, h⟩ := ix_of h
        refine g_iald (pc := 77) C 5 rfl hi dX9_seed_77 ?_
        refine g_imin (pc := 78) C kw_542 kw_543 kw_96 kw_544 (Nat.le_of_ble_eq_true rfl) (Nat.le_of_ble_eq_true rfl) (Nat.le_of_ble_eq_true rfl) (Nat.le_of_ble_eq_true rfl) dX9_seed_78 ?_
        cases h
        exact g_iretX C E () rfl dX9_seed_81
set_option maxRecDepth 100000 in
set_option maxHeartbeats 4000000 in
theorem t_X9_seed {J : Jt} {a0 : Nat → Nat} {a1 : Nat → Nat} {a2 : Nat → Nat} {k_tape : Nat} {k_trial : Nat} {k_task : Nat} {k_season : Nat} {k_stuffing : Nat} {k_images : Nat} {k_row : Nat} {k_sparePlan : Nat} {k_rule : Nat} {k_spareRule : Nat} {k_notes : Nat} {k_spareNotes : Nat} {x_latest : Value} {x_imageMany : Int32} {x_refusedSteps : Int32} {x_missing : Int32} {x_misused : Int32} {s_year : Int32} {s_wet : Int32} {s_lost : Int32} {s_eaten : Int32} {s_tied : Int32} {s_ripeMany : Int32} {s_gone : Nat → Int32} {s_place : Nat → Int32} {s_heard : Nat → Int32} {s_many : Nat → Int32} {s_lying : Nat → Int32} {s_ripe : Nat → Int32} {p_beds : Int32} {p_letters : Int32} {p_readers : Int32} {p_far : Nat → Int32} {p_drain : Nat → Int32} {p_length : Nat → Int32} {p_words : Nat → Int32} {p_home : Nat → Int32} {n1 : Int32} {n2 : Int32} {n3 : Int32} {ex : Nat} {r : Int32} {o_x_missing : Int32} {o_x_misused : Int32} (hJ : J.1.stackTraces = false) (h : f_X9_seed x_missing x_misused s_many p_beds n1 n2 n3 = some (ex, r, o_x_missing, o_x_misused)) : MtX J yX9_seed cX9_seed 5 (some .int) rm_X9_seed [.ref (a0 0), .int n1, .int n2, .int n3] (cs_X9 (a0 0) k_tape (a1 0) k_trial k_task k_season k_stuffing k_images k_row (a2 0) k_sparePlan k_rule k_spareRule k_notes k_spareNotes x_latest x_imageMany x_refusedSteps x_missing x_misused ++ cs_X4 J.2.2.1 a1 s_year s_wet s_lost s_eaten s_tied s_ripeMany s_gone s_place s_heard s_many s_lying s_ripe ++ cs_X2 J.2.2.1 a2 p_beds p_letters p_readers p_far p_drain p_length p_words p_home) ex (some (.int r)) (fun _ : Unit => cs_X9 (a0 0) k_tape (a1 0) k_trial k_task k_season k_stuffing k_images k_row (a2 0) k_sparePlan k_rule k_spareRule k_notes k_spareNotes x_latest x_imageMany x_refusedSteps o_x_missing o_x_misused ++ cs_X4 J.2.2.1 a1 s_year s_wet s_lost s_eaten s_tied s_ripeMany s_gone s_place s_heard s_many s_lying s_ripe ++ cs_X2 J.2.2.1 a2 p_beds p_letters p_readers p_far p_drain p_length p_words p_home) := by
  refine MtX_of (own := RX9) (by decide) rfl (Nat.le_of_ble_eq_true rfl) rfl (fun Z C E => ?_)
  unfold f_X9_seed at h
  show G J Z 0 0 (cs_X9 (a0 0) k_tape (a1 0) k_trial k_task k_season k_stuffing k_images k_row (a2 0) k_sparePlan k_rule k_spareRule k_notes k_spareNotes x_latest x_imageMany x_refusedSteps x_missing x_misused ++ cs_X4 J.2.2.1 a1 s_year s_wet s_lost s_eaten s_tied s_ripeMany s_gone s_place s_heard s_many s_lying s_ripe ++ cs_X2 J.2.2.1 a2 p_beds p_letters p_readers p_far p_drain p_length p_words p_home) 5 [(0, .ref (a0 0)), (1, .int n1), (2, .int n2), (3, .int n3)] 0 []
  refine g_aload_n (pc := 0) C 0 rfl dX9_seed_0 ?_
  refine g_iload_n (pc := 1) C 1 rfl dX9_seed_1 ?_
  refine g_aload_n (pc := 2) C 0 rfl dX9_seed_2 ?_
  refine g_get (pc := 3) C FOK_X9 0 rfl rfl 8 (by decide) kw_375 rfl dX9_seed_3 ?_
  refine g_get (pc := 6) C FOK_X2 8 rfl rfl 0 (by decide) kw_279 rfl dX9_seed_6 ?_
  obtain ⟨e2, c3, hc, h⟩ := b2_of h
  refine g_xcallU (pc := 9) C (w' := cs_X9 (a0 0) k_tape (a1 0) k_trial k_task k_season k_stuffing k_images k_row (a2 0) k_sparePlan k_rule k_spareRule k_notes k_spareNotes x_latest x_imageMany x_refusedSteps c3 x_misused ++ cs_X4 J.2.2.1 a1 s_year s_wet s_lost s_eaten s_tied s_ripeMany s_gone s_place s_heard s_many s_lying s_ripe ++ cs_X2 J.2.2.1 a2 p_beds p_letters p_readers p_far p_drain p_length p_words p_home) (As := [.int n1, .int p_beds]) (st := []) (ci := 9) (q0 := 0) rfl rfl (t_X9_needOneOf (k_tape := k_tape) (k_now := (a1 0)) (k_trial := k_trial) (k_task := k_task) (k_season := k_season) (k_stuffing := k_stuffing) (k_images := k_images) (k_row := k_row) (k_plan := (a2 0)) (k_sparePlan := k_sparePlan) (k_rule := k_rule) (k_spareRule := k_spareRule) (k_notes := k_notes) (k_spareNotes := k_spareNotes) (a0 := a0) hJ hc) (Sub.gen [0] [1, 2, 3, 4, 5, 6, 7, 8, 9, 10, 11, 12, 13] [13, 0, 1, 2, 3, 4, 5, 6, 7, 8, 9, 10, 11, 12] rfl (by decide) rfl (by decide) (by decide) rfl (by decide)) kw_956 kw_958 kw_12 kw_86 hy_X9_needOneOf kw_959 rfl (Nat.le_of_ble_eq_true rfl) (Nat.le_of_ble_eq_true rfl) (Nat.le_of_ble_eq_true rfl) (Nat.le_of_ble_eq_true rfl) (Nat.le_of_ble_eq_true rfl) dX9_seed_9 (fun he => ?_) (fun he => ?_)
  · subst he
    rw [if_pos rfl] at h
    refine g_wid (n' := 1) (k' := 6) (Nat.le_of_ble_eq_true rfl) (Nat.le_of_ble_eq_true rfl) ?_
    refine g_aload_n (pc := 12) C 0 rfl dX9_seed_12 ?_
    refine g_iload_n (pc := 13) C 2 rfl dX9_seed_13 ?_
    refine g_iconst (pc := 14) C dX9_seed_14 ci_0 ?_
    refine g_iconst (pc := 15) C dX9_seed_15 ci_1 ?_
    refine g_aload_n (pc := 16) C 0 rfl dX9_seed_16 ?_
    refine g_get (pc := 17) C FOK_X9 0 rfl rfl 8 (by decide) kw_375 rfl dX9_seed_17 ?_
    refine g_get (pc := 20) C FOK_X2 8 rfl rfl 0 (by decide) kw_279 rfl dX9_seed_20 ?_
    refine g_ishl (pc := 23) C dX9_seed_23 ?_
    refine g_iconst (pc := 24) C dX9_seed_24 ci_1 ?_
    refine g_isub (pc := 25) C dX9_seed_25 ?_
    obtain ⟨e4, c5, hc, h⟩ := b2_of h
    refine g_xcallU (pc := 26) C (w' := cs_X9 (a0 0) k_tape (a1 0) k_trial k_task k_season k_stuffing k_images k_row (a2 0) k_sparePlan k_rule k_spareRule k_notes k_spareNotes x_latest x_imageMany x_refusedSteps c3 c5 ++ cs_X4 J.2.2.1 a1 s_year s_wet s_lost s_eaten s_tied s_ripeMany s_gone s_place s_heard s_many s_lying s_ripe ++ cs_X2 J.2.2.1 a2 p_beds p_letters p_readers p_far p_drain p_length p_words p_home) (As := [.int n2, .int 0, .int (((1 : Int32) <<< (p_beds &&& 31)) - 1)]) (st := []) (ci := 9) (q0 := 0) rfl rfl (t_X9_needRange (k_tape := k_tape) (k_now := (a1 0)) (k_trial := k_trial) (k_task := k_task) (k_season := k_season) (k_stuffing := k_stuffing) (k_images := k_images) (k_row := k_row) (k_plan := (a2 0)) (k_sparePlan := k_sparePlan) (k_rule := k_rule) (k_spareRule := k_spareRule) (k_notes := k_notes) (k_spareNotes := k_spareNotes) (a0 := a0) hJ hc) (Sub.gen [0] [1, 2, 3, 4, 5, 6, 7, 8, 9, 10, 11, 12, 13] [13, 0, 1, 2, 3, 4, 5, 6, 7, 8, 9, 10, 11, 12] rfl (by decide) rfl (by decide) (by decide) rfl (by decide)) kw_545 kw_547 kw_2 kw_86 hy_X9_needRange kw_548 rfl (Nat.le_of_ble_eq_true rfl) (Nat.le_of_ble_eq_true rfl) (Nat.le_of_ble_eq_true rfl) (Nat.le_of_ble_eq_true rfl) (Nat.le_of_ble_eq_true rfl) dX9_seed_26 (fun he => ?_) (fun he => ?_)
    · subst he
      rw [if_pos rfl] at h
      refine g_wid (n' := 2) (k' := 12) (Nat.le_of_ble_eq_true rfl) (Nat.le_of_ble_eq_true rfl) ?_
      refine g_aload_n (pc := 29) C 0 rfl dX9_seed_29 ?_
      refine g_iload_n (pc := 30) C 3 rfl dX9_seed_30 ?_
      refine g_iconst (pc := 31) C dX9_seed_31 ci_0 ?_
      refine g_bipush (pc := 32) C dX9_seed_32 cb_99 ?_
      obtain ⟨e6, c7, hc, h⟩ := b2_of h
      refine g_xcallU (pc := 34) C (w' := cs_X9 (a0 0) k_tape (a1 0) k_trial k_task k_season k_stuffing k_images k_row (a2 0) k_sparePlan k_rule k_spareRule k_notes k_spareNotes x_latest x_imageMany x_refusedSteps c3 c7 ++ cs_X4 J.2.2.1 a1 s_year s_wet s_lost s_eaten s_tied s_ripeMany s_gone s_place s_heard s_many s_lying s_ripe ++ cs_X2 J.2.2.1 a2 p_beds p_letters p_readers p_far p_drain p_length p_words p_home) (As := [.int n3, .int 0, .int 99]) (st := []) (ci := 9) (q0 := 0) rfl rfl (t_X9_needRange (k_tape := k_tape) (k_now := (a1 0)) (k_trial := k_trial) (k_task := k_task) (k_season := k_season) (k_stuffing := k_stuffing) (k_images := k_images) (k_row := k_row) (k_plan := (a2 0)) (k_sparePlan := k_sparePlan) (k_rule := k_rule) (k_spareRule := k_spareRule) (k_notes := k_notes) (k_spareNotes := k_spareNotes) (a0 := a0) hJ hc) (Sub.gen [0] [1, 2, 3, 4, 5, 6, 7, 8, 9, 10, 11, 12, 13] [13, 0, 1, 2, 3, 4, 5, 6, 7, 8, 9, 10, 11, 12] rfl (by decide) rfl (by decide) (by decide) rfl (by decide)) kw_545 kw_547 kw_2 kw_86 hy_X9_needRange kw_548 rfl (Nat.le_of_ble_eq_true rfl) (Nat.le_of_ble_eq_true rfl) (Nat.le_of_ble_eq_true rfl) (Nat.le_of_ble_eq_true rfl) (Nat.le_of_ble_eq_true rfl) dX9_seed_34 (fun he => ?_) (fun he => ?_)
      · subst he
        rw [if_pos rfl] at h
        refine g_wid (n' := 3) (k' := 18) (Nat.le_of_ble_eq_true rfl) (Nat.le_of_ble_eq_true rfl) ?_
        refine g_iload_n (pc := 37) C 2 rfl dX9_seed_37 ?_
        refine g_iload_n (pc := 38) C 1 rfl dX9_seed_38 ?_
        obtain ⟨v8, hc, h⟩ := b1_of h
        refine g_callS (pc := 39) C (w' := cs_X9 (a0 0) k_tape (a1 0) k_trial k_task k_season k_stuffing k_images k_row (a2 0) k_sparePlan k_rule k_spareRule k_notes k_spareNotes x_latest x_imageMany x_refusedSteps c3 c7 ++ cs_X4 J.2.2.1 a1 s_year s_wet s_lost s_eaten s_tied s_ripeMany s_gone s_place s_heard s_many s_lying s_ripe ++ cs_X2 J.2.2.1 a2 p_beds p_letters p_readers p_far p_drain p_length p_words p_home) (As := [.int n2, .int n1]) (st := []) (t_X9_has hc) Sub.nil kw_1056 kw_483 kw_86 hy_X9_has kw_484 rfl (Nat.le_of_ble_eq_true rfl) (Nat.le_of_ble_eq_true rfl) (Nat.le_of_ble_eq_true rfl) (Nat.le_of_ble_eq_true rfl) (Nat.le_of_ble_eq_true rfl) dX9_seed_39 ?_
        refine g_if_ne (pc := 42) C (tgt := 47) dX9_seed_42 rfl h (fun h => ?_) (fun h => ?_)
        · refine g_bipush (pc := 47) C dX9_seed_47 cb_12 ?_
          refine g_istore (pc := 49) C [(4, .int 12), (0, .ref (a0 0)), (1, .int n1), (2, .int n2), (3, .int n3)] dX9_seed_49 (by decide) rfl ?_
          refine g_lv [1, 2, 3, 4, 0] rfl ?_
          exact j_X9_seed_51 C hJ E    FU 12 c3 c7 h
        · refine g_iconst (pc := 45) C dX9_seed_45 ci_0 ?_
          cases h
          exact g_iretX C E () rfl dX9_seed_46
      · rw [if_neg he] at h
        cases h
        exact gt_out C he E (Nat.le_of_ble_eq_true rfl) (Nat.le_of_ble_eq_true rfl) () rfl
    · rw [if_neg he] at h
      cases h
      exact gt_out C he E (Nat.le_of_ble_eq_true rfl) (Nat.le_of_ble_eq_true rfl) () rfl
  · rw [if_neg he] at h
    cases h
    exact gt_out C he E (Nat.le_of_ble_eq_true rfl) (Nat.le_of_ble_eq_true rfl) () rfl
noncomputable def f_X9_often_14  (s_many : Nat → Int32) (s_lying : Nat → Int32) (p_beds : Int32) (n1 : Int32) : Nat → Int32 → Int32 → Int32 → Int32 → Option (Nat × Int32 × Int32)
  | 0, _, _, _, _ => none
  | n + 1, x2, x3, x4, x_misused => if 16 ≤ x4 then if n1 = 0 then some (0, x2, x_misused) else some (0, x3, x_misused) else b1 (f_X4_timesOf s_many s_lying p_beds x4) (fun v1 => if v1 ≤ 0 then f_X9_often_14 s_many s_lying p_beds n1 n x2 x3 (x4 + 1) x_misused else if v1 ≤ x3 then f_X9_often_14 s_many s_lying p_beds n1 n x2 x3 (x4 + 1) x_misused else f_X9_often_14 s_many s_lying p_beds n1 n x4 v1 (x4 + 1) x_misused)
noncomputable def f_X9_often (x_misused : Int32) (s_many : Nat → Int32) (s_lying : Nat → Int32) (p_beds : Int32) (n1 : Int32) : Option (Nat × Int32 × Int32) := b2 (f_X9_needRange x_misused n1 0 1) (fun e2 c3 => if e2 = 0 then f_X9_often_14 s_many s_lying p_beds n1 FU (-1) (-1) 0 c3 else some (e2, 0, c3))
def rm_X9_often : Room := { frames := 10, cells := 1, slots := 6, locals := 143 }
set_option maxRecDepth 100000 in
set_option maxHeartbeats 4000000 in
theorem j_X9_often_14 {J : Jt} {Z : Zt} {a0 : Nat → Nat} {a1 : Nat → Nat} {a2 : Nat → Nat} {k_tape : Nat} {k_trial : Nat} {k_task : Nat} {k_season : Nat} {k_stuffing : Nat} {k_images : Nat} {k_row : Nat} {k_sparePlan : Nat} {k_rule : Nat} {k_spareRule : Nat} {k_notes : Nat} {k_spareNotes : Nat} {x_latest : Value} {x_imageMany : Int32} {x_refusedSteps : Int32} {x_missing : Int32} {s_year : Int32} {s_wet : Int32} {s_lost : Int32} {s_eaten : Int32} {s_tied : Int32} {s_ripeMany : Int32} {s_gone : Nat → Int32} {s_place : Nat → Int32} {s_heard : Nat → Int32} {s_many : Nat → Int32} {s_lying : Nat → Int32} {s_ripe : Nat → Int32} {p_beds : Int32} {p_letters : Int32} {p_readers : Int32} {p_far : Nat → Int32} {p_drain : Nat → Int32} {p_length : Nat → Int32} {p_words : Nat → Int32} {p_home : Nat → Int32} {n1 : Int32} {ex : Nat} {r : Int32} {o_x_misused : Int32} (C : Cx J Z cX9_often 6 RX9 (some .int) rm_X9_often) (hJ : J.1.stackTraces = false) (E : EzX J Z 1 6 ex (some (.int r)) (fun _ : Unit => cs_X9 (a0 0) k_tape (a1 0) k_trial k_task k_season k_stuffing k_images k_row (a2 0) k_sparePlan k_rule k_spareRule k_notes k_spareNotes x_latest x_imageMany x_refusedSteps x_missing o_x_misused ++ cs_X4 J.2.2.1 a1 s_year s_wet s_lost s_eaten s_tied s_ripeMany s_gone s_place s_heard s_many s_lying s_ripe ++ cs_X2 J.2.2.1 a2 p_beds p_letters p_readers p_far p_drain p_length p_words p_home)) : ∀ (n : Nat) (x2 : Int32) (x3 : Int32) (x4 : Int32) (x_misused : Int32), f_X9_often_14 s_many s_lying p_beds n1 n x2 x3 x4 x_misused = some (ex, r, o_x_misused) → G J Z 1 6 (cs_X9 (a0 0) k_tape (a1 0) k_trial k_task k_season k_stuffing k_images k_row (a2 0) k_sparePlan k_rule k_spareRule k_notes k_spareNotes x_latest x_imageMany x_refusedSteps x_missing x_misused ++ cs_X4 J.2.2.1 a1 s_year s_wet s_lost s_eaten s_tied s_ripeMany s_gone s_place s_heard s_many s_lying s_ripe ++ cs_X2 J.2.2.1 a2 p_beds p_letters p_readers p_far p_drain p_length p_words p_home) 6 [(0, .ref (a0 0)), (1, .int n1), (2, .int x2), (3, .int x3), (4, .int x4)] 14 [] := by
  intro n
  induction n with
  | zero =>
    intro x2 x3 x4 x_misused h
    rw [f_X9_often_14] at h
    cases h
  | succ n ih =>
    intro x2 x3 x4 x_misused h
    rw [f_X9_often_14] at h
    refine g_iload (pc := 14) C 4 rfl dX9_often_14 ?_
    refine g_bipush (pc := 16) C dX9_often_16 cb_16 ?_
    refine g_icmp_ge (pc := 18) C (tgt := 59) dX9_often_18 rfl h (fun h => ?_) (fun h => ?_)
    · refine g_iload_n (pc := 59) C 1 rfl dX9_often_59 ?_
      refine g_if_ne (pc := 60) C (tgt := 67) dX9_often_60 rfl h (fun h => ?_) (fun h => ?_)
      · refine g_iload_n (pc := 67) C 3 rfl dX9_often_67 ?_
        cases h
        exact g_iretX C E () rfl dX9_often_68
      · refine g_iload_n (pc := 63) C 2 rfl dX9_often_63 ?_
        refine g_goto (pc := 64) C (tgt := 68) dX9_often_64 rfl ?_
        cases h
        exact g_iretX C E () rfl dX9_often_68
    · refine g_aload_n (pc := 21) C 0 rfl dX9_often_21 ?_
      refine g_get (pc := 22) C FOK_X9 0 rfl rfl 1 (by decide) kw_368 rfl dX9_often_22 ?_
      refine g_aload_n (pc := 25) C 0 rfl dX9_often_25 ?_
      refine g_get (pc := 26) C FOK_X9 0 rfl rfl 8 (by decide) kw_375 rfl dX9_often_26 ?_
      refine g_iload (pc := 29) C 4 rfl dX9_often_29 ?_
      obtain ⟨v1, hc, h⟩ := b1_of h
      refine g_callV (pc := 31) C (w' := cs_X9 (a0 0) k_tape (a1 0) k_trial k_task k_season k_stuffing k_images k_row (a2 0) k_sparePlan k_rule k_spareRule k_notes k_spareNotes x_latest x_imageMany x_refusedSteps x_missing x_misused ++ cs_X4 J.2.2.1 a1 s_year s_wet s_lost s_eaten s_tied s_ripeMany s_gone s_place s_heard s_many s_lying s_ripe ++ cs_X2 J.2.2.1 a2 p_beds p_letters p_readers p_far p_drain p_length p_words p_home) (As := [.ref (a2 0), .int x4]) (st := []) (ci := 4) (q0 := 1) rfl rfl (t_X4_timesOf (a0 := a1) (a1 := a2) hc) (Sub.gen [1, 2, 3, 4, 5, 6, 7, 8, 9, 10, 11, 12, 13] [0] [0, 1, 2, 3, 4, 5, 6, 7, 8, 9, 10, 11, 12, 13] rfl (by decide) rfl (by decide) (by decide) rfl (by decide)) kw_1166 kw_1167 kw_1168 kw_88 hy_X4_timesOf kw_1169 rfl (Nat.le_of_ble_eq_true rfl) (Nat.le_of_ble_eq_true rfl) (Nat.le_of_ble_eq_true rfl) (Nat.le_of_ble_eq_true rfl) (Nat.le_of_ble_eq_true rfl) dX9_often_31 ?_
      refine g_istore (pc := 34) C [(5, .int v1), (0, .ref (a0 0)), (1, .int n1), (2, .int x2), (3, .int x3), (4, .int x4)] dX9_often_34 (by decide) rfl ?_
      refine g_iload (pc := 36) C 0 rfl dX9_often_36 ?_
      refine g_if_le (pc := 38) C (tgt := 53) dX9_often_38 rfl h (fun h => ?_) (fun h => ?_)
      · refine g_iinc (pc := 53) C (j := 5) [(4, .int (x4 + 1)), (5, .int v1), (0, .ref (a0 0)), (1, .int n1), (2, .int x2), (3, .int x3)] dX9_often_53 rfl (ii_1 _) (by decide) rfl ?_
        refine g_goto (pc := 56) C (tgt := 14) dX9_often_56 rfl ?_
        refine g_lv [2, 3, 4, 5, 0] rfl ?_
        exact ih x2 x3 (x4 + 1) x_misused h
      · refine g_iload (pc := 41) C 0 rfl dX9_often_41 ?_
        refine g_iload_n (pc := 43) C 4 rfl dX9_often_43 ?_
        refine g_icmp_le (pc := 44) C (tgt := 53) dX9_often_44 rfl h (fun h => ?_) (fun h => ?_)
        · refine g_iinc (pc := 53) C (j := 5) [(4, .int (x4 + 1)), (5, .int v1), (0, .ref (a0 0)), (1, .int n1), (2, .int x2), (3, .int x3)] dX9_often_53 rfl (ii_1 _) (by decide) rfl ?_
          refine g_goto (pc := 56) C (tgt := 14) dX9_often_56 rfl ?_
          refine g_lv [2, 3, 4, 5, 0] rfl ?_
          exact ih x2 x3 (x4 + 1) x_misused h
        · refine g_iload (pc := 47) C 5 rfl dX9_often_47 ?_
          refine g_istore_n (pc := 49) C [(2, .int x4), (5, .int v1), (0, .ref (a0 0)), (1, .int n1), (3, .int x3), (4, .int x4)] dX9_often_49 rfl (by decide) rfl ?_
          refine g_iload (pc := 50) C 1 rfl dX9_often_50 ?_
          refine g_istore_n (pc := 52) C [(3, .int v1), (2, .int x4), (5, .int v1), (0, .ref (a0 0)), (1, .int n1), (4, .int x4)] dX9_often_52 rfl (by decide) rfl ?_
          refine g_iinc (pc := 53) C (j := 5) [(4, .int (x4 + 1)), (3, .int v1), (2, .int x4), (5, .int v1), (0, .ref (a0 0)), (1, .int n1)] dX9_often_53 rfl (ii_1 _) (by decide) rfl ?_
          refine g_goto (pc := 56) C (tgt := 14) dX9_often_56 rfl ?_
          refine g_lv [4, 5, 2, 1, 0] rfl ?_
          exact ih x4 v1 (x4 + 1) x_misused h
set_option maxRecDepth 100000 in
set_option maxHeartbeats 4000000 in
theorem t_X9_often {J : Jt} {a0 : Nat → Nat} {a1 : Nat → Nat} {a2 : Nat → Nat} {k_tape : Nat} {k_trial : Nat} {k_task : Nat} {k_season : Nat} {k_stuffing : Nat} {k_images : Nat} {k_row : Nat} {k_sparePlan : Nat} {k_rule : Nat} {k_spareRule : Nat} {k_notes : Nat} {k_spareNotes : Nat} {x_latest : Value} {x_imageMany : Int32} {x_refusedSteps : Int32} {x_missing : Int32} {x_misused : Int32} {s_year : Int32} {s_wet : Int32} {s_lost : Int32} {s_eaten : Int32} {s_tied : Int32} {s_ripeMany : Int32} {s_gone : Nat → Int32} {s_place : Nat → Int32} {s_heard : Nat → Int32} {s_many : Nat → Int32} {s_lying : Nat → Int32} {s_ripe : Nat → Int32} {p_beds : Int32} {p_letters : Int32} {p_readers : Int32} {p_far : Nat → Int32} {p_drain : Nat → Int32} {p_length : Nat → Int32} {p_words : Nat → Int32} {p_home : Nat → Int32} {n1 : Int32} {ex : Nat} {r : Int32} {o_x_misused : Int32} (hJ : J.1.stackTraces = false) (h : f_X9_often x_misused s_many s_lying p_beds n1 = some (ex, r, o_x_misused)) : MtX J yX9_often cX9_often 6 (some .int) rm_X9_often [.ref (a0 0), .int n1] (cs_X9 (a0 0) k_tape (a1 0) k_trial k_task k_season k_stuffing k_images k_row (a2 0) k_sparePlan k_rule k_spareRule k_notes k_spareNotes x_latest x_imageMany x_refusedSteps x_missing x_misused ++ cs_X4 J.2.2.1 a1 s_year s_wet s_lost s_eaten s_tied s_ripeMany s_gone s_place s_heard s_many s_lying s_ripe ++ cs_X2 J.2.2.1 a2 p_beds p_letters p_readers p_far p_drain p_length p_words p_home) ex (some (.int r)) (fun _ : Unit => cs_X9 (a0 0) k_tape (a1 0) k_trial k_task k_season k_stuffing k_images k_row (a2 0) k_sparePlan k_rule k_spareRule k_notes k_spareNotes x_latest x_imageMany x_refusedSteps x_missing o_x_misused ++ cs_X4 J.2.2.1 a1 s_year s_wet s_lost s_eaten s_tied s_ripeMany s_gone s_place s_heard s_many s_lying s_ripe ++ cs_X2 J.2.2.1 a2 p_beds p_letters p_readers p_far p_drain p_length p_words p_home) := by
  refine MtX_of (own := RX9) (by decide) rfl (Nat.le_of_ble_eq_true rfl) rfl (fun Z C E => ?_)
  unfold f_X9_often at h
  show G J Z 0 0 (cs_X9 (a0 0) k_tape (a1 0) k_trial k_task k_season k_stuffing k_images k_row (a2 0) k_sparePlan k_rule k_spareRule k_notes k_spareNotes x_latest x_imageMany x_refusedSteps x_missing x_misused ++ cs_X4 J.2.2.1 a1 s_year s_wet s_lost s_eaten s_tied s_ripeMany s_gone s_place s_heard s_many s_lying s_ripe ++ cs_X2 J.2.2.1 a2 p_beds p_letters p_readers p_far p_drain p_length p_words p_home) 6 [(0, .ref (a0 0)), (1, .int n1)] 0 []
  refine g_aload_n (pc := 0) C 0 rfl dX9_often_0 ?_
  refine g_iload_n (pc := 1) C 1 rfl dX9_often_1 ?_
  refine g_iconst (pc := 2) C dX9_often_2 ci_0 ?_
  refine g_iconst (pc := 3) C dX9_often_3 ci_1 ?_
  obtain ⟨e2, c3, hc, h⟩ := b2_of h
  refine g_xcallU (pc := 4) C (w' := cs_X9 (a0 0) k_tape (a1 0) k_trial k_task k_season k_stuffing k_images k_row (a2 0) k_sparePlan k_rule k_spareRule k_notes k_spareNotes x_latest x_imageMany x_refusedSteps x_missing c3 ++ cs_X4 J.2.2.1 a1 s_year s_wet s_lost s_eaten s_tied s_ripeMany s_gone s_place s_heard s_many s_lying s_ripe ++ cs_X2 J.2.2.1 a2 p_beds p_letters p_readers p_far p_drain p_length p_words p_home) (As := [.int n1, .int 0, .int 1]) (st := []) (ci := 9) (q0 := 0) rfl rfl (t_X9_needRange (k_tape := k_tape) (k_now := (a1 0)) (k_trial := k_trial) (k_task := k_task) (k_season := k_season) (k_stuffing := k_stuffing) (k_images := k_images) (k_row := k_row) (k_plan := (a2 0)) (k_sparePlan := k_sparePlan) (k_rule := k_rule) (k_spareRule := k_spareRule) (k_notes := k_notes) (k_spareNotes := k_spareNotes) (a0 := a0) hJ hc) (Sub.gen [0] [1, 2, 3, 4, 5, 6, 7, 8, 9, 10, 11, 12, 13] [13, 0, 1, 2, 3, 4, 5, 6, 7, 8, 9, 10, 11, 12] rfl (by decide) rfl (by decide) (by decide) rfl (by decide)) kw_545 kw_547 kw_2 kw_86 hy_X9_needRange kw_548 rfl (Nat.le_of_ble_eq_true rfl) (Nat.le_of_ble_eq_true rfl) (Nat.le_of_ble_eq_true rfl) (Nat.le_of_ble_eq_true rfl) (Nat.le_of_ble_eq_true rfl) dX9_often_4 (fun he => ?_) (fun he => ?_)
  · subst he
    rw [if_pos rfl] at h
    refine g_wid (n' := 1) (k' := 6) (Nat.le_of_ble_eq_true rfl) (Nat.le_of_ble_eq_true rfl) ?_
    refine g_iconst (pc := 7) C dX9_often_7 ci_m1 ?_
    refine g_istore_n (pc := 8) C [(2, .int (-1)), (0, .ref (a0 0)), (1, .int n1)] dX9_often_8 rfl (by decide) rfl ?_
    refine g_iconst (pc := 9) C dX9_often_9 ci_m1 ?_
    refine g_istore_n (pc := 10) C [(3, .int (-1)), (2, .int (-1)), (0, .ref (a0 0)), (1, .int n1)] dX9_often_10 rfl (by decide) rfl ?_
    refine g_iconst (pc := 11) C dX9_often_11 ci_0 ?_
    refine g_istore (pc := 12) C [(4, .int 0), (3, .int (-1)), (2, .int (-1)), (0, .ref (a0 0)), (1, .int n1)] dX9_often_12 (by decide) rfl ?_
    refine g_lv [3, 4, 2, 1, 0] rfl ?_
    exact j_X9_often_14 C hJ E    FU (-1) (-1) 0 c3 h
  · rw [if_neg he] at h
    cases h
    exact gt_out C he E (Nat.le_of_ble_eq_true rfl) (Nat.le_of_ble_eq_true rfl) () rfl
noncomputable def f_X9_hearers_12  (s_heard : Nat → Int32) (p_readers : Int32) (n1 : Int32) : Nat → Int32 → Int32 → Int32 → Option (Nat × Int32 × Int32)
  | 0, _, _, _ => none
  | n + 1, x2, x3, x_misused => if p_readers ≤ x3 then some (0, x2, x_misused) else if ixb x3 5 then b1 (f_X9_has (s_heard x3.toNatClampNeg) n1) (fun v1 => if v1 = 0 then f_X9_hearers_12 s_heard p_readers n1 n x2 (x3 + 1) x_misused else f_X9_hearers_12 s_heard p_readers n1 n (x2 ||| ((1 : Int32) <<< (x3 &&& 31))) (x3 + 1) x_misused) else none
noncomputable def f_X9_hearers (x_misused : Int32) (s_heard : Nat → Int32) (p_readers : Int32) (n1 : Int32) : Option (Nat × Int32 × Int32) := b2 (f_X9_needRange x_misused n1 0 15) (fun e2 c3 => if e2 = 0 then f_X9_hearers_12 s_heard p_readers n1 FU 0 0 c3 else some (e2, 0, c3))
def rm_X9_hearers : Room := { frames := 10, cells := 1, slots := 6, locals := 143 }
set_option maxRecDepth 100000 in
set_option maxHeartbeats 4000000 in
theorem j_X9_hearers_12 {J : Jt} {Z : Zt} {a0 : Nat → Nat} {a1 : Nat → Nat} {a2 : Nat → Nat} {k_tape : Nat} {k_trial : Nat} {k_task : Nat} {k_season : Nat} {k_stuffing : Nat} {k_images : Nat} {k_row : Nat} {k_sparePlan : Nat} {k_rule : Nat} {k_spareRule : Nat} {k_notes : Nat} {k_spareNotes : Nat} {x_latest : Value} {x_imageMany : Int32} {x_refusedSteps : Int32} {x_missing : Int32} {s_year : Int32} {s_wet : Int32} {s_lost : Int32} {s_eaten : Int32} {s_tied : Int32} {s_ripeMany : Int32} {s_gone : Nat → Int32} {s_place : Nat → Int32} {s_heard : Nat → Int32} {s_many : Nat → Int32} {s_lying : Nat → Int32} {s_ripe : Nat → Int32} {p_beds : Int32} {p_letters : Int32} {p_readers : Int32} {p_far : Nat → Int32} {p_drain : Nat → Int32} {p_length : Nat → Int32} {p_words : Nat → Int32} {p_home : Nat → Int32} {n1 : Int32} {ex : Nat} {r : Int32} {o_x_misused : Int32} (C : Cx J Z cX9_hearers 4 RX9 (some .int) rm_X9_hearers) (hJ : J.1.stackTraces = false) (E : EzX J Z 1 6 ex (some (.int r)) (fun _ : Unit => cs_X9 (a0 0) k_tape (a1 0) k_trial k_task k_season k_stuffing k_images k_row (a2 0) k_sparePlan k_rule k_spareRule k_notes k_spareNotes x_latest x_imageMany x_refusedSteps x_missing o_x_misused ++ cs_X4 J.2.2.1 a1 s_year s_wet s_lost s_eaten s_tied s_ripeMany s_gone s_place s_heard s_many s_lying s_ripe ++ cs_X2 J.2.2.1 a2 p_beds p_letters p_readers p_far p_drain p_length p_words p_home)) : ∀ (n : Nat) (x2 : Int32) (x3 : Int32) (x_misused : Int32), f_X9_hearers_12 s_heard p_readers n1 n x2 x3 x_misused = some (ex, r, o_x_misused) → G J Z 1 6 (cs_X9 (a0 0) k_tape (a1 0) k_trial k_task k_season k_stuffing k_images k_row (a2 0) k_sparePlan k_rule k_spareRule k_notes k_spareNotes x_latest x_imageMany x_refusedSteps x_missing x_misused ++ cs_X4 J.2.2.1 a1 s_year s_wet s_lost s_eaten s_tied s_ripeMany s_gone s_place s_heard s_many s_lying s_ripe ++ cs_X2 J.2.2.1 a2 p_beds p_letters p_readers p_far p_drain p_length p_words p_home) 4 [(0, .ref (a0 0)), (1, .int n1), (2, .int x2), (3, .int x3)] 12 [] := by
  intro n
  induction n with
  | zero =>
    intro x2 x3 x_misused h
    rw [f_X9_hearers_12] at h
    cases h
  | succ n ih =>
    intro x2 x3 x_misused h
    rw [f_X9_hearers_12] at h
    refine g_iload_n (pc := 12) C 3 rfl dX9_hearers_12 ?_
    refine g_aload_n (pc := 13) C 0 rfl dX9_hearers_13 ?_
    refine g_get (pc := 14) C FOK_X9 0 rfl rfl 8 (by decide) kw_375 rfl dX9_hearers_14 ?_
    refine g_get (pc := 17) C FOK_X2 8 rfl rfl 2 (by decide) kw_289 rfl dX9_hearers_17 ?_
    refine g_icmp_ge (pc := 20) C (tgt := 51) dX9_hearers_20 rfl h (fun h => ?_) (fun h => ?_)
    · refine g_iload_n (pc := 51) C 2 rfl dX9_hearers_51 ?_
      cases h
      exact g_iretX C E () rfl dX9_hearers_52
    · refine g_aload_n (pc := 23) C 0 rfl dX9_hearers_23 ?_
      refine g_get (pc := 24) C FOK_X9 0 rfl rfl 1 (by decide) kw_368 rfl dX9_hearers_24 ?_
      refine g_get (pc := 27) C FOK_X4 1 rfl rfl 8 (by decide) kw_171 rfl dX9_hearers_27 ?_
      refine g_iload_n (pc := 30) C 3 rfl dX9_hearers_30 ?_
      obtain ⟨hi, h⟩ := ix_of h
      refine g_iald (pc := 31) C 4 rfl hi dX9_hearers_31 ?_
      refine g_iload_n (pc := 32) C 1 rfl dX9_hearers_32 ?_
      obtain ⟨v1, hc, h⟩ := b1_of h
      refine g_callS (pc := 33) C (w' := cs_X9 (a0 0) k_tape (a1 0) k_trial k_task k_season k_stuffing k_images k_row (a2 0) k_sparePlan k_rule k_spareRule k_notes k_spareNotes x_latest x_imageMany x_refusedSteps x_missing x_misused ++ cs_X4 J.2.2.1 a1 s_year s_wet s_lost s_eaten s_tied s_ripeMany s_gone s_place s_heard s_many s_lying s_ripe ++ cs_X2 J.2.2.1 a2 p_beds p_letters p_readers p_far p_drain p_length p_words p_home) (As := [.int (s_heard x3.toNatClampNeg), .int n1]) (st := []) (t_X9_has hc) Sub.nil kw_1056 kw_483 kw_86 hy_X9_has kw_484 rfl (Nat.le_of_ble_eq_true rfl) (Nat.le_of_ble_eq_true rfl) (Nat.le_of_ble_eq_true rfl) (Nat.le_of_ble_eq_true rfl) (Nat.le_of_ble_eq_true rfl) dX9_hearers_33 ?_
      refine g_if_eq (pc := 36) C (tgt := 45) dX9_hearers_36 rfl h (fun h => ?_) (fun h => ?_)
      · refine g_iinc (pc := 45) C (j := 3) [(3, .int (x3 + 1)), (0, .ref (a0 0)), (1, .int n1), (2, .int x2)] dX9_hearers_45 rfl (ii_1 _) (by decide) rfl ?_
        refine g_goto (pc := 48) C (tgt := 12) dX9_hearers_48 rfl ?_
        refine g_lv [1, 2, 3, 0] rfl ?_
        exact ih x2 (x3 + 1) x_misused h
      · refine g_iload_n (pc := 39) C 2 rfl dX9_hearers_39 ?_
        refine g_iconst (pc := 40) C dX9_hearers_40 ci_1 ?_
        refine g_iload_n (pc := 41) C 3 rfl dX9_hearers_41 ?_
        refine g_ishl (pc := 42) C dX9_hearers_42 ?_
        refine g_ior (pc := 43) C dX9_hearers_43 ?_
        refine g_istore_n (pc := 44) C [(2, .int (x2 ||| ((1 : Int32) <<< (x3 &&& 31)))), (0, .ref (a0 0)), (1, .int n1), (3, .int x3)] dX9_hearers_44 rfl (by decide) rfl ?_
        refine g_iinc (pc := 45) C (j := 3) [(3, .int (x3 + 1)), (2, .int (x2 ||| ((1 : Int32) <<< (x3 &&& 31)))), (0, .ref (a0 0)), (1, .int n1)] dX9_hearers_45 rfl (ii_1 _) (by decide) rfl ?_
        refine g_goto (pc := 48) C (tgt := 12) dX9_hearers_48 rfl ?_
        refine g_lv [2, 3, 1, 0] rfl ?_
        exact ih (x2 ||| ((1 : Int32) <<< (x3 &&& 31))) (x3 + 1) x_misused h
set_option maxRecDepth 100000 in
set_option maxHeartbeats 4000000 in
theorem t_X9_hearers {J : Jt} {a0 : Nat → Nat} {a1 : Nat → Nat} {a2 : Nat → Nat} {k_tape : Nat} {k_trial : Nat} {k_task : Nat} {k_season : Nat} {k_stuffing : Nat} {k_images : Nat} {k_row : Nat} {k_sparePlan : Nat} {k_rule : Nat} {k_spareRule : Nat} {k_notes : Nat} {k_spareNotes : Nat} {x_latest : Value} {x_imageMany : Int32} {x_refusedSteps : Int32} {x_missing : Int32} {x_misused : Int32} {s_year : Int32} {s_wet : Int32} {s_lost : Int32} {s_eaten : Int32} {s_tied : Int32} {s_ripeMany : Int32} {s_gone : Nat → Int32} {s_place : Nat → Int32} {s_heard : Nat → Int32} {s_many : Nat → Int32} {s_lying : Nat → Int32} {s_ripe : Nat → Int32} {p_beds : Int32} {p_letters : Int32} {p_readers : Int32} {p_far : Nat → Int32} {p_drain : Nat → Int32} {p_length : Nat → Int32} {p_words : Nat → Int32} {p_home : Nat → Int32} {n1 : Int32} {ex : Nat} {r : Int32} {o_x_misused : Int32} (hJ : J.1.stackTraces = false) (h : f_X9_hearers x_misused s_heard p_readers n1 = some (ex, r, o_x_misused)) : MtX J yX9_hearers cX9_hearers 4 (some .int) rm_X9_hearers [.ref (a0 0), .int n1] (cs_X9 (a0 0) k_tape (a1 0) k_trial k_task k_season k_stuffing k_images k_row (a2 0) k_sparePlan k_rule k_spareRule k_notes k_spareNotes x_latest x_imageMany x_refusedSteps x_missing x_misused ++ cs_X4 J.2.2.1 a1 s_year s_wet s_lost s_eaten s_tied s_ripeMany s_gone s_place s_heard s_many s_lying s_ripe ++ cs_X2 J.2.2.1 a2 p_beds p_letters p_readers p_far p_drain p_length p_words p_home) ex (some (.int r)) (fun _ : Unit => cs_X9 (a0 0) k_tape (a1 0) k_trial k_task k_season k_stuffing k_images k_row (a2 0) k_sparePlan k_rule k_spareRule k_notes k_spareNotes x_latest x_imageMany x_refusedSteps x_missing o_x_misused ++ cs_X4 J.2.2.1 a1 s_year s_wet s_lost s_eaten s_tied s_ripeMany s_gone s_place s_heard s_many s_lying s_ripe ++ cs_X2 J.2.2.1 a2 p_beds p_letters p_readers p_far p_drain p_length p_words p_home) := by
  refine MtX_of (own := RX9) (by decide) rfl (Nat.le_of_ble_eq_true rfl) rfl (fun Z C E => ?_)
  unfold f_X9_hearers at h
  show G J Z 0 0 (cs_X9 (a0 0) k_tape (a1 0) k_trial k_task k_season k_stuffing k_images k_row (a2 0) k_sparePlan k_rule k_spareRule k_notes k_spareNotes x_latest x_imageMany x_refusedSteps x_missing x_misused ++ cs_X4 J.2.2.1 a1 s_year s_wet s_lost s_eaten s_tied s_ripeMany s_gone s_place s_heard s_many s_lying s_ripe ++ cs_X2 J.2.2.1 a2 p_beds p_letters p_readers p_far p_drain p_length p_words p_home) 4 [(0, .ref (a0 0)), (1, .int n1)] 0 []
  refine g_aload_n (pc := 0) C 0 rfl dX9_hearers_0 ?_
  refine g_iload_n (pc := 1) C 1 rfl dX9_hearers_1 ?_
  refine g_iconst (pc := 2) C dX9_hearers_2 ci_0 ?_
  refine g_bipush (pc := 3) C dX9_hearers_3 cb_15 ?_
  obtain ⟨e2, c3, hc, h⟩ := b2_of h
  refine g_xcallU (pc := 5) C (w' := cs_X9 (a0 0) k_tape (a1 0) k_trial k_task k_season k_stuffing k_images k_row (a2 0) k_sparePlan k_rule k_spareRule k_notes k_spareNotes x_latest x_imageMany x_refusedSteps x_missing c3 ++ cs_X4 J.2.2.1 a1 s_year s_wet s_lost s_eaten s_tied s_ripeMany s_gone s_place s_heard s_many s_lying s_ripe ++ cs_X2 J.2.2.1 a2 p_beds p_letters p_readers p_far p_drain p_length p_words p_home) (As := [.int n1, .int 0, .int 15]) (st := []) (ci := 9) (q0 := 0) rfl rfl (t_X9_needRange (k_tape := k_tape) (k_now := (a1 0)) (k_trial := k_trial) (k_task := k_task) (k_season := k_season) (k_stuffing := k_stuffing) (k_images := k_images) (k_row := k_row) (k_plan := (a2 0)) (k_sparePlan := k_sparePlan) (k_rule := k_rule) (k_spareRule := k_spareRule) (k_notes := k_notes) (k_spareNotes := k_spareNotes) (a0 := a0) hJ hc) (Sub.gen [0] [1, 2, 3, 4, 5, 6, 7, 8, 9, 10, 11, 12, 13] [13, 0, 1, 2, 3, 4, 5, 6, 7, 8, 9, 10, 11, 12] rfl (by decide) rfl (by decide) (by decide) rfl (by decide)) kw_545 kw_547 kw_2 kw_86 hy_X9_needRange kw_548 rfl (Nat.le_of_ble_eq_true rfl) (Nat.le_of_ble_eq_true rfl) (Nat.le_of_ble_eq_true rfl) (Nat.le_of_ble_eq_true rfl) (Nat.le_of_ble_eq_true rfl) dX9_hearers_5 (fun he => ?_) (fun he => ?_)
  · subst he
    rw [if_pos rfl] at h
    refine g_wid (n' := 1) (k' := 6) (Nat.le_of_ble_eq_true rfl) (Nat.le_of_ble_eq_true rfl) ?_
    refine g_iconst (pc := 8) C dX9_hearers_8 ci_0 ?_
    refine g_istore_n (pc := 9) C [(2, .int 0), (0, .ref (a0 0)), (1, .int n1)] dX9_hearers_9 rfl (by decide) rfl ?_
    refine g_iconst (pc := 10) C dX9_hearers_10 ci_0 ?_
    refine g_istore_n (pc := 11) C [(3, .int 0), (2, .int 0), (0, .ref (a0 0)), (1, .int n1)] dX9_hearers_11 rfl (by decide) rfl ?_
    refine g_lv [2, 3, 1, 0] rfl ?_
    exact j_X9_hearers_12 C hJ E    FU 0 0 c3 h
  · rw [if_neg he] at h
    cases h
    exact gt_out C he E (Nat.le_of_ble_eq_true rfl) (Nat.le_of_ble_eq_true rfl) () rfl
noncomputable def f_X9_news (x_missing : Int32) (x_misused : Int32) (s_gone : Nat → Int32) (s_place : Nat → Int32) (s_heard : Nat → Int32) (p_letters : Int32) (p_readers : Int32) (p_far : Nat → Int32) (p_length : Nat → Int32) (p_words : Nat → Int32) (n1 : Int32) (n2 : Int32) : Option (Nat × Int32 × Int32 × Int32) := b2 (f_X9_needOneOf x_missing n1 p_readers) (fun e1 c2 => if e1 = 0 then b2 (f_X9_needRange x_misused n2 1 30) (fun e3 c4 => if e3 = 0 then b1 (f_X4_toldBy s_gone s_place p_letters p_far p_length p_words n1 n2) (fun v5 => if ixb n1 5 then some (0, v5 &&& ((s_heard n1.toNatClampNeg) ^^^ (-1)), c2, c4) else none) else some (e3, 0, c2, c4)) else some (e1, 0, c2, x_misused))
def rm_X9_news : Room := { frames := 10, cells := 2, slots := 12, locals := 143 }
set_option maxRecDepth 100000 in
set_option maxHeartbeats 4000000 in
theorem t_X9_news {J : Jt} {a0 : Nat → Nat} {a1 : Nat → Nat} {a2 : Nat → Nat} {k_tape : Nat} {k_trial : Nat} {k_task : Nat} {k_season : Nat} {k_stuffing : Nat} {k_images : Nat} {k_row : Nat} {k_sparePlan : Nat} {k_rule : Nat} {k_spareRule : Nat} {k_notes : Nat} {k_spareNotes : Nat} {x_latest : Value} {x_imageMany : Int32} {x_refusedSteps : Int32} {x_missing : Int32} {x_misused : Int32} {s_year : Int32} {s_wet : Int32} {s_lost : Int32} {s_eaten : Int32} {s_tied : Int32} {s_ripeMany : Int32} {s_gone : Nat → Int32} {s_place : Nat → Int32} {s_heard : Nat → Int32} {s_many : Nat → Int32} {s_lying : Nat → Int32} {s_ripe : Nat → Int32} {p_beds : Int32} {p_letters : Int32} {p_readers : Int32} {p_far : Nat → Int32} {p_drain : Nat → Int32} {p_length : Nat → Int32} {p_words : Nat → Int32} {p_home : Nat → Int32} {n1 : Int32} {n2 : Int32} {ex : Nat} {r : Int32} {o_x_missing : Int32} {o_x_misused : Int32} (hJ : J.1.stackTraces = false) (h : f_X9_news x_missing x_misused s_gone s_place s_heard p_letters p_readers p_far p_length p_words n1 n2 = some (ex, r, o_x_missing, o_x_misused)) : MtX J yX9_news cX9_news 3 (some .int) rm_X9_news [.ref (a0 0), .int n1, .int n2] (cs_X9 (a0 0) k_tape (a1 0) k_trial k_task k_season k_stuffing k_images k_row (a2 0) k_sparePlan k_rule k_spareRule k_notes k_spareNotes x_latest x_imageMany x_refusedSteps x_missing x_misused ++ cs_X4 J.2.2.1 a1 s_year s_wet s_lost s_eaten s_tied s_ripeMany s_gone s_place s_heard s_many s_lying s_ripe ++ cs_X2 J.2.2.1 a2 p_beds p_letters p_readers p_far p_drain p_length p_words p_home) ex (some (.int r)) (fun _ : Unit => cs_X9 (a0 0) k_tape (a1 0) k_trial k_task k_season k_stuffing k_images k_row (a2 0) k_sparePlan k_rule k_spareRule k_notes k_spareNotes x_latest x_imageMany x_refusedSteps o_x_missing o_x_misused ++ cs_X4 J.2.2.1 a1 s_year s_wet s_lost s_eaten s_tied s_ripeMany s_gone s_place s_heard s_many s_lying s_ripe ++ cs_X2 J.2.2.1 a2 p_beds p_letters p_readers p_far p_drain p_length p_words p_home) := by
  refine MtX_of (own := RX9) (by decide) rfl (Nat.le_of_ble_eq_true rfl) rfl (fun Z C E => ?_)
  unfold f_X9_news at h
  show G J Z 0 0 (cs_X9 (a0 0) k_tape (a1 0) k_trial k_task k_season k_stuffing k_images k_row (a2 0) k_sparePlan k_rule k_spareRule k_notes k_spareNotes x_latest x_imageMany x_refusedSteps x_missing x_misused ++ cs_X4 J.2.2.1 a1 s_year s_wet s_lost s_eaten s_tied s_ripeMany s_gone s_place s_heard s_many s_lying s_ripe ++ cs_X2 J.2.2.1 a2 p_beds p_letters p_readers p_far p_drain p_length p_words p_home) 3 [(0, .ref (a0 0)), (1, .int n1), (2, .int n2)] 0 []
  refine g_aload_n (pc := 0) C 0 rfl dX9_news_0 ?_
  refine g_iload_n (pc := 1) C 1 rfl dX9_news_1 ?_
  refine g_aload_n (pc := 2) C 0 rfl dX9_news_2 ?_
  refine g_get (pc := 3) C FOK_X9 0 rfl rfl 8 (by decide) kw_375 rfl dX9_news_3 ?_
  refine g_get (pc := 6) C FOK_X2 8 rfl rfl 2 (by decide) kw_289 rfl dX9_news_6 ?_
  obtain ⟨e1, c2, hc, h⟩ := b2_of h
  refine g_xcallU (pc := 9) C (w' := cs_X9 (a0 0) k_tape (a1 0) k_trial k_task k_season k_stuffing k_images k_row (a2 0) k_sparePlan k_rule k_spareRule k_notes k_spareNotes x_latest x_imageMany x_refusedSteps c2 x_misused ++ cs_X4 J.2.2.1 a1 s_year s_wet s_lost s_eaten s_tied s_ripeMany s_gone s_place s_heard s_many s_lying s_ripe ++ cs_X2 J.2.2.1 a2 p_beds p_letters p_readers p_far p_drain p_length p_words p_home) (As := [.int n1, .int p_readers]) (st := []) (ci := 9) (q0 := 0) rfl rfl (t_X9_needOneOf (k_tape := k_tape) (k_now := (a1 0)) (k_trial := k_trial) (k_task := k_task) (k_season := k_season) (k_stuffing := k_stuffing) (k_images := k_images) (k_row := k_row) (k_plan := (a2 0)) (k_sparePlan := k_sparePlan) (k_rule := k_rule) (k_spareRule := k_spareRule) (k_notes := k_notes) (k_spareNotes := k_spareNotes) (a0 := a0) hJ hc) (Sub.gen [0] [1, 2, 3, 4, 5, 6, 7, 8, 9, 10, 11, 12, 13] [13, 0, 1, 2, 3, 4, 5, 6, 7, 8, 9, 10, 11, 12] rfl (by decide) rfl (by decide) (by decide) rfl (by decide)) kw_956 kw_958 kw_12 kw_86 hy_X9_needOneOf kw_959 rfl (Nat.le_of_ble_eq_true rfl) (Nat.le_of_ble_eq_true rfl) (Nat.le_of_ble_eq_true rfl) (Nat.le_of_ble_eq_true rfl) (Nat.le_of_ble_eq_true rfl) dX9_news_9 (fun he => ?_) (fun he => ?_)
  · subst he
    rw [if_pos rfl] at h
    refine g_wid (n' := 1) (k' := 6) (Nat.le_of_ble_eq_true rfl) (Nat.le_of_ble_eq_true rfl) ?_
    refine g_aload_n (pc := 12) C 0 rfl dX9_news_12 ?_
    refine g_iload_n (pc := 13) C 2 rfl dX9_news_13 ?_
    refine g_iconst (pc := 14) C dX9_news_14 ci_1 ?_
    refine g_bipush (pc := 15) C dX9_news_15 cb_30 ?_
    obtain ⟨e3, c4, hc, h⟩ := b2_of h
    refine g_xcallU (pc := 17) C (w' := cs_X9 (a0 0) k_tape (a1 0) k_trial k_task k_season k_stuffing k_images k_row (a2 0) k_sparePlan k_rule k_spareRule k_notes k_spareNotes x_latest x_imageMany x_refusedSteps c2 c4 ++ cs_X4 J.2.2.1 a1 s_year s_wet s_lost s_eaten s_tied s_ripeMany s_gone s_place s_heard s_many s_lying s_ripe ++ cs_X2 J.2.2.1 a2 p_beds p_letters p_readers p_far p_drain p_length p_words p_home) (As := [.int n2, .int 1, .int 30]) (st := []) (ci := 9) (q0 := 0) rfl rfl (t_X9_needRange (k_tape := k_tape) (k_now := (a1 0)) (k_trial := k_trial) (k_task := k_task) (k_season := k_season) (k_stuffing := k_stuffing) (k_images := k_images) (k_row := k_row) (k_plan := (a2 0)) (k_sparePlan := k_sparePlan) (k_rule := k_rule) (k_spareRule := k_spareRule) (k_notes := k_notes) (k_spareNotes := k_spareNotes) (a0 := a0) hJ hc) (Sub.gen [0] [1, 2, 3, 4, 5, 6, 7, 8, 9, 10, 11, 12, 13] [13, 0, 1, 2, 3, 4, 5, 6, 7, 8, 9, 10, 11, 12] rfl (by decide) rfl (by decide) (by decide) rfl (by decide)) kw_545 kw_547 kw_2 kw_86 hy_X9_needRange kw_548 rfl (Nat.le_of_ble_eq_true rfl) (Nat.le_of_ble_eq_true rfl) (Nat.le_of_ble_eq_true rfl) (Nat.le_of_ble_eq_true rfl) (Nat.le_of_ble_eq_true rfl) dX9_news_17 (fun he => ?_) (fun he => ?_)
    · subst he
      rw [if_pos rfl] at h
      refine g_wid (n' := 2) (k' := 12) (Nat.le_of_ble_eq_true rfl) (Nat.le_of_ble_eq_true rfl) ?_
      refine g_aload_n (pc := 20) C 0 rfl dX9_news_20 ?_
      refine g_get (pc := 21) C FOK_X9 0 rfl rfl 1 (by decide) kw_368 rfl dX9_news_21 ?_
      refine g_aload_n (pc := 24) C 0 rfl dX9_news_24 ?_
      refine g_get (pc := 25) C FOK_X9 0 rfl rfl 8 (by decide) kw_375 rfl dX9_news_25 ?_
      refine g_iload_n (pc := 28) C 1 rfl dX9_news_28 ?_
      refine g_iload_n (pc := 29) C 2 rfl dX9_news_29 ?_
      obtain ⟨v5, hc, h⟩ := b1_of h
      refine g_callV (pc := 30) C (w' := cs_X9 (a0 0) k_tape (a1 0) k_trial k_task k_season k_stuffing k_images k_row (a2 0) k_sparePlan k_rule k_spareRule k_notes k_spareNotes x_latest x_imageMany x_refusedSteps c2 c4 ++ cs_X4 J.2.2.1 a1 s_year s_wet s_lost s_eaten s_tied s_ripeMany s_gone s_place s_heard s_many s_lying s_ripe ++ cs_X2 J.2.2.1 a2 p_beds p_letters p_readers p_far p_drain p_length p_words p_home) (As := [.ref (a2 0), .int n1, .int n2]) (st := []) (ci := 4) (q0 := 1) rfl rfl (t_X4_toldBy (a0 := a1) (a1 := a2) hc) (Sub.gen [1, 2, 3, 4, 5, 6, 7, 8, 9, 10, 11, 12, 13] [0] [0, 1, 2, 3, 4, 5, 6, 7, 8, 9, 10, 11, 12, 13] rfl (by decide) rfl (by decide) (by decide) rfl (by decide)) kw_1184 kw_861 kw_862 kw_88 hy_X4_toldBy kw_863 rfl (Nat.le_of_ble_eq_true rfl) (Nat.le_of_ble_eq_true rfl) (Nat.le_of_ble_eq_true rfl) (Nat.le_of_ble_eq_true rfl) (Nat.le_of_ble_eq_true rfl) dX9_news_30 ?_
      refine g_aload_n (pc := 33) C 0 rfl dX9_news_33 ?_
      refine g_get (pc := 34) C FOK_X9 0 rfl rfl 1 (by decide) kw_368 rfl dX9_news_34 ?_
      refine g_get (pc := 37) C FOK_X4 1 rfl rfl 8 (by decide) kw_171 rfl dX9_news_37 ?_
      refine g_iload_n (pc := 40) C 1 rfl dX9_news_40 ?_
      obtain ⟨hi, h⟩ := ix_of h
      refine g_iald (pc := 41) C 4 rfl hi dX9_news_41 ?_
      refine g_iconst (pc := 42) C dX9_news_42 ci_m1 ?_
      refine g_ixor (pc := 43) C dX9_news_43 ?_
      refine g_iand (pc := 44) C dX9_news_44 ?_
      cases h
      exact g_iretX C E () rfl dX9_news_45
    · rw [if_neg he] at h
      cases h
      exact gt_out C he E (Nat.le_of_ble_eq_true rfl) (Nat.le_of_ble_eq_true rfl) () rfl
  · rw [if_neg he] at h
    cases h
    exact gt_out C he E (Nat.le_of_ble_eq_true rfl) (Nat.le_of_ble_eq_true rfl) () rfl
noncomputable def f_X9_full_23  (s_many : Nat → Int32) (p_beds : Int32) (n1 : Int32) : Nat → Int32 → Int32 → Int32 → Int32 → Option (Nat × Int32 × Int32)
  | 0, _, _, _, _ => none
  | n + 1, x2, x3, x4, x_misused => if p_beds ≤ x4 then some (0, x3, x_misused) else if ixb x4 6 then if (s_many x4.toNatClampNeg) = x2 then f_X9_full_23 s_many p_beds n1 n x2 (x3 ||| ((1 : Int32) <<< (x4 &&& 31))) (x4 + 1) x_misused else f_X9_full_23 s_many p_beds n1 n x2 x3 (x4 + 1) x_misused else none
noncomputable def f_X9_full (x_misused : Int32) (s_many : Nat → Int32) (p_beds : Int32) (n1 : Int32) : Option (Nat × Int32 × Int32) := b2 (f_X9_needRange x_misused n1 0 1) (fun e1 c2 => if e1 = 0 then if n1 = 0 then f_X9_full_23 s_many p_beds n1 FU 12 0 0 c2 else f_X9_full_23 s_many p_beds n1 FU 0 0 0 c2 else some (e1, 0, c2))
def rm_X9_full : Room := { frames := 10, cells := 1, slots := 6, locals := 143 }
set_option maxRecDepth 100000 in
set_option maxHeartbeats 4000000 in
theorem j_X9_full_23 {J : Jt} {Z : Zt} {a0 : Nat → Nat} {a1 : Nat → Nat} {a2 : Nat → Nat} {k_tape : Nat} {k_trial : Nat} {k_task : Nat} {k_season : Nat} {k_stuffing : Nat} {k_images : Nat} {k_row : Nat} {k_sparePlan : Nat} {k_rule : Nat} {k_spareRule : Nat} {k_notes : Nat} {k_spareNotes : Nat} {x_latest : Value} {x_imageMany : Int32} {x_refusedSteps : Int32} {x_missing : Int32} {s_year : Int32} {s_wet : Int32} {s_lost : Int32} {s_eaten : Int32} {s_tied : Int32} {s_ripeMany : Int32} {s_gone : Nat → Int32} {s_place : Nat → Int32} {s_heard : Nat → Int32} {s_many : Nat → Int32} {s_lying : Nat → Int32} {s_ripe : Nat → Int32} {p_beds : Int32} {p_letters : Int32} {p_readers : Int32} {p_far : Nat → Int32} {p_drain : Nat → Int32} {p_length : Nat → Int32} {p_words : Nat → Int32} {p_home : Nat → Int32} {n1 : Int32} {ex : Nat} {r : Int32} {o_x_misused : Int32} (C : Cx J Z cX9_full 5 RX9 (some .int) rm_X9_full) (hJ : J.1.stackTraces = false) (E : EzX J Z 1 6 ex (some (.int r)) (fun _ : Unit => cs_X9 (a0 0) k_tape (a1 0) k_trial k_task k_season k_stuffing k_images k_row (a2 0) k_sparePlan k_rule k_spareRule k_notes k_spareNotes x_latest x_imageMany x_refusedSteps x_missing o_x_misused ++ cs_X4 J.2.2.1 a1 s_year s_wet s_lost s_eaten s_tied s_ripeMany s_gone s_place s_heard s_many s_lying s_ripe ++ cs_X2 J.2.2.1 a2 p_beds p_letters p_readers p_far p_drain p_length p_words p_home)) : ∀ (n : Nat) (x2 : Int32) (x3 : Int32) (x4 : Int32) (x_misused : Int32), f_X9_full_23 s_many p_beds n1 n x2 x3 x4 x_misused = some (ex, r, o_x_misused) → G J Z 1 6 (cs_X9 (a0 0) k_tape (a1 0) k_trial k_task k_season k_stuffing k_images k_row (a2 0) k_sparePlan k_rule k_spareRule k_notes k_spareNotes x_latest x_imageMany x_refusedSteps x_missing x_misused ++ cs_X4 J.2.2.1 a1 s_year s_wet s_lost s_eaten s_tied s_ripeMany s_gone s_place s_heard s_many s_lying s_ripe ++ cs_X2 J.2.2.1 a2 p_beds p_letters p_readers p_far p_drain p_length p_words p_home) 5 [(0, .ref (a0 0)), (2, .int x2), (3, .int x3), (4, .int x4)] 23 [] := by
  intro n
  induction n with
  | zero =>
    intro x2 x3 x4 x_misused h
    rw [f_X9_full_23] at h
    cases h
  | succ n ih =>
    intro x2 x3 x4 x_misused h
    rw [f_X9_full_23] at h
    refine g_iload (pc := 23) C 3 rfl dX9_full_23 ?_
    refine g_aload_n (pc := 25) C 0 rfl dX9_full_25 ?_
    refine g_get (pc := 26) C FOK_X9 0 rfl rfl 8 (by decide) kw_375 rfl dX9_full_26 ?_
    refine g_get (pc := 29) C FOK_X2 8 rfl rfl 0 (by decide) kw_279 rfl dX9_full_29 ?_
    refine g_icmp_ge (pc := 32) C (tgt := 62) dX9_full_32 rfl h (fun h => ?_) (fun h => ?_)
    · refine g_iload_n (pc := 62) C 2 rfl dX9_full_62 ?_
      cases h
      exact g_iretX C E () rfl dX9_full_63
    · refine g_aload_n (pc := 35) C 0 rfl dX9_full_35 ?_
      refine g_get (pc := 36) C FOK_X9 0 rfl rfl 1 (by decide) kw_368 rfl dX9_full_36 ?_
      refine g_get (pc := 39) C FOK_X4 1 rfl rfl 9 (by decide) kw_173 rfl dX9_full_39 ?_
      refine g_iload (pc := 42) C 3 rfl dX9_full_42 ?_
      obtain ⟨hi, h⟩ := ix_of h
      refine g_iald (pc := 44) C 5 rfl hi dX9_full_44 ?_
      refine g_iload_n (pc := 45) C 1 rfl dX9_full_45 ?_
      refine g_icmp_ne (pc := 46) C (tgt := 56) dX9_full_46 rfl h (fun h => ?_) (fun h => ?_)
      · refine g_iinc (pc := 56) C (j := 3) [(4, .int (x4 + 1)), (0, .ref (a0 0)), (2, .int x2), (3, .int x3)] dX9_full_56 rfl (ii_1 _) (by decide) rfl ?_
        refine g_goto (pc := 59) C (tgt := 23) dX9_full_59 rfl ?_
        refine g_lv [1, 2, 3, 0] rfl ?_
        exact ih x2 x3 (x4 + 1) x_misused h
      · refine g_iload_n (pc := 49) C 2 rfl dX9_full_49 ?_
        refine g_iconst (pc := 50) C dX9_full_50 ci_1 ?_
        refine g_iload (pc := 51) C 3 rfl dX9_full_51 ?_
        refine g_ishl (pc := 53) C dX9_full_53 ?_
        refine g_ior (pc := 54) C dX9_full_54 ?_
        refine g_istore_n (pc := 55) C [(3, .int (x3 ||| ((1 : Int32) <<< (x4 &&& 31)))), (0, .ref (a0 0)), (2, .int x2), (4, .int x4)] dX9_full_55 rfl (by decide) rfl ?_
        refine g_iinc (pc := 56) C (j := 3) [(4, .int (x4 + 1)), (3, .int (x3 ||| ((1 : Int32) <<< (x4 &&& 31)))), (0, .ref (a0 0)), (2, .int x2)] dX9_full_56 rfl (ii_1 _) (by decide) rfl ?_
        refine g_goto (pc := 59) C (tgt := 23) dX9_full_59 rfl ?_
        refine g_lv [2, 3, 1, 0] rfl ?_
        exact ih x2 (x3 ||| ((1 : Int32) <<< (x4 &&& 31))) (x4 + 1) x_misused h
set_option maxRecDepth 100000 in
set_option maxHeartbeats 4000000 in
theorem t_X9_full {J : Jt} {a0 : Nat → Nat} {a1 : Nat → Nat} {a2 : Nat → Nat} {k_tape : Nat} {k_trial : Nat} {k_task : Nat} {k_season : Nat} {k_stuffing : Nat} {k_images : Nat} {k_row : Nat} {k_sparePlan : Nat} {k_rule : Nat} {k_spareRule : Nat} {k_notes : Nat} {k_spareNotes : Nat} {x_latest : Value} {x_imageMany : Int32} {x_refusedSteps : Int32} {x_missing : Int32} {x_misused : Int32} {s_year : Int32} {s_wet : Int32} {s_lost : Int32} {s_eaten : Int32} {s_tied : Int32} {s_ripeMany : Int32} {s_gone : Nat → Int32} {s_place : Nat → Int32} {s_heard : Nat → Int32} {s_many : Nat → Int32} {s_lying : Nat → Int32} {s_ripe : Nat → Int32} {p_beds : Int32} {p_letters : Int32} {p_readers : Int32} {p_far : Nat → Int32} {p_drain : Nat → Int32} {p_length : Nat → Int32} {p_words : Nat → Int32} {p_home : Nat → Int32} {n1 : Int32} {ex : Nat} {r : Int32} {o_x_misused : Int32} (hJ : J.1.stackTraces = false) (h : f_X9_full x_misused s_many p_beds n1 = some (ex, r, o_x_misused)) : MtX J yX9_full cX9_full 5 (some .int) rm_X9_full [.ref (a0 0), .int n1] (cs_X9 (a0 0) k_tape (a1 0) k_trial k_task k_season k_stuffing k_images k_row (a2 0) k_sparePlan k_rule k_spareRule k_notes k_spareNotes x_latest x_imageMany x_refusedSteps x_missing x_misused ++ cs_X4 J.2.2.1 a1 s_year s_wet s_lost s_eaten s_tied s_ripeMany s_gone s_place s_heard s_many s_lying s_ripe ++ cs_X2 J.2.2.1 a2 p_beds p_letters p_readers p_far p_drain p_length p_words p_home) ex (some (.int r)) (fun _ : Unit => cs_X9 (a0 0) k_tape (a1 0) k_trial k_task k_season k_stuffing k_images k_row (a2 0) k_sparePlan k_rule k_spareRule k_notes k_spareNotes x_latest x_imageMany x_refusedSteps x_missing o_x_misused ++ cs_X4 J.2.2.1 a1 s_year s_wet s_lost s_eaten s_tied s_ripeMany s_gone s_place s_heard s_many s_lying s_ripe ++ cs_X2 J.2.2.1 a2 p_beds p_letters p_readers p_far p_drain p_length p_words p_home) := by
  refine MtX_of (own := RX9) (by decide) rfl (Nat.le_of_ble_eq_true rfl) rfl (fun Z C E => ?_)
  unfold f_X9_full at h
  show G J Z 0 0 (cs_X9 (a0 0) k_tape (a1 0) k_trial k_task k_season k_stuffing k_images k_row (a2 0) k_sparePlan k_rule k_spareRule k_notes k_spareNotes x_latest x_imageMany x_refusedSteps x_missing x_misused ++ cs_X4 J.2.2.1 a1 s_year s_wet s_lost s_eaten s_tied s_ripeMany s_gone s_place s_heard s_many s_lying s_ripe ++ cs_X2 J.2.2.1 a2 p_beds p_letters p_readers p_far p_drain p_length p_words p_home) 5 [(0, .ref (a0 0)), (1, .int n1)] 0 []
  refine g_aload_n (pc := 0) C 0 rfl dX9_full_0 ?_
  refine g_iload_n (pc := 1) C 1 rfl dX9_full_1 ?_
  refine g_iconst (pc := 2) C dX9_full_2 ci_0 ?_
  refine g_iconst (pc := 3) C dX9_full_3 ci_1 ?_
  obtain ⟨e1, c2, hc, h⟩ := b2_of h
  refine g_xcallU (pc := 4) C (w' := cs_X9 (a0 0) k_tape (a1 0) k_trial k_task k_season k_stuffing k_images k_row (a2 0) k_sparePlan k_rule k_spareRule k_notes k_spareNotes x_latest x_imageMany x_refusedSteps x_missing c2 ++ cs_X4 J.2.2.1 a1 s_year s_wet s_lost s_eaten s_tied s_ripeMany s_gone s_place s_heard s_many s_lying s_ripe ++ cs_X2 J.2.2.1 a2 p_beds p_letters p_readers p_far p_drain p_length p_words p_home) (As := [.int n1, .int 0, .int 1]) (st := []) (ci := 9) (q0 := 0) rfl rfl (t_X9_needRange (k_tape := k_tape) (k_now := (a1 0)) (k_trial := k_trial) (k_task := k_task) (k_season := k_season) (k_stuffing := k_stuffing) (k_images := k_images) (k_row := k_row) (k_plan := (a2 0)) (k_sparePlan := k_sparePlan) (k_rule := k_rule) (k_spareRule := k_spareRule) (k_notes := k_notes) (k_spareNotes := k_spareNotes) (a0 := a0) hJ hc) (Sub.gen [0] [1, 2, 3, 4, 5, 6, 7, 8, 9, 10, 11, 12, 13] [13, 0, 1, 2, 3, 4, 5, 6, 7, 8, 9, 10, 11, 12] rfl (by decide) rfl (by decide) (by decide) rfl (by decide)) kw_545 kw_547 kw_2 kw_86 hy_X9_needRange kw_548 rfl (Nat.le_of_ble_eq_true rfl) (Nat.le_of_ble_eq_true rfl) (Nat.le_of_ble_eq_true rfl) (Nat.le_of_ble_eq_true rfl) (Nat.le_of_ble_eq_true rfl) dX9_full_4 (fun he => ?_) (fun he => ?_)
  · subst he
    rw [if_pos rfl] at h
    refine g_wid (n' := 1) (k' := 6) (Nat.le_of_ble_eq_true rfl) (Nat.le_of_ble_eq_true rfl) ?_
    refine g_iload_n (pc := 7) C 1 rfl dX9_full_7 ?_
    refine g_if_ne (pc := 8) C (tgt := 16) dX9_full_8 rfl h (fun h => ?_) (fun h => ?_)
    · refine g_iconst (pc := 16) C dX9_full_16 ci_0 ?_
      refine g_istore_n (pc := 17) C [(2, .int 0), (0, .ref (a0 0)), (1, .int n1)] dX9_full_17 rfl (by decide) rfl ?_
      refine g_iconst (pc := 18) C dX9_full_18 ci_0 ?_
      refine g_istore_n (pc := 19) C [(3, .int 0), (2, .int 0), (0, .ref (a0 0)), (1, .int n1)] dX9_full_19 rfl (by decide) rfl ?_
      refine g_iconst (pc := 20) C dX9_full_20 ci_0 ?_
      refine g_istore (pc := 21) C [(4, .int 0), (3, .int 0), (2, .int 0), (0, .ref (a0 0)), (1, .int n1)] dX9_full_21 (by decide) rfl ?_
      refine g_lv [3, 2, 1, 0] rfl ?_
      exact j_X9_full_23 C hJ E    FU 0 0 0 c2 h
    · refine g_bipush (pc := 11) C dX9_full_11 cb_12 ?_
      refine g_goto (pc := 13) C (tgt := 17) dX9_full_13 rfl ?_
      refine g_istore_n (pc := 17) C [(2, .int 12), (0, .ref (a0 0)), (1, .int n1)] dX9_full_17 rfl (by decide) rfl ?_
      refine g_iconst (pc := 18) C dX9_full_18 ci_0 ?_
      refine g_istore_n (pc := 19) C [(3, .int 0), (2, .int 12), (0, .ref (a0 0)), (1, .int n1)] dX9_full_19 rfl (by decide) rfl ?_
      refine g_iconst (pc := 20) C dX9_full_20 ci_0 ?_
      refine g_istore (pc := 21) C [(4, .int 0), (3, .int 0), (2, .int 12), (0, .ref (a0 0)), (1, .int n1)] dX9_full_21 (by decide) rfl ?_
      refine g_lv [3, 2, 1, 0] rfl ?_
      exact j_X9_full_23 C hJ E    FU 12 0 0 c2 h
  · rw [if_neg he] at h
    cases h
    exact gt_out C he E (Nat.le_of_ble_eq_true rfl) (Nat.le_of_ble_eq_true rfl) () rfl
