noncomputable def f_X6_draw (u_drawn : Int32) (n1 : Int32) : Option (Int32 × Int32) := if n1 ≤ 0 then some (0, (u_drawn * 1103515245) + 12345) else if n1 = 0 then none else some ((((((u_drawn * 1103515245) + 12345).toUInt32 >>> ((16 : Int32).toUInt32 &&& Int32.toUInt32 31)).toInt32) &&& 32767) - (((((u_drawn * 1103515245) + 12345).toUInt32 >>> ((16 : Int32).toUInt32 &&& Int32.toUInt32 31)).toInt32) &&& 32767) / n1 * n1, (u_drawn * 1103515245) + 12345)
def rm_X6_draw : Room := { frames := 0, cells := 0, slots := 0, locals := 0 }
set_option maxRecDepth 100000 in
set_option maxHeartbeats 4000000 in
theorem t_X6_draw {J : Jt} {a0 : Nat → Nat} {u_drawn : Int32} {n1 : Int32} {r : Int32} {o_u_drawn : Int32} (h : f_X6_draw u_drawn n1 = some (r, o_u_drawn)) : Mt J yX6_draw cX6_draw 3 (some .int) rm_X6_draw [.ref (a0 0), .int n1] (cs_X6 J.2.2.1 a0 u_drawn) (some (.int r)) (cs_X6 J.2.2.1 a0 o_u_drawn) := by
  refine Mt_of (own := RX6) (by decide) rfl (Nat.le_of_ble_eq_true rfl) rfl (fun Z C E => ?_)
  unfold f_X6_draw at h
  show G J Z 0 0 (cs_X6 J.2.2.1 a0 u_drawn) 3 [(0, .ref (a0 0)), (1, .int n1)] 0 []
  refine g_aload_n (pc := 0) C 0 rfl dX6_draw_0 ?_
  refine g_aload_n (pc := 1) C 0 rfl dX6_draw_1 ?_
  refine g_get (pc := 2) C FOK_X6 0 rfl rfl 0 (by decide) kw_238 rfl dX6_draw_2 ?_
  refine g_ldc (pc := 5) C dX6_draw_5 kw_1239 ?_
  refine g_imul (pc := 7) C dX6_draw_7 ?_
  refine g_sipush (pc := 8) C dX6_draw_8 cs_12345 ?_
  refine g_iadd (pc := 11) C dX6_draw_11 ?_
  refine g_put (pc := 12) C (w' := cs_X6 J.2.2.1 a0 ((u_drawn * 1103515245) + 12345)) FOK_X6 0 rfl rfl 0 (by decide) kw_238 rfl rfl rfl (Nat.le_of_ble_eq_true rfl) dX6_draw_12 rfl ?_
  refine g_aload_n (pc := 15) C 0 rfl dX6_draw_15 ?_
  refine g_get (pc := 16) C FOK_X6 0 rfl rfl 0 (by decide) kw_238 rfl dX6_draw_16 ?_
  refine g_bipush (pc := 19) C dX6_draw_19 cb_16 ?_
  refine g_iushr (pc := 21) C dX6_draw_21 ?_
  refine g_sipush (pc := 22) C dX6_draw_22 cs_32767 ?_
  refine g_iand (pc := 25) C dX6_draw_25 ?_
  refine g_istore_n (pc := 26) C [(2, .int (((((u_drawn * 1103515245) + 12345).toUInt32 >>> ((16 : Int32).toUInt32 &&& Int32.toUInt32 31)).toInt32) &&& 32767)), (0, .ref (a0 0)), (1, .int n1)] dX6_draw_26 rfl (by decide) rfl ?_
  refine g_iload_n (pc := 27) C 2 rfl dX6_draw_27 ?_
  refine g_if_le (pc := 28) C (tgt := 37) dX6_draw_28 rfl h (fun h => ?_) (fun h => ?_)
  · refine g_iconst (pc := 37) C dX6_draw_37 ci_0 ?_
    cases h
    exact g_iret C E dX6_draw_38
  · refine g_iload_n (pc := 31) C 0 rfl dX6_draw_31 ?_
    refine g_iload_n (pc := 32) C 2 rfl dX6_draw_32 ?_
    obtain ⟨hz, h⟩ := nz_of h
    refine g_irem (pc := 33) C dX6_draw_33 hz ?_
    refine g_goto (pc := 34) C (tgt := 38) dX6_draw_34 rfl ?_
    cases h
    exact g_iret C E dX6_draw_38
noncomputable def f_X6_passHalf_42  (s_year : Int32) (s_tied : Int32) (p_beds : Int32) (p_letters : Int32) (p_readers : Int32) (p_far : Nat → Int32) (p_drain : Nat → Int32) (p_length : Nat → Int32) (p_words : Nat → Int32) (l_code : Nat → Int32) (l_length : Int32) (n1 : Int32) (u_drawn : Int32) (s_wet : Int32) (s_lost : Int32) (s_gone : Nat → Int32) (s_place : Nat → Int32) (s_heard : Nat → Int32) (s_many : Nat → Int32) (s_lying : Nat → Int32) (l_values : Nat → Int32) (l_stack : Nat → Int32) : Option (Int32 × Int32 × Int32 × (Nat → Int32) × (Nat → Int32) × (Nat → Int32) × (Nat → Int32) × (Nat → Int32) × (Nat → Int32) × (Nat → Int32)) := if p_readers ≤ 0 then some (u_drawn, s_wet, s_lost, s_gone, s_place, s_heard, s_many, s_lying, l_values, l_stack) else b2 (f_X6_draw u_drawn p_readers) (fun v1 c2 => b2 (f_X6_draw c2 p_beds) (fun v3 c4 => b3 (f_X4_go s_place s_heard s_many s_lying v1 v3) (fun v5 c6 c7 => some (c4, s_wet, s_lost, s_gone, c6, c7, s_many, s_lying, l_values, l_stack))))
noncomputable def f_X6_passHalf (u_drawn : Int32) (s_year : Int32) (s_wet : Int32) (s_lost : Int32) (s_tied : Int32) (s_gone : Nat → Int32) (s_place : Nat → Int32) (s_heard : Nat → Int32) (s_many : Nat → Int32) (s_lying : Nat → Int32) (p_beds : Int32) (p_letters : Int32) (p_readers : Int32) (p_far : Nat → Int32) (p_drain : Nat → Int32) (p_length : Nat → Int32) (p_words : Nat → Int32) (l_code : Nat → Int32) (l_values : Nat → Int32) (l_stack : Nat → Int32) (l_length : Int32) (n1 : Int32) : Option (Int32 × Int32 × Int32 × (Nat → Int32) × (Nat → Int32) × (Nat → Int32) × (Nat → Int32) × (Nat → Int32) × (Nat → Int32) × (Nat → Int32)) := b2 (f_X6_draw u_drawn 16) (fun v8 c9 => if n1 ≤ v8 then b2 (f_X6_draw c9 30) (fun v10 c11 => b2 (f_X4_blow s_gone s_place s_heard p_letters p_readers p_far p_length p_words (v10 + 1)) (fun v12 c13 => f_X6_passHalf_42 s_year s_tied p_beds p_letters p_readers p_far p_drain p_length p_words l_code l_length n1 c11 s_wet s_lost s_gone s_place c13 s_many s_lying l_values l_stack)) else b2 (f_X6_draw c9 20) (fun v14 c15 => b7 (f_X4_pour s_year s_wet s_lost s_tied s_gone s_many s_lying p_letters p_far p_drain p_length p_words l_code l_values l_stack l_length (v14 + 1)) (fun c16 c17 c18 c19 c20 c21 c22 => f_X6_passHalf_42 s_year s_tied p_beds p_letters p_readers p_far p_drain p_length p_words l_code l_length n1 c15 c16 c17 c18 s_place s_heard c19 c20 c21 c22)))
def rm_X6_passHalf : Room := { frames := 4, cells := 0, slots := 0, locals := 104 }
set_option maxRecDepth 100000 in
set_option maxHeartbeats 4000000 in
theorem j_X6_passHalf_42 {J : Jt} {Z : Zt} {a0 : Nat → Nat} {a1 : Nat → Nat} {a2 : Nat → Nat} {a3 : Nat → Nat} {s_year : Int32} {s_eaten : Int32} {s_tied : Int32} {s_ripeMany : Int32} {s_ripe : Nat → Int32} {p_beds : Int32} {p_letters : Int32} {p_readers : Int32} {p_far : Nat → Int32} {p_drain : Nat → Int32} {p_length : Nat → Int32} {p_words : Nat → Int32} {p_home : Nat → Int32} {l_code : Nat → Int32} {l_length : Int32} {n1 : Int32} {o_u_drawn : Int32} {o_s_wet : Int32} {o_s_lost : Int32} {o_s_gone : Nat → Int32} {o_s_place : Nat → Int32} {o_s_heard : Nat → Int32} {o_s_many : Nat → Int32} {o_s_lying : Nat → Int32} {o_l_values : Nat → Int32} {o_l_stack : Nat → Int32} (C : Cx J Z cX6_passHalf 6 RX6 none rm_X6_passHalf) (E : Ez J Z 0 0 none (cs_X6 J.2.2.1 a0 o_u_drawn ++ cs_X4 J.2.2.1 a1 s_year o_s_wet o_s_lost s_eaten s_tied s_ripeMany o_s_gone o_s_place o_s_heard o_s_many o_s_lying s_ripe ++ cs_X2 J.2.2.1 a2 p_beds p_letters p_readers p_far p_drain p_length p_words p_home ++ cs_X1 J.2.2.1 a3 l_code o_l_values o_l_stack l_length)) : ∀ (u_drawn : Int32) (s_wet : Int32) (s_lost : Int32) (s_gone : Nat → Int32) (s_place : Nat → Int32) (s_heard : Nat → Int32) (s_many : Nat → Int32) (s_lying : Nat → Int32) (l_values : Nat → Int32) (l_stack : Nat → Int32), f_X6_passHalf_42 s_year s_tied p_beds p_letters p_readers p_far p_drain p_length p_words l_code l_length n1 u_drawn s_wet s_lost s_gone s_place s_heard s_many s_lying l_values l_stack = some (o_u_drawn, o_s_wet, o_s_lost, o_s_gone, o_s_place, o_s_heard, o_s_many, o_s_lying, o_l_values, o_l_stack) → G J Z 0 0 (cs_X6 J.2.2.1 a0 u_drawn ++ cs_X4 J.2.2.1 a1 s_year s_wet s_lost s_eaten s_tied s_ripeMany s_gone s_place s_heard s_many s_lying s_ripe ++ cs_X2 J.2.2.1 a2 p_beds p_letters p_readers p_far p_drain p_length p_words p_home ++ cs_X1 J.2.2.1 a3 l_code l_values l_stack l_length) 6 [(0, .ref (a0 0)), (1, .ref (a1 0)), (2, .ref (a2 0))] 42 [] := by
  intro u_drawn s_wet s_lost s_gone s_place s_heard s_many s_lying l_values l_stack h
  unfold f_X6_passHalf_42 at h
  refine g_aload_n (pc := 42) C 2 rfl dX6_passHalf_42 ?_
  refine g_get (pc := 43) C FOK_X2 8 rfl rfl 2 (by decide) kw_287 rfl dX6_passHalf_43 ?_
  refine g_if_le (pc := 46) C (tgt := 74) dX6_passHalf_46 rfl h (fun h => ?_) (fun h => ?_)
  · cases h
    exact g_vret C E dX6_passHalf_74
  · refine g_aload_n (pc := 49) C 0 rfl dX6_passHalf_49 ?_
    refine g_aload_n (pc := 50) C 2 rfl dX6_passHalf_50 ?_
    refine g_get (pc := 51) C FOK_X2 8 rfl rfl 2 (by decide) kw_287 rfl dX6_passHalf_51 ?_
    obtain ⟨v1, c2, hc, h⟩ := b2_of h
    refine g_callV (pc := 54) C (w' := cs_X6 J.2.2.1 a0 c2 ++ cs_X4 J.2.2.1 a1 s_year s_wet s_lost s_eaten s_tied s_ripeMany s_gone s_place s_heard s_many s_lying s_ripe ++ cs_X2 J.2.2.1 a2 p_beds p_letters p_readers p_far p_drain p_length p_words p_home ++ cs_X1 J.2.2.1 a3 l_code l_values l_stack l_length) (As := [.int p_readers]) (st := []) (ci := 6) (q0 := 0) rfl rfl (t_X6_draw (a0 := a0) hc) (Sub.gen [0] [1, 2, 3, 4, 5, 6, 7, 8, 9, 10, 11, 12, 13, 14, 15, 16, 17] [17, 0, 1, 2, 3, 4, 5, 6, 7, 8, 9, 10, 11, 12, 13, 14, 15, 16] rfl (by decide) rfl (by decide) (by decide) rfl (by decide)) kw_1235 kw_1236 kw_1237 kw_90 hy_X6_draw kw_1238 rfl (Nat.le_of_ble_eq_true rfl) (Nat.le_of_ble_eq_true rfl) (Nat.le_of_ble_eq_true rfl) (Nat.le_of_ble_eq_true rfl) (Nat.le_of_ble_eq_true rfl) dX6_passHalf_54 ?_
    refine g_istore (pc := 57) C [(5, .int v1), (0, .ref (a0 0)), (1, .ref (a1 0)), (2, .ref (a2 0))] dX6_passHalf_57 (by decide) rfl ?_
    refine g_aload_n (pc := 59) C 2 rfl dX6_passHalf_59 ?_
    refine g_iload (pc := 60) C 0 rfl dX6_passHalf_60 ?_
    refine g_aload_n (pc := 62) C 1 rfl dX6_passHalf_62 ?_
    refine g_aload_n (pc := 63) C 3 rfl dX6_passHalf_63 ?_
    refine g_get (pc := 64) C FOK_X2 8 rfl rfl 0 (by decide) kw_276 rfl dX6_passHalf_64 ?_
    obtain ⟨v3, c4, hc, h⟩ := b2_of h
    refine g_callV (pc := 67) C (w' := cs_X6 J.2.2.1 a0 c4 ++ cs_X4 J.2.2.1 a1 s_year s_wet s_lost s_eaten s_tied s_ripeMany s_gone s_place s_heard s_many s_lying s_ripe ++ cs_X2 J.2.2.1 a2 p_beds p_letters p_readers p_far p_drain p_length p_words p_home ++ cs_X1 J.2.2.1 a3 l_code l_values l_stack l_length) (As := [.int p_beds]) (st := [.int v1, .ref (a1 0)]) (ci := 6) (q0 := 0) rfl rfl (t_X6_draw (a0 := a0) hc) (Sub.gen [0] [1, 2, 3, 4, 5, 6, 7, 8, 9, 10, 11, 12, 13, 14, 15, 16, 17] [17, 0, 1, 2, 3, 4, 5, 6, 7, 8, 9, 10, 11, 12, 13, 14, 15, 16] rfl (by decide) rfl (by decide) (by decide) rfl (by decide)) kw_1235 kw_1236 kw_1237 kw_90 hy_X6_draw kw_1238 rfl (Nat.le_of_ble_eq_true rfl) (Nat.le_of_ble_eq_true rfl) (Nat.le_of_ble_eq_true rfl) (Nat.le_of_ble_eq_true rfl) (Nat.le_of_ble_eq_true rfl) dX6_passHalf_67 ?_
    obtain ⟨v5, c6, c7, hc, h⟩ := b3_of h
    refine g_callV (pc := 70) C (w' := cs_X6 J.2.2.1 a0 c4 ++ cs_X4 J.2.2.1 a1 s_year s_wet s_lost s_eaten s_tied s_ripeMany s_gone c6 c7 s_many s_lying s_ripe ++ cs_X2 J.2.2.1 a2 p_beds p_letters p_readers p_far p_drain p_length p_words p_home ++ cs_X1 J.2.2.1 a3 l_code l_values l_stack l_length) (As := [.int v1, .int v3]) (st := []) (ci := 4) (q0 := 1) rfl rfl (t_X4_go (a0 := a1) hc) (Sub.gen [1, 2, 3, 4, 5, 6, 7] [0, 8, 9, 10, 11, 12, 13, 14, 15, 16, 17] [0, 11, 12, 13, 14, 15, 16, 17, 1, 2, 3, 4, 5, 6, 7, 8, 9, 10] rfl (by decide) rfl (by decide) (by decide) rfl (by decide)) kw_1242 kw_866 kw_867 kw_88 hy_X4_go kw_868 rfl (Nat.le_of_ble_eq_true rfl) (Nat.le_of_ble_eq_true rfl) (Nat.le_of_ble_eq_true rfl) (Nat.le_of_ble_eq_true rfl) (Nat.le_of_ble_eq_true rfl) dX6_passHalf_70 ?_
    refine g_pop (pc := 73) C dX6_passHalf_73 rfl ?_
    cases h
    exact g_vret C E dX6_passHalf_74
set_option maxRecDepth 100000 in
set_option maxHeartbeats 4000000 in
theorem t_X6_passHalf {J : Jt} {a0 : Nat → Nat} {a1 : Nat → Nat} {a2 : Nat → Nat} {a3 : Nat → Nat} {u_drawn : Int32} {s_year : Int32} {s_wet : Int32} {s_lost : Int32} {s_eaten : Int32} {s_tied : Int32} {s_ripeMany : Int32} {s_gone : Nat → Int32} {s_place : Nat → Int32} {s_heard : Nat → Int32} {s_many : Nat → Int32} {s_lying : Nat → Int32} {s_ripe : Nat → Int32} {p_beds : Int32} {p_letters : Int32} {p_readers : Int32} {p_far : Nat → Int32} {p_drain : Nat → Int32} {p_length : Nat → Int32} {p_words : Nat → Int32} {p_home : Nat → Int32} {l_code : Nat → Int32} {l_values : Nat → Int32} {l_stack : Nat → Int32} {l_length : Int32} {n1 : Int32} {o_u_drawn : Int32} {o_s_wet : Int32} {o_s_lost : Int32} {o_s_gone : Nat → Int32} {o_s_place : Nat → Int32} {o_s_heard : Nat → Int32} {o_s_many : Nat → Int32} {o_s_lying : Nat → Int32} {o_l_values : Nat → Int32} {o_l_stack : Nat → Int32} (h : f_X6_passHalf u_drawn s_year s_wet s_lost s_tied s_gone s_place s_heard s_many s_lying p_beds p_letters p_readers p_far p_drain p_length p_words l_code l_values l_stack l_length n1 = some (o_u_drawn, o_s_wet, o_s_lost, o_s_gone, o_s_place, o_s_heard, o_s_many, o_s_lying, o_l_values, o_l_stack)) : Mt J yX6_passHalf cX6_passHalf 6 none rm_X6_passHalf [.ref (a0 0), .ref (a1 0), .ref (a2 0), .ref (a3 0), .int n1] (cs_X6 J.2.2.1 a0 u_drawn ++ cs_X4 J.2.2.1 a1 s_year s_wet s_lost s_eaten s_tied s_ripeMany s_gone s_place s_heard s_many s_lying s_ripe ++ cs_X2 J.2.2.1 a2 p_beds p_letters p_readers p_far p_drain p_length p_words p_home ++ cs_X1 J.2.2.1 a3 l_code l_values l_stack l_length) none (cs_X6 J.2.2.1 a0 o_u_drawn ++ cs_X4 J.2.2.1 a1 s_year o_s_wet o_s_lost s_eaten s_tied s_ripeMany o_s_gone o_s_place o_s_heard o_s_many o_s_lying s_ripe ++ cs_X2 J.2.2.1 a2 p_beds p_letters p_readers p_far p_drain p_length p_words p_home ++ cs_X1 J.2.2.1 a3 l_code o_l_values o_l_stack l_length) := by
  refine Mt_of (own := RX6) (by decide) rfl (Nat.le_of_ble_eq_true rfl) rfl (fun Z C E => ?_)
  unfold f_X6_passHalf at h
  show G J Z 0 0 (cs_X6 J.2.2.1 a0 u_drawn ++ cs_X4 J.2.2.1 a1 s_year s_wet s_lost s_eaten s_tied s_ripeMany s_gone s_place s_heard s_many s_lying s_ripe ++ cs_X2 J.2.2.1 a2 p_beds p_letters p_readers p_far p_drain p_length p_words p_home ++ cs_X1 J.2.2.1 a3 l_code l_values l_stack l_length) 6 [(0, .ref (a0 0)), (1, .ref (a1 0)), (2, .ref (a2 0)), (3, .ref (a3 0)), (4, .int n1)] 0 []
  refine g_aload_n (pc := 0) C 0 rfl dX6_passHalf_0 ?_
  refine g_bipush (pc := 1) C dX6_passHalf_1 cb_16 ?_
  obtain ⟨v8, c9, hc, h⟩ := b2_of h
  refine g_callV (pc := 3) C (w' := cs_X6 J.2.2.1 a0 c9 ++ cs_X4 J.2.2.1 a1 s_year s_wet s_lost s_eaten s_tied s_ripeMany s_gone s_place s_heard s_many s_lying s_ripe ++ cs_X2 J.2.2.1 a2 p_beds p_letters p_readers p_far p_drain p_length p_words p_home ++ cs_X1 J.2.2.1 a3 l_code l_values l_stack l_length) (As := [.int 16]) (st := []) (ci := 6) (q0 := 0) rfl rfl (t_X6_draw (a0 := a0) hc) (Sub.gen [0] [1, 2, 3, 4, 5, 6, 7, 8, 9, 10, 11, 12, 13, 14, 15, 16, 17] [17, 0, 1, 2, 3, 4, 5, 6, 7, 8, 9, 10, 11, 12, 13, 14, 15, 16] rfl (by decide) rfl (by decide) (by decide) rfl (by decide)) kw_1235 kw_1236 kw_1237 kw_90 hy_X6_draw kw_1238 rfl (Nat.le_of_ble_eq_true rfl) (Nat.le_of_ble_eq_true rfl) (Nat.le_of_ble_eq_true rfl) (Nat.le_of_ble_eq_true rfl) (Nat.le_of_ble_eq_true rfl) dX6_passHalf_3 ?_
  refine g_iload (pc := 6) C 4 rfl dX6_passHalf_6 ?_
  refine g_icmp_ge (pc := 8) C (tgt := 28) dX6_passHalf_8 rfl h (fun h => ?_) (fun h => ?_)
  · refine g_aload_n (pc := 28) C 1 rfl dX6_passHalf_28 ?_
    refine g_aload_n (pc := 29) C 2 rfl dX6_passHalf_29 ?_
    refine g_aload_n (pc := 30) C 0 rfl dX6_passHalf_30 ?_
    refine g_bipush (pc := 31) C dX6_passHalf_31 cb_30 ?_
    obtain ⟨v10, c11, hc, h⟩ := b2_of h
    refine g_callV (pc := 33) C (w' := cs_X6 J.2.2.1 a0 c11 ++ cs_X4 J.2.2.1 a1 s_year s_wet s_lost s_eaten s_tied s_ripeMany s_gone s_place s_heard s_many s_lying s_ripe ++ cs_X2 J.2.2.1 a2 p_beds p_letters p_readers p_far p_drain p_length p_words p_home ++ cs_X1 J.2.2.1 a3 l_code l_values l_stack l_length) (As := [.int 30]) (st := [.ref (a2 0), .ref (a1 0)]) (ci := 6) (q0 := 0) rfl rfl (t_X6_draw (a0 := a0) hc) (Sub.gen [0] [1, 2, 3, 4, 5, 6, 7, 8, 9, 10, 11, 12, 13, 14, 15, 16, 17] [17, 0, 1, 2, 3, 4, 5, 6, 7, 8, 9, 10, 11, 12, 13, 14, 15, 16] rfl (by decide) rfl (by decide) (by decide) rfl (by decide)) kw_1235 kw_1236 kw_1237 kw_90 hy_X6_draw kw_1238 rfl (Nat.le_of_ble_eq_true rfl) (Nat.le_of_ble_eq_true rfl) (Nat.le_of_ble_eq_true rfl) (Nat.le_of_ble_eq_true rfl) (Nat.le_of_ble_eq_true rfl) dX6_passHalf_33 ?_
    refine g_iconst (pc := 36) C dX6_passHalf_36 ci_1 ?_
    refine g_iadd (pc := 37) C dX6_passHalf_37 ?_
    obtain ⟨v12, c13, hc, h⟩ := b2_of h
    refine g_callV (pc := 38) C (w' := cs_X6 J.2.2.1 a0 c11 ++ cs_X4 J.2.2.1 a1 s_year s_wet s_lost s_eaten s_tied s_ripeMany s_gone s_place c13 s_many s_lying s_ripe ++ cs_X2 J.2.2.1 a2 p_beds p_letters p_readers p_far p_drain p_length p_words p_home ++ cs_X1 J.2.2.1 a3 l_code l_values l_stack l_length) (As := [.ref (a2 0), .int (v10 + 1)]) (st := []) (ci := 4) (q0 := 1) rfl rfl (t_X4_blow (a0 := a1) (a1 := a2) hc) (Sub.gen [1, 2, 3, 4, 5, 6, 7, 8, 9, 10, 11, 12, 13] [0, 14, 15, 16, 17] [0, 5, 6, 7, 8, 9, 10, 11, 12, 13, 14, 15, 16, 17, 1, 2, 3, 4] rfl (by decide) rfl (by decide) (by decide) rfl (by decide)) kw_1241 kw_857 kw_858 kw_88 hy_X4_blow kw_859 rfl (Nat.le_of_ble_eq_true rfl) (Nat.le_of_ble_eq_true rfl) (Nat.le_of_ble_eq_true rfl) (Nat.le_of_ble_eq_true rfl) (Nat.le_of_ble_eq_true rfl) dX6_passHalf_38 ?_
    refine g_pop (pc := 41) C dX6_passHalf_41 rfl ?_
    refine g_lv [0, 1, 2] rfl ?_
    exact j_X6_passHalf_42 C E    c11 s_wet s_lost s_gone s_place c13 s_many s_lying l_values l_stack h
  · refine g_aload_n (pc := 11) C 1 rfl dX6_passHalf_11 ?_
    refine g_aload_n (pc := 12) C 2 rfl dX6_passHalf_12 ?_
    refine g_aload_n (pc := 13) C 3 rfl dX6_passHalf_13 ?_
    refine g_aload_n (pc := 14) C 0 rfl dX6_passHalf_14 ?_
    refine g_bipush (pc := 15) C dX6_passHalf_15 cb_20 ?_
    obtain ⟨v14, c15, hc, h⟩ := b2_of h
    refine g_callV (pc := 17) C (w' := cs_X6 J.2.2.1 a0 c15 ++ cs_X4 J.2.2.1 a1 s_year s_wet s_lost s_eaten s_tied s_ripeMany s_gone s_place s_heard s_many s_lying s_ripe ++ cs_X2 J.2.2.1 a2 p_beds p_letters p_readers p_far p_drain p_length p_words p_home ++ cs_X1 J.2.2.1 a3 l_code l_values l_stack l_length) (As := [.int 20]) (st := [.ref (a3 0), .ref (a2 0), .ref (a1 0)]) (ci := 6) (q0 := 0) rfl rfl (t_X6_draw (a0 := a0) hc) (Sub.gen [0] [1, 2, 3, 4, 5, 6, 7, 8, 9, 10, 11, 12, 13, 14, 15, 16, 17] [17, 0, 1, 2, 3, 4, 5, 6, 7, 8, 9, 10, 11, 12, 13, 14, 15, 16] rfl (by decide) rfl (by decide) (by decide) rfl (by decide)) kw_1235 kw_1236 kw_1237 kw_90 hy_X6_draw kw_1238 rfl (Nat.le_of_ble_eq_true rfl) (Nat.le_of_ble_eq_true rfl) (Nat.le_of_ble_eq_true rfl) (Nat.le_of_ble_eq_true rfl) (Nat.le_of_ble_eq_true rfl) dX6_passHalf_17 ?_
    refine g_iconst (pc := 20) C dX6_passHalf_20 ci_1 ?_
    refine g_iadd (pc := 21) C dX6_passHalf_21 ?_
    obtain ⟨c16, c17, c18, c19, c20, c21, c22, hc, h⟩ := b7_of h
    refine g_callV (pc := 22) C (w' := cs_X6 J.2.2.1 a0 c15 ++ cs_X4 J.2.2.1 a1 s_year c16 c17 s_eaten s_tied s_ripeMany c18 s_place s_heard c19 c20 s_ripe ++ cs_X2 J.2.2.1 a2 p_beds p_letters p_readers p_far p_drain p_length p_words p_home ++ cs_X1 J.2.2.1 a3 l_code c21 c22 l_length) (As := [.ref (a2 0), .ref (a3 0), .int (v14 + 1)]) (st := []) (ci := 4) (q0 := 1) rfl rfl (t_X4_pour (a0 := a1) (a1 := a2) (a2 := a3) hc) (Sub.gen [1, 2, 3, 4, 5, 6, 7, 8, 9, 10, 11, 12, 13, 14, 15, 16, 17] [0] [0, 1, 2, 3, 4, 5, 6, 7, 8, 9, 10, 11, 12, 13, 14, 15, 16, 17] rfl (by decide) rfl (by decide) (by decide) rfl (by decide)) kw_1240 kw_882 kw_883 kw_88 hy_X4_pour kw_884 rfl (Nat.le_of_ble_eq_true rfl) (Nat.le_of_ble_eq_true rfl) (Nat.le_of_ble_eq_true rfl) (Nat.le_of_ble_eq_true rfl) (Nat.le_of_ble_eq_true rfl) dX6_passHalf_22 ?_
    refine g_goto (pc := 25) C (tgt := 42) dX6_passHalf_25 rfl ?_
    refine g_lv [0, 1, 2] rfl ?_
    exact j_X6_passHalf_42 C E    c15 c16 c17 c18 s_place s_heard c19 c20 c21 c22 h
noncomputable def f_X6_pass_9  (s_tied : Int32) (p_beds : Int32) (p_letters : Int32) (p_readers : Int32) (p_far : Nat → Int32) (p_drain : Nat → Int32) (p_length : Nat → Int32) (p_words : Nat → Int32) (l_code : Nat → Int32) (l_length : Int32) (n1 : Int32) (n2 : Int32) (n3 : Int32) : Nat → Int32 → Int32 → Int32 → Int32 → Int32 → Int32 → (Nat → Int32) → (Nat → Int32) → (Nat → Int32) → (Nat → Int32) → (Nat → Int32) → (Nat → Int32) → (Nat → Int32) → (Nat → Int32) → Option (Int32 × Int32 × Int32 × Int32 × Int32 × (Nat → Int32) × (Nat → Int32) × (Nat → Int32) × (Nat → Int32) × (Nat → Int32) × (Nat → Int32) × (Nat → Int32) × (Nat → Int32))
  | 0, _, _, _, _, _, _, _, _, _, _, _, _, _, _ => none
  | n + 1, x7, u_drawn, s_year, s_wet, s_lost, s_ripeMany, s_gone, s_place, s_heard, s_many, s_lying, s_ripe, l_values, l_stack => if n3 ≤ x7 then some (u_drawn, s_year, s_wet, s_lost, s_ripeMany, s_gone, s_place, s_heard, s_many, s_lying, s_ripe, l_values, l_stack) else b10 (f_X6_passHalf u_drawn s_year s_wet s_lost s_tied s_gone s_place s_heard s_many s_lying p_beds p_letters p_readers p_far p_drain p_length p_words l_code l_values l_stack l_length n2) (fun c1 c2 c3 c4 c5 c6 c7 c8 c9 c10 => b10 (f_X6_passHalf c1 s_year c2 c3 s_tied c4 c5 c6 c7 c8 p_beds p_letters p_readers p_far p_drain p_length p_words l_code c9 c10 l_length n2) (fun c11 c12 c13 c14 c15 c16 c17 c18 c19 c20 => b6 (f_X4_passYear s_year c12 s_ripeMany c17 c18 s_ripe p_beds) (fun c21 c22 c23 c24 c25 c26 => f_X6_pass_9 s_tied p_beds p_letters p_readers p_far p_drain p_length p_words l_code l_length n1 n2 n3 n (x7 + 1) c11 c21 c22 c13 c23 c14 c15 c16 c24 c25 c26 c19 c20)))
noncomputable def f_X6_pass (u_drawn : Int32) (s_year : Int32) (s_wet : Int32) (s_lost : Int32) (s_tied : Int32) (s_ripeMany : Int32) (s_gone : Nat → Int32) (s_place : Nat → Int32) (s_heard : Nat → Int32) (s_many : Nat → Int32) (s_lying : Nat → Int32) (s_ripe : Nat → Int32) (p_beds : Int32) (p_letters : Int32) (p_readers : Int32) (p_far : Nat → Int32) (p_drain : Nat → Int32) (p_length : Nat → Int32) (p_words : Nat → Int32) (l_code : Nat → Int32) (l_values : Nat → Int32) (l_stack : Nat → Int32) (l_length : Int32) (n1 : Int32) (n2 : Int32) (n3 : Int32) : Option (Int32 × Int32 × Int32 × Int32 × Int32 × (Nat → Int32) × (Nat → Int32) × (Nat → Int32) × (Nat → Int32) × (Nat → Int32) × (Nat → Int32) × (Nat → Int32) × (Nat → Int32)) := f_X6_pass_9 s_tied p_beds p_letters p_readers p_far p_drain p_length p_words l_code l_length n1 n2 n3 FU 0 n1 s_year s_wet s_lost s_ripeMany s_gone s_place s_heard s_many s_lying s_ripe l_values l_stack
def rm_X6_pass : Room := { frames := 5, cells := 0, slots := 0, locals := 129 }
set_option maxRecDepth 100000 in
set_option maxHeartbeats 4000000 in
theorem j_X6_pass_9 {J : Jt} {Z : Zt} {a0 : Nat → Nat} {a1 : Nat → Nat} {a2 : Nat → Nat} {a3 : Nat → Nat} {s_eaten : Int32} {s_tied : Int32} {p_beds : Int32} {p_letters : Int32} {p_readers : Int32} {p_far : Nat → Int32} {p_drain : Nat → Int32} {p_length : Nat → Int32} {p_words : Nat → Int32} {p_home : Nat → Int32} {l_code : Nat → Int32} {l_length : Int32} {n1 : Int32} {n2 : Int32} {n3 : Int32} {o_u_drawn : Int32} {o_s_year : Int32} {o_s_wet : Int32} {o_s_lost : Int32} {o_s_ripeMany : Int32} {o_s_gone : Nat → Int32} {o_s_place : Nat → Int32} {o_s_heard : Nat → Int32} {o_s_many : Nat → Int32} {o_s_lying : Nat → Int32} {o_s_ripe : Nat → Int32} {o_l_values : Nat → Int32} {o_l_stack : Nat → Int32} (C : Cx J Z cX6_pass 8 RX6 none rm_X6_pass) (E : Ez J Z 0 0 none (cs_X6 J.2.2.1 a0 o_u_drawn ++ cs_X4 J.2.2.1 a1 o_s_year o_s_wet o_s_lost s_eaten s_tied o_s_ripeMany o_s_gone o_s_place o_s_heard o_s_many o_s_lying o_s_ripe ++ cs_X2 J.2.2.1 a2 p_beds p_letters p_readers p_far p_drain p_length p_words p_home ++ cs_X1 J.2.2.1 a3 l_code o_l_values o_l_stack l_length)) : ∀ (n : Nat) (x7 : Int32) (u_drawn : Int32) (s_year : Int32) (s_wet : Int32) (s_lost : Int32) (s_ripeMany : Int32) (s_gone : Nat → Int32) (s_place : Nat → Int32) (s_heard : Nat → Int32) (s_many : Nat → Int32) (s_lying : Nat → Int32) (s_ripe : Nat → Int32) (l_values : Nat → Int32) (l_stack : Nat → Int32), f_X6_pass_9 s_tied p_beds p_letters p_readers p_far p_drain p_length p_words l_code l_length n1 n2 n3 n x7 u_drawn s_year s_wet s_lost s_ripeMany s_gone s_place s_heard s_many s_lying s_ripe l_values l_stack = some (o_u_drawn, o_s_year, o_s_wet, o_s_lost, o_s_ripeMany, o_s_gone, o_s_place, o_s_heard, o_s_many, o_s_lying, o_s_ripe, o_l_values, o_l_stack) → G J Z 0 0 (cs_X6 J.2.2.1 a0 u_drawn ++ cs_X4 J.2.2.1 a1 s_year s_wet s_lost s_eaten s_tied s_ripeMany s_gone s_place s_heard s_many s_lying s_ripe ++ cs_X2 J.2.2.1 a2 p_beds p_letters p_readers p_far p_drain p_length p_words p_home ++ cs_X1 J.2.2.1 a3 l_code l_values l_stack l_length) 8 [(0, .ref (a0 0)), (1, .ref (a1 0)), (2, .ref (a2 0)), (3, .ref (a3 0)), (5, .int n2), (6, .int n3), (7, .int x7)] 9 [] := by
  intro n
  induction n with
  | zero =>
    intro x7 u_drawn s_year s_wet s_lost s_ripeMany s_gone s_place s_heard s_many s_lying s_ripe l_values l_stack h
    rw [f_X6_pass_9] at h
    cases h
  | succ n ih =>
    intro x7 u_drawn s_year s_wet s_lost s_ripeMany s_gone s_place s_heard s_many s_lying s_ripe l_values l_stack h
    rw [f_X6_pass_9] at h
    refine g_iload (pc := 9) C 6 rfl dX6_pass_9 ?_
    refine g_iload (pc := 11) C 5 rfl dX6_pass_11 ?_
    refine g_icmp_ge (pc := 13) C (tgt := 45) dX6_pass_13 rfl h (fun h => ?_) (fun h => ?_)
    · cases h
      exact g_vret C E dX6_pass_45
    · refine g_aload_n (pc := 16) C 0 rfl dX6_pass_16 ?_
      refine g_aload_n (pc := 17) C 1 rfl dX6_pass_17 ?_
      refine g_aload_n (pc := 18) C 2 rfl dX6_pass_18 ?_
      refine g_aload_n (pc := 19) C 3 rfl dX6_pass_19 ?_
      refine g_iload (pc := 20) C 4 rfl dX6_pass_20 ?_
      obtain ⟨c1, c2, c3, c4, c5, c6, c7, c8, c9, c10, hc, h⟩ := b10_of h
      refine g_callV (pc := 22) C (w' := cs_X6 J.2.2.1 a0 c1 ++ cs_X4 J.2.2.1 a1 s_year c2 c3 s_eaten s_tied s_ripeMany c4 c5 c6 c7 c8 s_ripe ++ cs_X2 J.2.2.1 a2 p_beds p_letters p_readers p_far p_drain p_length p_words p_home ++ cs_X1 J.2.2.1 a3 l_code c9 c10 l_length) (As := [.ref (a1 0), .ref (a2 0), .ref (a3 0), .int n2]) (st := []) (ci := 6) (q0 := 0) rfl rfl (t_X6_passHalf (a0 := a0) (a1 := a1) (a2 := a2) (a3 := a3) hc) Sub.same kw_1231 kw_1232 kw_1233 kw_90 hy_X6_passHalf kw_1234 rfl (Nat.le_of_ble_eq_true rfl) (Nat.le_of_ble_eq_true rfl) (Nat.le_of_ble_eq_true rfl) (Nat.le_of_ble_eq_true rfl) (Nat.le_of_ble_eq_true rfl) dX6_pass_22 ?_
      refine g_aload_n (pc := 25) C 0 rfl dX6_pass_25 ?_
      refine g_aload_n (pc := 26) C 1 rfl dX6_pass_26 ?_
      refine g_aload_n (pc := 27) C 2 rfl dX6_pass_27 ?_
      refine g_aload_n (pc := 28) C 3 rfl dX6_pass_28 ?_
      refine g_iload (pc := 29) C 4 rfl dX6_pass_29 ?_
      obtain ⟨c11, c12, c13, c14, c15, c16, c17, c18, c19, c20, hc, h⟩ := b10_of h
      refine g_callV (pc := 31) C (w' := cs_X6 J.2.2.1 a0 c11 ++ cs_X4 J.2.2.1 a1 s_year c12 c13 s_eaten s_tied s_ripeMany c14 c15 c16 c17 c18 s_ripe ++ cs_X2 J.2.2.1 a2 p_beds p_letters p_readers p_far p_drain p_length p_words p_home ++ cs_X1 J.2.2.1 a3 l_code c19 c20 l_length) (As := [.ref (a1 0), .ref (a2 0), .ref (a3 0), .int n2]) (st := []) (ci := 6) (q0 := 0) rfl rfl (t_X6_passHalf (a0 := a0) (a1 := a1) (a2 := a2) (a3 := a3) hc) Sub.same kw_1231 kw_1232 kw_1233 kw_90 hy_X6_passHalf kw_1234 rfl (Nat.le_of_ble_eq_true rfl) (Nat.le_of_ble_eq_true rfl) (Nat.le_of_ble_eq_true rfl) (Nat.le_of_ble_eq_true rfl) (Nat.le_of_ble_eq_true rfl) dX6_pass_31 ?_
      refine g_aload_n (pc := 34) C 1 rfl dX6_pass_34 ?_
      refine g_aload_n (pc := 35) C 2 rfl dX6_pass_35 ?_
      obtain ⟨c21, c22, c23, c24, c25, c26, hc, h⟩ := b6_of h
      refine g_callV (pc := 36) C (w' := cs_X6 J.2.2.1 a0 c11 ++ cs_X4 J.2.2.1 a1 c21 c22 c13 s_eaten s_tied c23 c14 c15 c16 c24 c25 c26 ++ cs_X2 J.2.2.1 a2 p_beds p_letters p_readers p_far p_drain p_length p_words p_home ++ cs_X1 J.2.2.1 a3 l_code c19 c20 l_length) (As := [.ref (a2 0)]) (st := []) (ci := 4) (q0 := 1) rfl rfl (t_X4_passYear (a0 := a1) (a1 := a2) hc) (Sub.gen [1, 2, 3, 4, 5, 6, 7, 8, 9, 10, 11, 12, 13] [0, 14, 15, 16, 17] [0, 5, 6, 7, 8, 9, 10, 11, 12, 13, 14, 15, 16, 17, 1, 2, 3, 4] rfl (by decide) rfl (by decide) (by decide) rfl (by decide)) kw_1243 kw_911 kw_912 kw_88 hy_X4_passYear kw_913 rfl (Nat.le_of_ble_eq_true rfl) (Nat.le_of_ble_eq_true rfl) (Nat.le_of_ble_eq_true rfl) (Nat.le_of_ble_eq_true rfl) (Nat.le_of_ble_eq_true rfl) dX6_pass_36 ?_
      refine g_iinc (pc := 39) C (j := 6) [(7, .int (x7 + 1)), (0, .ref (a0 0)), (1, .ref (a1 0)), (2, .ref (a2 0)), (3, .ref (a3 0)), (5, .int n2), (6, .int n3)] dX6_pass_39 rfl (ii_1 _) (by decide) rfl ?_
      refine g_goto (pc := 42) C (tgt := 9) dX6_pass_42 rfl ?_
      refine g_lv [1, 2, 3, 4, 5, 6, 0] rfl ?_
      exact ih (x7 + 1) c11 c21 c22 c13 c23 c14 c15 c16 c24 c25 c26 c19 c20 h
set_option maxRecDepth 100000 in
set_option maxHeartbeats 4000000 in
theorem t_X6_pass {J : Jt} {a0 : Nat → Nat} {a1 : Nat → Nat} {a2 : Nat → Nat} {a3 : Nat → Nat} {u_drawn : Int32} {s_year : Int32} {s_wet : Int32} {s_lost : Int32} {s_eaten : Int32} {s_tied : Int32} {s_ripeMany : Int32} {s_gone : Nat → Int32} {s_place : Nat → Int32} {s_heard : Nat → Int32} {s_many : Nat → Int32} {s_lying : Nat → Int32} {s_ripe : Nat → Int32} {p_beds : Int32} {p_letters : Int32} {p_readers : Int32} {p_far : Nat → Int32} {p_drain : Nat → Int32} {p_length : Nat → Int32} {p_words : Nat → Int32} {p_home : Nat → Int32} {l_code : Nat → Int32} {l_values : Nat → Int32} {l_stack : Nat → Int32} {l_length : Int32} {n1 : Int32} {n2 : Int32} {n3 : Int32} {o_u_drawn : Int32} {o_s_year : Int32} {o_s_wet : Int32} {o_s_lost : Int32} {o_s_ripeMany : Int32} {o_s_gone : Nat → Int32} {o_s_place : Nat → Int32} {o_s_heard : Nat → Int32} {o_s_many : Nat → Int32} {o_s_lying : Nat → Int32} {o_s_ripe : Nat → Int32} {o_l_values : Nat → Int32} {o_l_stack : Nat → Int32} (h : f_X6_pass u_drawn s_year s_wet s_lost s_tied s_ripeMany s_gone s_place s_heard s_many s_lying s_ripe p_beds p_letters p_readers p_far p_drain p_length p_words l_code l_values l_stack l_length n1 n2 n3 = some (o_u_drawn, o_s_year, o_s_wet, o_s_lost, o_s_ripeMany, o_s_gone, o_s_place, o_s_heard, o_s_many, o_s_lying, o_s_ripe, o_l_values, o_l_stack)) : Mt J yX6_pass cX6_pass 8 none rm_X6_pass [.ref (a0 0), .ref (a1 0), .ref (a2 0), .ref (a3 0), .int n1, .int n2, .int n3] (cs_X6 J.2.2.1 a0 u_drawn ++ cs_X4 J.2.2.1 a1 s_year s_wet s_lost s_eaten s_tied s_ripeMany s_gone s_place s_heard s_many s_lying s_ripe ++ cs_X2 J.2.2.1 a2 p_beds p_letters p_readers p_far p_drain p_length p_words p_home ++ cs_X1 J.2.2.1 a3 l_code l_values l_stack l_length) none (cs_X6 J.2.2.1 a0 o_u_drawn ++ cs_X4 J.2.2.1 a1 o_s_year o_s_wet o_s_lost s_eaten s_tied o_s_ripeMany o_s_gone o_s_place o_s_heard o_s_many o_s_lying o_s_ripe ++ cs_X2 J.2.2.1 a2 p_beds p_letters p_readers p_far p_drain p_length p_words p_home ++ cs_X1 J.2.2.1 a3 l_code o_l_values o_l_stack l_length) := by
  refine Mt_of (own := RX6) (by decide) rfl (Nat.le_of_ble_eq_true rfl) rfl (fun Z C E => ?_)
  unfold f_X6_pass at h
  show G J Z 0 0 (cs_X6 J.2.2.1 a0 u_drawn ++ cs_X4 J.2.2.1 a1 s_year s_wet s_lost s_eaten s_tied s_ripeMany s_gone s_place s_heard s_many s_lying s_ripe ++ cs_X2 J.2.2.1 a2 p_beds p_letters p_readers p_far p_drain p_length p_words p_home ++ cs_X1 J.2.2.1 a3 l_code l_values l_stack l_length) 8 [(0, .ref (a0 0)), (1, .ref (a1 0)), (2, .ref (a2 0)), (3, .ref (a3 0)), (4, .int n1), (5, .int n2), (6, .int n3)] 0 []
  refine g_aload_n (pc := 0) C 0 rfl dX6_pass_0 ?_
  refine g_iload (pc := 1) C 4 rfl dX6_pass_1 ?_
  refine g_put (pc := 3) C (w' := cs_X6 J.2.2.1 a0 n1 ++ cs_X4 J.2.2.1 a1 s_year s_wet s_lost s_eaten s_tied s_ripeMany s_gone s_place s_heard s_many s_lying s_ripe ++ cs_X2 J.2.2.1 a2 p_beds p_letters p_readers p_far p_drain p_length p_words p_home ++ cs_X1 J.2.2.1 a3 l_code l_values l_stack l_length) FOK_X6 0 rfl rfl 0 (by decide) kw_238 rfl rfl rfl (Nat.le_of_ble_eq_true rfl) dX6_pass_3 rfl ?_
  refine g_iconst (pc := 6) C dX6_pass_6 ci_0 ?_
  refine g_istore (pc := 7) C [(7, .int 0), (0, .ref (a0 0)), (1, .ref (a1 0)), (2, .ref (a2 0)), (3, .ref (a3 0)), (4, .int n1), (5, .int n2), (6, .int n3)] dX6_pass_7 (by decide) rfl ?_
  refine g_lv [1, 2, 3, 4, 6, 7, 0] rfl ?_
  exact j_X6_pass_9 C E    FU 0 n1 s_year s_wet s_lost s_ripeMany s_gone s_place s_heard s_many s_lying s_ripe l_values l_stack h
noncomputable def f_X7_hasRoom (t_held : Int32) : Option (Int32) := if 600 < (t_held + 20) then some 0 else some 1
def rm_X7_hasRoom : Room := { frames := 0, cells := 0, slots := 0, locals := 0 }
set_option maxRecDepth 100000 in
set_option maxHeartbeats 4000000 in
theorem t_X7_hasRoom {J : Jt} {a0 : Nat → Nat} {t_bytes : Nat → Int32} {t_held : Int32} {t_end : Int32} {t_at : Int32} {t_start : Int32} {t_faultKind : Int32} {t_faultPlace : Int32} {r : Int32} (h : f_X7_hasRoom t_held = some r) : Mt J yX7_hasRoom cX7_hasRoom 1 (some .boolean) rm_X7_hasRoom [.ref (a0 0)] (cs_X7 J.2.2.1 a0 t_bytes t_held t_end t_at t_start t_faultKind t_faultPlace) (some (.int r)) (cs_X7 J.2.2.1 a0 t_bytes t_held t_end t_at t_start t_faultKind t_faultPlace) := by
  refine Mt_of (own := RX7) (by decide) rfl (Nat.le_of_ble_eq_true rfl) rfl (fun Z C E => ?_)
  unfold f_X7_hasRoom at h
  show G J Z 0 0 (cs_X7 J.2.2.1 a0 t_bytes t_held t_end t_at t_start t_faultKind t_faultPlace) 1 [(0, .ref (a0 0))] 0 []
  refine g_aload_n (pc := 0) C 0 rfl dX7_hasRoom_0 ?_
  refine g_get (pc := 1) C FOK_X7 0 rfl rfl 1 (by decide) kw_124 rfl dX7_hasRoom_1 ?_
  refine g_bipush (pc := 4) C dX7_hasRoom_4 cb_20 ?_
  refine g_iadd (pc := 6) C dX7_hasRoom_6 ?_
  refine g_sipush (pc := 7) C dX7_hasRoom_7 cs_600 ?_
  refine g_icmp_gt (pc := 10) C (tgt := 17) dX7_hasRoom_10 rfl h (fun h => ?_) (fun h => ?_)
  · refine g_iconst (pc := 17) C dX7_hasRoom_17 ci_0 ?_
    cases h
    exact g_zret C rfl E dX7_hasRoom_18
  · refine g_iconst (pc := 13) C dX7_hasRoom_13 ci_1 ?_
    refine g_goto (pc := 14) C (tgt := 18) dX7_hasRoom_14 rfl ?_
    cases h
    exact g_zret C rfl E dX7_hasRoom_18
noncomputable def f_X7_put_3   (n1 : Int32) : Nat → Int32 → (Nat → Int32) → Int32 → Option ((Nat → Int32) × Int32)
  | 0, _, _, _ => none
  | n + 1, x2, t_bytes, t_held => if x2 < 0 then some (t_bytes, t_held) else if 600 ≤ t_held then some (t_bytes, t_held) else if ixb t_held 600 then f_X7_put_3 n1 n (x2 + (-8)) (upd t_bytes t_held.toNatClampNeg (vp_nar .byte ((n1 >>> (x2 &&& 31)).toInt8.toInt32))) (t_held + 1) else none
noncomputable def f_X7_put (t_bytes : Nat → Int32) (t_held : Int32) (n1 : Int32) : Option ((Nat → Int32) × Int32) := f_X7_put_3 n1 FU 24 t_bytes t_held
def rm_X7_put : Room := { frames := 0, cells := 0, slots := 0, locals := 0 }
set_option maxRecDepth 100000 in
set_option maxHeartbeats 4000000 in
theorem j_X7_put_3 {J : Jt} {Z : Zt} {a0 : Nat → Nat} {t_end : Int32} {t_at : Int32} {t_start : Int32} {t_faultKind : Int32} {t_faultPlace : Int32} {n1 : Int32} {o_t_bytes : Nat → Int32} {o_t_held : Int32} (C : Cx J Z cX7_put 3 RX7 none rm_X7_put) (E : Ez J Z 0 0 none (cs_X7 J.2.2.1 a0 o_t_bytes o_t_held t_end t_at t_start t_faultKind t_faultPlace)) : ∀ (n : Nat) (x2 : Int32) (t_bytes : Nat → Int32) (t_held : Int32), f_X7_put_3 n1 n x2 t_bytes t_held = some (o_t_bytes, o_t_held) → G J Z 0 0 (cs_X7 J.2.2.1 a0 t_bytes t_held t_end t_at t_start t_faultKind t_faultPlace) 3 [(0, .ref (a0 0)), (1, .int n1), (2, .int x2)] 3 [] := by
  intro n
  induction n with
  | zero =>
    intro x2 t_bytes t_held h
    rw [f_X7_put_3] at h
    cases h
  | succ n ih =>
    intro x2 t_bytes t_held h
    rw [f_X7_put_3] at h
    refine g_iload_n (pc := 3) C 2 rfl dX7_put_3 ?_
    refine g_if_lt (pc := 4) C (tgt := 46) dX7_put_4 rfl h (fun h => ?_) (fun h => ?_)
    · cases h
      exact g_vret C E dX7_put_46
    · refine g_aload_n (pc := 7) C 0 rfl dX7_put_7 ?_
      refine g_get (pc := 8) C FOK_X7 0 rfl rfl 1 (by decide) kw_124 rfl dX7_put_8 ?_
      refine g_sipush (pc := 11) C dX7_put_11 cs_600 ?_
      refine g_icmp_ge (pc := 14) C (tgt := 46) dX7_put_14 rfl h (fun h => ?_) (fun h => ?_)
      · cases h
        exact g_vret C E dX7_put_46
      · refine g_aload_n (pc := 17) C 0 rfl dX7_put_17 ?_
        refine g_get (pc := 18) C FOK_X7 0 rfl rfl 0 (by decide) kw_123 rfl dX7_put_18 ?_
        refine g_aload_n (pc := 21) C 0 rfl dX7_put_21 ?_
        refine g_get (pc := 22) C FOK_X7 0 rfl rfl 1 (by decide) kw_124 rfl dX7_put_22 ?_
        refine g_iload_n (pc := 25) C 1 rfl dX7_put_25 ?_
        refine g_iload_n (pc := 26) C 2 rfl dX7_put_26 ?_
        refine g_ishr (pc := 27) C dX7_put_27 ?_
        refine g_i2b (pc := 28) C dX7_put_28 ?_
        obtain ⟨hi, h⟩ := ix_of h
        refine g_bast (pc := 29) C (w' := cs_X7 J.2.2.1 a0 (upd t_bytes t_held.toNatClampNeg (vp_nar .byte ((n1 >>> (x2 &&& 31)).toInt8.toInt32))) t_held t_end t_at t_start t_faultKind t_faultPlace) 1 rfl hi dX7_put_29 rfl ?_
        refine g_aload_n (pc := 30) C 0 rfl dX7_put_30 ?_
        refine g_dup (pc := 31) C dX7_put_31 rfl ?_
        refine g_get (pc := 32) C FOK_X7 0 rfl rfl 1 (by decide) kw_124 rfl dX7_put_32 ?_
        refine g_iconst (pc := 35) C dX7_put_35 ci_1 ?_
        refine g_iadd (pc := 36) C dX7_put_36 ?_
        refine g_put (pc := 37) C (w' := cs_X7 J.2.2.1 a0 (upd t_bytes t_held.toNatClampNeg (vp_nar .byte ((n1 >>> (x2 &&& 31)).toInt8.toInt32))) (t_held + 1) t_end t_at t_start t_faultKind t_faultPlace) FOK_X7 0 rfl rfl 1 (by decide) kw_124 rfl rfl rfl (Nat.le_of_ble_eq_true rfl) dX7_put_37 rfl ?_
        refine g_iinc (pc := 40) C (j := 2) [(2, .int (x2 + (-8))), (0, .ref (a0 0)), (1, .int n1)] dX7_put_40 rfl (ii_m8 _) (by decide) rfl ?_
        refine g_goto (pc := 43) C (tgt := 3) dX7_put_43 rfl ?_
        refine g_lv [1, 2, 0] rfl ?_
        exact ih (x2 + (-8)) (upd t_bytes t_held.toNatClampNeg (vp_nar .byte ((n1 >>> (x2 &&& 31)).toInt8.toInt32))) (t_held + 1) h
set_option maxRecDepth 100000 in
set_option maxHeartbeats 4000000 in
theorem t_X7_put {J : Jt} {a0 : Nat → Nat} {t_bytes : Nat → Int32} {t_held : Int32} {t_end : Int32} {t_at : Int32} {t_start : Int32} {t_faultKind : Int32} {t_faultPlace : Int32} {n1 : Int32} {o_t_bytes : Nat → Int32} {o_t_held : Int32} (h : f_X7_put t_bytes t_held n1 = some (o_t_bytes, o_t_held)) : Mt J yX7_put cX7_put 3 none rm_X7_put [.ref (a0 0), .int n1] (cs_X7 J.2.2.1 a0 t_bytes t_held t_end t_at t_start t_faultKind t_faultPlace) none (cs_X7 J.2.2.1 a0 o_t_bytes o_t_held t_end t_at t_start t_faultKind t_faultPlace) := by
  refine Mt_of (own := RX7) (by decide) rfl (Nat.le_of_ble_eq_true rfl) rfl (fun Z C E => ?_)
  unfold f_X7_put at h
  show G J Z 0 0 (cs_X7 J.2.2.1 a0 t_bytes t_held t_end t_at t_start t_faultKind t_faultPlace) 3 [(0, .ref (a0 0)), (1, .int n1)] 0 []
  refine g_bipush (pc := 0) C dX7_put_0 cb_24 ?_
  refine g_istore_n (pc := 2) C [(2, .int 24), (0, .ref (a0 0)), (1, .int n1)] dX7_put_2 rfl (by decide) rfl ?_
  refine g_lv [1, 2, 0] rfl ?_
  exact j_X7_put_3 C E    FU 24 t_bytes t_held h
noncomputable def f_X7_open (t_end : Int32) (t_at : Int32) (t_start : Int32) (t_faultKind : Int32) (t_faultPlace : Int32) (n1 : Int32) : Option (Int32 × Int32 × Int32 × Int32 × Int32) := some (n1, 0, 0, 0, (-1))
def rm_X7_open : Room := { frames := 0, cells := 0, slots := 0, locals := 0 }
set_option maxRecDepth 100000 in
set_option maxHeartbeats 4000000 in
theorem t_X7_open {J : Jt} {a0 : Nat → Nat} {t_bytes : Nat → Int32} {t_held : Int32} {t_end : Int32} {t_at : Int32} {t_start : Int32} {t_faultKind : Int32} {t_faultPlace : Int32} {n1 : Int32} {o_t_end : Int32} {o_t_at : Int32} {o_t_start : Int32} {o_t_faultKind : Int32} {o_t_faultPlace : Int32} (h : f_X7_open t_end t_at t_start t_faultKind t_faultPlace n1 = some (o_t_end, o_t_at, o_t_start, o_t_faultKind, o_t_faultPlace)) : Mt J yX7_open cX7_open 2 none rm_X7_open [.ref (a0 0), .int n1] (cs_X7 J.2.2.1 a0 t_bytes t_held t_end t_at t_start t_faultKind t_faultPlace) none (cs_X7 J.2.2.1 a0 t_bytes t_held o_t_end o_t_at o_t_start o_t_faultKind o_t_faultPlace) := by
  refine Mt_of (own := RX7) (by decide) rfl (Nat.le_of_ble_eq_true rfl) rfl (fun Z C E => ?_)
  unfold f_X7_open at h
  show G J Z 0 0 (cs_X7 J.2.2.1 a0 t_bytes t_held t_end t_at t_start t_faultKind t_faultPlace) 2 [(0, .ref (a0 0)), (1, .int n1)] 0 []
  refine g_aload_n (pc := 0) C 0 rfl dX7_open_0 ?_
  refine g_iload_n (pc := 1) C 1 rfl dX7_open_1 ?_
  refine g_put (pc := 2) C (w' := cs_X7 J.2.2.1 a0 t_bytes t_held n1 t_at t_start t_faultKind t_faultPlace) FOK_X7 0 rfl rfl 2 (by decide) kw_126 rfl rfl rfl (Nat.le_of_ble_eq_true rfl) dX7_open_2 rfl ?_
  refine g_aload_n (pc := 5) C 0 rfl dX7_open_5 ?_
  refine g_iconst (pc := 6) C dX7_open_6 ci_0 ?_
  refine g_put (pc := 7) C (w' := cs_X7 J.2.2.1 a0 t_bytes t_held n1 0 t_start t_faultKind t_faultPlace) FOK_X7 0 rfl rfl 3 (by decide) kw_127 rfl rfl rfl (Nat.le_of_ble_eq_true rfl) dX7_open_7 rfl ?_
  refine g_aload_n (pc := 10) C 0 rfl dX7_open_10 ?_
  refine g_iconst (pc := 11) C dX7_open_11 ci_0 ?_
  refine g_put (pc := 12) C (w' := cs_X7 J.2.2.1 a0 t_bytes t_held n1 0 0 t_faultKind t_faultPlace) FOK_X7 0 rfl rfl 4 (by decide) kw_128 rfl rfl rfl (Nat.le_of_ble_eq_true rfl) dX7_open_12 rfl ?_
  refine g_aload_n (pc := 15) C 0 rfl dX7_open_15 ?_
  refine g_iconst (pc := 16) C dX7_open_16 ci_0 ?_
  refine g_put (pc := 17) C (w' := cs_X7 J.2.2.1 a0 t_bytes t_held n1 0 0 0 t_faultPlace) FOK_X7 0 rfl rfl 5 (by decide) kw_129 rfl rfl rfl (Nat.le_of_ble_eq_true rfl) dX7_open_17 rfl ?_
  refine g_aload_n (pc := 20) C 0 rfl dX7_open_20 ?_
  refine g_iconst (pc := 21) C dX7_open_21 ci_m1 ?_
  refine g_put (pc := 22) C (w' := cs_X7 J.2.2.1 a0 t_bytes t_held n1 0 0 0 (-1)) FOK_X7 0 rfl rfl 6 (by decide) kw_130 rfl rfl rfl (Nat.le_of_ble_eq_true rfl) dX7_open_22 rfl ?_
  cases h
  exact g_vret C E dX7_open_25
noncomputable def f_X7_empty (t_held : Int32) : Option (Int32) := some 0
def rm_X7_empty : Room := { frames := 0, cells := 0, slots := 0, locals := 0 }
set_option maxRecDepth 100000 in
set_option maxHeartbeats 4000000 in
theorem t_X7_empty {J : Jt} {a0 : Nat → Nat} {t_bytes : Nat → Int32} {t_held : Int32} {t_end : Int32} {t_at : Int32} {t_start : Int32} {t_faultKind : Int32} {t_faultPlace : Int32} {o_t_held : Int32} (h : f_X7_empty t_held = some o_t_held) : Mt J yX7_empty cX7_empty 1 none rm_X7_empty [.ref (a0 0)] (cs_X7 J.2.2.1 a0 t_bytes t_held t_end t_at t_start t_faultKind t_faultPlace) none (cs_X7 J.2.2.1 a0 t_bytes o_t_held t_end t_at t_start t_faultKind t_faultPlace) := by
  refine Mt_of (own := RX7) (by decide) rfl (Nat.le_of_ble_eq_true rfl) rfl (fun Z C E => ?_)
  unfold f_X7_empty at h
  show G J Z 0 0 (cs_X7 J.2.2.1 a0 t_bytes t_held t_end t_at t_start t_faultKind t_faultPlace) 1 [(0, .ref (a0 0))] 0 []
  refine g_aload_n (pc := 0) C 0 rfl dX7_empty_0 ?_
  refine g_iconst (pc := 1) C dX7_empty_1 ci_0 ?_
  refine g_put (pc := 2) C (w' := cs_X7 J.2.2.1 a0 t_bytes 0 t_end t_at t_start t_faultKind t_faultPlace) FOK_X7 0 rfl rfl 1 (by decide) kw_124 rfl rfl rfl (Nat.le_of_ble_eq_true rfl) dX7_empty_2 rfl ?_
  cases h
  exact g_vret C E dX7_empty_5
noncomputable def f_X7_isSound (t_faultKind : Int32) : Option (Int32) := if t_faultKind = 0 then some 1 else some 0
def rm_X7_isSound : Room := { frames := 0, cells := 0, slots := 0, locals := 0 }
set_option maxRecDepth 100000 in
set_option maxHeartbeats 4000000 in
theorem t_X7_isSound {J : Jt} {a0 : Nat → Nat} {t_bytes : Nat → Int32} {t_held : Int32} {t_end : Int32} {t_at : Int32} {t_start : Int32} {t_faultKind : Int32} {t_faultPlace : Int32} {r : Int32} (h : f_X7_isSound t_faultKind = some r) : Mt J yX7_isSound cX7_isSound 1 (some .boolean) rm_X7_isSound [.ref (a0 0)] (cs_X7 J.2.2.1 a0 t_bytes t_held t_end t_at t_start t_faultKind t_faultPlace) (some (.int r)) (cs_X7 J.2.2.1 a0 t_bytes t_held t_end t_at t_start t_faultKind t_faultPlace) := by
  refine Mt_of (own := RX7) (by decide) rfl (Nat.le_of_ble_eq_true rfl) rfl (fun Z C E => ?_)
  unfold f_X7_isSound at h
  show G J Z 0 0 (cs_X7 J.2.2.1 a0 t_bytes t_held t_end t_at t_start t_faultKind t_faultPlace) 1 [(0, .ref (a0 0))] 0 []
  refine g_aload_n (pc := 0) C 0 rfl dX7_isSound_0 ?_
  refine g_get (pc := 1) C FOK_X7 0 rfl rfl 5 (by decide) kw_129 rfl dX7_isSound_1 ?_
  refine g_if_ne (pc := 4) C (tgt := 11) dX7_isSound_4 rfl h (fun h => ?_) (fun h => ?_)
  · refine g_iconst (pc := 11) C dX7_isSound_11 ci_0 ?_
    cases h
    exact g_zret C rfl E dX7_isSound_12
  · refine g_iconst (pc := 7) C dX7_isSound_7 ci_1 ?_
    refine g_goto (pc := 8) C (tgt := 12) dX7_isSound_8 rfl ?_
    cases h
    exact g_zret C rfl E dX7_isSound_12
noncomputable def f_X7_answer (t_faultKind : Int32) : Option (Int32) := some (t_faultKind - 10)
def rm_X7_answer : Room := { frames := 0, cells := 0, slots := 0, locals := 0 }
set_option maxRecDepth 100000 in
set_option maxHeartbeats 4000000 in
theorem t_X7_answer {J : Jt} {a0 : Nat → Nat} {t_bytes : Nat → Int32} {t_held : Int32} {t_end : Int32} {t_at : Int32} {t_start : Int32} {t_faultKind : Int32} {t_faultPlace : Int32} {r : Int32} (h : f_X7_answer t_faultKind = some r) : Mt J yX7_answer cX7_answer 1 (some .int) rm_X7_answer [.ref (a0 0)] (cs_X7 J.2.2.1 a0 t_bytes t_held t_end t_at t_start t_faultKind t_faultPlace) (some (.int r)) (cs_X7 J.2.2.1 a0 t_bytes t_held t_end t_at t_start t_faultKind t_faultPlace) := by
  refine Mt_of (own := RX7) (by decide) rfl (Nat.le_of_ble_eq_true rfl) rfl (fun Z C E => ?_)
  unfold f_X7_answer at h
  show G J Z 0 0 (cs_X7 J.2.2.1 a0 t_bytes t_held t_end t_at t_start t_faultKind t_faultPlace) 1 [(0, .ref (a0 0))] 0 []
  refine g_aload_n (pc := 0) C 0 rfl dX7_answer_0 ?_
  refine g_get (pc := 1) C FOK_X7 0 rfl rfl 5 (by decide) kw_129 rfl dX7_answer_1 ?_
  refine g_bipush (pc := 4) C dX7_answer_4 cb_10 ?_
  refine g_isub (pc := 6) C dX7_answer_6 ?_
  cases h
  exact g_iret C E dX7_answer_7
noncomputable def f_X8_add (w_kind : Nat → Int32) (w_first : Nat → Int32) (w_second : Nat → Int32) (w_length : Int32) (n1 : Int32) (n2 : Int32) (n3 : Int32) : Option ((Nat → Int32) × (Nat → Int32) × (Nat → Int32) × Int32) := if 150 ≤ w_length then some (w_kind, w_first, w_second, w_length) else if ixb w_length 150 then if ixb w_length 150 then if ixb w_length 150 then some (upd w_kind w_length.toNatClampNeg n1, upd w_first w_length.toNatClampNeg n2, upd w_second w_length.toNatClampNeg n3, w_length + 1) else none else none else none
def rm_X8_add : Room := { frames := 0, cells := 0, slots := 0, locals := 0 }
set_option maxRecDepth 100000 in
set_option maxHeartbeats 4000000 in
theorem t_X8_add {J : Jt} {a0 : Nat → Nat} {w_kind : Nat → Int32} {w_first : Nat → Int32} {w_second : Nat → Int32} {w_rounds : Nat → Int32} {w_length : Int32} {w_begun : Int32} {w_refused : Int32} {n1 : Int32} {n2 : Int32} {n3 : Int32} {o_w_kind : Nat → Int32} {o_w_first : Nat → Int32} {o_w_second : Nat → Int32} {o_w_length : Int32} (h : f_X8_add w_kind w_first w_second w_length n1 n2 n3 = some (o_w_kind, o_w_first, o_w_second, o_w_length)) : Mt J yX8_add cX8_add 4 none rm_X8_add [.ref (a0 0), .int n1, .int n2, .int n3] (cs_X8 J.2.2.1 a0 w_kind w_first w_second w_rounds w_length w_begun w_refused) none (cs_X8 J.2.2.1 a0 o_w_kind o_w_first o_w_second w_rounds o_w_length w_begun w_refused) := by
  refine Mt_of (own := RX8) (by decide) rfl (Nat.le_of_ble_eq_true rfl) rfl (fun Z C E => ?_)
  unfold f_X8_add at h
  show G J Z 0 0 (cs_X8 J.2.2.1 a0 w_kind w_first w_second w_rounds w_length w_begun w_refused) 4 [(0, .ref (a0 0)), (1, .int n1), (2, .int n2), (3, .int n3)] 0 []
  refine g_aload_n (pc := 0) C 0 rfl dX8_add_0 ?_
  refine g_get (pc := 1) C FOK_X8 0 rfl rfl 4 (by decide) kw_213 rfl dX8_add_1 ?_
  refine g_sipush (pc := 4) C dX8_add_4 cs_150 ?_
  refine g_icmp_ge (pc := 7) C (tgt := 50) dX8_add_7 rfl h (fun h => ?_) (fun h => ?_)
  · cases h
    exact g_vret C E dX8_add_50
  · refine g_aload_n (pc := 10) C 0 rfl dX8_add_10 ?_
    refine g_get (pc := 11) C FOK_X8 0 rfl rfl 0 (by decide) kw_209 rfl dX8_add_11 ?_
    refine g_aload_n (pc := 14) C 0 rfl dX8_add_14 ?_
    refine g_get (pc := 15) C FOK_X8 0 rfl rfl 4 (by decide) kw_213 rfl dX8_add_15 ?_
    refine g_iload_n (pc := 18) C 1 rfl dX8_add_18 ?_
    obtain ⟨hi, h⟩ := ix_of h
    refine g_iast (pc := 19) C (w' := cs_X8 J.2.2.1 a0 (upd w_kind w_length.toNatClampNeg n1) w_first w_second w_rounds w_length w_begun w_refused) 1 rfl hi dX8_add_19 rfl ?_
    refine g_aload_n (pc := 20) C 0 rfl dX8_add_20 ?_
    refine g_get (pc := 21) C FOK_X8 0 rfl rfl 1 (by decide) kw_210 rfl dX8_add_21 ?_
    refine g_aload_n (pc := 24) C 0 rfl dX8_add_24 ?_
    refine g_get (pc := 25) C FOK_X8 0 rfl rfl 4 (by decide) kw_213 rfl dX8_add_25 ?_
    refine g_iload_n (pc := 28) C 2 rfl dX8_add_28 ?_
    obtain ⟨hi, h⟩ := ix_of h
    refine g_iast (pc := 29) C (w' := cs_X8 J.2.2.1 a0 (upd w_kind w_length.toNatClampNeg n1) (upd w_first w_length.toNatClampNeg n2) w_second w_rounds w_length w_begun w_refused) 2 rfl hi dX8_add_29 rfl ?_
    refine g_aload_n (pc := 30) C 0 rfl dX8_add_30 ?_
    refine g_get (pc := 31) C FOK_X8 0 rfl rfl 2 (by decide) kw_211 rfl dX8_add_31 ?_
    refine g_aload_n (pc := 34) C 0 rfl dX8_add_34 ?_
    refine g_get (pc := 35) C FOK_X8 0 rfl rfl 4 (by decide) kw_213 rfl dX8_add_35 ?_
    refine g_iload_n (pc := 38) C 3 rfl dX8_add_38 ?_
    obtain ⟨hi, h⟩ := ix_of h
    refine g_iast (pc := 39) C (w' := cs_X8 J.2.2.1 a0 (upd w_kind w_length.toNatClampNeg n1) (upd w_first w_length.toNatClampNeg n2) (upd w_second w_length.toNatClampNeg n3) w_rounds w_length w_begun w_refused) 3 rfl hi dX8_add_39 rfl ?_
    refine g_aload_n (pc := 40) C 0 rfl dX8_add_40 ?_
    refine g_dup (pc := 41) C dX8_add_41 rfl ?_
    refine g_get (pc := 42) C FOK_X8 0 rfl rfl 4 (by decide) kw_213 rfl dX8_add_42 ?_
    refine g_iconst (pc := 45) C dX8_add_45 ci_1 ?_
    refine g_iadd (pc := 46) C dX8_add_46 ?_
    refine g_put (pc := 47) C (w' := cs_X8 J.2.2.1 a0 (upd w_kind w_length.toNatClampNeg n1) (upd w_first w_length.toNatClampNeg n2) (upd w_second w_length.toNatClampNeg n3) w_rounds (w_length + 1) w_begun w_refused) FOK_X8 0 rfl rfl 4 (by decide) kw_213 rfl rfl rfl (Nat.le_of_ble_eq_true rfl) dX8_add_47 rfl ?_
    cases h
    exact g_vret C E dX8_add_50
noncomputable def f_X8_readSteps_3  (q_X8_readSteps : (Nat → Int32) → (Nat → Int32) → (Nat → Int32) → Int32 → (Nat → Int32) → Int32 → Int32 → Int32 → Int32 → Int32 → Int32 → Int32 → Int32 → Int32 → Option ((Nat → Int32) × (Nat → Int32) × (Nat → Int32) × Int32 × Int32 × Int32 × Int32 × Int32)) (q_X8_readStep : (Nat → Int32) → (Nat → Int32) → (Nat → Int32) → Int32 → (Nat → Int32) → Int32 → Int32 → Int32 → Int32 → Int32 → Int32 → Int32 → Int32 → Int32 → Option ((Nat → Int32) × (Nat → Int32) × (Nat → Int32) × Int32 × Int32 × Int32 × Int32 × Int32)) (q_X8_readAgain : (Nat → Int32) → (Nat → Int32) → (Nat → Int32) → Int32 → (Nat → Int32) → Int32 → Int32 → Int32 → Int32 → Int32 → Int32 → Int32 → Int32 → Int32 → Option ((Nat → Int32) × (Nat → Int32) × (Nat → Int32) × Int32 × Int32 × Int32 × Int32 × Int32)) (t_bytes : Nat → Int32) (t_end : Int32) (p_beds : Int32) (p_letters : Int32) (p_readers : Int32) (n1 : Int32) : Nat → Int32 → (Nat → Int32) → (Nat → Int32) → (Nat → Int32) → Int32 → Int32 → Int32 → Int32 → Int32 → Option ((Nat → Int32) × (Nat → Int32) × (Nat → Int32) × Int32 × Int32 × Int32 × Int32 × Int32)
  | 0, _, _, _, _, _, _, _, _, _ => none
  | n + 1, x4, w_kind, w_first, w_second, w_length, t_at, t_start, t_faultKind, t_faultPlace => if 150 ≤ x4 then some (w_kind, w_first, w_second, w_length, t_at, t_start, t_faultKind, t_faultPlace) else b3 (f_X7_isAtEnd t_bytes t_end t_at t_start t_faultKind) (fun v1 c2 c3 => if v1 = 0 then b3 (f_X7_peek t_bytes t_end c2 c3 t_faultKind) (fun v4 c5 c6 => if v4 = 93 then some (w_kind, w_first, w_second, w_length, c5, c6, t_faultKind, t_faultPlace) else b8 (q_X8_readStep w_kind w_first w_second w_length t_bytes t_end c5 c6 t_faultKind t_faultPlace p_beds p_letters p_readers n1) (fun c7 c8 c9 c10 c11 c12 c13 c14 => b4 (f_X7_need t_bytes t_end c11 c12 c13 c14 59) (fun c15 c16 c17 c18 => f_X8_readSteps_3 q_X8_readSteps q_X8_readStep q_X8_readAgain t_bytes t_end p_beds p_letters p_readers n1 n (x4 + 1) c7 c8 c9 c10 c15 c16 c17 c18))) else some (w_kind, w_first, w_second, w_length, c2, c3, t_faultKind, t_faultPlace))
noncomputable def f_X8_readSteps_b (q_X8_readSteps : (Nat → Int32) → (Nat → Int32) → (Nat → Int32) → Int32 → (Nat → Int32) → Int32 → Int32 → Int32 → Int32 → Int32 → Int32 → Int32 → Int32 → Int32 → Option ((Nat → Int32) × (Nat → Int32) × (Nat → Int32) × Int32 × Int32 × Int32 × Int32 × Int32)) (q_X8_readStep : (Nat → Int32) → (Nat → Int32) → (Nat → Int32) → Int32 → (Nat → Int32) → Int32 → Int32 → Int32 → Int32 → Int32 → Int32 → Int32 → Int32 → Int32 → Option ((Nat → Int32) × (Nat → Int32) × (Nat → Int32) × Int32 × Int32 × Int32 × Int32 × Int32)) (q_X8_readAgain : (Nat → Int32) → (Nat → Int32) → (Nat → Int32) → Int32 → (Nat → Int32) → Int32 → Int32 → Int32 → Int32 → Int32 → Int32 → Int32 → Int32 → Int32 → Option ((Nat → Int32) × (Nat → Int32) × (Nat → Int32) × Int32 × Int32 × Int32 × Int32 × Int32)) (w_kind : Nat → Int32) (w_first : Nat → Int32) (w_second : Nat → Int32) (w_length : Int32) (t_bytes : Nat → Int32) (t_end : Int32) (t_at : Int32) (t_start : Int32) (t_faultKind : Int32) (t_faultPlace : Int32) (p_beds : Int32) (p_letters : Int32) (p_readers : Int32) (n1 : Int32) : Option ((Nat → Int32) × (Nat → Int32) × (Nat → Int32) × Int32 × Int32 × Int32 × Int32 × Int32) := f_X8_readSteps_3 q_X8_readSteps q_X8_readStep q_X8_readAgain t_bytes t_end p_beds p_letters p_readers n1 FU 0 w_kind w_first w_second w_length t_at t_start t_faultKind t_faultPlace
noncomputable def f_X8_readStep_b (q_X8_readSteps : (Nat → Int32) → (Nat → Int32) → (Nat → Int32) → Int32 → (Nat → Int32) → Int32 → Int32 → Int32 → Int32 → Int32 → Int32 → Int32 → Int32 → Int32 → Option ((Nat → Int32) × (Nat → Int32) × (Nat → Int32) × Int32 × Int32 × Int32 × Int32 × Int32)) (q_X8_readStep : (Nat → Int32) → (Nat → Int32) → (Nat → Int32) → Int32 → (Nat → Int32) → Int32 → Int32 → Int32 → Int32 → Int32 → Int32 → Int32 → Int32 → Int32 → Option ((Nat → Int32) × (Nat → Int32) × (Nat → Int32) × Int32 × Int32 × Int32 × Int32 × Int32)) (q_X8_readAgain : (Nat → Int32) → (Nat → Int32) → (Nat → Int32) → Int32 → (Nat → Int32) → Int32 → Int32 → Int32 → Int32 → Int32 → Int32 → Int32 → Int32 → Int32 → Option ((Nat → Int32) × (Nat → Int32) × (Nat → Int32) × Int32 × Int32 × Int32 × Int32 × Int32)) (w_kind : Nat → Int32) (w_first : Nat → Int32) (w_second : Nat → Int32) (w_length : Int32) (t_bytes : Nat → Int32) (t_end : Int32) (t_at : Int32) (t_start : Int32) (t_faultKind : Int32) (t_faultPlace : Int32) (p_beds : Int32) (p_letters : Int32) (p_readers : Int32) (n1 : Int32) : Option ((Nat → Int32) × (Nat → Int32) × (Nat → Int32) × Int32 × Int32 × Int32 × Int32 × Int32) := b3 (f_X7_takes_ t_bytes t_end t_at t_start t_faultKind 12) (fun v1 c2 c3 => if v1 = 0 then b3 (f_X7_takes_ t_bytes t_end c2 c3 t_faultKind 13) (fun v4 c5 c6 => if v4 = 0 then b3 (f_X7_takes_ t_bytes t_end c5 c6 t_faultKind 14) (fun v7 c8 c9 => if v7 = 0 then b3 (f_X7_takes_ t_bytes t_end c8 c9 t_faultKind 15) (fun v10 c11 c12 => if v10 = 0 then b3 (f_X7_takes_ t_bytes t_end c11 c12 t_faultKind 16) (fun v13 c14 c15 => if v13 = 0 then b3 (f_X7_takes_ t_bytes t_end c14 c15 t_faultKind 17) (fun v16 c17 c18 => if v16 = 0 then b3 (f_X7_takes_ t_bytes t_end c17 c18 t_faultKind 18) (fun v19 c20 c21 => if v19 = 0 then b2 (f_X7_blame c21 t_faultKind t_faultPlace 1) (fun c22 c23 => some (w_kind, w_first, w_second, w_length, c20, c21, c22, c23)) else b8 (q_X8_readAgain w_kind w_first w_second w_length t_bytes t_end c20 c21 t_faultKind t_faultPlace p_beds p_letters p_readers n1) (fun c24 c25 c26 c27 c28 c29 c30 c31 => some (c24, c25, c26, c27, c28, c29, c30, c31))) else b4 (f_X8_add w_kind w_first w_second w_length 5 0 0) (fun c32 c33 c34 c35 => some (c32, c33, c34, c35, c17, c18, t_faultKind, t_faultPlace))) else b5 (f_X7_number t_bytes t_end c14 c15 t_faultKind t_faultPlace 0 (p_beds - 1)) (fun v36 c37 c38 c39 c40 => b4 (f_X8_add w_kind w_first w_second w_length 4 v36 0) (fun c41 c42 c43 c44 => some (c41, c42, c43, c44, c37, c38, c39, c40)))) else b5 (f_X7_number t_bytes t_end c11 c12 t_faultKind t_faultPlace 0 (p_readers - 1)) (fun v45 c46 c47 c48 c49 => b5 (f_X7_number t_bytes t_end c46 c47 c48 c49 0 (p_beds - 1)) (fun v50 c51 c52 c53 c54 => b4 (f_X8_add w_kind w_first w_second w_length 3 v45 v50) (fun c55 c56 c57 c58 => some (c55, c56, c57, c58, c51, c52, c53, c54))))) else b5 (f_X7_number t_bytes t_end c8 c9 t_faultKind t_faultPlace 0 (p_letters - 1)) (fun v59 c60 c61 c62 c63 => b4 (f_X8_add w_kind w_first w_second w_length 2 v59 0) (fun c64 c65 c66 c67 => some (c64, c65, c66, c67, c60, c61, c62, c63)))) else b5 (f_X7_number t_bytes t_end c5 c6 t_faultKind t_faultPlace 1 20) (fun v68 c69 c70 c71 c72 => b4 (f_X8_add w_kind w_first w_second w_length 1 v68 0) (fun c73 c74 c75 c76 => some (c73, c74, c75, c76, c69, c70, c71, c72)))) else b5 (f_X7_number t_bytes t_end c2 c3 t_faultKind t_faultPlace 1 30) (fun v77 c78 c79 c80 c81 => b4 (f_X8_add w_kind w_first w_second w_length 0 v77 0) (fun c82 c83 c84 c85 => some (c82, c83, c84, c85, c78, c79, c80, c81))))
noncomputable def f_X8_readAgain_72  (q_X8_readSteps : (Nat → Int32) → (Nat → Int32) → (Nat → Int32) → Int32 → (Nat → Int32) → Int32 → Int32 → Int32 → Int32 → Int32 → Int32 → Int32 → Int32 → Int32 → Option ((Nat → Int32) × (Nat → Int32) × (Nat → Int32) × Int32 × Int32 × Int32 × Int32 × Int32)) (q_X8_readStep : (Nat → Int32) → (Nat → Int32) → (Nat → Int32) → Int32 → (Nat → Int32) → Int32 → Int32 → Int32 → Int32 → Int32 → Int32 → Int32 → Int32 → Int32 → Option ((Nat → Int32) × (Nat → Int32) × (Nat → Int32) × Int32 × Int32 × Int32 × Int32 × Int32)) (q_X8_readAgain : (Nat → Int32) → (Nat → Int32) → (Nat → Int32) → Int32 → (Nat → Int32) → Int32 → Int32 → Int32 → Int32 → Int32 → Int32 → Int32 → Int32 → Int32 → Option ((Nat → Int32) × (Nat → Int32) × (Nat → Int32) × Int32 × Int32 × Int32 × Int32 × Int32)) (t_bytes : Nat → Int32) (t_end : Int32) (p_beds : Int32) (p_letters : Int32) (p_readers : Int32) (n1 : Int32) (x4 : Int32) (w_kind : Nat → Int32) (w_first : Nat → Int32) (w_second : Nat → Int32) (w_length : Int32) (t_at : Int32) (t_start : Int32) (t_faultKind : Int32) (t_faultPlace : Int32) : Option ((Nat → Int32) × (Nat → Int32) × (Nat → Int32) × Int32 × Int32 × Int32 × Int32 × Int32) := b4 (f_X8_add w_kind w_first w_second w_length 7 x4 0) (fun c1 c2 c3 c4 => some (c1, c2, c3, c4, t_at, t_start, t_faultKind, t_faultPlace))
noncomputable def f_X8_readAgain_b (q_X8_readSteps : (Nat → Int32) → (Nat → Int32) → (Nat → Int32) → Int32 → (Nat → Int32) → Int32 → Int32 → Int32 → Int32 → Int32 → Int32 → Int32 → Int32 → Int32 → Option ((Nat → Int32) × (Nat → Int32) × (Nat → Int32) × Int32 × Int32 × Int32 × Int32 × Int32)) (q_X8_readStep : (Nat → Int32) → (Nat → Int32) → (Nat → Int32) → Int32 → (Nat → Int32) → Int32 → Int32 → Int32 → Int32 → Int32 → Int32 → Int32 → Int32 → Int32 → Option ((Nat → Int32) × (Nat → Int32) × (Nat → Int32) × Int32 × Int32 × Int32 × Int32 × Int32)) (q_X8_readAgain : (Nat → Int32) → (Nat → Int32) → (Nat → Int32) → Int32 → (Nat → Int32) → Int32 → Int32 → Int32 → Int32 → Int32 → Int32 → Int32 → Int32 → Int32 → Option ((Nat → Int32) × (Nat → Int32) × (Nat → Int32) × Int32 × Int32 × Int32 × Int32 × Int32)) (w_kind : Nat → Int32) (w_first : Nat → Int32) (w_second : Nat → Int32) (w_length : Int32) (t_bytes : Nat → Int32) (t_end : Int32) (t_at : Int32) (t_start : Int32) (t_faultKind : Int32) (t_faultPlace : Int32) (p_beds : Int32) (p_letters : Int32) (p_readers : Int32) (n1 : Int32) : Option ((Nat → Int32) × (Nat → Int32) × (Nat → Int32) × Int32 × Int32 × Int32 × Int32 × Int32) := if n1 < 6 then b5 (f_X7_number t_bytes t_end t_at t_start t_faultKind t_faultPlace 0 30) (fun v5 c6 c7 c8 c9 => b4 (f_X8_add w_kind w_first w_second w_length 6 v5 0) (fun c10 c11 c12 c13 => b4 (f_X7_need t_bytes t_end c6 c7 c8 c9 91) (fun c14 c15 c16 c17 => b8 (q_X8_readSteps c10 c11 c12 c13 t_bytes t_end c14 c15 c16 c17 p_beds p_letters p_readers (n1 + 1)) (fun c18 c19 c20 c21 c22 c23 c24 c25 => b4 (f_X7_need t_bytes t_end c22 c23 c24 c25 93) (fun c26 c27 c28 c29 => if 150 ≤ w_length then f_X8_readAgain_72 q_X8_readSteps q_X8_readStep q_X8_readAgain t_bytes t_end p_beds p_letters p_readers n1 w_length c18 c19 c20 c21 c26 c27 c28 c29 else if ixb w_length 150 then f_X8_readAgain_72 q_X8_readSteps q_X8_readStep q_X8_readAgain t_bytes t_end p_beds p_letters p_readers n1 w_length c18 c19 (upd c20 w_length.toNatClampNeg c21) c21 c26 c27 c28 c29 else none))))) else b2 (f_X7_blame t_start t_faultKind t_faultPlace 3) (fun c30 c31 => some (w_kind, w_first, w_second, w_length, t_at, t_start, c30, c31))
noncomputable def F_ws : Nat → ((Nat → Int32) → (Nat → Int32) → (Nat → Int32) → Int32 → (Nat → Int32) → Int32 → Int32 → Int32 → Int32 → Int32 → Int32 → Int32 → Int32 → Int32 → Option ((Nat → Int32) × (Nat → Int32) × (Nat → Int32) × Int32 × Int32 × Int32 × Int32 × Int32)) × ((Nat → Int32) → (Nat → Int32) → (Nat → Int32) → Int32 → (Nat → Int32) → Int32 → Int32 → Int32 → Int32 → Int32 → Int32 → Int32 → Int32 → Int32 → Option ((Nat → Int32) × (Nat → Int32) × (Nat → Int32) × Int32 × Int32 × Int32 × Int32 × Int32)) × ((Nat → Int32) → (Nat → Int32) → (Nat → Int32) → Int32 → (Nat → Int32) → Int32 → Int32 → Int32 → Int32 → Int32 → Int32 → Int32 → Int32 → Int32 → Option ((Nat → Int32) × (Nat → Int32) × (Nat → Int32) × Int32 × Int32 × Int32 × Int32 × Int32))
  | 0 => (fun _ _ _ _ _ _ _ _ _ _ _ _ _ _ => none, fun _ _ _ _ _ _ _ _ _ _ _ _ _ _ => none, fun _ _ _ _ _ _ _ _ _ _ _ _ _ _ => none)
  | d + 1 => (f_X8_readSteps_b (F_ws d).1 (F_ws d).2.1 (F_ws d).2.2, f_X8_readStep_b (F_ws d).1 (F_ws d).2.1 (F_ws d).2.2, f_X8_readAgain_b (F_ws d).1 (F_ws d).2.1 (F_ws d).2.2)
noncomputable def f_X8_readSteps (d : Nat) : (Nat → Int32) → (Nat → Int32) → (Nat → Int32) → Int32 → (Nat → Int32) → Int32 → Int32 → Int32 → Int32 → Int32 → Int32 → Int32 → Int32 → Int32 → Option ((Nat → Int32) × (Nat → Int32) × (Nat → Int32) × Int32 × Int32 × Int32 × Int32 × Int32) := (F_ws d).1
noncomputable def f_X8_readStep (d : Nat) : (Nat → Int32) → (Nat → Int32) → (Nat → Int32) → Int32 → (Nat → Int32) → Int32 → Int32 → Int32 → Int32 → Int32 → Int32 → Int32 → Int32 → Int32 → Option ((Nat → Int32) × (Nat → Int32) × (Nat → Int32) × Int32 × Int32 × Int32 × Int32 × Int32) := (F_ws d).2.1
noncomputable def f_X8_readAgain (d : Nat) : (Nat → Int32) → (Nat → Int32) → (Nat → Int32) → Int32 → (Nat → Int32) → Int32 → Int32 → Int32 → Int32 → Int32 → Int32 → Int32 → Int32 → Int32 → Option ((Nat → Int32) × (Nat → Int32) × (Nat → Int32) × Int32 × Int32 × Int32 × Int32 × Int32) := (F_ws d).2.2
theorem f_X8_readSteps_s (d : Nat) : f_X8_readSteps (d + 1) = f_X8_readSteps_b (f_X8_readSteps d) (f_X8_readStep d) (f_X8_readAgain d) := rfl
theorem f_X8_readStep_s (d : Nat) : f_X8_readStep (d + 1) = f_X8_readStep_b (f_X8_readSteps d) (f_X8_readStep d) (f_X8_readAgain d) := rfl
theorem f_X8_readAgain_s (d : Nat) : f_X8_readAgain (d + 1) = f_X8_readAgain_b (f_X8_readSteps d) (f_X8_readStep d) (f_X8_readAgain d) := rfl
def rm_ws (d : Nat) : Room := { frames := 5 + d, cells := 0, slots := 0, locals := 164 + 24 * d }
theorem rm_ws_f (d : Nat) : (rm_ws d).frames + 1 ≤ (rm_ws (d + 1)).frames := Nat.le_refl _
theorem rm_ws_l (d : Nat) {n : Nat} (h : 8 + (n + 11) ≤ 24) : 8 + (n + 11) + (rm_ws d).locals ≤ (rm_ws (d + 1)).locals := by simp only [rm_ws]; omega
theorem rm_ws_f0 (d : Nat) {n : Nat} (h : n ≤ 5) : n ≤ (rm_ws (d + 1)).frames := Nat.le_trans h (Nat.le_add_right _ _)
theorem rm_ws_l0 (d : Nat) {n : Nat} (h : n ≤ 164) : n ≤ (rm_ws (d + 1)).locals := Nat.le_trans h (Nat.le_add_right _ _)
def K_X8_readSteps (J : Jt) (q : (Nat → Int32) → (Nat → Int32) → (Nat → Int32) → Int32 → (Nat → Int32) → Int32 → Int32 → Int32 → Int32 → Int32 → Int32 → Int32 → Int32 → Int32 → Option ((Nat → Int32) × (Nat → Int32) × (Nat → Int32) × Int32 × Int32 × Int32 × Int32 × Int32)) (R : Room) : Prop := ∀ (a0 : Nat → Nat) (a1 : Nat → Nat) (a2 : Nat → Nat) (w_kind : Nat → Int32) (w_first : Nat → Int32) (w_second : Nat → Int32) (w_rounds : Nat → Int32) (w_length : Int32) (w_begun : Int32) (w_refused : Int32) (t_bytes : Nat → Int32) (t_held : Int32) (t_end : Int32) (t_at : Int32) (t_start : Int32) (t_faultKind : Int32) (t_faultPlace : Int32) (p_beds : Int32) (p_letters : Int32) (p_readers : Int32) (p_far : Nat → Int32) (p_drain : Nat → Int32) (p_length : Nat → Int32) (p_words : Nat → Int32) (p_home : Nat → Int32) (n1 : Int32) (o_w_kind : Nat → Int32) (o_w_first : Nat → Int32) (o_w_second : Nat → Int32) (o_w_length : Int32) (o_t_at : Int32) (o_t_start : Int32) (o_t_faultKind : Int32) (o_t_faultPlace : Int32), q w_kind w_first w_second w_length t_bytes t_end t_at t_start t_faultKind t_faultPlace p_beds p_letters p_readers n1 = some (o_w_kind, o_w_first, o_w_second, o_w_length, o_t_at, o_t_start, o_t_faultKind, o_t_faultPlace) → Mt J yX8_readSteps cX8_readSteps 5 none R [.ref (a0 0), .ref (a1 0), .ref (a2 0), .int n1] (cs_X8 J.2.2.1 a0 w_kind w_first w_second w_rounds w_length w_begun w_refused ++ cs_X7 J.2.2.1 a1 t_bytes t_held t_end t_at t_start t_faultKind t_faultPlace ++ cs_X2 J.2.2.1 a2 p_beds p_letters p_readers p_far p_drain p_length p_words p_home) none (cs_X8 J.2.2.1 a0 o_w_kind o_w_first o_w_second w_rounds o_w_length w_begun w_refused ++ cs_X7 J.2.2.1 a1 t_bytes t_held t_end o_t_at o_t_start o_t_faultKind o_t_faultPlace ++ cs_X2 J.2.2.1 a2 p_beds p_letters p_readers p_far p_drain p_length p_words p_home)
def K_X8_readStep (J : Jt) (q : (Nat → Int32) → (Nat → Int32) → (Nat → Int32) → Int32 → (Nat → Int32) → Int32 → Int32 → Int32 → Int32 → Int32 → Int32 → Int32 → Int32 → Int32 → Option ((Nat → Int32) × (Nat → Int32) × (Nat → Int32) × Int32 × Int32 × Int32 × Int32 × Int32)) (R : Room) : Prop := ∀ (a0 : Nat → Nat) (a1 : Nat → Nat) (a2 : Nat → Nat) (w_kind : Nat → Int32) (w_first : Nat → Int32) (w_second : Nat → Int32) (w_rounds : Nat → Int32) (w_length : Int32) (w_begun : Int32) (w_refused : Int32) (t_bytes : Nat → Int32) (t_held : Int32) (t_end : Int32) (t_at : Int32) (t_start : Int32) (t_faultKind : Int32) (t_faultPlace : Int32) (p_beds : Int32) (p_letters : Int32) (p_readers : Int32) (p_far : Nat → Int32) (p_drain : Nat → Int32) (p_length : Nat → Int32) (p_words : Nat → Int32) (p_home : Nat → Int32) (n1 : Int32) (o_w_kind : Nat → Int32) (o_w_first : Nat → Int32) (o_w_second : Nat → Int32) (o_w_length : Int32) (o_t_at : Int32) (o_t_start : Int32) (o_t_faultKind : Int32) (o_t_faultPlace : Int32), q w_kind w_first w_second w_length t_bytes t_end t_at t_start t_faultKind t_faultPlace p_beds p_letters p_readers n1 = some (o_w_kind, o_w_first, o_w_second, o_w_length, o_t_at, o_t_start, o_t_faultKind, o_t_faultPlace) → Mt J yX8_readStep cX8_readStep 5 none R [.ref (a0 0), .ref (a1 0), .ref (a2 0), .int n1] (cs_X8 J.2.2.1 a0 w_kind w_first w_second w_rounds w_length w_begun w_refused ++ cs_X7 J.2.2.1 a1 t_bytes t_held t_end t_at t_start t_faultKind t_faultPlace ++ cs_X2 J.2.2.1 a2 p_beds p_letters p_readers p_far p_drain p_length p_words p_home) none (cs_X8 J.2.2.1 a0 o_w_kind o_w_first o_w_second w_rounds o_w_length w_begun w_refused ++ cs_X7 J.2.2.1 a1 t_bytes t_held t_end o_t_at o_t_start o_t_faultKind o_t_faultPlace ++ cs_X2 J.2.2.1 a2 p_beds p_letters p_readers p_far p_drain p_length p_words p_home)
def K_X8_readAgain (J : Jt) (q : (Nat → Int32) → (Nat → Int32) → (Nat → Int32) → Int32 → (Nat → Int32) → Int32 → Int32 → Int32 → Int32 → Int32 → Int32 → Int32 → Int32 → Int32 → Option ((Nat → Int32) × (Nat → Int32) × (Nat → Int32) × Int32 × Int32 × Int32 × Int32 × Int32)) (R : Room) : Prop := ∀ (a0 : Nat → Nat) (a1 : Nat → Nat) (a2 : Nat → Nat) (w_kind : Nat → Int32) (w_first : Nat → Int32) (w_second : Nat → Int32) (w_rounds : Nat → Int32) (w_length : Int32) (w_begun : Int32) (w_refused : Int32) (t_bytes : Nat → Int32) (t_held : Int32) (t_end : Int32) (t_at : Int32) (t_start : Int32) (t_faultKind : Int32) (t_faultPlace : Int32) (p_beds : Int32) (p_letters : Int32) (p_readers : Int32) (p_far : Nat → Int32) (p_drain : Nat → Int32) (p_length : Nat → Int32) (p_words : Nat → Int32) (p_home : Nat → Int32) (n1 : Int32) (o_w_kind : Nat → Int32) (o_w_first : Nat → Int32) (o_w_second : Nat → Int32) (o_w_length : Int32) (o_t_at : Int32) (o_t_start : Int32) (o_t_faultKind : Int32) (o_t_faultPlace : Int32), q w_kind w_first w_second w_length t_bytes t_end t_at t_start t_faultKind t_faultPlace p_beds p_letters p_readers n1 = some (o_w_kind, o_w_first, o_w_second, o_w_length, o_t_at, o_t_start, o_t_faultKind, o_t_faultPlace) → Mt J yX8_readAgain cX8_readAgain 5 none R [.ref (a0 0), .ref (a1 0), .ref (a2 0), .int n1] (cs_X8 J.2.2.1 a0 w_kind w_first w_second w_rounds w_length w_begun w_refused ++ cs_X7 J.2.2.1 a1 t_bytes t_held t_end t_at t_start t_faultKind t_faultPlace ++ cs_X2 J.2.2.1 a2 p_beds p_letters p_readers p_far p_drain p_length p_words p_home) none (cs_X8 J.2.2.1 a0 o_w_kind o_w_first o_w_second w_rounds o_w_length w_begun w_refused ++ cs_X7 J.2.2.1 a1 t_bytes t_held t_end o_t_at o_t_start o_t_faultKind o_t_faultPlace ++ cs_X2 J.2.2.1 a2 p_beds p_letters p_readers p_far p_drain p_length p_words p_home)

set_option maxRecDepth 100000 in
set_option maxHeartbeats 4000000 in
theorem j_X8_readSteps_3 {J : Jt} {Z : Zt} {d : Nat} {q_X8_readSteps : (Nat → Int32) → (Nat → Int32) → (Nat → Int32) → Int32 → (Nat → Int32) → Int32 → Int32 → Int32 → Int32 → Int32 → Int32 → Int32 → Int32 → Int32 → Option ((Nat → Int32) × (Nat → Int32) × (Nat → Int32) × Int32 × Int32 × Int32 × Int32 × Int32)} {q_X8_readStep : (Nat → Int32) → (Nat → Int32) → (Nat → Int32) → Int32 → (Nat → Int32) → Int32 → Int32 → Int32 → Int32 → Int32 → Int32 → Int32 → Int32 → Int32 → Option ((Nat → Int32) × (Nat → Int32) × (Nat → Int32) × Int32 × Int32 × Int32 × Int32 × Int32)} {q_X8_readAgain : (Nat → Int32) → (Nat → Int32) → (Nat → Int32) → Int32 → (Nat → Int32) → Int32 → Int32 → Int32 → Int32 → Int32 → Int32 → Int32 → Int32 → Int32 → Option ((Nat → Int32) × (Nat → Int32) × (Nat → Int32) × Int32 × Int32 × Int32 × Int32 × Int32)} {a0 : Nat → Nat} {a1 : Nat → Nat} {a2 : Nat → Nat} {w_rounds : Nat → Int32} {w_begun : Int32} {w_refused : Int32} {t_bytes : Nat → Int32} {t_held : Int32} {t_end : Int32} {p_beds : Int32} {p_letters : Int32} {p_readers : Int32} {p_far : Nat → Int32} {p_drain : Nat → Int32} {p_length : Nat → Int32} {p_words : Nat → Int32} {p_home : Nat → Int32} {n1 : Int32} {o_w_kind : Nat → Int32} {o_w_first : Nat → Int32} {o_w_second : Nat → Int32} {o_w_length : Int32} {o_t_at : Int32} {o_t_start : Int32} {o_t_faultKind : Int32} {o_t_faultPlace : Int32} (C : Cx J Z cX8_readSteps 5 RX8 none (rm_ws (d + 1))) (E : Ez J Z 0 0 none (cs_X8 J.2.2.1 a0 o_w_kind o_w_first o_w_second w_rounds o_w_length w_begun w_refused ++ cs_X7 J.2.2.1 a1 t_bytes t_held t_end o_t_at o_t_start o_t_faultKind o_t_faultPlace ++ cs_X2 J.2.2.1 a2 p_beds p_letters p_readers p_far p_drain p_length p_words p_home)) (hq_X8_readSteps : K_X8_readSteps J q_X8_readSteps (rm_ws d)) (hq_X8_readStep : K_X8_readStep J q_X8_readStep (rm_ws d)) (hq_X8_readAgain : K_X8_readAgain J q_X8_readAgain (rm_ws d)) : ∀ (n : Nat) (x4 : Int32) (w_kind : Nat → Int32) (w_first : Nat → Int32) (w_second : Nat → Int32) (w_length : Int32) (t_at : Int32) (t_start : Int32) (t_faultKind : Int32) (t_faultPlace : Int32), f_X8_readSteps_3 q_X8_readSteps q_X8_readStep q_X8_readAgain t_bytes t_end p_beds p_letters p_readers n1 n x4 w_kind w_first w_second w_length t_at t_start t_faultKind t_faultPlace = some (o_w_kind, o_w_first, o_w_second, o_w_length, o_t_at, o_t_start, o_t_faultKind, o_t_faultPlace) → G J Z 0 0 (cs_X8 J.2.2.1 a0 w_kind w_first w_second w_rounds w_length w_begun w_refused ++ cs_X7 J.2.2.1 a1 t_bytes t_held t_end t_at t_start t_faultKind t_faultPlace ++ cs_X2 J.2.2.1 a2 p_beds p_letters p_readers p_far p_drain p_length p_words p_home) 5 [(0, .ref (a0 0)), (1, .ref (a1 0)), (2, .ref (a2 0)), (3, .int n1), (4, .int x4)] 3 [] := by
  intro n
  induction n with
  | zero =>
    intro x4 w_kind w_first w_second w_length t_at t_start t_faultKind t_faultPlace h
    rw [f_X8_readSteps_3] at h
    cases h
  | succ n ih =>
    intro x4 w_kind w_first w_second w_length t_at t_start t_faultKind t_faultPlace h
    rw [f_X8_readSteps_3] at h
    refine g_iload (pc := 3) C 4 rfl dX8_readSteps_3 ?_
    refine g_sipush (pc := 5) C dX8_readSteps_5 cs_150 ?_
    refine g_icmp_ge (pc := 8) C (tgt := 46) dX8_readSteps_8 rfl h (fun h => ?_) (fun h => ?_)
    · cases h
      exact g_vret C E dX8_readSteps_46
    · refine g_aload_n (pc := 11) C 1 rfl dX8_readSteps_11 ?_
      obtain ⟨v1, c2, c3, hc, h⟩ := b3_of h
      refine g_callV (pc := 12) C (w' := cs_X8 J.2.2.1 a0 w_kind w_first w_second w_rounds w_length w_begun w_refused ++ cs_X7 J.2.2.1 a1 t_bytes t_held t_end c2 c3 t_faultKind t_faultPlace ++ cs_X2 J.2.2.1 a2 p_beds p_letters p_readers p_far p_drain p_length p_words p_home) (As := []) (st := []) (ci := 7) (q0 := 5) rfl rfl (t_X7_isAtEnd (a0 := a1) hc) (Sub.gen [5, 6] [0, 1, 2, 3, 4, 7, 8, 9, 10, 11, 12] [0, 1, 2, 3, 4, 11, 12, 5, 6, 7, 8, 9, 10] rfl (by decide) rfl (by decide) (by decide) rfl (by decide)) kw_817 kw_620 kw_621 kw_87 hy_X7_isAtEnd kw_622 rfl (rm_ws_f0 d (Nat.le_of_ble_eq_true rfl)) (rm_ws_l0 d (Nat.le_of_ble_eq_true rfl)) (Nat.le_of_ble_eq_true rfl) (Nat.le_of_ble_eq_true rfl) (Nat.le_of_ble_eq_true rfl) dX8_readSteps_12 ?_
      refine g_if_ne (pc := 15) C (tgt := 46) dX8_readSteps_15 rfl h (fun h => ?_) (fun h => ?_)
      · cases h
        exact g_vret C E dX8_readSteps_46
      · refine g_aload_n (pc := 18) C 1 rfl dX8_readSteps_18 ?_
        obtain ⟨v4, c5, c6, hc, h⟩ := b3_of h
        refine g_callV (pc := 19) C (w' := cs_X8 J.2.2.1 a0 w_kind w_first w_second w_rounds w_length w_begun w_refused ++ cs_X7 J.2.2.1 a1 t_bytes t_held t_end c5 c6 t_faultKind t_faultPlace ++ cs_X2 J.2.2.1 a2 p_beds p_letters p_readers p_far p_drain p_length p_words p_home) (As := []) (st := []) (ci := 7) (q0 := 5) rfl rfl (t_X7_peek (a0 := a1) hc) (Sub.gen [5, 6] [0, 1, 2, 3, 4, 7, 8, 9, 10, 11, 12] [0, 1, 2, 3, 4, 11, 12, 5, 6, 7, 8, 9, 10] rfl (by decide) rfl (by decide) (by decide) rfl (by decide)) kw_818 kw_624 kw_625 kw_87 hy_X7_peek kw_626 rfl (rm_ws_f0 d (Nat.le_of_ble_eq_true rfl)) (rm_ws_l0 d (Nat.le_of_ble_eq_true rfl)) (Nat.le_of_ble_eq_true rfl) (Nat.le_of_ble_eq_true rfl) (Nat.le_of_ble_eq_true rfl) dX8_readSteps_19 ?_
        refine g_bipush (pc := 22) C dX8_readSteps_22 cb_93 ?_
        refine g_icmp_eq (pc := 24) C (tgt := 46) dX8_readSteps_24 rfl h (fun h => ?_) (fun h => ?_)
        · cases h
          exact g_vret C E dX8_readSteps_46
        · refine g_aload_n (pc := 27) C 0 rfl dX8_readSteps_27 ?_
          refine g_aload_n (pc := 28) C 1 rfl dX8_readSteps_28 ?_
          refine g_aload_n (pc := 29) C 2 rfl dX8_readSteps_29 ?_
          refine g_iload_n (pc := 30) C 3 rfl dX8_readSteps_30 ?_
          obtain ⟨c7, c8, c9, c10, c11, c12, c13, c14, hc, h⟩ := b8_of h
          refine g_callV (pc := 31) C (w' := cs_X8 J.2.2.1 a0 c7 c8 c9 w_rounds c10 w_begun w_refused ++ cs_X7 J.2.2.1 a1 t_bytes t_held t_end c11 c12 c13 c14 ++ cs_X2 J.2.2.1 a2 p_beds p_letters p_readers p_far p_drain p_length p_words p_home) (As := [.ref (a1 0), .ref (a2 0), .int n1]) (st := []) (ci := 8) (q0 := 0) rfl rfl (hq_X8_readStep a0 a1 a2 _ _ _ _ _ _ _ _ _ _ _ _ _ _ _ _ _ _ _ _ _ _ _ _ _ _ _ _ _ _ _ hc) Sub.same kw_819 kw_821 kw_10 kw_89 hy_X8_readStep kw_822 rfl (rm_ws_f d) (rm_ws_l d (Nat.le_of_ble_eq_true rfl)) (Nat.le_of_ble_eq_true rfl) (Nat.le_of_ble_eq_true rfl) (Nat.le_of_ble_eq_true rfl) dX8_readSteps_31 ?_
          refine g_aload_n (pc := 34) C 1 rfl dX8_readSteps_34 ?_
          refine g_bipush (pc := 35) C dX8_readSteps_35 cb_59 ?_
          obtain ⟨c15, c16, c17, c18, hc, h⟩ := b4_of h
          refine g_callV (pc := 37) C (w' := cs_X8 J.2.2.1 a0 c7 c8 c9 w_rounds c10 w_begun w_refused ++ cs_X7 J.2.2.1 a1 t_bytes t_held t_end c15 c16 c17 c18 ++ cs_X2 J.2.2.1 a2 p_beds p_letters p_readers p_far p_drain p_length p_words p_home) (As := [.int 59]) (st := []) (ci := 7) (q0 := 5) rfl rfl (t_X7_need (a0 := a1) hc) (Sub.gen [5, 6] [0, 1, 2, 3, 4, 7, 8, 9, 10, 11, 12] [0, 1, 2, 3, 4, 11, 12, 5, 6, 7, 8, 9, 10] rfl (by decide) rfl (by decide) (by decide) rfl (by decide)) kw_841 kw_723 kw_724 kw_87 hy_X7_need kw_725 rfl (rm_ws_f0 d (Nat.le_of_ble_eq_true rfl)) (rm_ws_l0 d (Nat.le_of_ble_eq_true rfl)) (Nat.le_of_ble_eq_true rfl) (Nat.le_of_ble_eq_true rfl) (Nat.le_of_ble_eq_true rfl) dX8_readSteps_37 ?_
          refine g_iinc (pc := 40) C (j := 4) [(4, .int (x4 + 1)), (0, .ref (a0 0)), (1, .ref (a1 0)), (2, .ref (a2 0)), (3, .int n1)] dX8_readSteps_40 rfl (ii_1 _) (by decide) rfl ?_
          refine g_goto (pc := 43) C (tgt := 3) dX8_readSteps_43 rfl ?_
          refine g_lv [1, 2, 3, 4, 0] rfl ?_
          exact ih (x4 + 1) c7 c8 c9 c10 c15 c16 c17 c18 h
set_option maxRecDepth 100000 in
set_option maxHeartbeats 4000000 in
theorem t_X8_readSteps_b {J : Jt} {d : Nat} {q_X8_readSteps : (Nat → Int32) → (Nat → Int32) → (Nat → Int32) → Int32 → (Nat → Int32) → Int32 → Int32 → Int32 → Int32 → Int32 → Int32 → Int32 → Int32 → Int32 → Option ((Nat → Int32) × (Nat → Int32) × (Nat → Int32) × Int32 × Int32 × Int32 × Int32 × Int32)} {q_X8_readStep : (Nat → Int32) → (Nat → Int32) → (Nat → Int32) → Int32 → (Nat → Int32) → Int32 → Int32 → Int32 → Int32 → Int32 → Int32 → Int32 → Int32 → Int32 → Option ((Nat → Int32) × (Nat → Int32) × (Nat → Int32) × Int32 × Int32 × Int32 × Int32 × Int32)} {q_X8_readAgain : (Nat → Int32) → (Nat → Int32) → (Nat → Int32) → Int32 → (Nat → Int32) → Int32 → Int32 → Int32 → Int32 → Int32 → Int32 → Int32 → Int32 → Int32 → Option ((Nat → Int32) × (Nat → Int32) × (Nat → Int32) × Int32 × Int32 × Int32 × Int32 × Int32)} {a0 : Nat → Nat} {a1 : Nat → Nat} {a2 : Nat → Nat} {w_kind : Nat → Int32} {w_first : Nat → Int32} {w_second : Nat → Int32} {w_rounds : Nat → Int32} {w_length : Int32} {w_begun : Int32} {w_refused : Int32} {t_bytes : Nat → Int32} {t_held : Int32} {t_end : Int32} {t_at : Int32} {t_start : Int32} {t_faultKind : Int32} {t_faultPlace : Int32} {p_beds : Int32} {p_letters : Int32} {p_readers : Int32} {p_far : Nat → Int32} {p_drain : Nat → Int32} {p_length : Nat → Int32} {p_words : Nat → Int32} {p_home : Nat → Int32} {n1 : Int32} {o_w_kind : Nat → Int32} {o_w_first : Nat → Int32} {o_w_second : Nat → Int32} {o_w_length : Int32} {o_t_at : Int32} {o_t_start : Int32} {o_t_faultKind : Int32} {o_t_faultPlace : Int32} (hq_X8_readSteps : K_X8_readSteps J q_X8_readSteps (rm_ws d)) (hq_X8_readStep : K_X8_readStep J q_X8_readStep (rm_ws d)) (hq_X8_readAgain : K_X8_readAgain J q_X8_readAgain (rm_ws d)) (h : f_X8_readSteps_b q_X8_readSteps q_X8_readStep q_X8_readAgain w_kind w_first w_second w_length t_bytes t_end t_at t_start t_faultKind t_faultPlace p_beds p_letters p_readers n1 = some (o_w_kind, o_w_first, o_w_second, o_w_length, o_t_at, o_t_start, o_t_faultKind, o_t_faultPlace)) : Mt J yX8_readSteps cX8_readSteps 5 none (rm_ws (d + 1)) [.ref (a0 0), .ref (a1 0), .ref (a2 0), .int n1] (cs_X8 J.2.2.1 a0 w_kind w_first w_second w_rounds w_length w_begun w_refused ++ cs_X7 J.2.2.1 a1 t_bytes t_held t_end t_at t_start t_faultKind t_faultPlace ++ cs_X2 J.2.2.1 a2 p_beds p_letters p_readers p_far p_drain p_length p_words p_home) none (cs_X8 J.2.2.1 a0 o_w_kind o_w_first o_w_second w_rounds o_w_length w_begun w_refused ++ cs_X7 J.2.2.1 a1 t_bytes t_held t_end o_t_at o_t_start o_t_faultKind o_t_faultPlace ++ cs_X2 J.2.2.1 a2 p_beds p_letters p_readers p_far p_drain p_length p_words p_home) := by
  refine Mt_of (own := RX8) (by decide) rfl (Nat.le_of_ble_eq_true rfl) rfl (fun Z C E => ?_)
  unfold f_X8_readSteps_b at h
  show G J Z 0 0 (cs_X8 J.2.2.1 a0 w_kind w_first w_second w_rounds w_length w_begun w_refused ++ cs_X7 J.2.2.1 a1 t_bytes t_held t_end t_at t_start t_faultKind t_faultPlace ++ cs_X2 J.2.2.1 a2 p_beds p_letters p_readers p_far p_drain p_length p_words p_home) 5 [(0, .ref (a0 0)), (1, .ref (a1 0)), (2, .ref (a2 0)), (3, .int n1)] 0 []
  refine g_iconst (pc := 0) C dX8_readSteps_0 ci_0 ?_
  refine g_istore (pc := 1) C [(4, .int 0), (0, .ref (a0 0)), (1, .ref (a1 0)), (2, .ref (a2 0)), (3, .int n1)] dX8_readSteps_1 (by decide) rfl ?_
  refine g_lv [1, 2, 3, 4, 0] rfl ?_
  exact j_X8_readSteps_3 C E hq_X8_readSteps hq_X8_readStep hq_X8_readAgain   FU 0 w_kind w_first w_second w_length t_at t_start t_faultKind t_faultPlace h

set_option maxRecDepth 100000 in
set_option maxHeartbeats 4000000 in
theorem t_X8_readStep_b {J : Jt} {d : Nat} {q_X8_readSteps : (Nat → Int32) → (Nat → Int32) → (Nat → Int32) → Int32 → (Nat → Int32) → Int32 → Int32 → Int32 → Int32 → Int32 → Int32 → Int32 → Int32 → Int32 → Option ((Nat → Int32) × (Nat → Int32) × (Nat → Int32) × Int32 × Int32 × Int32 × Int32 × Int32)} {q_X8_readStep : (Nat → Int32) → (Nat → Int32) → (Nat → Int32) → Int32 → (Nat → Int32) → Int32 → Int32 → Int32 → Int32 → Int32 → Int32 → Int32 → Int32 → Int32 → Option ((Nat → Int32) × (Nat → Int32) × (Nat → Int32) × Int32 × Int32 × Int32 × Int32 × Int32)} {q_X8_readAgain : (Nat → Int32) → (Nat → Int32) → (Nat → Int32) → Int32 → (Nat → Int32) → Int32 → Int32 → Int32 → Int32 → Int32 → Int32 → Int32 → Int32 → Int32 → Option ((Nat → Int32) × (Nat → Int32) × (Nat → Int32) × Int32 × Int32 × Int32 × Int32 × Int32)} {a0 : Nat → Nat} {a1 : Nat → Nat} {a2 : Nat → Nat} {w_kind : Nat → Int32} {w_first : Nat → Int32} {w_second : Nat → Int32} {w_rounds : Nat → Int32} {w_length : Int32} {w_begun : Int32} {w_refused : Int32} {t_bytes : Nat → Int32} {t_held : Int32} {t_end : Int32} {t_at : Int32} {t_start : Int32} {t_faultKind : Int32} {t_faultPlace : Int32} {p_beds : Int32} {p_letters : Int32} {p_readers : Int32} {p_far : Nat → Int32} {p_drain : Nat → Int32} {p_length : Nat → Int32} {p_words : Nat → Int32} {p_home : Nat → Int32} {n1 : Int32} {o_w_kind : Nat → Int32} {o_w_first : Nat → Int32} {o_w_second : Nat → Int32} {o_w_length : Int32} {o_t_at : Int32} {o_t_start : Int32} {o_t_faultKind : Int32} {o_t_faultPlace : Int32} (hq_X8_readSteps : K_X8_readSteps J q_X8_readSteps (rm_ws d)) (hq_X8_readStep : K_X8_readStep J q_X8_readStep (rm_ws d)) (hq_X8_readAgain : K_X8_readAgain J q_X8_readAgain (rm_ws d)) (h : f_X8_readStep_b q_X8_readSteps q_X8_readStep q_X8_readAgain w_kind w_first w_second w_length t_bytes t_end t_at t_start t_faultKind t_faultPlace p_beds p_letters p_readers n1 = some (o_w_kind, o_w_first, o_w_second, o_w_length, o_t_at, o_t_start, o_t_faultKind, o_t_faultPlace)) : Mt J yX8_readStep cX8_readStep 5 none (rm_ws (d + 1)) [.ref (a0 0), .ref (a1 0), .ref (a2 0), .int n1] (cs_X8 J.2.2.1 a0 w_kind w_first w_second w_rounds w_length w_begun w_refused ++ cs_X7 J.2.2.1 a1 t_bytes t_held t_end t_at t_start t_faultKind t_faultPlace ++ cs_X2 J.2.2.1 a2 p_beds p_letters p_readers p_far p_drain p_length p_words p_home) none (cs_X8 J.2.2.1 a0 o_w_kind o_w_first o_w_second w_rounds o_w_length w_begun w_refused ++ cs_X7 J.2.2.1 a1 t_bytes t_held t_end o_t_at o_t_start o_t_faultKind o_t_faultPlace ++ cs_X2 J.2.2.1 a2 p_beds p_letters p_readers p_far p_drain p_length p_words p_home) := by
  refine Mt_of (own := RX8) (by decide) rfl (Nat.le_of_ble_eq_true rfl) rfl (fun Z C E => ?_)
  unfold f_X8_readStep_b at h
  show G J Z 0 0 (cs_X8 J.2.2.1 a0 w_kind w_first w_second w_rounds w_length w_begun w_refused ++ cs_X7 J.2.2.1 a1 t_bytes t_held t_end t_at t_start t_faultKind t_faultPlace ++ cs_X2 J.2.2.1 a2 p_beds p_letters p_readers p_far p_drain p_length p_words p_home) 5 [(0, .ref (a0 0)), (1, .ref (a1 0)), (2, .ref (a2 0)), (3, .int n1)] 0 []
  refine g_aload_n (pc := 0) C 1 rfl dX8_readStep_0 ?_
  refine g_ldcS (pc := 1) C (i := 12) rfl dX8_readStep_1 ?_
  obtain ⟨v1, c2, c3, hc, h⟩ := b3_of h
  refine g_callV (pc := 3) C (w' := cs_X8 J.2.2.1 a0 w_kind w_first w_second w_rounds w_length w_begun w_refused ++ cs_X7 J.2.2.1 a1 t_bytes t_held t_end c2 c3 t_faultKind t_faultPlace ++ cs_X2 J.2.2.1 a2 p_beds p_letters p_readers p_far p_drain p_length p_words p_home) (As := [.ref (J.2.2.2.1 12)]) (st := []) (ci := 7) (q0 := 5) rfl rfl (t_X7_takes_ (a0 := a1) (by decide) hc) (Sub.gen [5, 6] [0, 1, 2, 3, 4, 7, 8, 9, 10, 11, 12] [0, 1, 2, 3, 4, 11, 12, 5, 6, 7, 8, 9, 10] rfl (by decide) rfl (by decide) (by decide) rfl (by decide)) kw_824 kw_633 kw_634 kw_87 hy_X7_takes_ kw_635 rfl (rm_ws_f0 d (Nat.le_of_ble_eq_true rfl)) (rm_ws_l0 d (Nat.le_of_ble_eq_true rfl)) (Nat.le_of_ble_eq_true rfl) (Nat.le_of_ble_eq_true rfl) (Nat.le_of_ble_eq_true rfl) dX8_readStep_3 ?_
  refine g_if_eq (pc := 6) C (tgt := 25) dX8_readStep_6 rfl h (fun h => ?_) (fun h => ?_)
  · refine g_aload_n (pc := 25) C 1 rfl dX8_readStep_25 ?_
    refine g_ldcS (pc := 26) C (i := 13) rfl dX8_readStep_26 ?_
    obtain ⟨v4, c5, c6, hc, h⟩ := b3_of h
    refine g_callV (pc := 28) C (w' := cs_X8 J.2.2.1 a0 w_kind w_first w_second w_rounds w_length w_begun w_refused ++ cs_X7 J.2.2.1 a1 t_bytes t_held t_end c5 c6 t_faultKind t_faultPlace ++ cs_X2 J.2.2.1 a2 p_beds p_letters p_readers p_far p_drain p_length p_words p_home) (As := [.ref (J.2.2.2.1 13)]) (st := []) (ci := 7) (q0 := 5) rfl rfl (t_X7_takes_ (a0 := a1) (by decide) hc) (Sub.gen [5, 6] [0, 1, 2, 3, 4, 7, 8, 9, 10, 11, 12] [0, 1, 2, 3, 4, 11, 12, 5, 6, 7, 8, 9, 10] rfl (by decide) rfl (by decide) (by decide) rfl (by decide)) kw_824 kw_633 kw_634 kw_87 hy_X7_takes_ kw_635 rfl (rm_ws_f0 d (Nat.le_of_ble_eq_true rfl)) (rm_ws_l0 d (Nat.le_of_ble_eq_true rfl)) (Nat.le_of_ble_eq_true rfl) (Nat.le_of_ble_eq_true rfl) (Nat.le_of_ble_eq_true rfl) dX8_readStep_28 ?_
    refine g_if_eq (pc := 31) C (tgt := 50) dX8_readStep_31 rfl h (fun h => ?_) (fun h => ?_)
    · refine g_aload_n (pc := 50) C 1 rfl dX8_readStep_50 ?_
      refine g_ldcS (pc := 51) C (i := 14) rfl dX8_readStep_51 ?_
      obtain ⟨v7, c8, c9, hc, h⟩ := b3_of h
      refine g_callV (pc := 53) C (w' := cs_X8 J.2.2.1 a0 w_kind w_first w_second w_rounds w_length w_begun w_refused ++ cs_X7 J.2.2.1 a1 t_bytes t_held t_end c8 c9 t_faultKind t_faultPlace ++ cs_X2 J.2.2.1 a2 p_beds p_letters p_readers p_far p_drain p_length p_words p_home) (As := [.ref (J.2.2.2.1 14)]) (st := []) (ci := 7) (q0 := 5) rfl rfl (t_X7_takes_ (a0 := a1) (by decide) hc) (Sub.gen [5, 6] [0, 1, 2, 3, 4, 7, 8, 9, 10, 11, 12] [0, 1, 2, 3, 4, 11, 12, 5, 6, 7, 8, 9, 10] rfl (by decide) rfl (by decide) (by decide) rfl (by decide)) kw_824 kw_633 kw_634 kw_87 hy_X7_takes_ kw_635 rfl (rm_ws_f0 d (Nat.le_of_ble_eq_true rfl)) (rm_ws_l0 d (Nat.le_of_ble_eq_true rfl)) (Nat.le_of_ble_eq_true rfl) (Nat.le_of_ble_eq_true rfl) (Nat.le_of_ble_eq_true rfl) dX8_readStep_53 ?_
      refine g_if_eq (pc := 56) C (tgt := 79) dX8_readStep_56 rfl h (fun h => ?_) (fun h => ?_)
      · refine g_aload_n (pc := 79) C 1 rfl dX8_readStep_79 ?_
        refine g_ldcS (pc := 80) C (i := 15) rfl dX8_readStep_80 ?_
        obtain ⟨v10, c11, c12, hc, h⟩ := b3_of h
        refine g_callV (pc := 82) C (w' := cs_X8 J.2.2.1 a0 w_kind w_first w_second w_rounds w_length w_begun w_refused ++ cs_X7 J.2.2.1 a1 t_bytes t_held t_end c11 c12 t_faultKind t_faultPlace ++ cs_X2 J.2.2.1 a2 p_beds p_letters p_readers p_far p_drain p_length p_words p_home) (As := [.ref (J.2.2.2.1 15)]) (st := []) (ci := 7) (q0 := 5) rfl rfl (t_X7_takes_ (a0 := a1) (by decide) hc) (Sub.gen [5, 6] [0, 1, 2, 3, 4, 7, 8, 9, 10, 11, 12] [0, 1, 2, 3, 4, 11, 12, 5, 6, 7, 8, 9, 10] rfl (by decide) rfl (by decide) (by decide) rfl (by decide)) kw_824 kw_633 kw_634 kw_87 hy_X7_takes_ kw_635 rfl (rm_ws_f0 d (Nat.le_of_ble_eq_true rfl)) (rm_ws_l0 d (Nat.le_of_ble_eq_true rfl)) (Nat.le_of_ble_eq_true rfl) (Nat.le_of_ble_eq_true rfl) (Nat.le_of_ble_eq_true rfl) dX8_readStep_82 ?_
        refine g_if_eq (pc := 85) C (tgt := 122) dX8_readStep_85 rfl h (fun h => ?_) (fun h => ?_)
        · refine g_aload_n (pc := 122) C 1 rfl dX8_readStep_122 ?_
          refine g_ldcS (pc := 123) C (i := 16) rfl dX8_readStep_123 ?_
          obtain ⟨v13, c14, c15, hc, h⟩ := b3_of h
          refine g_callV (pc := 125) C (w' := cs_X8 J.2.2.1 a0 w_kind w_first w_second w_rounds w_length w_begun w_refused ++ cs_X7 J.2.2.1 a1 t_bytes t_held t_end c14 c15 t_faultKind t_faultPlace ++ cs_X2 J.2.2.1 a2 p_beds p_letters p_readers p_far p_drain p_length p_words p_home) (As := [.ref (J.2.2.2.1 16)]) (st := []) (ci := 7) (q0 := 5) rfl rfl (t_X7_takes_ (a0 := a1) (by decide) hc) (Sub.gen [5, 6] [0, 1, 2, 3, 4, 7, 8, 9, 10, 11, 12] [0, 1, 2, 3, 4, 11, 12, 5, 6, 7, 8, 9, 10] rfl (by decide) rfl (by decide) (by decide) rfl (by decide)) kw_824 kw_633 kw_634 kw_87 hy_X7_takes_ kw_635 rfl (rm_ws_f0 d (Nat.le_of_ble_eq_true rfl)) (rm_ws_l0 d (Nat.le_of_ble_eq_true rfl)) (Nat.le_of_ble_eq_true rfl) (Nat.le_of_ble_eq_true rfl) (Nat.le_of_ble_eq_true rfl) dX8_readStep_125 ?_
          refine g_if_eq (pc := 128) C (tgt := 151) dX8_readStep_128 rfl h (fun h => ?_) (fun h => ?_)
          · refine g_aload_n (pc := 151) C 1 rfl dX8_readStep_151 ?_
            refine g_ldcS (pc := 152) C (i := 17) rfl dX8_readStep_152 ?_
            obtain ⟨v16, c17, c18, hc, h⟩ := b3_of h
            refine g_callV (pc := 154) C (w' := cs_X8 J.2.2.1 a0 w_kind w_first w_second w_rounds w_length w_begun w_refused ++ cs_X7 J.2.2.1 a1 t_bytes t_held t_end c17 c18 t_faultKind t_faultPlace ++ cs_X2 J.2.2.1 a2 p_beds p_letters p_readers p_far p_drain p_length p_words p_home) (As := [.ref (J.2.2.2.1 17)]) (st := []) (ci := 7) (q0 := 5) rfl rfl (t_X7_takes_ (a0 := a1) (by decide) hc) (Sub.gen [5, 6] [0, 1, 2, 3, 4, 7, 8, 9, 10, 11, 12] [0, 1, 2, 3, 4, 11, 12, 5, 6, 7, 8, 9, 10] rfl (by decide) rfl (by decide) (by decide) rfl (by decide)) kw_824 kw_633 kw_634 kw_87 hy_X7_takes_ kw_635 rfl (rm_ws_f0 d (Nat.le_of_ble_eq_true rfl)) (rm_ws_l0 d (Nat.le_of_ble_eq_true rfl)) (Nat.le_of_ble_eq_true rfl) (Nat.le_of_ble_eq_true rfl) (Nat.le_of_ble_eq_true rfl) dX8_readStep_154 ?_
            refine g_if_eq (pc := 157) C (tgt := 170) dX8_readStep_157 rfl h (fun h => ?_) (fun h => ?_)
            · refine g_aload_n (pc := 170) C 1 rfl dX8_readStep_170 ?_
              refine g_ldcS (pc := 171) C (i := 18) rfl dX8_readStep_171 ?_
              obtain ⟨v19, c20, c21, hc, h⟩ := b3_of h
              refine g_callV (pc := 173) C (w' := cs_X8 J.2.2.1 a0 w_kind w_first w_second w_rounds w_length w_begun w_refused ++ cs_X7 J.2.2.1 a1 t_bytes t_held t_end c20 c21 t_faultKind t_faultPlace ++ cs_X2 J.2.2.1 a2 p_beds p_letters p_readers p_far p_drain p_length p_words p_home) (As := [.ref (J.2.2.2.1 18)]) (st := []) (ci := 7) (q0 := 5) rfl rfl (t_X7_takes_ (a0 := a1) (by decide) hc) (Sub.gen [5, 6] [0, 1, 2, 3, 4, 7, 8, 9, 10, 11, 12] [0, 1, 2, 3, 4, 11, 12, 5, 6, 7, 8, 9, 10] rfl (by decide) rfl (by decide) (by decide) rfl (by decide)) kw_824 kw_633 kw_634 kw_87 hy_X7_takes_ kw_635 rfl (rm_ws_f0 d (Nat.le_of_ble_eq_true rfl)) (rm_ws_l0 d (Nat.le_of_ble_eq_true rfl)) (Nat.le_of_ble_eq_true rfl) (Nat.le_of_ble_eq_true rfl) (Nat.le_of_ble_eq_true rfl) dX8_readStep_173 ?_
              refine g_if_eq (pc := 176) C (tgt := 189) dX8_readStep_176 rfl h (fun h => ?_) (fun h => ?_)
              · refine g_aload_n (pc := 189) C 1 rfl dX8_readStep_189 ?_
                refine g_iconst (pc := 190) C dX8_readStep_190 ci_1 ?_
                obtain ⟨c22, c23, hc, h⟩ := b2_of h
                refine g_callV (pc := 191) C (w' := cs_X8 J.2.2.1 a0 w_kind w_first w_second w_rounds w_length w_begun w_refused ++ cs_X7 J.2.2.1 a1 t_bytes t_held t_end c20 c21 c22 c23 ++ cs_X2 J.2.2.1 a2 p_beds p_letters p_readers p_far p_drain p_length p_words p_home) (As := [.int 1]) (st := []) (ci := 7) (q0 := 5) rfl rfl (t_X7_blame (a0 := a1) hc) (Sub.gen [5, 6] [0, 1, 2, 3, 4, 7, 8, 9, 10, 11, 12] [0, 1, 2, 3, 4, 11, 12, 5, 6, 7, 8, 9, 10] rfl (by decide) rfl (by decide) (by decide) rfl (by decide)) kw_840 kw_696 kw_697 kw_87 hy_X7_blame kw_698 rfl (rm_ws_f0 d (Nat.le_of_ble_eq_true rfl)) (rm_ws_l0 d (Nat.le_of_ble_eq_true rfl)) (Nat.le_of_ble_eq_true rfl) (Nat.le_of_ble_eq_true rfl) (Nat.le_of_ble_eq_true rfl) dX8_readStep_191 ?_
                cases h
                exact g_vret C E dX8_readStep_194
              · refine g_aload_n (pc := 179) C 0 rfl dX8_readStep_179 ?_
                refine g_aload_n (pc := 180) C 1 rfl dX8_readStep_180 ?_
                refine g_aload_n (pc := 181) C 2 rfl dX8_readStep_181 ?_
                refine g_iload_n (pc := 182) C 3 rfl dX8_readStep_182 ?_
                obtain ⟨c24, c25, c26, c27, c28, c29, c30, c31, hc, h⟩ := b8_of h
                refine g_callV (pc := 183) C (w' := cs_X8 J.2.2.1 a0 c24 c25 c26 w_rounds c27 w_begun w_refused ++ cs_X7 J.2.2.1 a1 t_bytes t_held t_end c28 c29 c30 c31 ++ cs_X2 J.2.2.1 a2 p_beds p_letters p_readers p_far p_drain p_length p_words p_home) (As := [.ref (a1 0), .ref (a2 0), .int n1]) (st := []) (ci := 8) (q0 := 0) rfl rfl (hq_X8_readAgain a0 a1 a2 _ _ _ _ _ _ _ _ _ _ _ _ _ _ _ _ _ _ _ _ _ _ _ _ _ _ _ _ _ _ _ hc) Sub.same kw_836 kw_838 kw_11 kw_89 hy_X8_readAgain kw_839 rfl (rm_ws_f d) (rm_ws_l d (Nat.le_of_ble_eq_true rfl)) (Nat.le_of_ble_eq_true rfl) (Nat.le_of_ble_eq_true rfl) (Nat.le_of_ble_eq_true rfl) dX8_readStep_183 ?_
                refine g_goto (pc := 186) C (tgt := 194) dX8_readStep_186 rfl ?_
                cases h
                exact g_vret C E dX8_readStep_194
            · refine g_aload_n (pc := 160) C 0 rfl dX8_readStep_160 ?_
              refine g_iconst (pc := 161) C dX8_readStep_161 ci_5 ?_
              refine g_iconst (pc := 162) C dX8_readStep_162 ci_0 ?_
              refine g_iconst (pc := 163) C dX8_readStep_163 ci_0 ?_
              obtain ⟨c32, c33, c34, c35, hc, h⟩ := b4_of h
              refine g_callV (pc := 164) C (w' := cs_X8 J.2.2.1 a0 c32 c33 c34 w_rounds c35 w_begun w_refused ++ cs_X7 J.2.2.1 a1 t_bytes t_held t_end c17 c18 t_faultKind t_faultPlace ++ cs_X2 J.2.2.1 a2 p_beds p_letters p_readers p_far p_drain p_length p_words p_home) (As := [.int 5, .int 0, .int 0]) (st := []) (ci := 8) (q0 := 0) rfl rfl (t_X8_add (a0 := a0) hc) (Sub.gen [0, 1, 2, 3, 4] [5, 6, 7, 8, 9, 10, 11, 12] [8, 9, 10, 11, 12, 0, 1, 2, 3, 4, 5, 6, 7] rfl (by decide) rfl (by decide) (by decide) rfl (by decide)) kw_826 kw_827 kw_828 kw_89 hy_X8_add kw_829 rfl (rm_ws_f0 d (Nat.le_of_ble_eq_true rfl)) (rm_ws_l0 d (Nat.le_of_ble_eq_true rfl)) (Nat.le_of_ble_eq_true rfl) (Nat.le_of_ble_eq_true rfl) (Nat.le_of_ble_eq_true rfl) dX8_readStep_164 ?_
              refine g_goto (pc := 167) C (tgt := 194) dX8_readStep_167 rfl ?_
              cases h
              exact g_vret C E dX8_readStep_194
          · refine g_aload_n (pc := 131) C 0 rfl dX8_readStep_131 ?_
            refine g_iconst (pc := 132) C dX8_readStep_132 ci_4 ?_
            refine g_aload_n (pc := 133) C 1 rfl dX8_readStep_133 ?_
            refine g_iconst (pc := 134) C dX8_readStep_134 ci_0 ?_
            refine g_aload_n (pc := 135) C 2 rfl dX8_readStep_135 ?_
            refine g_get (pc := 136) C FOK_X2 7 rfl rfl 0 (by decide) kw_278 rfl dX8_readStep_136 ?_
            refine g_iconst (pc := 139) C dX8_readStep_139 ci_1 ?_
            refine g_isub (pc := 140) C dX8_readStep_140 ?_
            obtain ⟨v36, c37, c38, c39, c40, hc, h⟩ := b5_of h
            refine g_callV (pc := 141) C (w' := cs_X8 J.2.2.1 a0 w_kind w_first w_second w_rounds w_length w_begun w_refused ++ cs_X7 J.2.2.1 a1 t_bytes t_held t_end c37 c38 c39 c40 ++ cs_X2 J.2.2.1 a2 p_beds p_letters p_readers p_far p_drain p_length p_words p_home) (As := [.int 0, .int (p_beds - 1)]) (st := [.int 4, .ref (a0 0)]) (ci := 7) (q0 := 5) rfl rfl (t_X7_number (a0 := a1) hc) (Sub.gen [5, 6] [0, 1, 2, 3, 4, 7, 8, 9, 10, 11, 12] [0, 1, 2, 3, 4, 11, 12, 5, 6, 7, 8, 9, 10] rfl (by decide) rfl (by decide) (by decide) rfl (by decide)) kw_825 kw_700 kw_701 kw_87 hy_X7_number kw_702 rfl (rm_ws_f0 d (Nat.le_of_ble_eq_true rfl)) (rm_ws_l0 d (Nat.le_of_ble_eq_true rfl)) (Nat.le_of_ble_eq_true rfl) (Nat.le_of_ble_eq_true rfl) (Nat.le_of_ble_eq_true rfl) dX8_readStep_141 ?_
            refine g_iconst (pc := 144) C dX8_readStep_144 ci_0 ?_
            obtain ⟨c41, c42, c43, c44, hc, h⟩ := b4_of h
            refine g_callV (pc := 145) C (w' := cs_X8 J.2.2.1 a0 c41 c42 c43 w_rounds c44 w_begun w_refused ++ cs_X7 J.2.2.1 a1 t_bytes t_held t_end c37 c38 c39 c40 ++ cs_X2 J.2.2.1 a2 p_beds p_letters p_readers p_far p_drain p_length p_words p_home) (As := [.int 4, .int v36, .int 0]) (st := []) (ci := 8) (q0 := 0) rfl rfl (t_X8_add (a0 := a0) hc) (Sub.gen [0, 1, 2, 3, 4] [5, 6, 7, 8, 9, 10, 11, 12] [8, 9, 10, 11, 12, 0, 1, 2, 3, 4, 5, 6, 7] rfl (by decide) rfl (by decide) (by decide) rfl (by decide)) kw_826 kw_827 kw_828 kw_89 hy_X8_add kw_829 rfl (rm_ws_f0 d (Nat.le_of_ble_eq_true rfl)) (rm_ws_l0 d (Nat.le_of_ble_eq_true rfl)) (Nat.le_of_ble_eq_true rfl) (Nat.le_of_ble_eq_true rfl) (Nat.le_of_ble_eq_true rfl) dX8_readStep_145 ?_
            refine g_goto (pc := 148) C (tgt := 194) dX8_readStep_148 rfl ?_
            cases h
            exact g_vret C E dX8_readStep_194
        · refine g_aload_n (pc := 88) C 1 rfl dX8_readStep_88 ?_
          refine g_iconst (pc := 89) C dX8_readStep_89 ci_0 ?_
          refine g_aload_n (pc := 90) C 2 rfl dX8_readStep_90 ?_
          refine g_get (pc := 91) C FOK_X2 7 rfl rfl 2 (by decide) kw_288 rfl dX8_readStep_91 ?_
          refine g_iconst (pc := 94) C dX8_readStep_94 ci_1 ?_
          refine g_isub (pc := 95) C dX8_readStep_95 ?_
          obtain ⟨v45, c46, c47, c48, c49, hc, h⟩ := b5_of h
          refine g_callV (pc := 96) C (w' := cs_X8 J.2.2.1 a0 w_kind w_first w_second w_rounds w_length w_begun w_refused ++ cs_X7 J.2.2.1 a1 t_bytes t_held t_end c46 c47 c48 c49 ++ cs_X2 J.2.2.1 a2 p_beds p_letters p_readers p_far p_drain p_length p_words p_home) (As := [.int 0, .int (p_readers - 1)]) (st := []) (ci := 7) (q0 := 5) rfl rfl (t_X7_number (a0 := a1) hc) (Sub.gen [5, 6] [0, 1, 2, 3, 4, 7, 8, 9, 10, 11, 12] [0, 1, 2, 3, 4, 11, 12, 5, 6, 7, 8, 9, 10] rfl (by decide) rfl (by decide) (by decide) rfl (by decide)) kw_825 kw_700 kw_701 kw_87 hy_X7_number kw_702 rfl (rm_ws_f0 d (Nat.le_of_ble_eq_true rfl)) (rm_ws_l0 d (Nat.le_of_ble_eq_true rfl)) (Nat.le_of_ble_eq_true rfl) (Nat.le_of_ble_eq_true rfl) (Nat.le_of_ble_eq_true rfl) dX8_readStep_96 ?_
          refine g_istore (pc := 99) C [(4, .int v45), (0, .ref (a0 0)), (1, .ref (a1 0)), (2, .ref (a2 0)), (3, .int n1)] dX8_readStep_99 (by decide) rfl ?_
          refine g_aload_n (pc := 101) C 1 rfl dX8_readStep_101 ?_
          refine g_iconst (pc := 102) C dX8_readStep_102 ci_3 ?_
          refine g_iload (pc := 103) C 0 rfl dX8_readStep_103 ?_
          refine g_aload_n (pc := 105) C 2 rfl dX8_readStep_105 ?_
          refine g_iconst (pc := 106) C dX8_readStep_106 ci_0 ?_
          refine g_aload_n (pc := 107) C 3 rfl dX8_readStep_107 ?_
          refine g_get (pc := 108) C FOK_X2 7 rfl rfl 0 (by decide) kw_278 rfl dX8_readStep_108 ?_
          refine g_iconst (pc := 111) C dX8_readStep_111 ci_1 ?_
          refine g_isub (pc := 112) C dX8_readStep_112 ?_
          obtain ⟨v50, c51, c52, c53, c54, hc, h⟩ := b5_of h
          refine g_callV (pc := 113) C (w' := cs_X8 J.2.2.1 a0 w_kind w_first w_second w_rounds w_length w_begun w_refused ++ cs_X7 J.2.2.1 a1 t_bytes t_held t_end c51 c52 c53 c54 ++ cs_X2 J.2.2.1 a2 p_beds p_letters p_readers p_far p_drain p_length p_words p_home) (As := [.int 0, .int (p_beds - 1)]) (st := [.int v45, .int 3, .ref (a0 0)]) (ci := 7) (q0 := 5) rfl rfl (t_X7_number (a0 := a1) hc) (Sub.gen [5, 6] [0, 1, 2, 3, 4, 7, 8, 9, 10, 11, 12] [0, 1, 2, 3, 4, 11, 12, 5, 6, 7, 8, 9, 10] rfl (by decide) rfl (by decide) (by decide) rfl (by decide)) kw_825 kw_700 kw_701 kw_87 hy_X7_number kw_702 rfl (rm_ws_f0 d (Nat.le_of_ble_eq_true rfl)) (rm_ws_l0 d (Nat.le_of_ble_eq_true rfl)) (Nat.le_of_ble_eq_true rfl) (Nat.le_of_ble_eq_true rfl) (Nat.le_of_ble_eq_true rfl) dX8_readStep_113 ?_
          obtain ⟨c55, c56, c57, c58, hc, h⟩ := b4_of h
          refine g_callV (pc := 116) C (w' := cs_X8 J.2.2.1 a0 c55 c56 c57 w_rounds c58 w_begun w_refused ++ cs_X7 J.2.2.1 a1 t_bytes t_held t_end c51 c52 c53 c54 ++ cs_X2 J.2.2.1 a2 p_beds p_letters p_readers p_far p_drain p_length p_words p_home) (As := [.int 3, .int v45, .int v50]) (st := []) (ci := 8) (q0 := 0) rfl rfl (t_X8_add (a0 := a0) hc) (Sub.gen [0, 1, 2, 3, 4] [5, 6, 7, 8, 9, 10, 11, 12] [8, 9, 10, 11, 12, 0, 1, 2, 3, 4, 5, 6, 7] rfl (by decide) rfl (by decide) (by decide) rfl (by decide)) kw_826 kw_827 kw_828 kw_89 hy_X8_add kw_829 rfl (rm_ws_f0 d (Nat.le_of_ble_eq_true rfl)) (rm_ws_l0 d (Nat.le_of_ble_eq_true rfl)) (Nat.le_of_ble_eq_true rfl) (Nat.le_of_ble_eq_true rfl) (Nat.le_of_ble_eq_true rfl) dX8_readStep_116 ?_
          refine g_goto (pc := 119) C (tgt := 194) dX8_readStep_119 rfl ?_
          cases h
          exact g_vret C E dX8_readStep_194
      · refine g_aload_n (pc := 59) C 0 rfl dX8_readStep_59 ?_
        refine g_iconst (pc := 60) C dX8_readStep_60 ci_2 ?_
        refine g_aload_n (pc := 61) C 1 rfl dX8_readStep_61 ?_
        refine g_iconst (pc := 62) C dX8_readStep_62 ci_0 ?_
        refine g_aload_n (pc := 63) C 2 rfl dX8_readStep_63 ?_
        refine g_get (pc := 64) C FOK_X2 7 rfl rfl 1 (by decide) kw_284 rfl dX8_readStep_64 ?_
        refine g_iconst (pc := 67) C dX8_readStep_67 ci_1 ?_
        refine g_isub (pc := 68) C dX8_readStep_68 ?_
        obtain ⟨v59, c60, c61, c62, c63, hc, h⟩ := b5_of h
        refine g_callV (pc := 69) C (w' := cs_X8 J.2.2.1 a0 w_kind w_first w_second w_rounds w_length w_begun w_refused ++ cs_X7 J.2.2.1 a1 t_bytes t_held t_end c60 c61 c62 c63 ++ cs_X2 J.2.2.1 a2 p_beds p_letters p_readers p_far p_drain p_length p_words p_home) (As := [.int 0, .int (p_letters - 1)]) (st := [.int 2, .ref (a0 0)]) (ci := 7) (q0 := 5) rfl rfl (t_X7_number (a0 := a1) hc) (Sub.gen [5, 6] [0, 1, 2, 3, 4, 7, 8, 9, 10, 11, 12] [0, 1, 2, 3, 4, 11, 12, 5, 6, 7, 8, 9, 10] rfl (by decide) rfl (by decide) (by decide) rfl (by decide)) kw_825 kw_700 kw_701 kw_87 hy_X7_number kw_702 rfl (rm_ws_f0 d (Nat.le_of_ble_eq_true rfl)) (rm_ws_l0 d (Nat.le_of_ble_eq_true rfl)) (Nat.le_of_ble_eq_true rfl) (Nat.le_of_ble_eq_true rfl) (Nat.le_of_ble_eq_true rfl) dX8_readStep_69 ?_
        refine g_iconst (pc := 72) C dX8_readStep_72 ci_0 ?_
        obtain ⟨c64, c65, c66, c67, hc, h⟩ := b4_of h
        refine g_callV (pc := 73) C (w' := cs_X8 J.2.2.1 a0 c64 c65 c66 w_rounds c67 w_begun w_refused ++ cs_X7 J.2.2.1 a1 t_bytes t_held t_end c60 c61 c62 c63 ++ cs_X2 J.2.2.1 a2 p_beds p_letters p_readers p_far p_drain p_length p_words p_home) (As := [.int 2, .int v59, .int 0]) (st := []) (ci := 8) (q0 := 0) rfl rfl (t_X8_add (a0 := a0) hc) (Sub.gen [0, 1, 2, 3, 4] [5, 6, 7, 8, 9, 10, 11, 12] [8, 9, 10, 11, 12, 0, 1, 2, 3, 4, 5, 6, 7] rfl (by decide) rfl (by decide) (by decide) rfl (by decide)) kw_826 kw_827 kw_828 kw_89 hy_X8_add kw_829 rfl (rm_ws_f0 d (Nat.le_of_ble_eq_true rfl)) (rm_ws_l0 d (Nat.le_of_ble_eq_true rfl)) (Nat.le_of_ble_eq_true rfl) (Nat.le_of_ble_eq_true rfl) (Nat.le_of_ble_eq_true rfl) dX8_readStep_73 ?_
        refine g_goto (pc := 76) C (tgt := 194) dX8_readStep_76 rfl ?_
        cases h
        exact g_vret C E dX8_readStep_194
    · refine g_aload_n (pc := 34) C 0 rfl dX8_readStep_34 ?_
      refine g_iconst (pc := 35) C dX8_readStep_35 ci_1 ?_
      refine g_aload_n (pc := 36) C 1 rfl dX8_readStep_36 ?_
      refine g_iconst (pc := 37) C dX8_readStep_37 ci_1 ?_
      refine g_bipush (pc := 38) C dX8_readStep_38 cb_20 ?_
      obtain ⟨v68, c69, c70, c71, c72, hc, h⟩ := b5_of h
      refine g_callV (pc := 40) C (w' := cs_X8 J.2.2.1 a0 w_kind w_first w_second w_rounds w_length w_begun w_refused ++ cs_X7 J.2.2.1 a1 t_bytes t_held t_end c69 c70 c71 c72 ++ cs_X2 J.2.2.1 a2 p_beds p_letters p_readers p_far p_drain p_length p_words p_home) (As := [.int 1, .int 20]) (st := [.int 1, .ref (a0 0)]) (ci := 7) (q0 := 5) rfl rfl (t_X7_number (a0 := a1) hc) (Sub.gen [5, 6] [0, 1, 2, 3, 4, 7, 8, 9, 10, 11, 12] [0, 1, 2, 3, 4, 11, 12, 5, 6, 7, 8, 9, 10] rfl (by decide) rfl (by decide) (by decide) rfl (by decide)) kw_825 kw_700 kw_701 kw_87 hy_X7_number kw_702 rfl (rm_ws_f0 d (Nat.le_of_ble_eq_true rfl)) (rm_ws_l0 d (Nat.le_of_ble_eq_true rfl)) (Nat.le_of_ble_eq_true rfl) (Nat.le_of_ble_eq_true rfl) (Nat.le_of_ble_eq_true rfl) dX8_readStep_40 ?_
      refine g_iconst (pc := 43) C dX8_readStep_43 ci_0 ?_
      obtain ⟨c73, c74, c75, c76, hc, h⟩ := b4_of h
      refine g_callV (pc := 44) C (w' := cs_X8 J.2.2.1 a0 c73 c74 c75 w_rounds c76 w_begun w_refused ++ cs_X7 J.2.2.1 a1 t_bytes t_held t_end c69 c70 c71 c72 ++ cs_X2 J.2.2.1 a2 p_beds p_letters p_readers p_far p_drain p_length p_words p_home) (As := [.int 1, .int v68, .int 0]) (st := []) (ci := 8) (q0 := 0) rfl rfl (t_X8_add (a0 := a0) hc) (Sub.gen [0, 1, 2, 3, 4] [5, 6, 7, 8, 9, 10, 11, 12] [8, 9, 10, 11, 12, 0, 1, 2, 3, 4, 5, 6, 7] rfl (by decide) rfl (by decide) (by decide) rfl (by decide)) kw_826 kw_827 kw_828 kw_89 hy_X8_add kw_829 rfl (rm_ws_f0 d (Nat.le_of_ble_eq_true rfl)) (rm_ws_l0 d (Nat.le_of_ble_eq_true rfl)) (Nat.le_of_ble_eq_true rfl) (Nat.le_of_ble_eq_true rfl) (Nat.le_of_ble_eq_true rfl) dX8_readStep_44 ?_
      refine g_goto (pc := 47) C (tgt := 194) dX8_readStep_47 rfl ?_
      cases h
      exact g_vret C E dX8_readStep_194
  · refine g_aload_n (pc := 9) C 0 rfl dX8_readStep_9 ?_
    refine g_iconst (pc := 10) C dX8_readStep_10 ci_0 ?_
    refine g_aload_n (pc := 11) C 1 rfl dX8_readStep_11 ?_
    refine g_iconst (pc := 12) C dX8_readStep_12 ci_1 ?_
    refine g_bipush (pc := 13) C dX8_readStep_13 cb_30 ?_
    obtain ⟨v77, c78, c79, c80, c81, hc, h⟩ := b5_of h
    refine g_callV (pc := 15) C (w' := cs_X8 J.2.2.1 a0 w_kind w_first w_second w_rounds w_length w_begun w_refused ++ cs_X7 J.2.2.1 a1 t_bytes t_held t_end c78 c79 c80 c81 ++ cs_X2 J.2.2.1 a2 p_beds p_letters p_readers p_far p_drain p_length p_words p_home) (As := [.int 1, .int 30]) (st := [.int 0, .ref (a0 0)]) (ci := 7) (q0 := 5) rfl rfl (t_X7_number (a0 := a1) hc) (Sub.gen [5, 6] [0, 1, 2, 3, 4, 7, 8, 9, 10, 11, 12] [0, 1, 2, 3, 4, 11, 12, 5, 6, 7, 8, 9, 10] rfl (by decide) rfl (by decide) (by decide) rfl (by decide)) kw_825 kw_700 kw_701 kw_87 hy_X7_number kw_702 rfl (rm_ws_f0 d (Nat.le_of_ble_eq_true rfl)) (rm_ws_l0 d (Nat.le_of_ble_eq_true rfl)) (Nat.le_of_ble_eq_true rfl) (Nat.le_of_ble_eq_true rfl) (Nat.le_of_ble_eq_true rfl) dX8_readStep_15 ?_
    refine g_iconst (pc := 18) C dX8_readStep_18 ci_0 ?_
    obtain ⟨c82, c83, c84, c85, hc, h⟩ := b4_of h
    refine g_callV (pc := 19) C (w' := cs_X8 J.2.2.1 a0 c82 c83 c84 w_rounds c85 w_begun w_refused ++ cs_X7 J.2.2.1 a1 t_bytes t_held t_end c78 c79 c80 c81 ++ cs_X2 J.2.2.1 a2 p_beds p_letters p_readers p_far p_drain p_length p_words p_home) (As := [.int 0, .int v77, .int 0]) (st := []) (ci := 8) (q0 := 0) rfl rfl (t_X8_add (a0 := a0) hc) (Sub.gen [0, 1, 2, 3, 4] [5, 6, 7, 8, 9, 10, 11, 12] [8, 9, 10, 11, 12, 0, 1, 2, 3, 4, 5, 6, 7] rfl (by decide) rfl (by decide) (by decide) rfl (by decide)) kw_826 kw_827 kw_828 kw_89 hy_X8_add kw_829 rfl (rm_ws_f0 d (Nat.le_of_ble_eq_true rfl)) (rm_ws_l0 d (Nat.le_of_ble_eq_true rfl)) (Nat.le_of_ble_eq_true rfl) (Nat.le_of_ble_eq_true rfl) (Nat.le_of_ble_eq_true rfl) dX8_readStep_19 ?_
    refine g_goto (pc := 22) C (tgt := 194) dX8_readStep_22 rfl ?_
    cases h
    exact g_vret C E dX8_readStep_194

set_option maxRecDepth 100000 in
set_option maxHeartbeats 4000000 in
theorem j_X8_readAgain_72 {J : Jt} {Z : Zt} {d : Nat} {q_X8_readSteps : (Nat → Int32) → (Nat → Int32) → (Nat → Int32) → Int32 → (Nat → Int32) → Int32 → Int32 → Int32 → Int32 → Int32 → Int32 → Int32 → Int32 → Int32 → Option ((Nat → Int32) × (Nat → Int32) × (Nat → Int32) × Int32 × Int32 × Int32 × Int32 × Int32)} {q_X8_readStep : (Nat → Int32) → (Nat → Int32) → (Nat → Int32) → Int32 → (Nat → Int32) → Int32 → Int32 → Int32 → Int32 → Int32 → Int32 → Int32 → Int32 → Int32 → Option ((Nat → Int32) × (Nat → Int32) × (Nat → Int32) × Int32 × Int32 × Int32 × Int32 × Int32)} {q_X8_readAgain : (Nat → Int32) → (Nat → Int32) → (Nat → Int32) → Int32 → (Nat → Int32) → Int32 → Int32 → Int32 → Int32 → Int32 → Int32 → Int32 → Int32 → Int32 → Option ((Nat → Int32) × (Nat → Int32) × (Nat → Int32) × Int32 × Int32 × Int32 × Int32 × Int32)} {a0 : Nat → Nat} {a1 : Nat → Nat} {a2 : Nat → Nat} {w_rounds : Nat → Int32} {w_begun : Int32} {w_refused : Int32} {t_bytes : Nat → Int32} {t_held : Int32} {t_end : Int32} {p_beds : Int32} {p_letters : Int32} {p_readers : Int32} {p_far : Nat → Int32} {p_drain : Nat → Int32} {p_length : Nat → Int32} {p_words : Nat → Int32} {p_home : Nat → Int32} {n1 : Int32} {o_w_kind : Nat → Int32} {o_w_first : Nat → Int32} {o_w_second : Nat → Int32} {o_w_length : Int32} {o_t_at : Int32} {o_t_start : Int32} {o_t_faultKind : Int32} {o_t_faultPlace : Int32} (C : Cx J Z cX8_readAgain 5 RX8 none (rm_ws (d + 1))) (E : Ez J Z 0 0 none (cs_X8 J.2.2.1 a0 o_w_kind o_w_first o_w_second w_rounds o_w_length w_begun w_refused ++ cs_X7 J.2.2.1 a1 t_bytes t_held t_end o_t_at o_t_start o_t_faultKind o_t_faultPlace ++ cs_X2 J.2.2.1 a2 p_beds p_letters p_readers p_far p_drain p_length p_words p_home)) (hq_X8_readSteps : K_X8_readSteps J q_X8_readSteps (rm_ws d)) (hq_X8_readStep : K_X8_readStep J q_X8_readStep (rm_ws d)) (hq_X8_readAgain : K_X8_readAgain J q_X8_readAgain (rm_ws d)) : ∀ (x4 : Int32) (w_kind : Nat → Int32) (w_first : Nat → Int32) (w_second : Nat → Int32) (w_length : Int32) (t_at : Int32) (t_start : Int32) (t_faultKind : Int32) (t_faultPlace : Int32), f_X8_readAgain_72 q_X8_readSteps q_X8_readStep q_X8_readAgain t_bytes t_end p_beds p_letters p_readers n1 x4 w_kind w_first w_second w_length t_at t_start t_faultKind t_faultPlace = some (o_w_kind, o_w_first, o_w_second, o_w_length, o_t_at, o_t_start, o_t_faultKind, o_t_faultPlace) → G J Z 0 0 (cs_X8 J.2.2.1 a0 w_kind w_first w_second w_rounds w_length w_begun w_refused ++ cs_X7 J.2.2.1 a1 t_bytes t_held t_end t_at t_start t_faultKind t_faultPlace ++ cs_X2 J.2.2.1 a2 p_beds p_letters p_readers p_far p_drain p_length p_words p_home) 5 [(0, .ref (a0 0)), (4, .int x4)] 72 [] := by
  intro x4 w_kind w_first w_second w_length t_at t_start t_faultKind t_faultPlace h
  unfold f_X8_readAgain_72 at h
  refine g_aload_n (pc := 72) C 0 rfl dX8_readAgain_72 ?_
  refine g_bipush (pc := 73) C dX8_readAgain_73 cb_7 ?_
  refine g_iload (pc := 75) C 1 rfl dX8_readAgain_75 ?_
  refine g_iconst (pc := 77) C dX8_readAgain_77 ci_0 ?_
  obtain ⟨c1, c2, c3, c4, hc, h⟩ := b4_of h
  refine g_callV (pc := 78) C (w' := cs_X8 J.2.2.1 a0 c1 c2 c3 w_rounds c4 w_begun w_refused ++ cs_X7 J.2.2.1 a1 t_bytes t_held t_end t_at t_start t_faultKind t_faultPlace ++ cs_X2 J.2.2.1 a2 p_beds p_letters p_readers p_far p_drain p_length p_words p_home) (As := [.int 7, .int x4, .int 0]) (st := []) (ci := 8) (q0 := 0) rfl rfl (t_X8_add (a0 := a0) hc) (Sub.gen [0, 1, 2, 3, 4] [5, 6, 7, 8, 9, 10, 11, 12] [8, 9, 10, 11, 12, 0, 1, 2, 3, 4, 5, 6, 7] rfl (by decide) rfl (by decide) (by decide) rfl (by decide)) kw_826 kw_827 kw_828 kw_89 hy_X8_add kw_829 rfl (rm_ws_f0 d (Nat.le_of_ble_eq_true rfl)) (rm_ws_l0 d (Nat.le_of_ble_eq_true rfl)) (Nat.le_of_ble_eq_true rfl) (Nat.le_of_ble_eq_true rfl) (Nat.le_of_ble_eq_true rfl) dX8_readAgain_78 ?_
  cases h
  exact g_vret C E dX8_readAgain_81
set_option maxRecDepth 100000 in
set_option maxHeartbeats 4000000 in
theorem t_X8_readAgain_b {J : Jt} {d : Nat} {q_X8_readSteps : (Nat → Int32) → (Nat → Int32) → (Nat → Int32) → Int32 → (Nat → Int32) → Int32 → Int32 → Int32 → Int32 → Int32 → Int32 → Int32 → Int32 → Int32 → Option ((Nat → Int32) × (Nat → Int32) × (Nat → Int32) × Int32 × Int32 × Int32 × Int32 × Int32)} {q_X8_readStep : (Nat → Int32) → (Nat → Int32) → (Nat → Int32) → Int32 → (Nat → Int32) → Int32 → Int32 → Int32 → Int32 → Int32 → Int32 → Int32 → Int32 → Int32 → Option ((Nat → Int32) × (Nat → Int32) × (Nat → Int32) × Int32 × Int32 × Int32 × Int32 × Int32)} {q_X8_readAgain : (Nat → Int32) → (Nat → Int32) → (Nat → Int32) → Int32 → (Nat → Int32) → Int32 → Int32 → Int32 → Int32 → Int32 → Int32 → Int32 → Int32 → Int32 → Option ((Nat → Int32) × (Nat → Int32) × (Nat → Int32) × Int32 × Int32 × Int32 × Int32 × Int32)} {a0 : Nat → Nat} {a1 : Nat → Nat} {a2 : Nat → Nat} {w_kind : Nat → Int32} {w_first : Nat → Int32} {w_second : Nat → Int32} {w_rounds : Nat → Int32} {w_length : Int32} {w_begun : Int32} {w_refused : Int32} {t_bytes : Nat → Int32} {t_held : Int32} {t_end : Int32} {t_at : Int32} {t_start : Int32} {t_faultKind : Int32} {t_faultPlace : Int32} {p_beds : Int32} {p_letters : Int32} {p_readers : Int32} {p_far : Nat → Int32} {p_drain : Nat → Int32} {p_length : Nat → Int32} {p_words : Nat → Int32} {p_home : Nat → Int32} {n1 : Int32} {o_w_kind : Nat → Int32} {o_w_first : Nat → Int32} {o_w_second : Nat → Int32} {o_w_length : Int32} {o_t_at : Int32} {o_t_start : Int32} {o_t_faultKind : Int32} {o_t_faultPlace : Int32} (hq_X8_readSteps : K_X8_readSteps J q_X8_readSteps (rm_ws d)) (hq_X8_readStep : K_X8_readStep J q_X8_readStep (rm_ws d)) (hq_X8_readAgain : K_X8_readAgain J q_X8_readAgain (rm_ws d)) (h : f_X8_readAgain_b q_X8_readSteps q_X8_readStep q_X8_readAgain w_kind w_first w_second w_length t_bytes t_end t_at t_start t_faultKind t_faultPlace p_beds p_letters p_readers n1 = some (o_w_kind, o_w_first, o_w_second, o_w_length, o_t_at, o_t_start, o_t_faultKind, o_t_faultPlace)) : Mt J yX8_readAgain cX8_readAgain 5 none (rm_ws (d + 1)) [.ref (a0 0), .ref (a1 0), .ref (a2 0), .int n1] (cs_X8 J.2.2.1 a0 w_kind w_first w_second w_rounds w_length w_begun w_refused ++ cs_X7 J.2.2.1 a1 t_bytes t_held t_end t_at t_start t_faultKind t_faultPlace ++ cs_X2 J.2.2.1 a2 p_beds p_letters p_readers p_far p_drain p_length p_words p_home) none (cs_X8 J.2.2.1 a0 o_w_kind o_w_first o_w_second w_rounds o_w_length w_begun w_refused ++ cs_X7 J.2.2.1 a1 t_bytes t_held t_end o_t_at o_t_start o_t_faultKind o_t_faultPlace ++ cs_X2 J.2.2.1 a2 p_beds p_letters p_readers p_far p_drain p_length p_words p_home) := by
  refine Mt_of (own := RX8) (by decide) rfl (Nat.le_of_ble_eq_true rfl) rfl (fun Z C E => ?_)
  unfold f_X8_readAgain_b at h
  show G J Z 0 0 (cs_X8 J.2.2.1 a0 w_kind w_first w_second w_rounds w_length w_begun w_refused ++ cs_X7 J.2.2.1 a1 t_bytes t_held t_end t_at t_start t_faultKind t_faultPlace ++ cs_X2 J.2.2.1 a2 p_beds p_letters p_readers p_far p_drain p_length p_words p_home) 5 [(0, .ref (a0 0)), (1, .ref (a1 0)), (2, .ref (a2 0)), (3, .int n1)] 0 []
  refine g_iload_n (pc := 0) C 3 rfl dX8_readAgain_0 ?_
  refine g_bipush (pc := 1) C dX8_readAgain_1 cb_6 ?_
  refine g_icmp_lt (pc := 3) C (tgt := 12) dX8_readAgain_3 rfl h (fun h => ?_) (fun h => ?_)
  · refine g_aload_n (pc := 12) C 0 rfl dX8_readAgain_12 ?_
    refine g_get (pc := 13) C FOK_X8 0 rfl rfl 4 (by decide) kw_213 rfl dX8_readAgain_13 ?_
    refine g_istore (pc := 16) C [(4, .int w_length), (0, .ref (a0 0)), (1, .ref (a1 0)), (2, .ref (a2 0)), (3, .int n1)] dX8_readAgain_16 (by decide) rfl ?_
    refine g_aload_n (pc := 18) C 1 rfl dX8_readAgain_18 ?_
    refine g_bipush (pc := 19) C dX8_readAgain_19 cb_6 ?_
    refine g_aload_n (pc := 21) C 2 rfl dX8_readAgain_21 ?_
    refine g_iconst (pc := 22) C dX8_readAgain_22 ci_0 ?_
    refine g_bipush (pc := 23) C dX8_readAgain_23 cb_30 ?_
    obtain ⟨v5, c6, c7, c8, c9, hc, h⟩ := b5_of h
    refine g_callV (pc := 25) C (w' := cs_X8 J.2.2.1 a0 w_kind w_first w_second w_rounds w_length w_begun w_refused ++ cs_X7 J.2.2.1 a1 t_bytes t_held t_end c6 c7 c8 c9 ++ cs_X2 J.2.2.1 a2 p_beds p_letters p_readers p_far p_drain p_length p_words p_home) (As := [.int 0, .int 30]) (st := [.int 6, .ref (a0 0)]) (ci := 7) (q0 := 5) rfl rfl (t_X7_number (a0 := a1) hc) (Sub.gen [5, 6] [0, 1, 2, 3, 4, 7, 8, 9, 10, 11, 12] [0, 1, 2, 3, 4, 11, 12, 5, 6, 7, 8, 9, 10] rfl (by decide) rfl (by decide) (by decide) rfl (by decide)) kw_825 kw_700 kw_701 kw_87 hy_X7_number kw_702 rfl (rm_ws_f0 d (Nat.le_of_ble_eq_true rfl)) (rm_ws_l0 d (Nat.le_of_ble_eq_true rfl)) (Nat.le_of_ble_eq_true rfl) (Nat.le_of_ble_eq_true rfl) (Nat.le_of_ble_eq_true rfl) dX8_readAgain_25 ?_
    refine g_iconst (pc := 28) C dX8_readAgain_28 ci_0 ?_
    obtain ⟨c10, c11, c12, c13, hc, h⟩ := b4_of h
    refine g_callV (pc := 29) C (w' := cs_X8 J.2.2.1 a0 c10 c11 c12 w_rounds c13 w_begun w_refused ++ cs_X7 J.2.2.1 a1 t_bytes t_held t_end c6 c7 c8 c9 ++ cs_X2 J.2.2.1 a2 p_beds p_letters p_readers p_far p_drain p_length p_words p_home) (As := [.int 6, .int v5, .int 0]) (st := []) (ci := 8) (q0 := 0) rfl rfl (t_X8_add (a0 := a0) hc) (Sub.gen [0, 1, 2, 3, 4] [5, 6, 7, 8, 9, 10, 11, 12] [8, 9, 10, 11, 12, 0, 1, 2, 3, 4, 5, 6, 7] rfl (by decide) rfl (by decide) (by decide) rfl (by decide)) kw_826 kw_827 kw_828 kw_89 hy_X8_add kw_829 rfl (rm_ws_f0 d (Nat.le_of_ble_eq_true rfl)) (rm_ws_l0 d (Nat.le_of_ble_eq_true rfl)) (Nat.le_of_ble_eq_true rfl) (Nat.le_of_ble_eq_true rfl) (Nat.le_of_ble_eq_true rfl) dX8_readAgain_29 ?_
    refine g_aload_n (pc := 32) C 2 rfl dX8_readAgain_32 ?_
    refine g_bipush (pc := 33) C dX8_readAgain_33 cb_91 ?_
    obtain ⟨c14, c15, c16, c17, hc, h⟩ := b4_of h
    refine g_callV (pc := 35) C (w' := cs_X8 J.2.2.1 a0 c10 c11 c12 w_rounds c13 w_begun w_refused ++ cs_X7 J.2.2.1 a1 t_bytes t_held t_end c14 c15 c16 c17 ++ cs_X2 J.2.2.1 a2 p_beds p_letters p_readers p_far p_drain p_length p_words p_home) (As := [.int 91]) (st := []) (ci := 7) (q0 := 5) rfl rfl (t_X7_need (a0 := a1) hc) (Sub.gen [5, 6] [0, 1, 2, 3, 4, 7, 8, 9, 10, 11, 12] [0, 1, 2, 3, 4, 11, 12, 5, 6, 7, 8, 9, 10] rfl (by decide) rfl (by decide) (by decide) rfl (by decide)) kw_841 kw_723 kw_724 kw_87 hy_X7_need kw_725 rfl (rm_ws_f0 d (Nat.le_of_ble_eq_true rfl)) (rm_ws_l0 d (Nat.le_of_ble_eq_true rfl)) (Nat.le_of_ble_eq_true rfl) (Nat.le_of_ble_eq_true rfl) (Nat.le_of_ble_eq_true rfl) dX8_readAgain_35 ?_
    refine g_aload_n (pc := 38) C 1 rfl dX8_readAgain_38 ?_
    refine g_aload_n (pc := 39) C 2 rfl dX8_readAgain_39 ?_
    refine g_aload_n (pc := 40) C 3 rfl dX8_readAgain_40 ?_
    refine g_iload_n (pc := 41) C 4 rfl dX8_readAgain_41 ?_
    refine g_iconst (pc := 42) C dX8_readAgain_42 ci_1 ?_
    refine g_iadd (pc := 43) C dX8_readAgain_43 ?_
    obtain ⟨c18, c19, c20, c21, c22, c23, c24, c25, hc, h⟩ := b8_of h
    refine g_callV (pc := 44) C (w' := cs_X8 J.2.2.1 a0 c18 c19 c20 w_rounds c21 w_begun w_refused ++ cs_X7 J.2.2.1 a1 t_bytes t_held t_end c22 c23 c24 c25 ++ cs_X2 J.2.2.1 a2 p_beds p_letters p_readers p_far p_drain p_length p_words p_home) (As := [.ref (a1 0), .ref (a2 0), .int (n1 + 1)]) (st := []) (ci := 8) (q0 := 0) rfl rfl (hq_X8_readSteps a0 a1 a2 _ _ _ _ _ _ _ _ _ _ _ _ _ _ _ _ _ _ _ _ _ _ _ _ _ _ _ _ _ _ _ hc) Sub.same kw_813 kw_815 kw_9 kw_89 hy_X8_readSteps kw_816 rfl (rm_ws_f d) (rm_ws_l d (Nat.le_of_ble_eq_true rfl)) (Nat.le_of_ble_eq_true rfl) (Nat.le_of_ble_eq_true rfl) (Nat.le_of_ble_eq_true rfl) dX8_readAgain_44 ?_
    refine g_aload_n (pc := 47) C 2 rfl dX8_readAgain_47 ?_
    refine g_bipush (pc := 48) C dX8_readAgain_48 cb_93 ?_
    obtain ⟨c26, c27, c28, c29, hc, h⟩ := b4_of h
    refine g_callV (pc := 50) C (w' := cs_X8 J.2.2.1 a0 c18 c19 c20 w_rounds c21 w_begun w_refused ++ cs_X7 J.2.2.1 a1 t_bytes t_held t_end c26 c27 c28 c29 ++ cs_X2 J.2.2.1 a2 p_beds p_letters p_readers p_far p_drain p_length p_words p_home) (As := [.int 93]) (st := []) (ci := 7) (q0 := 5) rfl rfl (t_X7_need (a0 := a1) hc) (Sub.gen [5, 6] [0, 1, 2, 3, 4, 7, 8, 9, 10, 11, 12] [0, 1, 2, 3, 4, 11, 12, 5, 6, 7, 8, 9, 10] rfl (by decide) rfl (by decide) (by decide) rfl (by decide)) kw_841 kw_723 kw_724 kw_87 hy_X7_need kw_725 rfl (rm_ws_f0 d (Nat.le_of_ble_eq_true rfl)) (rm_ws_l0 d (Nat.le_of_ble_eq_true rfl)) (Nat.le_of_ble_eq_true rfl) (Nat.le_of_ble_eq_true rfl) (Nat.le_of_ble_eq_true rfl) dX8_readAgain_50 ?_
    refine g_iload (pc := 53) C 0 rfl dX8_readAgain_53 ?_
    refine g_sipush (pc := 55) C dX8_readAgain_55 cs_150 ?_
    refine g_icmp_ge (pc := 58) C (tgt := 72) dX8_readAgain_58 rfl h (fun h => ?_) (fun h => ?_)
    · refine g_lv [1, 0] rfl ?_
      exact j_X8_readAgain_72 C E hq_X8_readSteps hq_X8_readStep hq_X8_readAgain   w_length c18 c19 c20 c21 c26 c27 c28 c29 h
    · refine g_aload_n (pc := 61) C 1 rfl dX8_readAgain_61 ?_
      refine g_get (pc := 62) C FOK_X8 0 rfl rfl 2 (by decide) kw_211 rfl dX8_readAgain_62 ?_
      refine g_iload (pc := 65) C 0 rfl dX8_readAgain_65 ?_
      refine g_aload_n (pc := 67) C 1 rfl dX8_readAgain_67 ?_
      refine g_get (pc := 68) C FOK_X8 0 rfl rfl 4 (by decide) kw_213 rfl dX8_readAgain_68 ?_
      obtain ⟨hi, h⟩ := ix_of h
      refine g_iast (pc := 71) C (w' := cs_X8 J.2.2.1 a0 c18 c19 (upd c20 w_length.toNatClampNeg c21) w_rounds c21 w_begun w_refused ++ cs_X7 J.2.2.1 a1 t_bytes t_held t_end c26 c27 c28 c29 ++ cs_X2 J.2.2.1 a2 p_beds p_letters p_readers p_far p_drain p_length p_words p_home) 3 rfl hi dX8_readAgain_71 rfl ?_
      refine g_lv [1, 0] rfl ?_
      exact j_X8_readAgain_72 C E hq_X8_readSteps hq_X8_readStep hq_X8_readAgain   w_length c18 c19 (upd c20 w_length.toNatClampNeg c21) c21 c26 c27 c28 c29 h
  · refine g_aload_n (pc := 6) C 1 rfl dX8_readAgain_6 ?_
    refine g_iconst (pc := 7) C dX8_readAgain_7 ci_3 ?_
    obtain ⟨c30, c31, hc, h⟩ := b2_of h
    refine g_callV (pc := 8) C (w' := cs_X8 J.2.2.1 a0 w_kind w_first w_second w_rounds w_length w_begun w_refused ++ cs_X7 J.2.2.1 a1 t_bytes t_held t_end t_at t_start c30 c31 ++ cs_X2 J.2.2.1 a2 p_beds p_letters p_readers p_far p_drain p_length p_words p_home) (As := [.int 3]) (st := []) (ci := 7) (q0 := 5) rfl rfl (t_X7_blame (a0 := a1) hc) (Sub.gen [5, 6] [0, 1, 2, 3, 4, 7, 8, 9, 10, 11, 12] [0, 1, 2, 3, 4, 11, 12, 5, 6, 7, 8, 9, 10] rfl (by decide) rfl (by decide) (by decide) rfl (by decide)) kw_840 kw_696 kw_697 kw_87 hy_X7_blame kw_698 rfl (rm_ws_f0 d (Nat.le_of_ble_eq_true rfl)) (rm_ws_l0 d (Nat.le_of_ble_eq_true rfl)) (Nat.le_of_ble_eq_true rfl) (Nat.le_of_ble_eq_true rfl) (Nat.le_of_ble_eq_true rfl) dX8_readAgain_8 ?_
    cases h
    exact g_vret C E dX8_readAgain_11
theorem T_ws {J : Jt} : ∀ d, K_X8_readSteps J (f_X8_readSteps d) (rm_ws d) ∧ K_X8_readStep J (f_X8_readStep d) (rm_ws d) ∧ K_X8_readAgain J (f_X8_readAgain d) (rm_ws d) := by
  intro d
  induction d with
  | zero => exact ⟨(fun _ _ _ _ _ _ _ _ _ _ _ _ _ _ _ _ _ _ _ _ _ _ _ _ _ _ _ _ _ _ _ _ _ _ h => nomatch (show none = some _ from h)), (fun _ _ _ _ _ _ _ _ _ _ _ _ _ _ _ _ _ _ _ _ _ _ _ _ _ _ _ _ _ _ _ _ _ _ h => nomatch (show none = some _ from h)), (fun _ _ _ _ _ _ _ _ _ _ _ _ _ _ _ _ _ _ _ _ _ _ _ _ _ _ _ _ _ _ _ _ _ _ h => nomatch (show none = some _ from h))⟩
  | succ d ih => exact ⟨(fun _ _ _ _ _ _ _ _ _ _ _ _ _ _ _ _ _ _ _ _ _ _ _ _ _ _ _ _ _ _ _ _ _ _ h => t_X8_readSteps_b ih.1 ih.2.1 ih.2.2 h), (fun _ _ _ _ _ _ _ _ _ _ _ _ _ _ _ _ _ _ _ _ _ _ _ _ _ _ _ _ _ _ _ _ _ _ h => t_X8_readStep_b ih.1 ih.2.1 ih.2.2 h), (fun _ _ _ _ _ _ _ _ _ _ _ _ _ _ _ _ _ _ _ _ _ _ _ _ _ _ _ _ _ _ _ _ _ _ h => t_X8_readAgain_b ih.1 ih.2.1 ih.2.2 h)⟩
theorem t_X8_readSteps {J : Jt} (d : Nat) : K_X8_readSteps J (f_X8_readSteps d) (rm_ws d) := (T_ws d).1
theorem t_X8_readStep {J : Jt} (d : Nat) : K_X8_readStep J (f_X8_readStep d) (rm_ws d) := (T_ws d).2.1
theorem t_X8_readAgain {J : Jt} (d : Nat) : K_X8_readAgain J (f_X8_readAgain d) (rm_ws d) := (T_ws d).2.2




noncomputable def f_X8_read (w_kind : Nat → Int32) (w_first : Nat → Int32) (w_second : Nat → Int32) (w_length : Int32) (t_bytes : Nat → Int32) (t_end : Int32) (t_at : Int32) (t_start : Int32) (t_faultKind : Int32) (t_faultPlace : Int32) (p_beds : Int32) (p_letters : Int32) (p_readers : Int32) : Option ((Nat → Int32) × (Nat → Int32) × (Nat → Int32) × Int32 × Int32 × Int32 × Int32 × Int32) := b8 (f_X8_readSteps 30 w_kind w_first w_second 0 t_bytes t_end t_at t_start t_faultKind t_faultPlace p_beds p_letters p_readers 0) (fun c1 c2 c3 c4 c5 c6 c7 c8 => b4 (f_X7_needEnd t_bytes t_end c5 c6 c7 c8) (fun c9 c10 c11 c12 => some (c1, c2, c3, c4, c9, c10, c11, c12)))
def rm_X8_read : Room := { frames := 36, cells := 0, slots := 0, locals := 908 }
set_option maxRecDepth 100000 in
set_option maxHeartbeats 4000000 in
theorem t_X8_read {J : Jt} {a0 : Nat → Nat} {a1 : Nat → Nat} {a2 : Nat → Nat} {w_kind : Nat → Int32} {w_first : Nat → Int32} {w_second : Nat → Int32} {w_rounds : Nat → Int32} {w_length : Int32} {w_begun : Int32} {w_refused : Int32} {t_bytes : Nat → Int32} {t_held : Int32} {t_end : Int32} {t_at : Int32} {t_start : Int32} {t_faultKind : Int32} {t_faultPlace : Int32} {p_beds : Int32} {p_letters : Int32} {p_readers : Int32} {p_far : Nat → Int32} {p_drain : Nat → Int32} {p_length : Nat → Int32} {p_words : Nat → Int32} {p_home : Nat → Int32} {o_w_kind : Nat → Int32} {o_w_first : Nat → Int32} {o_w_second : Nat → Int32} {o_w_length : Int32} {o_t_at : Int32} {o_t_start : Int32} {o_t_faultKind : Int32} {o_t_faultPlace : Int32} (h : f_X8_read w_kind w_first w_second w_length t_bytes t_end t_at t_start t_faultKind t_faultPlace p_beds p_letters p_readers = some (o_w_kind, o_w_first, o_w_second, o_w_length, o_t_at, o_t_start, o_t_faultKind, o_t_faultPlace)) : Mt J yX8_read cX8_read 3 none rm_X8_read [.ref (a0 0), .ref (a1 0), .ref (a2 0)] (cs_X8 J.2.2.1 a0 w_kind w_first w_second w_rounds w_length w_begun w_refused ++ cs_X7 J.2.2.1 a1 t_bytes t_held t_end t_at t_start t_faultKind t_faultPlace ++ cs_X2 J.2.2.1 a2 p_beds p_letters p_readers p_far p_drain p_length p_words p_home) none (cs_X8 J.2.2.1 a0 o_w_kind o_w_first o_w_second w_rounds o_w_length w_begun w_refused ++ cs_X7 J.2.2.1 a1 t_bytes t_held t_end o_t_at o_t_start o_t_faultKind o_t_faultPlace ++ cs_X2 J.2.2.1 a2 p_beds p_letters p_readers p_far p_drain p_length p_words p_home) := by
  refine Mt_of (own := RX8) (by decide) rfl (Nat.le_of_ble_eq_true rfl) rfl (fun Z C E => ?_)
  unfold f_X8_read at h
  show G J Z 0 0 (cs_X8 J.2.2.1 a0 w_kind w_first w_second w_rounds w_length w_begun w_refused ++ cs_X7 J.2.2.1 a1 t_bytes t_held t_end t_at t_start t_faultKind t_faultPlace ++ cs_X2 J.2.2.1 a2 p_beds p_letters p_readers p_far p_drain p_length p_words p_home) 3 [(0, .ref (a0 0)), (1, .ref (a1 0)), (2, .ref (a2 0))] 0 []
  refine g_aload_n (pc := 0) C 0 rfl dX8_read_0 ?_
  refine g_iconst (pc := 1) C dX8_read_1 ci_0 ?_
  refine g_put (pc := 2) C (w' := cs_X8 J.2.2.1 a0 w_kind w_first w_second w_rounds 0 w_begun w_refused ++ cs_X7 J.2.2.1 a1 t_bytes t_held t_end t_at t_start t_faultKind t_faultPlace ++ cs_X2 J.2.2.1 a2 p_beds p_letters p_readers p_far p_drain p_length p_words p_home) FOK_X8 0 rfl rfl 4 (by decide) kw_213 rfl rfl rfl (Nat.le_of_ble_eq_true rfl) dX8_read_2 rfl ?_
  refine g_aload_n (pc := 5) C 0 rfl dX8_read_5 ?_
  refine g_aload_n (pc := 6) C 1 rfl dX8_read_6 ?_
  refine g_aload_n (pc := 7) C 2 rfl dX8_read_7 ?_
  refine g_iconst (pc := 8) C dX8_read_8 ci_0 ?_
  obtain ⟨c1, c2, c3, c4, c5, c6, c7, c8, hc, h⟩ := b8_of h
  refine g_callV (pc := 9) C (w' := cs_X8 J.2.2.1 a0 c1 c2 c3 w_rounds c4 w_begun w_refused ++ cs_X7 J.2.2.1 a1 t_bytes t_held t_end c5 c6 c7 c8 ++ cs_X2 J.2.2.1 a2 p_beds p_letters p_readers p_far p_drain p_length p_words p_home) (As := [.ref (a1 0), .ref (a2 0), .int 0]) (st := []) (ci := 8) (q0 := 0) rfl rfl (t_X8_readSteps 30 a0 a1 a2 _ _ _ _ _ _ _ _ _ _ _ _ _ _ _ _ _ _ _ _ _ _ _ _ _ _ _ _ _ _ _ hc) Sub.same kw_813 kw_815 kw_9 kw_89 hy_X8_readSteps kw_816 rfl (Nat.le_of_ble_eq_true rfl) (Nat.le_of_ble_eq_true rfl) (Nat.le_of_ble_eq_true rfl) (Nat.le_of_ble_eq_true rfl) (Nat.le_of_ble_eq_true rfl) dX8_read_9 ?_
  refine g_aload_n (pc := 12) C 1 rfl dX8_read_12 ?_
  obtain ⟨c9, c10, c11, c12, hc, h⟩ := b4_of h
  refine g_callV (pc := 13) C (w' := cs_X8 J.2.2.1 a0 c1 c2 c3 w_rounds c4 w_begun w_refused ++ cs_X7 J.2.2.1 a1 t_bytes t_held t_end c9 c10 c11 c12 ++ cs_X2 J.2.2.1 a2 p_beds p_letters p_readers p_far p_drain p_length p_words p_home) (As := []) (st := []) (ci := 7) (q0 := 5) rfl rfl (t_X7_needEnd (a0 := a1) hc) (Sub.gen [5, 6] [0, 1, 2, 3, 4, 7, 8, 9, 10, 11, 12] [0, 1, 2, 3, 4, 11, 12, 5, 6, 7, 8, 9, 10] rfl (by decide) rfl (by decide) (by decide) rfl (by decide)) kw_842 kw_798 kw_799 kw_87 hy_X7_needEnd kw_800 rfl (Nat.le_of_ble_eq_true rfl) (Nat.le_of_ble_eq_true rfl) (Nat.le_of_ble_eq_true rfl) (Nat.le_of_ble_eq_true rfl) (Nat.le_of_ble_eq_true rfl) dX8_read_13 ?_
  cases h
  exact g_vret C E dX8_read_16
noncomputable def f_X8_afterRound (w_first : Nat → Int32) (w_rounds : Nat → Int32) (n1 : Int32) : Option (Int32 × (Nat → Int32)) := if ixb n1 150 then if (w_first n1.toNatClampNeg) < 0 then some (n1 + 1, w_rounds) else if (w_first n1.toNatClampNeg) < 150 then if ixb (w_first n1.toNatClampNeg) 150 then if ixb (w_first n1.toNatClampNeg) 150 then if ixb (w_first n1.toNatClampNeg) 150 then if ((upd w_rounds (w_first n1.toNatClampNeg).toNatClampNeg ((w_rounds (w_first n1.toNatClampNeg).toNatClampNeg) - 1)) (w_first n1.toNatClampNeg).toNatClampNeg) ≤ 0 then some (n1 + 1, upd w_rounds (w_first n1.toNatClampNeg).toNatClampNeg ((w_rounds (w_first n1.toNatClampNeg).toNatClampNeg) - 1)) else some ((w_first n1.toNatClampNeg) + 1, upd w_rounds (w_first n1.toNatClampNeg).toNatClampNeg ((w_rounds (w_first n1.toNatClampNeg).toNatClampNeg) - 1)) else none else none else none else some (n1 + 1, w_rounds) else none
def rm_X8_afterRound : Room := { frames := 0, cells := 0, slots := 0, locals := 0 }
set_option maxRecDepth 100000 in
set_option maxHeartbeats 4000000 in
theorem t_X8_afterRound {J : Jt} {a0 : Nat → Nat} {w_kind : Nat → Int32} {w_first : Nat → Int32} {w_second : Nat → Int32} {w_rounds : Nat → Int32} {w_length : Int32} {w_begun : Int32} {w_refused : Int32} {n1 : Int32} {r : Int32} {o_w_rounds : Nat → Int32} (h : f_X8_afterRound w_first w_rounds n1 = some (r, o_w_rounds)) : Mt J yX8_afterRound cX8_afterRound 3 (some .int) rm_X8_afterRound [.ref (a0 0), .int n1] (cs_X8 J.2.2.1 a0 w_kind w_first w_second w_rounds w_length w_begun w_refused) (some (.int r)) (cs_X8 J.2.2.1 a0 w_kind w_first w_second o_w_rounds w_length w_begun w_refused) := by
  refine Mt_of (own := RX8) (by decide) rfl (Nat.le_of_ble_eq_true rfl) rfl (fun Z C E => ?_)
  unfold f_X8_afterRound at h
  show G J Z 0 0 (cs_X8 J.2.2.1 a0 w_kind w_first w_second w_rounds w_length w_begun w_refused) 3 [(0, .ref (a0 0)), (1, .int n1)] 0 []
  refine g_aload_n (pc := 0) C 0 rfl dX8_afterRound_0 ?_
  refine g_get (pc := 1) C FOK_X8 0 rfl rfl 1 (by decide) kw_210 rfl dX8_afterRound_1 ?_
  refine g_iload_n (pc := 4) C 1 rfl dX8_afterRound_4 ?_
  obtain ⟨hi, h⟩ := ix_of h
  refine g_iald (pc := 5) C 2 rfl hi dX8_afterRound_5 ?_
  refine g_istore_n (pc := 6) C [(2, .int (w_first n1.toNatClampNeg)), (0, .ref (a0 0)), (1, .int n1)] dX8_afterRound_6 rfl (by decide) rfl ?_
  refine g_iload_n (pc := 7) C 0 rfl dX8_afterRound_7 ?_
  refine g_if_lt (pc := 8) C (tgt := 18) dX8_afterRound_8 rfl h (fun h => ?_) (fun h => ?_)
  · refine g_iload_n (pc := 18) C 2 rfl dX8_afterRound_18 ?_
    refine g_iconst (pc := 19) C dX8_afterRound_19 ci_1 ?_
    refine g_iadd (pc := 20) C dX8_afterRound_20 ?_
    cases h
    exact g_iret C E dX8_afterRound_21
  · refine g_iload_n (pc := 11) C 0 rfl dX8_afterRound_11 ?_
    refine g_sipush (pc := 12) C dX8_afterRound_12 cs_150 ?_
    refine g_icmp_lt (pc := 15) C (tgt := 22) dX8_afterRound_15 rfl h (fun h => ?_) (fun h => ?_)
    · refine g_aload_n (pc := 22) C 1 rfl dX8_afterRound_22 ?_
      refine g_get (pc := 23) C FOK_X8 0 rfl rfl 3 (by decide) kw_212 rfl dX8_afterRound_23 ?_
      refine g_iload_n (pc := 26) C 0 rfl dX8_afterRound_26 ?_
      refine g_dup2 (pc := 27) C dX8_afterRound_27 rfl rfl ?_
      obtain ⟨hi, h⟩ := ix_of h
      refine g_iald (pc := 28) C 4 rfl hi dX8_afterRound_28 ?_
      refine g_iconst (pc := 29) C dX8_afterRound_29 ci_1 ?_
      refine g_isub (pc := 30) C dX8_afterRound_30 ?_
      obtain ⟨hi, h⟩ := ix_of h
      refine g_iast (pc := 31) C (w' := cs_X8 J.2.2.1 a0 w_kind w_first w_second (upd w_rounds (w_first n1.toNatClampNeg).toNatClampNeg ((w_rounds (w_first n1.toNatClampNeg).toNatClampNeg) - 1)) w_length w_begun w_refused) 4 rfl hi dX8_afterRound_31 rfl ?_
      refine g_aload_n (pc := 32) C 1 rfl dX8_afterRound_32 ?_
      refine g_get (pc := 33) C FOK_X8 0 rfl rfl 3 (by decide) kw_212 rfl dX8_afterRound_33 ?_
      refine g_iload_n (pc := 36) C 0 rfl dX8_afterRound_36 ?_
      obtain ⟨hi, h⟩ := ix_of h
      refine g_iald (pc := 37) C 4 rfl hi dX8_afterRound_37 ?_
      refine g_if_le (pc := 38) C (tgt := 47) dX8_afterRound_38 rfl h (fun h => ?_) (fun h => ?_)
      · refine g_iload_n (pc := 47) C 2 rfl dX8_afterRound_47 ?_
        refine g_iconst (pc := 48) C dX8_afterRound_48 ci_1 ?_
        refine g_iadd (pc := 49) C dX8_afterRound_49 ?_
        cases h
        exact g_iret C E dX8_afterRound_50
      · refine g_iload_n (pc := 41) C 0 rfl dX8_afterRound_41 ?_
        refine g_iconst (pc := 42) C dX8_afterRound_42 ci_1 ?_
        refine g_iadd (pc := 43) C dX8_afterRound_43 ?_
        refine g_goto (pc := 44) C (tgt := 50) dX8_afterRound_44 rfl ?_
        cases h
        exact g_iret C E dX8_afterRound_50
    · refine g_iload_n (pc := 18) C 2 rfl dX8_afterRound_18 ?_
      refine g_iconst (pc := 19) C dX8_afterRound_19 ci_1 ?_
      refine g_iadd (pc := 20) C dX8_afterRound_20 ?_
      cases h
      exact g_iret C E dX8_afterRound_21
noncomputable def f_X8_isDone (w_kind : Nat → Int32) (w_first : Nat → Int32) (w_second : Nat → Int32) (s_year : Int32) (s_wet : Int32) (s_lost : Int32) (s_eaten : Int32) (s_tied : Int32) (s_ripeMany : Int32) (s_gone : Nat → Int32) (s_place : Nat → Int32) (s_heard : Nat → Int32) (s_many : Nat → Int32) (s_lying : Nat → Int32) (s_ripe : Nat → Int32) (p_beds : Int32) (p_letters : Int32) (p_readers : Int32) (p_far : Nat → Int32) (p_drain : Nat → Int32) (p_length : Nat → Int32) (p_words : Nat → Int32) (l_code : Nat → Int32) (l_values : Nat → Int32) (l_stack : Nat → Int32) (l_length : Int32) (n1 : Int32) : Option (Int32 × Int32 × Int32 × Int32 × Int32 × Int32 × Int32 × (Nat → Int32) × (Nat → Int32) × (Nat → Int32) × (Nat → Int32) × (Nat → Int32) × (Nat → Int32) × (Nat → Int32) × (Nat → Int32)) := if ixb n1 150 then if (w_kind n1.toNatClampNeg) = 0 then if ixb n1 150 then b2 (f_X4_blow s_gone s_place s_heard p_letters p_readers p_far p_length p_words (w_first n1.toNatClampNeg)) (fun v1 c2 => if zok v1 then some (v1, s_year, s_wet, s_lost, s_eaten, s_tied, s_ripeMany, s_gone, s_place, c2, s_many, s_lying, s_ripe, l_values, l_stack) else none) else none else if (w_kind n1.toNatClampNeg) = 1 then if ixb n1 150 then b7 (f_X4_pour s_year s_wet s_lost s_tied s_gone s_many s_lying p_letters p_far p_drain p_length p_words l_code l_values l_stack l_length (w_first n1.toNatClampNeg)) (fun c3 c4 c5 c6 c7 c8 c9 => some (1, s_year, c3, c4, s_eaten, s_tied, s_ripeMany, c5, s_place, s_heard, c6, c7, s_ripe, c8, c9)) else none else if (w_kind n1.toNatClampNeg) = 2 then if ixb n1 150 then some (1, s_year, s_wet, s_lost, s_eaten, s_tied ^^^ ((1 : Int32) <<< ((w_first n1.toNatClampNeg) &&& 31)), s_ripeMany, s_gone, s_place, s_heard, s_many, s_lying, s_ripe, l_values, l_stack) else none else if (w_kind n1.toNatClampNeg) = 3 then if ixb n1 150 then if ixb n1 150 then b3 (f_X4_go s_place s_heard s_many s_lying (w_first n1.toNatClampNeg) (w_second n1.toNatClampNeg)) (fun v10 c11 c12 => if zok v10 then some (v10, s_year, s_wet, s_lost, s_eaten, s_tied, s_ripeMany, s_gone, c11, c12, s_many, s_lying, s_ripe, l_values, l_stack) else none) else none else none else if (w_kind n1.toNatClampNeg) = 4 then if ixb n1 150 then b3 (f_X4_clearBed s_eaten s_many (w_first n1.toNatClampNeg)) (fun v13 c14 c15 => if zok v13 then some (v13, s_year, s_wet, s_lost, c14, s_tied, s_ripeMany, s_gone, s_place, s_heard, c15, s_lying, s_ripe, l_values, l_stack) else none) else none else if s_year < 400 then b6 (f_X4_passYear s_year s_wet s_ripeMany s_many s_lying s_ripe p_beds) (fun c16 c17 c18 c19 c20 c21 => some (1, c16, c17, s_lost, s_eaten, s_tied, c18, s_gone, s_place, s_heard, c19, c20, c21, l_values, l_stack)) else some (0, s_year, s_wet, s_lost, s_eaten, s_tied, s_ripeMany, s_gone, s_place, s_heard, s_many, s_lying, s_ripe, l_values, l_stack) else none
def rm_X8_isDone : Room := { frames := 4, cells := 0, slots := 0, locals := 123 }
set_option maxRecDepth 100000 in
set_option maxHeartbeats 4000000 in
theorem t_X8_isDone {J : Jt} {a0 : Nat → Nat} {a1 : Nat → Nat} {a2 : Nat → Nat} {a3 : Nat → Nat} {w_kind : Nat → Int32} {w_first : Nat → Int32} {w_second : Nat → Int32} {w_rounds : Nat → Int32} {w_length : Int32} {w_begun : Int32} {w_refused : Int32} {s_year : Int32} {s_wet : Int32} {s_lost : Int32} {s_eaten : Int32} {s_tied : Int32} {s_ripeMany : Int32} {s_gone : Nat → Int32} {s_place : Nat → Int32} {s_heard : Nat → Int32} {s_many : Nat → Int32} {s_lying : Nat → Int32} {s_ripe : Nat → Int32} {p_beds : Int32} {p_letters : Int32} {p_readers : Int32} {p_far : Nat → Int32} {p_drain : Nat → Int32} {p_length : Nat → Int32} {p_words : Nat → Int32} {p_home : Nat → Int32} {l_code : Nat → Int32} {l_values : Nat → Int32} {l_stack : Nat → Int32} {l_length : Int32} {n1 : Int32} {r : Int32} {o_s_year : Int32} {o_s_wet : Int32} {o_s_lost : Int32} {o_s_eaten : Int32} {o_s_tied : Int32} {o_s_ripeMany : Int32} {o_s_gone : Nat → Int32} {o_s_place : Nat → Int32} {o_s_heard : Nat → Int32} {o_s_many : Nat → Int32} {o_s_lying : Nat → Int32} {o_s_ripe : Nat → Int32} {o_l_values : Nat → Int32} {o_l_stack : Nat → Int32} (h : f_X8_isDone w_kind w_first w_second s_year s_wet s_lost s_eaten s_tied s_ripeMany s_gone s_place s_heard s_many s_lying s_ripe p_beds p_letters p_readers p_far p_drain p_length p_words l_code l_values l_stack l_length n1 = some (r, o_s_year, o_s_wet, o_s_lost, o_s_eaten, o_s_tied, o_s_ripeMany, o_s_gone, o_s_place, o_s_heard, o_s_many, o_s_lying, o_s_ripe, o_l_values, o_l_stack)) : Mt J yX8_isDone cX8_isDone 5 (some .boolean) rm_X8_isDone [.ref (a0 0), .ref (a1 0), .ref (a2 0), .ref (a3 0), .int n1] (cs_X8 J.2.2.1 a0 w_kind w_first w_second w_rounds w_length w_begun w_refused ++ cs_X4 J.2.2.1 a1 s_year s_wet s_lost s_eaten s_tied s_ripeMany s_gone s_place s_heard s_many s_lying s_ripe ++ cs_X2 J.2.2.1 a2 p_beds p_letters p_readers p_far p_drain p_length p_words p_home ++ cs_X1 J.2.2.1 a3 l_code l_values l_stack l_length) (some (.int r)) (cs_X8 J.2.2.1 a0 w_kind w_first w_second w_rounds w_length w_begun w_refused ++ cs_X4 J.2.2.1 a1 o_s_year o_s_wet o_s_lost o_s_eaten o_s_tied o_s_ripeMany o_s_gone o_s_place o_s_heard o_s_many o_s_lying o_s_ripe ++ cs_X2 J.2.2.1 a2 p_beds p_letters p_readers p_far p_drain p_length p_words p_home ++ cs_X1 J.2.2.1 a3 l_code o_l_values o_l_stack l_length) := by
  refine Mt_of (own := RX8) (by decide) rfl (Nat.le_of_ble_eq_true rfl) rfl (fun Z C E => ?_)
  unfold f_X8_isDone at h
  show G J Z 0 0 (cs_X8 J.2.2.1 a0 w_kind w_first w_second w_rounds w_length w_begun w_refused ++ cs_X4 J.2.2.1 a1 s_year s_wet s_lost s_eaten s_tied s_ripeMany s_gone s_place s_heard s_many s_lying s_ripe ++ cs_X2 J.2.2.1 a2 p_beds p_letters p_readers p_far p_drain p_length p_words p_home ++ cs_X1 J.2.2.1 a3 l_code l_values l_stack l_length) 5 [(0, .ref (a0 0)), (1, .ref (a1 0)), (2, .ref (a2 0)), (3, .ref (a3 0)), (4, .int n1)] 0 []
  refine g_aload_n (pc := 0) C 0 rfl dX8_isDone_0 ?_
  refine g_get (pc := 1) C FOK_X8 0 rfl rfl 0 (by decide) kw_209 rfl dX8_isDone_1 ?_
  refine g_iload (pc := 4) C 4 rfl dX8_isDone_4 ?_
  obtain ⟨hi, h⟩ := ix_of h
  refine g_iald (pc := 6) C 1 rfl hi dX8_isDone_6 ?_
  rcases ite_of h with ⟨hc, h⟩ | ⟨hn0, h⟩
  · refine g_tsIn (pc := 7) C (tgt := 40) dX8_isDone_7 (by rw [hc]; decide) (by rw [hc]; decide) (by rw [hc]; rfl) rfl ?_
    refine g_aload_n (pc := 40) C 1 rfl dX8_isDone_40 ?_
    refine g_aload_n (pc := 41) C 2 rfl dX8_isDone_41 ?_
    refine g_aload_n (pc := 42) C 0 rfl dX8_isDone_42 ?_
    refine g_get (pc := 43) C FOK_X8 0 rfl rfl 1 (by decide) kw_210 rfl dX8_isDone_43 ?_
    refine g_iload (pc := 46) C 4 rfl dX8_isDone_46 ?_
    obtain ⟨hi, h⟩ := ix_of h
    refine g_iald (pc := 48) C 2 rfl hi dX8_isDone_48 ?_
    obtain ⟨v1, c2, hc, h⟩ := b2_of h
    refine g_callV (pc := 49) C (w' := cs_X8 J.2.2.1 a0 w_kind w_first w_second w_rounds w_length w_begun w_refused ++ cs_X4 J.2.2.1 a1 s_year s_wet s_lost s_eaten s_tied s_ripeMany s_gone s_place c2 s_many s_lying s_ripe ++ cs_X2 J.2.2.1 a2 p_beds p_letters p_readers p_far p_drain p_length p_words p_home ++ cs_X1 J.2.2.1 a3 l_code l_values l_stack l_length) (As := [.ref (a2 0), .int (w_first n1.toNatClampNeg)]) (st := []) (ci := 4) (q0 := 5) rfl rfl (t_X4_blow (a0 := a1) (a1 := a2) hc) (Sub.gen [5, 6, 7, 8, 9, 10, 11, 12, 13, 14, 15, 16, 17] [0, 1, 2, 3, 4, 18, 19, 20, 21] [0, 1, 2, 3, 4, 9, 10, 11, 12, 13, 14, 15, 16, 17, 18, 19, 20, 21, 5, 6, 7, 8] rfl (by decide) rfl (by decide) (by decide) rfl (by decide)) kw_856 kw_857 kw_858 kw_88 hy_X4_blow kw_859 rfl (Nat.le_of_ble_eq_true rfl) (Nat.le_of_ble_eq_true rfl) (Nat.le_of_ble_eq_true rfl) (Nat.le_of_ble_eq_true rfl) (Nat.le_of_ble_eq_true rfl) dX8_isDone_49 ?_
    obtain ⟨hz, h⟩ := zok_of h
    cases h
    exact g_zret C hz E dX8_isDone_52
  rcases ite_of h with ⟨hc, h⟩ | ⟨hn1, h⟩
  · refine g_tsIn (pc := 7) C (tgt := 84) dX8_isDone_7 (by rw [hc]; decide) (by rw [hc]; decide) (by rw [hc]; rfl) rfl ?_
    refine g_aload_n (pc := 84) C 1 rfl dX8_isDone_84 ?_
    refine g_aload_n (pc := 85) C 2 rfl dX8_isDone_85 ?_
    refine g_aload_n (pc := 86) C 3 rfl dX8_isDone_86 ?_
    refine g_aload_n (pc := 87) C 0 rfl dX8_isDone_87 ?_
    refine g_get (pc := 88) C FOK_X8 0 rfl rfl 1 (by decide) kw_210 rfl dX8_isDone_88 ?_
    refine g_iload (pc := 91) C 4 rfl dX8_isDone_91 ?_
    obtain ⟨hi, h⟩ := ix_of h
    refine g_iald (pc := 93) C 2 rfl hi dX8_isDone_93 ?_
    obtain ⟨c3, c4, c5, c6, c7, c8, c9, hc, h⟩ := b7_of h
    refine g_callV (pc := 94) C (w' := cs_X8 J.2.2.1 a0 w_kind w_first w_second w_rounds w_length w_begun w_refused ++ cs_X4 J.2.2.1 a1 s_year c3 c4 s_eaten s_tied s_ripeMany c5 s_place s_heard c6 c7 s_ripe ++ cs_X2 J.2.2.1 a2 p_beds p_letters p_readers p_far p_drain p_length p_words p_home ++ cs_X1 J.2.2.1 a3 l_code c8 c9 l_length) (As := [.ref (a2 0), .ref (a3 0), .int (w_first n1.toNatClampNeg)]) (st := []) (ci := 4) (q0 := 5) rfl rfl (t_X4_pour (a0 := a1) (a1 := a2) (a2 := a3) hc) (Sub.gen [5, 6, 7, 8, 9, 10, 11, 12, 13, 14, 15, 16, 17, 18, 19, 20, 21] [0, 1, 2, 3, 4] [0, 1, 2, 3, 4, 5, 6, 7, 8, 9, 10, 11, 12, 13, 14, 15, 16, 17, 18, 19, 20, 21] rfl (by decide) rfl (by decide) (by decide) rfl (by decide)) kw_881 kw_882 kw_883 kw_88 hy_X4_pour kw_884 rfl (Nat.le_of_ble_eq_true rfl) (Nat.le_of_ble_eq_true rfl) (Nat.le_of_ble_eq_true rfl) (Nat.le_of_ble_eq_true rfl) (Nat.le_of_ble_eq_true rfl) dX8_isDone_94 ?_
    refine g_iconst (pc := 97) C dX8_isDone_97 ci_1 ?_
    cases h
    exact g_zret C rfl E dX8_isDone_98
  rcases ite_of h with ⟨hc, h⟩ | ⟨hn2, h⟩
  · refine g_tsIn (pc := 7) C (tgt := 99) dX8_isDone_7 (by rw [hc]; decide) (by rw [hc]; decide) (by rw [hc]; rfl) rfl ?_
    refine g_aload_n (pc := 99) C 1 rfl dX8_isDone_99 ?_
    refine g_dup (pc := 100) C dX8_isDone_100 rfl ?_
    refine g_get (pc := 101) C FOK_X4 5 rfl rfl 4 (by decide) kw_164 rfl dX8_isDone_101 ?_
    refine g_iconst (pc := 104) C dX8_isDone_104 ci_1 ?_
    refine g_aload_n (pc := 105) C 0 rfl dX8_isDone_105 ?_
    refine g_get (pc := 106) C FOK_X8 0 rfl rfl 1 (by decide) kw_210 rfl dX8_isDone_106 ?_
    refine g_iload (pc := 109) C 4 rfl dX8_isDone_109 ?_
    obtain ⟨hi, h⟩ := ix_of h
    refine g_iald (pc := 111) C 2 rfl hi dX8_isDone_111 ?_
    refine g_ishl (pc := 112) C dX8_isDone_112 ?_
    refine g_ixor (pc := 113) C dX8_isDone_113 ?_
    refine g_put (pc := 114) C (w' := cs_X8 J.2.2.1 a0 w_kind w_first w_second w_rounds w_length w_begun w_refused ++ cs_X4 J.2.2.1 a1 s_year s_wet s_lost s_eaten (s_tied ^^^ ((1 : Int32) <<< ((w_first n1.toNatClampNeg) &&& 31))) s_ripeMany s_gone s_place s_heard s_many s_lying s_ripe ++ cs_X2 J.2.2.1 a2 p_beds p_letters p_readers p_far p_drain p_length p_words p_home ++ cs_X1 J.2.2.1 a3 l_code l_values l_stack l_length) FOK_X4 5 rfl rfl 4 (by decide) kw_164 rfl rfl rfl (Nat.le_of_ble_eq_true rfl) dX8_isDone_114 rfl ?_
    refine g_iconst (pc := 117) C dX8_isDone_117 ci_1 ?_
    cases h
    exact g_zret C rfl E dX8_isDone_118
  rcases ite_of h with ⟨hc, h⟩ | ⟨hn3, h⟩
  · refine g_tsIn (pc := 7) C (tgt := 53) dX8_isDone_7 (by rw [hc]; decide) (by rw [hc]; decide) (by rw [hc]; rfl) rfl ?_
    refine g_aload_n (pc := 53) C 1 rfl dX8_isDone_53 ?_
    refine g_aload_n (pc := 54) C 0 rfl dX8_isDone_54 ?_
    refine g_get (pc := 55) C FOK_X8 0 rfl rfl 1 (by decide) kw_210 rfl dX8_isDone_55 ?_
    refine g_iload (pc := 58) C 4 rfl dX8_isDone_58 ?_
    obtain ⟨hi, h⟩ := ix_of h
    refine g_iald (pc := 60) C 2 rfl hi dX8_isDone_60 ?_
    refine g_aload_n (pc := 61) C 0 rfl dX8_isDone_61 ?_
    refine g_get (pc := 62) C FOK_X8 0 rfl rfl 2 (by decide) kw_211 rfl dX8_isDone_62 ?_
    refine g_iload (pc := 65) C 4 rfl dX8_isDone_65 ?_
    obtain ⟨hi, h⟩ := ix_of h
    refine g_iald (pc := 67) C 3 rfl hi dX8_isDone_67 ?_
    obtain ⟨v10, c11, c12, hc, h⟩ := b3_of h
    refine g_callV (pc := 68) C (w' := cs_X8 J.2.2.1 a0 w_kind w_first w_second w_rounds w_length w_begun w_refused ++ cs_X4 J.2.2.1 a1 s_year s_wet s_lost s_eaten s_tied s_ripeMany s_gone c11 c12 s_many s_lying s_ripe ++ cs_X2 J.2.2.1 a2 p_beds p_letters p_readers p_far p_drain p_length p_words p_home ++ cs_X1 J.2.2.1 a3 l_code l_values l_stack l_length) (As := [.int (w_first n1.toNatClampNeg), .int (w_second n1.toNatClampNeg)]) (st := []) (ci := 4) (q0 := 5) rfl rfl (t_X4_go (a0 := a1) hc) (Sub.gen [5, 6, 7, 8, 9, 10, 11] [0, 1, 2, 3, 4, 12, 13, 14, 15, 16, 17, 18, 19, 20, 21] [0, 1, 2, 3, 4, 15, 16, 17, 18, 19, 20, 21, 5, 6, 7, 8, 9, 10, 11, 12, 13, 14] rfl (by decide) rfl (by decide) (by decide) rfl (by decide)) kw_865 kw_866 kw_867 kw_88 hy_X4_go kw_868 rfl (Nat.le_of_ble_eq_true rfl) (Nat.le_of_ble_eq_true rfl) (Nat.le_of_ble_eq_true rfl) (Nat.le_of_ble_eq_true rfl) (Nat.le_of_ble_eq_true rfl) dX8_isDone_68 ?_
    obtain ⟨hz, h⟩ := zok_of h
    cases h
    exact g_zret C hz E dX8_isDone_71
  rcases ite_of h with ⟨hc, h⟩ | ⟨hn4, h⟩
  · refine g_tsIn (pc := 7) C (tgt := 72) dX8_isDone_7 (by rw [hc]; decide) (by rw [hc]; decide) (by rw [hc]; rfl) rfl ?_
    refine g_aload_n (pc := 72) C 1 rfl dX8_isDone_72 ?_
    refine g_aload_n (pc := 73) C 0 rfl dX8_isDone_73 ?_
    refine g_get (pc := 74) C FOK_X8 0 rfl rfl 1 (by decide) kw_210 rfl dX8_isDone_74 ?_
    refine g_iload (pc := 77) C 4 rfl dX8_isDone_77 ?_
    obtain ⟨hi, h⟩ := ix_of h
    refine g_iald (pc := 79) C 2 rfl hi dX8_isDone_79 ?_
    obtain ⟨v13, c14, c15, hc, h⟩ := b3_of h
    refine g_callV (pc := 80) C (w' := cs_X8 J.2.2.1 a0 w_kind w_first w_second w_rounds w_length w_begun w_refused ++ cs_X4 J.2.2.1 a1 s_year s_wet s_lost c14 s_tied s_ripeMany s_gone s_place s_heard c15 s_lying s_ripe ++ cs_X2 J.2.2.1 a2 p_beds p_letters p_readers p_far p_drain p_length p_words p_home ++ cs_X1 J.2.2.1 a3 l_code l_values l_stack l_length) (As := [.int (w_first n1.toNatClampNeg)]) (st := []) (ci := 4) (q0 := 5) rfl rfl (t_X4_clearBed (a0 := a1) hc) (Sub.gen [5, 6, 7, 8, 9, 10, 11] [0, 1, 2, 3, 4, 12, 13, 14, 15, 16, 17, 18, 19, 20, 21] [0, 1, 2, 3, 4, 15, 16, 17, 18, 19, 20, 21, 5, 6, 7, 8, 9, 10, 11, 12, 13, 14] rfl (by decide) rfl (by decide) (by decide) rfl (by decide)) kw_877 kw_878 kw_879 kw_88 hy_X4_clearBed kw_880 rfl (Nat.le_of_ble_eq_true rfl) (Nat.le_of_ble_eq_true rfl) (Nat.le_of_ble_eq_true rfl) (Nat.le_of_ble_eq_true rfl) (Nat.le_of_ble_eq_true rfl) dX8_isDone_80 ?_
    obtain ⟨hz, h⟩ := zok_of h
    cases h
    exact g_zret C hz E dX8_isDone_83
  have hq0 := lv_neT hn0 (a := 0) (by decide)
  have hq1 := lv_neT hn1 (a := 1) (by decide)
  have hq2 := lv_neT hn2 (a := 2) (by decide)
  have hq3 := lv_neT hn3 (a := 3) (by decide)
  have hq4 := lv_neT hn4 (a := 4) (by decide)
  refine g_tsOut (pc := 7) C (tgt := 119) dX8_isDone_7 (by omega) rfl ?_
  refine g_aload_n (pc := 119) C 1 rfl dX8_isDone_119 ?_
  refine g_get (pc := 120) C FOK_X4 5 rfl rfl 0 (by decide) kw_156 rfl dX8_isDone_120 ?_
  refine g_sipush (pc := 123) C dX8_isDone_123 cs_400 ?_
  refine g_icmp_lt (pc := 126) C (tgt := 131) dX8_isDone_126 rfl h (fun h => ?_) (fun h => ?_)
  · refine g_aload_n (pc := 131) C 1 rfl dX8_isDone_131 ?_
    refine g_aload_n (pc := 132) C 2 rfl dX8_isDone_132 ?_
    obtain ⟨c16, c17, c18, c19, c20, c21, hc, h⟩ := b6_of h
    refine g_callV (pc := 133) C (w' := cs_X8 J.2.2.1 a0 w_kind w_first w_second w_rounds w_length w_begun w_refused ++ cs_X4 J.2.2.1 a1 c16 c17 s_lost s_eaten s_tied c18 s_gone s_place s_heard c19 c20 c21 ++ cs_X2 J.2.2.1 a2 p_beds p_letters p_readers p_far p_drain p_length p_words p_home ++ cs_X1 J.2.2.1 a3 l_code l_values l_stack l_length) (As := [.ref (a2 0)]) (st := []) (ci := 4) (q0 := 5) rfl rfl (t_X4_passYear (a0 := a1) (a1 := a2) hc) (Sub.gen [5, 6, 7, 8, 9, 10, 11, 12, 13, 14, 15, 16, 17] [0, 1, 2, 3, 4, 18, 19, 20, 21] [0, 1, 2, 3, 4, 9, 10, 11, 12, 13, 14, 15, 16, 17, 18, 19, 20, 21, 5, 6, 7, 8] rfl (by decide) rfl (by decide) (by decide) rfl (by decide)) kw_910 kw_911 kw_912 kw_88 hy_X4_passYear kw_913 rfl (Nat.le_of_ble_eq_true rfl) (Nat.le_of_ble_eq_true rfl) (Nat.le_of_ble_eq_true rfl) (Nat.le_of_ble_eq_true rfl) (Nat.le_of_ble_eq_true rfl) dX8_isDone_133 ?_
    refine g_iconst (pc := 136) C dX8_isDone_136 ci_1 ?_
    cases h
    exact g_zret C rfl E dX8_isDone_137
  · refine g_iconst (pc := 129) C dX8_isDone_129 ci_0 ?_
    cases h
    exact g_zret C rfl E dX8_isDone_130
noncomputable def f_X8_perform_19  (w_kind : Nat → Int32) (w_first : Nat → Int32) (w_second : Nat → Int32) (w_length : Int32) (p_beds : Int32) (p_letters : Int32) (p_readers : Int32) (p_far : Nat → Int32) (p_drain : Nat → Int32) (p_length : Nat → Int32) (p_words : Nat → Int32) (l_code : Nat → Int32) (l_length : Int32) : Nat → Int32 → Int32 → Int32 → (Nat → Int32) → Int32 → Int32 → Int32 → Int32 → Int32 → Int32 → Int32 → Int32 → (Nat → Int32) → (Nat → Int32) → (Nat → Int32) → (Nat → Int32) → (Nat → Int32) → (Nat → Int32) → (Nat → Int32) → (Nat → Int32) → Option (Int32 × (Nat → Int32) × Int32 × Int32 × Int32 × Int32 × Int32 × Int32 × Int32 × Int32 × (Nat → Int32) × (Nat → Int32) × (Nat → Int32) × (Nat → Int32) × (Nat → Int32) × (Nat → Int32) × (Nat → Int32) × (Nat → Int32))
  | 0, _, _, _, _, _, _, _, _, _, _, _, _, _, _, _, _, _, _, _, _ => none
  | n + 1, x4, x5, x6, w_rounds, w_begun, w_refused, s_year, s_wet, s_lost, s_eaten, s_tied, s_ripeMany, s_gone, s_place, s_heard, s_many, s_lying, s_ripe, l_values, l_stack => if 1000000 ≤ x6 then some (x4, w_rounds, w_begun, w_refused, s_year, s_wet, s_lost, s_eaten, s_tied, s_ripeMany, s_gone, s_place, s_heard, s_many, s_lying, s_ripe, l_values, l_stack) else if x5 < 0 then some (x4, w_rounds, w_begun, w_refused, s_year, s_wet, s_lost, s_eaten, s_tied, s_ripeMany, s_gone, s_place, s_heard, s_many, s_lying, s_ripe, l_values, l_stack) else if w_length ≤ x5 then some (x4, w_rounds, w_begun, w_refused, s_year, s_wet, s_lost, s_eaten, s_tied, s_ripeMany, s_gone, s_place, s_heard, s_many, s_lying, s_ripe, l_values, l_stack) else if 150 ≤ x5 then some (x4, w_rounds, w_begun, w_refused, s_year, s_wet, s_lost, s_eaten, s_tied, s_ripeMany, s_gone, s_place, s_heard, s_many, s_lying, s_ripe, l_values, l_stack) else if ixb x5 150 then if (w_kind x5.toNatClampNeg) = 7 then b2 (f_X8_afterRound w_first w_rounds x5) (fun v16 c17 => f_X8_perform_19 w_kind w_first w_second w_length p_beds p_letters p_readers p_far p_drain p_length p_words l_code l_length n x4 v16 (x6 + 1) c17 w_begun w_refused s_year s_wet s_lost s_eaten s_tied s_ripeMany s_gone s_place s_heard s_many s_lying s_ripe l_values l_stack) else if w_begun < 200 then if ixb x5 150 then if (w_kind x5.toNatClampNeg) = 6 then if ixb x5 150 then if ixb x5 150 then if ixb x5 150 then if (w_first x5.toNatClampNeg) ≤ 0 then if ixb x5 150 then f_X8_perform_19 w_kind w_first w_second w_length p_beds p_letters p_readers p_far p_drain p_length p_words l_code l_length n x4 ((w_second x5.toNatClampNeg) + 1) (x6 + 1) (upd w_rounds x5.toNatClampNeg (w_first x5.toNatClampNeg)) (w_begun + 1) w_refused s_year s_wet s_lost s_eaten s_tied s_ripeMany s_gone s_place s_heard s_many s_lying s_ripe l_values l_stack else none else f_X8_perform_19 w_kind w_first w_second w_length p_beds p_letters p_readers p_far p_drain p_length p_words l_code l_length n x4 (x5 + 1) (x6 + 1) (upd w_rounds x5.toNatClampNeg (w_first x5.toNatClampNeg)) (w_begun + 1) w_refused s_year s_wet s_lost s_eaten s_tied s_ripeMany s_gone s_place s_heard s_many s_lying s_ripe l_values l_stack else none else none else none else b15 (f_X8_isDone w_kind w_first w_second s_year s_wet s_lost s_eaten s_tied s_ripeMany s_gone s_place s_heard s_many s_lying s_ripe p_beds p_letters p_readers p_far p_drain p_length p_words l_code l_values l_stack l_length x5) (fun v1 c2 c3 c4 c5 c6 c7 c8 c9 c10 c11 c12 c13 c14 c15 => if v1 = 0 then f_X8_perform_19 w_kind w_first w_second w_length p_beds p_letters p_readers p_far p_drain p_length p_words l_code l_length n x4 (x5 + 1) (x6 + 1) w_rounds (w_begun + 1) (w_refused + 1) c2 c3 c4 c5 c6 c7 c8 c9 c10 c11 c12 c13 c14 c15 else f_X8_perform_19 w_kind w_first w_second w_length p_beds p_letters p_readers p_far p_drain p_length p_words l_code l_length n (x4 + 1) (x5 + 1) (x6 + 1) w_rounds (w_begun + 1) w_refused c2 c3 c4 c5 c6 c7 c8 c9 c10 c11 c12 c13 c14 c15) else none else some (x4, w_rounds, w_begun, w_refused, s_year, s_wet, s_lost, s_eaten, s_tied, s_ripeMany, s_gone, s_place, s_heard, s_many, s_lying, s_ripe, l_values, l_stack) else none
noncomputable def f_X8_perform (w_kind : Nat → Int32) (w_first : Nat → Int32) (w_second : Nat → Int32) (w_rounds : Nat → Int32) (w_length : Int32) (w_begun : Int32) (w_refused : Int32) (s_year : Int32) (s_wet : Int32) (s_lost : Int32) (s_eaten : Int32) (s_tied : Int32) (s_ripeMany : Int32) (s_gone : Nat → Int32) (s_place : Nat → Int32) (s_heard : Nat → Int32) (s_many : Nat → Int32) (s_lying : Nat → Int32) (s_ripe : Nat → Int32) (p_beds : Int32) (p_letters : Int32) (p_readers : Int32) (p_far : Nat → Int32) (p_drain : Nat → Int32) (p_length : Nat → Int32) (p_words : Nat → Int32) (l_code : Nat → Int32) (l_values : Nat → Int32) (l_stack : Nat → Int32) (l_length : Int32) : Option (Int32 × (Nat → Int32) × Int32 × Int32 × Int32 × Int32 × Int32 × Int32 × Int32 × Int32 × (Nat → Int32) × (Nat → Int32) × (Nat → Int32) × (Nat → Int32) × (Nat → Int32) × (Nat → Int32) × (Nat → Int32) × (Nat → Int32)) := f_X8_perform_19 w_kind w_first w_second w_length p_beds p_letters p_readers p_far p_drain p_length p_words l_code l_length FU 0 0 0 w_rounds 0 0 s_year s_wet s_lost s_eaten s_tied s_ripeMany s_gone s_place s_heard s_many s_lying s_ripe l_values l_stack
def rm_X8_perform : Room := { frames := 5, cells := 0, slots := 0, locals := 147 }
set_option maxRecDepth 100000 in
set_option maxHeartbeats 4000000 in
theorem j_X8_perform_19 {J : Jt} {Z : Zt} {a0 : Nat → Nat} {a1 : Nat → Nat} {a2 : Nat → Nat} {a3 : Nat → Nat} {w_kind : Nat → Int32} {w_first : Nat → Int32} {w_second : Nat → Int32} {w_length : Int32} {p_beds : Int32} {p_letters : Int32} {p_readers : Int32} {p_far : Nat → Int32} {p_drain : Nat → Int32} {p_length : Nat → Int32} {p_words : Nat → Int32} {p_home : Nat → Int32} {l_code : Nat → Int32} {l_length : Int32} {r : Int32} {o_w_rounds : Nat → Int32} {o_w_begun : Int32} {o_w_refused : Int32} {o_s_year : Int32} {o_s_wet : Int32} {o_s_lost : Int32} {o_s_eaten : Int32} {o_s_tied : Int32} {o_s_ripeMany : Int32} {o_s_gone : Nat → Int32} {o_s_place : Nat → Int32} {o_s_heard : Nat → Int32} {o_s_many : Nat → Int32} {o_s_lying : Nat → Int32} {o_s_ripe : Nat → Int32} {o_l_values : Nat → Int32} {o_l_stack : Nat → Int32} (C : Cx J Z cX8_perform 7 RX8 (some .int) rm_X8_perform) (E : Ez J Z 0 0 (some (.int r)) (cs_X8 J.2.2.1 a0 w_kind w_first w_second o_w_rounds w_length o_w_begun o_w_refused ++ cs_X4 J.2.2.1 a1 o_s_year o_s_wet o_s_lost o_s_eaten o_s_tied o_s_ripeMany o_s_gone o_s_place o_s_heard o_s_many o_s_lying o_s_ripe ++ cs_X2 J.2.2.1 a2 p_beds p_letters p_readers p_far p_drain p_length p_words p_home ++ cs_X1 J.2.2.1 a3 l_code o_l_values o_l_stack l_length)) : ∀ (n : Nat) (x4 : Int32) (x5 : Int32) (x6 : Int32) (w_rounds : Nat → Int32) (w_begun : Int32) (w_refused : Int32) (s_year : Int32) (s_wet : Int32) (s_lost : Int32) (s_eaten : Int32) (s_tied : Int32) (s_ripeMany : Int32) (s_gone : Nat → Int32) (s_place : Nat → Int32) (s_heard : Nat → Int32) (s_many : Nat → Int32) (s_lying : Nat → Int32) (s_ripe : Nat → Int32) (l_values : Nat → Int32) (l_stack : Nat → Int32), f_X8_perform_19 w_kind w_first w_second w_length p_beds p_letters p_readers p_far p_drain p_length p_words l_code l_length n x4 x5 x6 w_rounds w_begun w_refused s_year s_wet s_lost s_eaten s_tied s_ripeMany s_gone s_place s_heard s_many s_lying s_ripe l_values l_stack = some (r, o_w_rounds, o_w_begun, o_w_refused, o_s_year, o_s_wet, o_s_lost, o_s_eaten, o_s_tied, o_s_ripeMany, o_s_gone, o_s_place, o_s_heard, o_s_many, o_s_lying, o_s_ripe, o_l_values, o_l_stack) → G J Z 0 0 (cs_X8 J.2.2.1 a0 w_kind w_first w_second w_rounds w_length w_begun w_refused ++ cs_X4 J.2.2.1 a1 s_year s_wet s_lost s_eaten s_tied s_ripeMany s_gone s_place s_heard s_many s_lying s_ripe ++ cs_X2 J.2.2.1 a2 p_beds p_letters p_readers p_far p_drain p_length p_words p_home ++ cs_X1 J.2.2.1 a3 l_code l_values l_stack l_length) 7 [(0, .ref (a0 0)), (1, .ref (a1 0)), (2, .ref (a2 0)), (3, .ref (a3 0)), (4, .int x4), (5, .int x5), (6, .int x6)] 19 [] := by
  intro n
  induction n with
  | zero =>
    intro x4 x5 x6 w_rounds w_begun w_refused s_year s_wet s_lost s_eaten s_tied s_ripeMany s_gone s_place s_heard s_many s_lying s_ripe l_values l_stack h
    rw [f_X8_perform_19] at h
    cases h
  | succ n ih =>
    intro x4 x5 x6 w_rounds w_begun w_refused s_year s_wet s_lost s_eaten s_tied s_ripeMany s_gone s_place s_heard s_many s_lying s_ripe l_values l_stack h
    rw [f_X8_perform_19] at h
    refine g_iload (pc := 19) C 6 rfl dX8_perform_19 ?_
    refine g_ldc (pc := 21) C dX8_perform_21 kw_847 ?_
    refine g_icmp_ge (pc := 23) C (tgt := 188) dX8_perform_23 rfl h (fun h => ?_) (fun h => ?_)
    · refine g_iload (pc := 188) C 4 rfl dX8_perform_188 ?_
      cases h
      exact g_iret C E dX8_perform_190
    · refine g_iload (pc := 26) C 5 rfl dX8_perform_26 ?_
      refine g_if_lt (pc := 28) C (tgt := 188) dX8_perform_28 rfl h (fun h => ?_) (fun h => ?_)
      · refine g_iload (pc := 188) C 4 rfl dX8_perform_188 ?_
        cases h
        exact g_iret C E dX8_perform_190
      · refine g_iload (pc := 31) C 5 rfl dX8_perform_31 ?_
        refine g_aload_n (pc := 33) C 0 rfl dX8_perform_33 ?_
        refine g_get (pc := 34) C FOK_X8 0 rfl rfl 4 (by decide) kw_213 rfl dX8_perform_34 ?_
        refine g_icmp_ge (pc := 37) C (tgt := 188) dX8_perform_37 rfl h (fun h => ?_) (fun h => ?_)
        · refine g_iload (pc := 188) C 4 rfl dX8_perform_188 ?_
          cases h
          exact g_iret C E dX8_perform_190
        · refine g_iload (pc := 40) C 5 rfl dX8_perform_40 ?_
          refine g_sipush (pc := 42) C dX8_perform_42 cs_150 ?_
          refine g_icmp_ge (pc := 45) C (tgt := 188) dX8_perform_45 rfl h (fun h => ?_) (fun h => ?_)
          · refine g_iload (pc := 188) C 4 rfl dX8_perform_188 ?_
            cases h
            exact g_iret C E dX8_perform_190
          · refine g_aload_n (pc := 48) C 0 rfl dX8_perform_48 ?_
            refine g_get (pc := 49) C FOK_X8 0 rfl rfl 0 (by decide) kw_209 rfl dX8_perform_49 ?_
            refine g_iload (pc := 52) C 5 rfl dX8_perform_52 ?_
            obtain ⟨hi, h⟩ := ix_of h
            refine g_iald (pc := 54) C 1 rfl hi dX8_perform_54 ?_
            refine g_bipush (pc := 55) C dX8_perform_55 cb_7 ?_
            refine g_icmp_ne (pc := 57) C (tgt := 71) dX8_perform_57 rfl h (fun h => ?_) (fun h => ?_)
            · refine g_aload_n (pc := 71) C 0 rfl dX8_perform_71 ?_
              refine g_get (pc := 72) C FOK_X8 0 rfl rfl 5 (by decide) kw_214 rfl dX8_perform_72 ?_
              refine g_sipush (pc := 75) C dX8_perform_75 cs_200 ?_
              refine g_icmp_lt (pc := 78) C (tgt := 84) dX8_perform_78 rfl h (fun h => ?_) (fun h => ?_)
              · refine g_aload_n (pc := 84) C 0 rfl dX8_perform_84 ?_
                refine g_dup (pc := 85) C dX8_perform_85 rfl ?_
                refine g_get (pc := 86) C FOK_X8 0 rfl rfl 5 (by decide) kw_214 rfl dX8_perform_86 ?_
                refine g_iconst (pc := 89) C dX8_perform_89 ci_1 ?_
                refine g_iadd (pc := 90) C dX8_perform_90 ?_
                refine g_put (pc := 91) C (w' := cs_X8 J.2.2.1 a0 w_kind w_first w_second w_rounds w_length (w_begun + 1) w_refused ++ cs_X4 J.2.2.1 a1 s_year s_wet s_lost s_eaten s_tied s_ripeMany s_gone s_place s_heard s_many s_lying s_ripe ++ cs_X2 J.2.2.1 a2 p_beds p_letters p_readers p_far p_drain p_length p_words p_home ++ cs_X1 J.2.2.1 a3 l_code l_values l_stack l_length) FOK_X8 0 rfl rfl 5 (by decide) kw_214 rfl rfl rfl (Nat.le_of_ble_eq_true rfl) dX8_perform_91 rfl ?_
                refine g_aload_n (pc := 94) C 0 rfl dX8_perform_94 ?_
                refine g_get (pc := 95) C FOK_X8 0 rfl rfl 0 (by decide) kw_209 rfl dX8_perform_95 ?_
                refine g_iload (pc := 98) C 5 rfl dX8_perform_98 ?_
                obtain ⟨hi, h⟩ := ix_of h
                refine g_iald (pc := 100) C 1 rfl hi dX8_perform_100 ?_
                refine g_bipush (pc := 101) C dX8_perform_101 cb_6 ?_
                refine g_icmp_ne (pc := 103) C (tgt := 151) dX8_perform_103 rfl h (fun h => ?_) (fun h => ?_)
                · refine g_aload_n (pc := 151) C 0 rfl dX8_perform_151 ?_
                  refine g_aload_n (pc := 152) C 1 rfl dX8_perform_152 ?_
                  refine g_aload_n (pc := 153) C 2 rfl dX8_perform_153 ?_
                  refine g_aload_n (pc := 154) C 3 rfl dX8_perform_154 ?_
                  refine g_iload (pc := 155) C 5 rfl dX8_perform_155 ?_
                  obtain ⟨v1, c2, c3, c4, c5, c6, c7, c8, c9, c10, c11, c12, c13, c14, c15, hc, h⟩ := b15_of h
                  refine g_callV (pc := 157) C (w' := cs_X8 J.2.2.1 a0 w_kind w_first w_second w_rounds w_length (w_begun + 1) w_refused ++ cs_X4 J.2.2.1 a1 c2 c3 c4 c5 c6 c7 c8 c9 c10 c11 c12 c13 ++ cs_X2 J.2.2.1 a2 p_beds p_letters p_readers p_far p_drain p_length p_words p_home ++ cs_X1 J.2.2.1 a3 l_code c14 c15 l_length) (As := [.ref (a1 0), .ref (a2 0), .ref (a3 0), .int x5]) (st := []) (ci := 8) (q0 := 0) rfl rfl (t_X8_isDone (a0 := a0) (a1 := a1) (a2 := a2) (a3 := a3) hc) Sub.same kw_852 kw_853 kw_854 kw_89 hy_X8_isDone kw_855 rfl (Nat.le_of_ble_eq_true rfl) (Nat.le_of_ble_eq_true rfl) (Nat.le_of_ble_eq_true rfl) (Nat.le_of_ble_eq_true rfl) (Nat.le_of_ble_eq_true rfl) dX8_perform_157 ?_
                  refine g_if_eq (pc := 160) C (tgt := 169) dX8_perform_160 rfl h (fun h => ?_) (fun h => ?_)
                  · refine g_aload_n (pc := 169) C 0 rfl dX8_perform_169 ?_
                    refine g_dup (pc := 170) C dX8_perform_170 rfl ?_
                    refine g_get (pc := 171) C FOK_X8 0 rfl rfl 6 (by decide) kw_215 rfl dX8_perform_171 ?_
                    refine g_iconst (pc := 174) C dX8_perform_174 ci_1 ?_
                    refine g_iadd (pc := 175) C dX8_perform_175 ?_
                    refine g_put (pc := 176) C (w' := cs_X8 J.2.2.1 a0 w_kind w_first w_second w_rounds w_length (w_begun + 1) (w_refused + 1) ++ cs_X4 J.2.2.1 a1 c2 c3 c4 c5 c6 c7 c8 c9 c10 c11 c12 c13 ++ cs_X2 J.2.2.1 a2 p_beds p_letters p_readers p_far p_drain p_length p_words p_home ++ cs_X1 J.2.2.1 a3 l_code c14 c15 l_length) FOK_X8 0 rfl rfl 6 (by decide) kw_215 rfl rfl rfl (Nat.le_of_ble_eq_true rfl) dX8_perform_176 rfl ?_
                    refine g_iinc (pc := 179) C (j := 5) [(5, .int (x5 + 1)), (0, .ref (a0 0)), (1, .ref (a1 0)), (2, .ref (a2 0)), (3, .ref (a3 0)), (4, .int x4), (6, .int x6)] dX8_perform_179 rfl (ii_1 _) (by decide) rfl ?_
                    refine g_iinc (pc := 182) C (j := 6) [(6, .int (x6 + 1)), (5, .int (x5 + 1)), (0, .ref (a0 0)), (1, .ref (a1 0)), (2, .ref (a2 0)), (3, .ref (a3 0)), (4, .int x4)] dX8_perform_182 rfl (ii_1 _) (by decide) rfl ?_
                    refine g_goto (pc := 185) C (tgt := 19) dX8_perform_185 rfl ?_
                    refine g_lv [2, 3, 4, 5, 6, 1, 0] rfl ?_
                    exact ih x4 (x5 + 1) (x6 + 1) w_rounds (w_begun + 1) (w_refused + 1) c2 c3 c4 c5 c6 c7 c8 c9 c10 c11 c12 c13 c14 c15 h
                  · refine g_iinc (pc := 163) C (j := 4) [(4, .int (x4 + 1)), (0, .ref (a0 0)), (1, .ref (a1 0)), (2, .ref (a2 0)), (3, .ref (a3 0)), (5, .int x5), (6, .int x6)] dX8_perform_163 rfl (ii_1 _) (by decide) rfl ?_
                    refine g_goto (pc := 166) C (tgt := 179) dX8_perform_166 rfl ?_
                    refine g_iinc (pc := 179) C (j := 5) [(5, .int (x5 + 1)), (4, .int (x4 + 1)), (0, .ref (a0 0)), (1, .ref (a1 0)), (2, .ref (a2 0)), (3, .ref (a3 0)), (6, .int x6)] dX8_perform_179 rfl (ii_1 _) (by decide) rfl ?_
                    refine g_iinc (pc := 182) C (j := 6) [(6, .int (x6 + 1)), (5, .int (x5 + 1)), (4, .int (x4 + 1)), (0, .ref (a0 0)), (1, .ref (a1 0)), (2, .ref (a2 0)), (3, .ref (a3 0))] dX8_perform_182 rfl (ii_1 _) (by decide) rfl ?_
                    refine g_goto (pc := 185) C (tgt := 19) dX8_perform_185 rfl ?_
                    refine g_lv [3, 4, 5, 6, 2, 1, 0] rfl ?_
                    exact ih (x4 + 1) (x5 + 1) (x6 + 1) w_rounds (w_begun + 1) w_refused c2 c3 c4 c5 c6 c7 c8 c9 c10 c11 c12 c13 c14 c15 h
                · refine g_aload_n (pc := 106) C 0 rfl dX8_perform_106 ?_
                  refine g_get (pc := 107) C FOK_X8 0 rfl rfl 3 (by decide) kw_212 rfl dX8_perform_107 ?_
                  refine g_iload (pc := 110) C 5 rfl dX8_perform_110 ?_
                  refine g_aload_n (pc := 112) C 0 rfl dX8_perform_112 ?_
                  refine g_get (pc := 113) C FOK_X8 0 rfl rfl 1 (by decide) kw_210 rfl dX8_perform_113 ?_
                  refine g_iload (pc := 116) C 5 rfl dX8_perform_116 ?_
                  obtain ⟨hi, h⟩ := ix_of h
                  refine g_iald (pc := 118) C 2 rfl hi dX8_perform_118 ?_
                  obtain ⟨hi, h⟩ := ix_of h
                  refine g_iast (pc := 119) C (w' := cs_X8 J.2.2.1 a0 w_kind w_first w_second (upd w_rounds x5.toNatClampNeg (w_first x5.toNatClampNeg)) w_length (w_begun + 1) w_refused ++ cs_X4 J.2.2.1 a1 s_year s_wet s_lost s_eaten s_tied s_ripeMany s_gone s_place s_heard s_many s_lying s_ripe ++ cs_X2 J.2.2.1 a2 p_beds p_letters p_readers p_far p_drain p_length p_words p_home ++ cs_X1 J.2.2.1 a3 l_code l_values l_stack l_length) 4 rfl hi dX8_perform_119 rfl ?_
                  refine g_aload_n (pc := 120) C 0 rfl dX8_perform_120 ?_
                  refine g_get (pc := 121) C FOK_X8 0 rfl rfl 1 (by decide) kw_210 rfl dX8_perform_121 ?_
                  refine g_iload (pc := 124) C 5 rfl dX8_perform_124 ?_
                  obtain ⟨hi, h⟩ := ix_of h
                  refine g_iald (pc := 126) C 2 rfl hi dX8_perform_126 ?_
                  refine g_if_le (pc := 127) C (tgt := 137) dX8_perform_127 rfl h (fun h => ?_) (fun h => ?_)
                  · refine g_aload_n (pc := 137) C 0 rfl dX8_perform_137 ?_
                    refine g_get (pc := 138) C FOK_X8 0 rfl rfl 2 (by decide) kw_211 rfl dX8_perform_138 ?_
                    refine g_iload (pc := 141) C 5 rfl dX8_perform_141 ?_
                    obtain ⟨hi, h⟩ := ix_of h
                    refine g_iald (pc := 143) C 3 rfl hi dX8_perform_143 ?_
                    refine g_iconst (pc := 144) C dX8_perform_144 ci_1 ?_
                    refine g_iadd (pc := 145) C dX8_perform_145 ?_
                    refine g_istore (pc := 146) C [(5, .int ((w_second x5.toNatClampNeg) + 1)), (0, .ref (a0 0)), (1, .ref (a1 0)), (2, .ref (a2 0)), (3, .ref (a3 0)), (4, .int x4), (6, .int x6)] dX8_perform_146 (by decide) rfl ?_
                    refine g_goto (pc := 148) C (tgt := 182) dX8_perform_148 rfl ?_
                    refine g_iinc (pc := 182) C (j := 6) [(6, .int (x6 + 1)), (5, .int ((w_second x5.toNatClampNeg) + 1)), (0, .ref (a0 0)), (1, .ref (a1 0)), (2, .ref (a2 0)), (3, .ref (a3 0)), (4, .int x4)] dX8_perform_182 rfl (ii_1 _) (by decide) rfl ?_
                    refine g_goto (pc := 185) C (tgt := 19) dX8_perform_185 rfl ?_
                    refine g_lv [2, 3, 4, 5, 6, 1, 0] rfl ?_
                    exact ih x4 ((w_second x5.toNatClampNeg) + 1) (x6 + 1) (upd w_rounds x5.toNatClampNeg (w_first x5.toNatClampNeg)) (w_begun + 1) w_refused s_year s_wet s_lost s_eaten s_tied s_ripeMany s_gone s_place s_heard s_many s_lying s_ripe l_values l_stack h
                  · refine g_iload (pc := 130) C 5 rfl dX8_perform_130 ?_
                    refine g_iconst (pc := 132) C dX8_perform_132 ci_1 ?_
                    refine g_iadd (pc := 133) C dX8_perform_133 ?_
                    refine g_goto (pc := 134) C (tgt := 146) dX8_perform_134 rfl ?_
                    refine g_istore (pc := 146) C [(5, .int (x5 + 1)), (0, .ref (a0 0)), (1, .ref (a1 0)), (2, .ref (a2 0)), (3, .ref (a3 0)), (4, .int x4), (6, .int x6)] dX8_perform_146 (by decide) rfl ?_
                    refine g_goto (pc := 148) C (tgt := 182) dX8_perform_148 rfl ?_
                    refine g_iinc (pc := 182) C (j := 6) [(6, .int (x6 + 1)), (5, .int (x5 + 1)), (0, .ref (a0 0)), (1, .ref (a1 0)), (2, .ref (a2 0)), (3, .ref (a3 0)), (4, .int x4)] dX8_perform_182 rfl (ii_1 _) (by decide) rfl ?_
                    refine g_goto (pc := 185) C (tgt := 19) dX8_perform_185 rfl ?_
                    refine g_lv [2, 3, 4, 5, 6, 1, 0] rfl ?_
                    exact ih x4 (x5 + 1) (x6 + 1) (upd w_rounds x5.toNatClampNeg (w_first x5.toNatClampNeg)) (w_begun + 1) w_refused s_year s_wet s_lost s_eaten s_tied s_ripeMany s_gone s_place s_heard s_many s_lying s_ripe l_values l_stack h
              · refine g_iload (pc := 81) C 4 rfl dX8_perform_81 ?_
                cases h
                exact g_iret C E dX8_perform_83
            · refine g_aload_n (pc := 60) C 0 rfl dX8_perform_60 ?_
              refine g_iload (pc := 61) C 5 rfl dX8_perform_61 ?_
              obtain ⟨v16, c17, hc, h⟩ := b2_of h
              refine g_callV (pc := 63) C (w' := cs_X8 J.2.2.1 a0 w_kind w_first w_second c17 w_length w_begun w_refused ++ cs_X4 J.2.2.1 a1 s_year s_wet s_lost s_eaten s_tied s_ripeMany s_gone s_place s_heard s_many s_lying s_ripe ++ cs_X2 J.2.2.1 a2 p_beds p_letters p_readers p_far p_drain p_length p_words p_home ++ cs_X1 J.2.2.1 a3 l_code l_values l_stack l_length) (As := [.int x5]) (st := []) (ci := 8) (q0 := 0) rfl rfl (t_X8_afterRound (a0 := a0) hc) (Sub.gen [0, 1, 2, 3, 4] [5, 6, 7, 8, 9, 10, 11, 12, 13, 14, 15, 16, 17, 18, 19, 20, 21] [17, 18, 19, 20, 21, 0, 1, 2, 3, 4, 5, 6, 7, 8, 9, 10, 11, 12, 13, 14, 15, 16] rfl (by decide) rfl (by decide) (by decide) rfl (by decide)) kw_848 kw_849 kw_850 kw_89 hy_X8_afterRound kw_851 rfl (Nat.le_of_ble_eq_true rfl) (Nat.le_of_ble_eq_true rfl) (Nat.le_of_ble_eq_true rfl) (Nat.le_of_ble_eq_true rfl) (Nat.le_of_ble_eq_true rfl) dX8_perform_63 ?_
              refine g_istore (pc := 66) C [(5, .int v16), (0, .ref (a0 0)), (1, .ref (a1 0)), (2, .ref (a2 0)), (3, .ref (a3 0)), (4, .int x4), (6, .int x6)] dX8_perform_66 (by decide) rfl ?_
              refine g_goto (pc := 68) C (tgt := 182) dX8_perform_68 rfl ?_
              refine g_iinc (pc := 182) C (j := 6) [(6, .int (x6 + 1)), (5, .int v16), (0, .ref (a0 0)), (1, .ref (a1 0)), (2, .ref (a2 0)), (3, .ref (a3 0)), (4, .int x4)] dX8_perform_182 rfl (ii_1 _) (by decide) rfl ?_
              refine g_goto (pc := 185) C (tgt := 19) dX8_perform_185 rfl ?_
              refine g_lv [2, 3, 4, 5, 6, 1, 0] rfl ?_
              exact ih x4 v16 (x6 + 1) c17 w_begun w_refused s_year s_wet s_lost s_eaten s_tied s_ripeMany s_gone s_place s_heard s_many s_lying s_ripe l_values l_stack h
set_option maxRecDepth 100000 in
set_option maxHeartbeats 4000000 in
theorem t_X8_perform {J : Jt} {a0 : Nat → Nat} {a1 : Nat → Nat} {a2 : Nat → Nat} {a3 : Nat → Nat} {w_kind : Nat → Int32} {w_first : Nat → Int32} {w_second : Nat → Int32} {w_rounds : Nat → Int32} {w_length : Int32} {w_begun : Int32} {w_refused : Int32} {s_year : Int32} {s_wet : Int32} {s_lost : Int32} {s_eaten : Int32} {s_tied : Int32} {s_ripeMany : Int32} {s_gone : Nat → Int32} {s_place : Nat → Int32} {s_heard : Nat → Int32} {s_many : Nat → Int32} {s_lying : Nat → Int32} {s_ripe : Nat → Int32} {p_beds : Int32} {p_letters : Int32} {p_readers : Int32} {p_far : Nat → Int32} {p_drain : Nat → Int32} {p_length : Nat → Int32} {p_words : Nat → Int32} {p_home : Nat → Int32} {l_code : Nat → Int32} {l_values : Nat → Int32} {l_stack : Nat → Int32} {l_length : Int32} {r : Int32} {o_w_rounds : Nat → Int32} {o_w_begun : Int32} {o_w_refused : Int32} {o_s_year : Int32} {o_s_wet : Int32} {o_s_lost : Int32} {o_s_eaten : Int32} {o_s_tied : Int32} {o_s_ripeMany : Int32} {o_s_gone : Nat → Int32} {o_s_place : Nat → Int32} {o_s_heard : Nat → Int32} {o_s_many : Nat → Int32} {o_s_lying : Nat → Int32} {o_s_ripe : Nat → Int32} {o_l_values : Nat → Int32} {o_l_stack : Nat → Int32} (h : f_X8_perform w_kind w_first w_second w_rounds w_length w_begun w_refused s_year s_wet s_lost s_eaten s_tied s_ripeMany s_gone s_place s_heard s_many s_lying s_ripe p_beds p_letters p_readers p_far p_drain p_length p_words l_code l_values l_stack l_length = some (r, o_w_rounds, o_w_begun, o_w_refused, o_s_year, o_s_wet, o_s_lost, o_s_eaten, o_s_tied, o_s_ripeMany, o_s_gone, o_s_place, o_s_heard, o_s_many, o_s_lying, o_s_ripe, o_l_values, o_l_stack)) : Mt J yX8_perform cX8_perform 7 (some .int) rm_X8_perform [.ref (a0 0), .ref (a1 0), .ref (a2 0), .ref (a3 0)] (cs_X8 J.2.2.1 a0 w_kind w_first w_second w_rounds w_length w_begun w_refused ++ cs_X4 J.2.2.1 a1 s_year s_wet s_lost s_eaten s_tied s_ripeMany s_gone s_place s_heard s_many s_lying s_ripe ++ cs_X2 J.2.2.1 a2 p_beds p_letters p_readers p_far p_drain p_length p_words p_home ++ cs_X1 J.2.2.1 a3 l_code l_values l_stack l_length) (some (.int r)) (cs_X8 J.2.2.1 a0 w_kind w_first w_second o_w_rounds w_length o_w_begun o_w_refused ++ cs_X4 J.2.2.1 a1 o_s_year o_s_wet o_s_lost o_s_eaten o_s_tied o_s_ripeMany o_s_gone o_s_place o_s_heard o_s_many o_s_lying o_s_ripe ++ cs_X2 J.2.2.1 a2 p_beds p_letters p_readers p_far p_drain p_length p_words p_home ++ cs_X1 J.2.2.1 a3 l_code o_l_values o_l_stack l_length) := by
  refine Mt_of (own := RX8) (by decide) rfl (Nat.le_of_ble_eq_true rfl) rfl (fun Z C E => ?_)
  unfold f_X8_perform at h
  show G J Z 0 0 (cs_X8 J.2.2.1 a0 w_kind w_first w_second w_rounds w_length w_begun w_refused ++ cs_X4 J.2.2.1 a1 s_year s_wet s_lost s_eaten s_tied s_ripeMany s_gone s_place s_heard s_many s_lying s_ripe ++ cs_X2 J.2.2.1 a2 p_beds p_letters p_readers p_far p_drain p_length p_words p_home ++ cs_X1 J.2.2.1 a3 l_code l_values l_stack l_length) 7 [(0, .ref (a0 0)), (1, .ref (a1 0)), (2, .ref (a2 0)), (3, .ref (a3 0))] 0 []
  refine g_aload_n (pc := 0) C 0 rfl dX8_perform_0 ?_
  refine g_iconst (pc := 1) C dX8_perform_1 ci_0 ?_
  refine g_put (pc := 2) C (w' := cs_X8 J.2.2.1 a0 w_kind w_first w_second w_rounds w_length 0 w_refused ++ cs_X4 J.2.2.1 a1 s_year s_wet s_lost s_eaten s_tied s_ripeMany s_gone s_place s_heard s_many s_lying s_ripe ++ cs_X2 J.2.2.1 a2 p_beds p_letters p_readers p_far p_drain p_length p_words p_home ++ cs_X1 J.2.2.1 a3 l_code l_values l_stack l_length) FOK_X8 0 rfl rfl 5 (by decide) kw_214 rfl rfl rfl (Nat.le_of_ble_eq_true rfl) dX8_perform_2 rfl ?_
  refine g_aload_n (pc := 5) C 0 rfl dX8_perform_5 ?_
  refine g_iconst (pc := 6) C dX8_perform_6 ci_0 ?_
  refine g_put (pc := 7) C (w' := cs_X8 J.2.2.1 a0 w_kind w_first w_second w_rounds w_length 0 0 ++ cs_X4 J.2.2.1 a1 s_year s_wet s_lost s_eaten s_tied s_ripeMany s_gone s_place s_heard s_many s_lying s_ripe ++ cs_X2 J.2.2.1 a2 p_beds p_letters p_readers p_far p_drain p_length p_words p_home ++ cs_X1 J.2.2.1 a3 l_code l_values l_stack l_length) FOK_X8 0 rfl rfl 6 (by decide) kw_215 rfl rfl rfl (Nat.le_of_ble_eq_true rfl) dX8_perform_7 rfl ?_
  refine g_iconst (pc := 10) C dX8_perform_10 ci_0 ?_
  refine g_istore (pc := 11) C [(4, .int 0), (0, .ref (a0 0)), (1, .ref (a1 0)), (2, .ref (a2 0)), (3, .ref (a3 0))] dX8_perform_11 (by decide) rfl ?_
  refine g_iconst (pc := 13) C dX8_perform_13 ci_0 ?_
  refine g_istore (pc := 14) C [(5, .int 0), (4, .int 0), (0, .ref (a0 0)), (1, .ref (a1 0)), (2, .ref (a2 0)), (3, .ref (a3 0))] dX8_perform_14 (by decide) rfl ?_
  refine g_iconst (pc := 16) C dX8_perform_16 ci_0 ?_
  refine g_istore (pc := 17) C [(6, .int 0), (5, .int 0), (4, .int 0), (0, .ref (a0 0)), (1, .ref (a1 0)), (2, .ref (a2 0)), (3, .ref (a3 0))] dX8_perform_17 (by decide) rfl ?_
  refine g_lv [3, 4, 5, 6, 2, 1, 0] rfl ?_
  exact j_X8_perform_19 C E    FU 0 0 0 w_rounds 0 0 s_year s_wet s_lost s_eaten s_tied s_ripeMany s_gone s_place s_heard s_many s_lying s_ripe l_values l_stack h
