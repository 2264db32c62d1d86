noncomputable def f_X4_toldBy_23 (s_gone : Nat → Int32) (s_place : Nat → Int32) (p_letters : Int32) (p_far : Nat → Int32) (p_length : Nat → Int32) (p_words : Nat → Int32) (n1 : Int32) (n2 : Int32) : Nat → Int32 → Int32 → Option (Int32)
  | 0, _, _ => none
  | n + 1, x4, x5 => if p_letters ≤ x5 then some x4 else b1 (f_X4_leftOf s_gone p_length x5) (fun v1 => if v1 ≤ 0 then f_X4_toldBy_23 s_gone s_place p_letters p_far p_length p_words n1 n2 n (x4 ||| 0) (x5 + 1) else b1 (f_X4_nextOf s_gone p_length p_words x5) (fun v2 => f_X4_toldBy_23 s_gone s_place p_letters p_far p_length p_words n1 n2 n (x4 ||| ((1 : Int32) <<< (v2 &&& 31))) (x5 + 1)))
noncomputable def f_X4_toldBy (s_gone : Nat → Int32) (s_place : Nat → Int32) (p_letters : Int32) (p_far : Nat → Int32) (p_length : Nat → Int32) (p_words : Nat → Int32) (n1 : Int32) (n2 : Int32) : Option (Int32) := if ixb n1 5 then if ixb (s_place n1.toNatClampNeg) 6 then if (p_far (s_place n1.toNatClampNeg).toNatClampNeg) ≤ n2 then f_X4_toldBy_23 s_gone s_place p_letters p_far p_length p_words n1 n2 FU 0 0 else some 0 else none else none
def rm_X4_toldBy : Room := { frames := 2, cells := 0, slots := 0, locals := 44 }
set_option maxRecDepth 100000 in
set_option maxHeartbeats 4000000 in
theorem j_X4_toldBy_23 {J : Jt} {Z : Zt} {a0 : Nat → Nat} {a1 : Nat → Nat} {s_year : Int32} {s_wet : Int32} {s_lost : Int32} {s_eaten : Int32} {s_tied : Int32} {s_ripeMany : Int32} {s_gone : Nat → Int32} {s_place : Nat → Int32} {s_heard : Nat → Int32} {s_many : Nat → Int32} {s_lying : Nat → Int32} {s_ripe : Nat → Int32} {p_beds : Int32} {p_letters : Int32} {p_readers : Int32} {p_far : Nat → Int32} {p_drain : Nat → Int32} {p_length : Nat → Int32} {p_words : Nat → Int32} {p_home : Nat → Int32} {n1 : Int32} {n2 : Int32} {r : Int32} (C : Cx J Z cX4_toldBy 6 RX4 (some .int) rm_X4_toldBy) (E : Ez J Z 0 0 (some (.int r)) (cs_X4 J.2.2.1 a0 s_year s_wet s_lost s_eaten s_tied s_ripeMany s_gone s_place s_heard s_many s_lying s_ripe ++ cs_X2 J.2.2.1 a1 p_beds p_letters p_readers p_far p_drain p_length p_words p_home)) : ∀ (n : Nat) (x4 : Int32) (x5 : Int32), f_X4_toldBy_23 s_gone s_place p_letters p_far p_length p_words n1 n2 n x4 x5 = some r → G J Z 0 0 (cs_X4 J.2.2.1 a0 s_year s_wet s_lost s_eaten s_tied s_ripeMany s_gone s_place s_heard s_many s_lying s_ripe ++ cs_X2 J.2.2.1 a1 p_beds p_letters p_readers p_far p_drain p_length p_words p_home) 6 [(0, .ref (a0 0)), (1, .ref (a1 0)), (4, .int x4), (5, .int x5)] 23 [] := by
  intro n
  induction n with
  | zero =>
    intro x4 x5 h
    rw [f_X4_toldBy_23] at h
    cases h
  | succ n ih =>
    intro x4 x5 h
    rw [f_X4_toldBy_23] at h
    refine g_iload (pc := 23) C 3 rfl dX4_toldBy_23 ?_
    refine g_aload_n (pc := 25) C 1 rfl dX4_toldBy_25 ?_
    refine g_get (pc := 26) C FOK_X2 7 rfl rfl 1 (by decide) kw_285 rfl dX4_toldBy_26 ?_
    refine g_icmp_ge (pc := 29) C (tgt := 66) dX4_toldBy_29 rfl h (fun h => ?_) (fun h => ?_)
    · refine g_iload (pc := 66) C 2 rfl dX4_toldBy_66 ?_
      cases h
      exact g_iret C E dX4_toldBy_68
    · refine g_iload (pc := 32) C 2 rfl dX4_toldBy_32 ?_
      refine g_aload_n (pc := 34) C 0 rfl dX4_toldBy_34 ?_
      refine g_aload_n (pc := 35) C 1 rfl dX4_toldBy_35 ?_
      refine g_iload (pc := 36) C 3 rfl dX4_toldBy_36 ?_
      obtain ⟨v1, hc, h⟩ := b1_of h
      refine g_callV (pc := 38) C (w' := cs_X4 J.2.2.1 a0 s_year s_wet s_lost s_eaten s_tied s_ripeMany s_gone s_place s_heard s_many s_lying s_ripe ++ cs_X2 J.2.2.1 a1 p_beds p_letters p_readers p_far p_drain p_length p_words p_home) (As := [.ref (a1 0), .int x5]) (st := [.int x4]) (ci := 4) (q0 := 0) rfl rfl (t_X4_leftOf (a0 := a0) (a1 := a1) hc) Sub.same kw_476 kw_465 kw_466 kw_88 hy_X4_leftOf kw_467 rfl (Nat.le_of_ble_eq_true rfl) (Nat.le_of_ble_eq_true rfl) (Nat.le_of_ble_eq_true rfl) (Nat.le_of_ble_eq_true rfl) (Nat.le_of_ble_eq_true rfl) dX4_toldBy_38 ?_
      refine g_if_le (pc := 41) C (tgt := 56) dX4_toldBy_41 rfl h (fun h => ?_) (fun h => ?_)
      · refine g_iconst (pc := 56) C dX4_toldBy_56 ci_0 ?_
        refine g_ior (pc := 57) C dX4_toldBy_57 ?_
        refine g_istore (pc := 58) C [(4, .int (x4 ||| 0)), (0, .ref (a0 0)), (1, .ref (a1 0)), (5, .int x5)] dX4_toldBy_58 (by decide) rfl ?_
        refine g_iinc (pc := 60) C (j := 3) [(5, .int (x5 + 1)), (4, .int (x4 ||| 0)), (0, .ref (a0 0)), (1, .ref (a1 0))] dX4_toldBy_60 rfl (ii_1 _) (by decide) rfl ?_
        refine g_goto (pc := 63) C (tgt := 23) dX4_toldBy_63 rfl ?_
        refine g_lv [2, 3, 1, 0] rfl ?_
        exact ih (x4 ||| 0) (x5 + 1) h
      · refine g_iconst (pc := 44) C dX4_toldBy_44 ci_1 ?_
        refine g_aload_n (pc := 45) C 0 rfl dX4_toldBy_45 ?_
        refine g_aload_n (pc := 46) C 1 rfl dX4_toldBy_46 ?_
        refine g_iload (pc := 47) C 3 rfl dX4_toldBy_47 ?_
        obtain ⟨v2, hc, h⟩ := b1_of h
        refine g_callV (pc := 49) C (w' := cs_X4 J.2.2.1 a0 s_year s_wet s_lost s_eaten s_tied s_ripeMany s_gone s_place s_heard s_many s_lying s_ripe ++ cs_X2 J.2.2.1 a1 p_beds p_letters p_readers p_far p_drain p_length p_words p_home) (As := [.ref (a1 0), .int x5]) (st := [.int 1, .int x4]) (ci := 4) (q0 := 0) rfl rfl (t_X4_nextOf (a0 := a0) (a1 := a1) hc) Sub.same kw_864 kw_473 kw_474 kw_88 hy_X4_nextOf kw_475 rfl (Nat.le_of_ble_eq_true rfl) (Nat.le_of_ble_eq_true rfl) (Nat.le_of_ble_eq_true rfl) (Nat.le_of_ble_eq_true rfl) (Nat.le_of_ble_eq_true rfl) dX4_toldBy_49 ?_
        refine g_ishl (pc := 52) C dX4_toldBy_52 ?_
        refine g_goto (pc := 53) C (tgt := 57) dX4_toldBy_53 rfl ?_
        refine g_ior (pc := 57) C dX4_toldBy_57 ?_
        refine g_istore (pc := 58) C [(4, .int (x4 ||| ((1 : Int32) <<< (v2 &&& 31)))), (0, .ref (a0 0)), (1, .ref (a1 0)), (5, .int x5)] dX4_toldBy_58 (by decide) rfl ?_
        refine g_iinc (pc := 60) C (j := 3) [(5, .int (x5 + 1)), (4, .int (x4 ||| ((1 : Int32) <<< (v2 &&& 31)))), (0, .ref (a0 0)), (1, .ref (a1 0))] dX4_toldBy_60 rfl (ii_1 _) (by decide) rfl ?_
        refine g_goto (pc := 63) C (tgt := 23) dX4_toldBy_63 rfl ?_
        refine g_lv [2, 3, 1, 0] rfl ?_
        exact ih (x4 ||| ((1 : Int32) <<< (v2 &&& 31))) (x5 + 1) h
set_option maxRecDepth 100000 in
set_option maxHeartbeats 4000000 in
theorem t_X4_toldBy {J : Jt} {a0 : Nat → Nat} {a1 : Nat → Nat} {s_year : Int32} {s_wet : Int32} {s_lost : Int32} {s_eaten : Int32} {s_tied : Int32} {s_ripeMany : Int32} {s_gone : Nat → Int32} {s_place : Nat → Int32} {s_heard : Nat → Int32} {s_many : Nat → Int32} {s_lying : Nat → Int32} {s_ripe : Nat → Int32} {p_beds : Int32} {p_letters : Int32} {p_readers : Int32} {p_far : Nat → Int32} {p_drain : Nat → Int32} {p_length : Nat → Int32} {p_words : Nat → Int32} {p_home : Nat → Int32} {n1 : Int32} {n2 : Int32} {r : Int32} (h : f_X4_toldBy s_gone s_place p_letters p_far p_length p_words n1 n2 = some r) : Mt J yX4_toldBy cX4_toldBy 6 (some .int) rm_X4_toldBy [.ref (a0 0), .ref (a1 0), .int n1, .int n2] (cs_X4 J.2.2.1 a0 s_year s_wet s_lost s_eaten s_tied s_ripeMany s_gone s_place s_heard s_many s_lying s_ripe ++ cs_X2 J.2.2.1 a1 p_beds p_letters p_readers p_far p_drain p_length p_words p_home) (some (.int r)) (cs_X4 J.2.2.1 a0 s_year s_wet s_lost s_eaten s_tied s_ripeMany s_gone s_place s_heard s_many s_lying s_ripe ++ cs_X2 J.2.2.1 a1 p_beds p_letters p_readers p_far p_drain p_length p_words p_home) := by
  refine Mt_of (own := RX4) (by decide) rfl (Nat.le_of_ble_eq_true rfl) rfl (fun Z C E => ?_)
  unfold f_X4_toldBy at h
  show G J Z 0 0 (cs_X4 J.2.2.1 a0 s_year s_wet s_lost s_eaten s_tied s_ripeMany s_gone s_place s_heard s_many s_lying s_ripe ++ cs_X2 J.2.2.1 a1 p_beds p_letters p_readers p_far p_drain p_length p_words p_home) 6 [(0, .ref (a0 0)), (1, .ref (a1 0)), (2, .int n1), (3, .int n2)] 0 []
  refine g_aload_n (pc := 0) C 1 rfl dX4_toldBy_0 ?_
  refine g_get (pc := 1) C FOK_X2 7 rfl rfl 3 (by decide) kw_293 rfl dX4_toldBy_1 ?_
  refine g_aload_n (pc := 4) C 0 rfl dX4_toldBy_4 ?_
  refine g_get (pc := 5) C FOK_X4 0 rfl rfl 7 (by decide) kw_168 rfl dX4_toldBy_5 ?_
  refine g_iload_n (pc := 8) C 2 rfl dX4_toldBy_8 ?_
  obtain ⟨hi, h⟩ := ix_of h
  refine g_iald (pc := 9) C 2 rfl hi dX4_toldBy_9 ?_
  obtain ⟨hi, h⟩ := ix_of h
  refine g_iald (pc := 10) C 8 rfl hi dX4_toldBy_10 ?_
  refine g_iload_n (pc := 11) C 3 rfl dX4_toldBy_11 ?_
  refine g_icmp_le (pc := 12) C (tgt := 17) dX4_toldBy_12 rfl h (fun h => ?_) (fun h => ?_)
  · refine g_iconst (pc := 17) C dX4_toldBy_17 ci_0 ?_
    refine g_istore (pc := 18) C [(4, .int 0), (0, .ref (a0 0)), (1, .ref (a1 0)), (2, .int n1), (3, .int n2)] dX4_toldBy_18 (by decide) rfl ?_
    refine g_iconst (pc := 20) C dX4_toldBy_20 ci_0 ?_
    refine g_istore (pc := 21) C [(5, .int 0), (4, .int 0), (0, .ref (a0 0)), (1, .ref (a1 0)), (2, .int n1), (3, .int n2)] dX4_toldBy_21 (by decide) rfl ?_
    refine g_lv [2, 3, 1, 0] rfl ?_
    exact j_X4_toldBy_23 C E  FU 0 0 h
  · refine g_iconst (pc := 15) C dX4_toldBy_15 ci_0 ?_
    cases h
    exact g_iret C E dX4_toldBy_16
noncomputable def f_X4_blow_48 (s_gone : Nat → Int32) (s_place : Nat → Int32) (p_letters : Int32) (p_readers : Int32) (p_far : Nat → Int32) (p_length : Nat → Int32) (p_words : Nat → Int32) (n1 : Int32) (k5 : Int32 → Int32 → (Nat → Int32) → Option (Int32 × (Nat → Int32))) (x4 : Int32) (x5 : Int32) (y0 : Int32) (s_heard : Nat → Int32) : Option (Int32 × (Nat → Int32)) := if ixb x4 5 then if ixb x4 5 then k5 y0 (x4 + 1) (upd s_heard x4.toNatClampNeg ((s_heard x4.toNatClampNeg) ||| x5)) else none else none
noncomputable def f_X4_blow_5 (s_gone : Nat → Int32) (s_place : Nat → Int32) (p_letters : Int32) (p_readers : Int32) (p_far : Nat → Int32) (p_length : Nat → Int32) (p_words : Nat → Int32) (n1 : Int32) : Nat → Int32 → Int32 → (Nat → Int32) → Option (Int32 × (Nat → Int32))
  | 0, _, _, _ => none
  | n + 1, x3, x4, s_heard => if p_readers ≤ x4 then if zok x3 then some (x3, s_heard) else none else b1 (f_X4_toldBy s_gone s_place p_letters p_far p_length p_words x4 n1) (fun v1 => if x3 = 0 then if ixb x4 5 then if (v1 &&& ((s_heard x4.toNatClampNeg) ^^^ (-1))) = 0 then f_X4_blow_48 s_gone s_place p_letters p_readers p_far p_length p_words n1 (f_X4_blow_5 s_gone s_place p_letters p_readers p_far p_length p_words n1 n) x4 v1 0 s_heard else f_X4_blow_48 s_gone s_place p_letters p_readers p_far p_length p_words n1 (f_X4_blow_5 s_gone s_place p_letters p_readers p_far p_length p_words n1 n) x4 v1 1 s_heard else none else f_X4_blow_48 s_gone s_place p_letters p_readers p_far p_length p_words n1 (f_X4_blow_5 s_gone s_place p_letters p_readers p_far p_length p_words n1 n) x4 v1 1 s_heard)
noncomputable def f_X4_blow (s_gone : Nat → Int32) (s_place : Nat → Int32) (s_heard : Nat → Int32) (p_letters : Int32) (p_readers : Int32) (p_far : Nat → Int32) (p_length : Nat → Int32) (p_words : Nat → Int32) (n1 : Int32) : Option (Int32 × (Nat → Int32)) := f_X4_blow_5 s_gone s_place p_letters p_readers p_far p_length p_words n1 FU 0 0 s_heard
def rm_X4_blow : Room := { frames := 3, cells := 0, slots := 0, locals := 69 }
set_option maxRecDepth 100000 in
set_option maxHeartbeats 4000000 in
theorem j_X4_blow_48 {J : Jt} {Z : Zt} {a0 : Nat → Nat} {a1 : Nat → Nat} {s_year : Int32} {s_wet : Int32} {s_lost : Int32} {s_eaten : Int32} {s_tied : Int32} {s_ripeMany : Int32} {s_gone : Nat → Int32} {s_place : Nat → Int32} {s_many : Nat → Int32} {s_lying : Nat → Int32} {s_ripe : Nat → Int32} {p_beds : Int32} {p_letters : Int32} {p_readers : Int32} {p_far : Nat → Int32} {p_drain : Nat → Int32} {p_length : Nat → Int32} {p_words : Nat → Int32} {p_home : Nat → Int32} {n1 : Int32} {r : Int32} {o_s_heard : Nat → Int32} {k5 : Int32 → Int32 → (Nat → Int32) → Option (Int32 × (Nat → Int32))} (C : Cx J Z cX4_blow 6 RX4 (some .boolean) rm_X4_blow) (E : Ez J Z 0 0 (some (.int r)) (cs_X4 J.2.2.1 a0 s_year s_wet s_lost s_eaten s_tied s_ripeMany s_gone s_place o_s_heard s_many s_lying s_ripe ++ cs_X2 J.2.2.1 a1 p_beds p_letters p_readers p_far p_drain p_length p_words p_home)) (hk5 : ∀ (x3 : Int32) (x4 : Int32) (s_heard : Nat → Int32), k5 x3 x4 s_heard = some (r, o_s_heard) → G J Z 0 0 (cs_X4 J.2.2.1 a0 s_year s_wet s_lost s_eaten s_tied s_ripeMany s_gone s_place s_heard s_many s_lying s_ripe ++ cs_X2 J.2.2.1 a1 p_beds p_letters p_readers p_far p_drain p_length p_words p_home) 6 [(0, .ref (a0 0)), (1, .ref (a1 0)), (2, .int n1), (3, .int x3), (4, .int x4)] 5 []) : ∀ (x4 : Int32) (x5 : Int32) (y0 : Int32) (s_heard : Nat → Int32), f_X4_blow_48 s_gone s_place p_letters p_readers p_far p_length p_words n1 k5 x4 x5 y0 s_heard = some (r, o_s_heard) → G J Z 0 0 (cs_X4 J.2.2.1 a0 s_year s_wet s_lost s_eaten s_tied s_ripeMany s_gone s_place s_heard s_many s_lying s_ripe ++ cs_X2 J.2.2.1 a1 p_beds p_letters p_readers p_far p_drain p_length p_words p_home) 6 [(0, .ref (a0 0)), (1, .ref (a1 0)), (2, .int n1), (4, .int x4), (5, .int x5)] 48 [.int y0] := by
  intro x4 x5 y0 s_heard h
  unfold f_X4_blow_48 at h
  refine g_istore_n (pc := 48) C [(3, .int y0), (0, .ref (a0 0)), (1, .ref (a1 0)), (2, .int n1), (4, .int x4), (5, .int x5)] dX4_blow_48 rfl (by decide) rfl ?_
  refine g_aload_n (pc := 49) C 1 rfl dX4_blow_49 ?_
  refine g_get (pc := 50) C FOK_X4 0 rfl rfl 8 (by decide) kw_170 rfl dX4_blow_50 ?_
  refine g_iload (pc := 53) C 4 rfl dX4_blow_53 ?_
  refine g_dup2 (pc := 55) C dX4_blow_55 rfl rfl ?_
  obtain ⟨hi, h⟩ := ix_of h
  refine g_iald (pc := 56) C 3 rfl hi dX4_blow_56 ?_
  refine g_iload (pc := 57) C 5 rfl dX4_blow_57 ?_
  refine g_ior (pc := 59) C dX4_blow_59 ?_
  obtain ⟨hi, h⟩ := ix_of h
  refine g_iast (pc := 60) C (w' := cs_X4 J.2.2.1 a0 s_year s_wet s_lost s_eaten s_tied s_ripeMany s_gone s_place (upd s_heard x4.toNatClampNeg ((s_heard x4.toNatClampNeg) ||| x5)) s_many s_lying s_ripe ++ cs_X2 J.2.2.1 a1 p_beds p_letters p_readers p_far p_drain p_length p_words p_home) 3 rfl hi dX4_blow_60 rfl ?_
  refine g_iinc (pc := 61) C (j := 4) [(4, .int (x4 + 1)), (3, .int y0), (0, .ref (a0 0)), (1, .ref (a1 0)), (2, .int n1), (5, .int x5)] dX4_blow_61 rfl (ii_1 _) (by decide) rfl ?_
  refine g_goto (pc := 64) C (tgt := 5) dX4_blow_64 rfl ?_
  refine g_lv [2, 3, 4, 1, 0] rfl ?_
  exact hk5 y0 (x4 + 1) (upd s_heard x4.toNatClampNeg ((s_heard x4.toNatClampNeg) ||| x5)) h
set_option maxRecDepth 100000 in
set_option maxHeartbeats 4000000 in
theorem j_X4_blow_5 {J : Jt} {Z : Zt} {a0 : Nat → Nat} {a1 : Nat → Nat} {s_year : Int32} {s_wet : Int32} {s_lost : Int32} {s_eaten : Int32} {s_tied : Int32} {s_ripeMany : Int32} {s_gone : Nat → Int32} {s_place : Nat → Int32} {s_many : Nat → Int32} {s_lying : Nat → Int32} {s_ripe : Nat → Int32} {p_beds : Int32} {p_letters : Int32} {p_readers : Int32} {p_far : Nat → Int32} {p_drain : Nat → Int32} {p_length : Nat → Int32} {p_words : Nat → Int32} {p_home : Nat → Int32} {n1 : Int32} {r : Int32} {o_s_heard : Nat → Int32} (C : Cx J Z cX4_blow 6 RX4 (some .boolean) rm_X4_blow) (E : Ez J Z 0 0 (some (.int r)) (cs_X4 J.2.2.1 a0 s_year s_wet s_lost s_eaten s_tied s_ripeMany s_gone s_place o_s_heard s_many s_lying s_ripe ++ cs_X2 J.2.2.1 a1 p_beds p_letters p_readers p_far p_drain p_length p_words p_home)) : ∀ (n : Nat) (x3 : Int32) (x4 : Int32) (s_heard : Nat → Int32), f_X4_blow_5 s_gone s_place p_letters p_readers p_far p_length p_words n1 n x3 x4 s_heard = some (r, o_s_heard) → G J Z 0 0 (cs_X4 J.2.2.1 a0 s_year s_wet s_lost s_eaten s_tied s_ripeMany s_gone s_place s_heard s_many s_lying s_ripe ++ cs_X2 J.2.2.1 a1 p_beds p_letters p_readers p_far p_drain p_length p_words p_home) 6 [(0, .ref (a0 0)), (1, .ref (a1 0)), (2, .int n1), (3, .int x3), (4, .int x4)] 5 [] := by
  intro n
  induction n with
  | zero =>
    intro x3 x4 s_heard h
    rw [f_X4_blow_5] at h
    cases h
  | succ n ih =>
    intro x3 x4 s_heard h
    rw [f_X4_blow_5] at h
    refine g_iload (pc := 5) C 4 rfl dX4_blow_5 ?_
    refine g_aload_n (pc := 7) C 1 rfl dX4_blow_7 ?_
    refine g_get (pc := 8) C FOK_X2 7 rfl rfl 2 (by decide) kw_290 rfl dX4_blow_8 ?_
    refine g_icmp_ge (pc := 11) C (tgt := 67) dX4_blow_11 rfl h (fun h => ?_) (fun h => ?_)
    · refine g_iload_n (pc := 67) C 3 rfl dX4_blow_67 ?_
      obtain ⟨hz, h⟩ := zok_of h
      cases h
      exact g_zret C hz E dX4_blow_68
    · refine g_aload_n (pc := 14) C 0 rfl dX4_blow_14 ?_
      refine g_aload_n (pc := 15) C 1 rfl dX4_blow_15 ?_
      refine g_iload (pc := 16) C 4 rfl dX4_blow_16 ?_
      refine g_iload_n (pc := 18) C 2 rfl dX4_blow_18 ?_
      obtain ⟨v1, hc, h⟩ := b1_of h
      refine g_callV (pc := 19) C (w' := cs_X4 J.2.2.1 a0 s_year s_wet s_lost s_eaten s_tied s_ripeMany s_gone s_place s_heard s_many s_lying s_ripe ++ cs_X2 J.2.2.1 a1 p_beds p_letters p_readers p_far p_drain p_length p_words p_home) (As := [.ref (a1 0), .int x4, .int n1]) (st := []) (ci := 4) (q0 := 0) rfl rfl (t_X4_toldBy (a0 := a0) (a1 := a1) hc) Sub.same kw_860 kw_861 kw_862 kw_88 hy_X4_toldBy kw_863 rfl (Nat.le_of_ble_eq_true rfl) (Nat.le_of_ble_eq_true rfl) (Nat.le_of_ble_eq_true rfl) (Nat.le_of_ble_eq_true rfl) (Nat.le_of_ble_eq_true rfl) dX4_blow_19 ?_
      refine g_istore (pc := 22) C [(5, .int v1), (0, .ref (a0 0)), (1, .ref (a1 0)), (2, .int n1), (3, .int x3), (4, .int x4)] dX4_blow_22 (by decide) rfl ?_
      refine g_iload_n (pc := 24) C 4 rfl dX4_blow_24 ?_
      refine g_if_ne (pc := 25) C (tgt := 43) dX4_blow_25 rfl h (fun h => ?_) (fun h => ?_)
      · refine g_iconst (pc := 43) C dX4_blow_43 ci_1 ?_
        refine g_goto (pc := 44) C (tgt := 48) dX4_blow_44 rfl ?_
        refine g_lv [1, 2, 3, 5, 0] rfl ?_
        exact j_X4_blow_48 C E ih x4 v1 1 s_heard h
      · refine g_iload (pc := 28) C 0 rfl dX4_blow_28 ?_
        refine g_aload_n (pc := 30) C 1 rfl dX4_blow_30 ?_
        refine g_get (pc := 31) C FOK_X4 0 rfl rfl 8 (by decide) kw_170 rfl dX4_blow_31 ?_
        refine g_iload (pc := 34) C 5 rfl dX4_blow_34 ?_
        obtain ⟨hi, h⟩ := ix_of h
        refine g_iald (pc := 36) C 3 rfl hi dX4_blow_36 ?_
        refine g_iconst (pc := 37) C dX4_blow_37 ci_m1 ?_
        refine g_ixor (pc := 38) C dX4_blow_38 ?_
        refine g_iand (pc := 39) C dX4_blow_39 ?_
        refine g_if_eq (pc := 40) C (tgt := 47) dX4_blow_40 rfl h (fun h => ?_) (fun h => ?_)
        · refine g_iconst (pc := 47) C dX4_blow_47 ci_0 ?_
          refine g_lv [1, 2, 3, 5, 0] rfl ?_
          exact j_X4_blow_48 C E ih x4 v1 0 s_heard h
        · refine g_iconst (pc := 43) C dX4_blow_43 ci_1 ?_
          refine g_goto (pc := 44) C (tgt := 48) dX4_blow_44 rfl ?_
          refine g_lv [1, 2, 3, 5, 0] rfl ?_
          exact j_X4_blow_48 C E ih x4 v1 1 s_heard h
set_option maxRecDepth 100000 in
set_option maxHeartbeats 4000000 in
theorem t_X4_blow {J : Jt} {a0 : Nat → Nat} {a1 : Nat → Nat} {s_year : Int32} {s_wet : Int32} {s_lost : Int32} {s_eaten : Int32} {s_tied : Int32} {s_ripeMany : Int32} {s_gone : Nat → Int32} {s_place : Nat → Int32} {s_heard : Nat → Int32} {s_many : Nat → Int32} {s_lying : Nat → Int32} {s_ripe : Nat → Int32} {p_beds : Int32} {p_letters : Int32} {p_readers : Int32} {p_far : Nat → Int32} {p_drain : Nat → Int32} {p_length : Nat → Int32} {p_words : Nat → Int32} {p_home : Nat → Int32} {n1 : Int32} {r : Int32} {o_s_heard : Nat → Int32} (h : f_X4_blow s_gone s_place s_heard p_letters p_readers p_far p_length p_words n1 = some (r, o_s_heard)) : Mt J yX4_blow cX4_blow 6 (some .boolean) rm_X4_blow [.ref (a0 0), .ref (a1 0), .int n1] (cs_X4 J.2.2.1 a0 s_year s_wet s_lost s_eaten s_tied s_ripeMany s_gone s_place s_heard s_many s_lying s_ripe ++ cs_X2 J.2.2.1 a1 p_beds p_letters p_readers p_far p_drain p_length p_words p_home) (some (.int r)) (cs_X4 J.2.2.1 a0 s_year s_wet s_lost s_eaten s_tied s_ripeMany s_gone s_place o_s_heard s_many s_lying s_ripe ++ cs_X2 J.2.2.1 a1 p_beds p_letters p_readers p_far p_drain p_length p_words p_home) := by
  refine Mt_of (own := RX4) (by decide) rfl (Nat.le_of_ble_eq_true rfl) rfl (fun Z C E => ?_)
  unfold f_X4_blow at h
  show G J Z 0 0 (cs_X4 J.2.2.1 a0 s_year s_wet s_lost s_eaten s_tied s_ripeMany s_gone s_place s_heard s_many s_lying s_ripe ++ cs_X2 J.2.2.1 a1 p_beds p_letters p_readers p_far p_drain p_length p_words p_home) 6 [(0, .ref (a0 0)), (1, .ref (a1 0)), (2, .int n1)] 0 []
  refine g_iconst (pc := 0) C dX4_blow_0 ci_0 ?_
  refine g_istore_n (pc := 1) C [(3, .int 0), (0, .ref (a0 0)), (1, .ref (a1 0)), (2, .int n1)] dX4_blow_1 rfl (by decide) rfl ?_
  refine g_iconst (pc := 2) C dX4_blow_2 ci_0 ?_
  refine g_istore (pc := 3) C [(4, .int 0), (3, .int 0), (0, .ref (a0 0)), (1, .ref (a1 0)), (2, .int n1)] dX4_blow_3 (by decide) rfl ?_
  refine g_lv [2, 3, 4, 1, 0] rfl ?_
  exact j_X4_blow_5 C E  FU 0 0 s_heard h
noncomputable def f_X4_runOut_77 (p_drain : Nat → Int32) (p_length : Nat → Int32) (p_words : Nat → Int32) (n1 : Int32) (n2 : Int32) (k11 : Int32 → Int32 → Int32 → (Nat → Int32) → (Nat → Int32) → (Nat → Int32) → Option (Int32 × (Nat → Int32) × (Nat → Int32) × (Nat → Int32))) (x4 : Int32) (x5 : Int32) (s_lost : Int32) (s_gone : Nat → Int32) (s_many : Nat → Int32) (s_lying : Nat → Int32) : Option (Int32 × (Nat → Int32) × (Nat → Int32) × (Nat → Int32)) := if ixb n1 6 then if ixb n1 6 then k11 x4 (x5 + 1) s_lost (upd s_gone n1.toNatClampNeg ((s_gone n1.toNatClampNeg) + 1)) s_many s_lying else none else none
noncomputable def f_X4_runOut_11 (p_drain : Nat → Int32) (p_length : Nat → Int32) (p_words : Nat → Int32) (n1 : Int32) (n2 : Int32) : Nat → Int32 → Int32 → Int32 → (Nat → Int32) → (Nat → Int32) → (Nat → Int32) → Option (Int32 × (Nat → Int32) × (Nat → Int32) × (Nat → Int32))
  | 0, _, _, _, _, _, _ => none
  | n + 1, x4, x5, s_lost, s_gone, s_many, s_lying => if n2 ≤ x5 then some (s_lost, s_gone, s_many, s_lying) else if ixb x4 6 then if 12 ≤ (s_many x4.toNatClampNeg) then f_X4_runOut_77 p_drain p_length p_words n1 n2 (f_X4_runOut_11 p_drain p_length p_words n1 n2 n) x4 x5 (s_lost + 1) s_gone s_many s_lying else if ixb x4 6 then b1 (f_X4_nextOf s_gone p_length p_words n1) (fun v1 => if ixb ((x4 * 12) + (s_many x4.toNatClampNeg)) 72 then if ixb x4 6 then if ixb x4 6 then f_X4_runOut_77 p_drain p_length p_words n1 n2 (f_X4_runOut_11 p_drain p_length p_words n1 n2 n) x4 x5 s_lost s_gone (upd s_many x4.toNatClampNeg ((s_many x4.toNatClampNeg) + 1)) (upd s_lying ((x4 * 12) + (s_many x4.toNatClampNeg)).toNatClampNeg v1) else none else none else none) else none else none
noncomputable def f_X4_runOut (s_lost : Int32) (s_gone : Nat → Int32) (s_many : Nat → Int32) (s_lying : Nat → Int32) (p_drain : Nat → Int32) (p_length : Nat → Int32) (p_words : Nat → Int32) (n1 : Int32) (n2 : Int32) : Option (Int32 × (Nat → Int32) × (Nat → Int32) × (Nat → Int32)) := if ixb n1 6 then f_X4_runOut_11 p_drain p_length p_words n1 n2 FU (p_drain n1.toNatClampNeg) 0 s_lost s_gone s_many s_lying else none
def rm_X4_runOut : Room := { frames := 2, cells := 0, slots := 0, locals := 44 }
set_option maxRecDepth 100000 in
set_option maxHeartbeats 4000000 in
theorem j_X4_runOut_77 {J : Jt} {Z : Zt} {a0 : Nat → Nat} {a1 : Nat → Nat} {s_year : Int32} {s_wet : Int32} {s_eaten : Int32} {s_tied : Int32} {s_ripeMany : Int32} {s_place : Nat → Int32} {s_heard : Nat → Int32} {s_ripe : Nat → Int32} {p_beds : Int32} {p_letters : Int32} {p_readers : Int32} {p_far : Nat → Int32} {p_drain : Nat → Int32} {p_length : Nat → Int32} {p_words : Nat → Int32} {p_home : Nat → Int32} {n1 : Int32} {n2 : Int32} {o_s_lost : Int32} {o_s_gone : Nat → Int32} {o_s_many : Nat → Int32} {o_s_lying : Nat → Int32} {k11 : Int32 → Int32 → Int32 → (Nat → Int32) → (Nat → Int32) → (Nat → Int32) → Option (Int32 × (Nat → Int32) × (Nat → Int32) × (Nat → Int32))} (C : Cx J Z cX4_runOut 6 RX4 none rm_X4_runOut) (E : Ez J Z 0 0 none (cs_X4 J.2.2.1 a0 s_year s_wet o_s_lost s_eaten s_tied s_ripeMany o_s_gone s_place s_heard o_s_many o_s_lying s_ripe ++ cs_X2 J.2.2.1 a1 p_beds p_letters p_readers p_far p_drain p_length p_words p_home)) (hk11 : ∀ (x4 : Int32) (x5 : Int32) (s_lost : Int32) (s_gone : Nat → Int32) (s_many : Nat → Int32) (s_lying : Nat → Int32), k11 x4 x5 s_lost s_gone s_many s_lying = some (o_s_lost, o_s_gone, o_s_many, o_s_lying) → G J Z 0 0 (cs_X4 J.2.2.1 a0 s_year s_wet s_lost s_eaten s_tied s_ripeMany s_gone s_place s_heard s_many s_lying s_ripe ++ cs_X2 J.2.2.1 a1 p_beds p_letters p_readers p_far p_drain p_length p_words p_home) 6 [(0, .ref (a0 0)), (1, .ref (a1 0)), (2, .int n1), (3, .int n2), (4, .int x4), (5, .int x5)] 11 []) : ∀ (x4 : Int32) (x5 : Int32) (s_lost : Int32) (s_gone : Nat → Int32) (s_many : Nat → Int32) (s_lying : Nat → Int32), f_X4_runOut_77 p_drain p_length p_words n1 n2 k11 x4 x5 s_lost s_gone s_many s_lying = some (o_s_lost, o_s_gone, o_s_many, o_s_lying) → G J Z 0 0 (cs_X4 J.2.2.1 a0 s_year s_wet s_lost s_eaten s_tied s_ripeMany s_gone s_place s_heard s_many s_lying s_ripe ++ cs_X2 J.2.2.1 a1 p_beds p_letters p_readers p_far p_drain p_length p_words p_home) 6 [(0, .ref (a0 0)), (1, .ref (a1 0)), (2, .int n1), (3, .int n2), (4, .int x4), (5, .int x5)] 77 [] := by
  intro x4 x5 s_lost s_gone s_many s_lying h
  unfold f_X4_runOut_77 at h
  refine g_aload_n (pc := 77) C 0 rfl dX4_runOut_77 ?_
  refine g_get (pc := 78) C FOK_X4 0 rfl rfl 6 (by decide) kw_167 rfl dX4_runOut_78 ?_
  refine g_iload_n (pc := 81) C 2 rfl dX4_runOut_81 ?_
  refine g_dup2 (pc := 82) C dX4_runOut_82 rfl rfl ?_
  obtain ⟨hi, h⟩ := ix_of h
  refine g_iald (pc := 83) C 1 rfl hi dX4_runOut_83 ?_
  refine g_iconst (pc := 84) C dX4_runOut_84 ci_1 ?_
  refine g_iadd (pc := 85) C dX4_runOut_85 ?_
  obtain ⟨hi, h⟩ := ix_of h
  refine g_iast (pc := 86) C (w' := cs_X4 J.2.2.1 a0 s_year s_wet s_lost s_eaten s_tied s_ripeMany (upd s_gone n1.toNatClampNeg ((s_gone n1.toNatClampNeg) + 1)) s_place s_heard s_many s_lying s_ripe ++ cs_X2 J.2.2.1 a1 p_beds p_letters p_readers p_far p_drain p_length p_words p_home) 1 rfl hi dX4_runOut_86 rfl ?_
  refine g_iinc (pc := 87) C (j := 5) [(5, .int (x5 + 1)), (0, .ref (a0 0)), (1, .ref (a1 0)), (2, .int n1), (3, .int n2), (4, .int x4)] dX4_runOut_87 rfl (ii_1 _) (by decide) rfl ?_
  refine g_goto (pc := 90) C (tgt := 11) dX4_runOut_90 rfl ?_
  refine g_lv [1, 2, 3, 4, 5, 0] rfl ?_
  exact hk11 x4 (x5 + 1) s_lost (upd s_gone n1.toNatClampNeg ((s_gone n1.toNatClampNeg) + 1)) s_many s_lying h
set_option maxRecDepth 100000 in
set_option maxHeartbeats 4000000 in
theorem j_X4_runOut_11 {J : Jt} {Z : Zt} {a0 : Nat → Nat} {a1 : Nat → Nat} {s_year : Int32} {s_wet : Int32} {s_eaten : Int32} {s_tied : Int32} {s_ripeMany : Int32} {s_place : Nat → Int32} {s_heard : Nat → Int32} {s_ripe : Nat → Int32} {p_beds : Int32} {p_letters : Int32} {p_readers : Int32} {p_far : Nat → Int32} {p_drain : Nat → Int32} {p_length : Nat → Int32} {p_words : Nat → Int32} {p_home : Nat → Int32} {n1 : Int32} {n2 : Int32} {o_s_lost : Int32} {o_s_gone : Nat → Int32} {o_s_many : Nat → Int32} {o_s_lying : Nat → Int32} (C : Cx J Z cX4_runOut 6 RX4 none rm_X4_runOut) (E : Ez J Z 0 0 none (cs_X4 J.2.2.1 a0 s_year s_wet o_s_lost s_eaten s_tied s_ripeMany o_s_gone s_place s_heard o_s_many o_s_lying s_ripe ++ cs_X2 J.2.2.1 a1 p_beds p_letters p_readers p_far p_drain p_length p_words p_home)) : ∀ (n : Nat) (x4 : Int32) (x5 : Int32) (s_lost : Int32) (s_gone : Nat → Int32) (s_many : Nat → Int32) (s_lying : Nat → Int32), f_X4_runOut_11 p_drain p_length p_words n1 n2 n x4 x5 s_lost s_gone s_many s_lying = some (o_s_lost, o_s_gone, o_s_many, o_s_lying) → G J Z 0 0 (cs_X4 J.2.2.1 a0 s_year s_wet s_lost s_eaten s_tied s_ripeMany s_gone s_place s_heard s_many s_lying s_ripe ++ cs_X2 J.2.2.1 a1 p_beds p_letters p_readers p_far p_drain p_length p_words p_home) 6 [(0, .ref (a0 0)), (1, .ref (a1 0)), (2, .int n1), (3, .int n2), (4, .int x4), (5, .int x5)] 11 [] := by
  intro n
  induction n with
  | zero =>
    intro x4 x5 s_lost s_gone s_many s_lying h
    rw [f_X4_runOut_11] at h
    cases h
  | succ n ih =>
    intro x4 x5 s_lost s_gone s_many s_lying h
    rw [f_X4_runOut_11] at h
    refine g_iload (pc := 11) C 5 rfl dX4_runOut_11 ?_
    refine g_iload_n (pc := 13) C 3 rfl dX4_runOut_13 ?_
    refine g_icmp_ge (pc := 14) C (tgt := 93) dX4_runOut_14 rfl h (fun h => ?_) (fun h => ?_)
    · cases h
      exact g_vret C E dX4_runOut_93
    · refine g_aload_n (pc := 17) C 0 rfl dX4_runOut_17 ?_
      refine g_get (pc := 18) C FOK_X4 0 rfl rfl 9 (by decide) kw_172 rfl dX4_runOut_18 ?_
      refine g_iload (pc := 21) C 4 rfl dX4_runOut_21 ?_
      obtain ⟨hi, h⟩ := ix_of h
      refine g_iald (pc := 23) C 4 rfl hi dX4_runOut_23 ?_
      refine g_bipush (pc := 24) C dX4_runOut_24 cb_12 ?_
      refine g_icmp_ge (pc := 26) C (tgt := 67) dX4_runOut_26 rfl h (fun h => ?_) (fun h => ?_)
      · refine g_aload_n (pc := 67) C 0 rfl dX4_runOut_67 ?_
        refine g_dup (pc := 68) C dX4_runOut_68 rfl ?_
        refine g_get (pc := 69) C FOK_X4 0 rfl rfl 2 (by decide) kw_159 rfl dX4_runOut_69 ?_
        refine g_iconst (pc := 72) C dX4_runOut_72 ci_1 ?_
        refine g_iadd (pc := 73) C dX4_runOut_73 ?_
        refine g_put (pc := 74) C (w' := cs_X4 J.2.2.1 a0 s_year s_wet (s_lost + 1) s_eaten s_tied s_ripeMany s_gone s_place s_heard s_many s_lying s_ripe ++ cs_X2 J.2.2.1 a1 p_beds p_letters p_readers p_far p_drain p_length p_words p_home) FOK_X4 0 rfl rfl 2 (by decide) kw_159 rfl rfl rfl (Nat.le_of_ble_eq_true rfl) dX4_runOut_74 rfl ?_
        exact j_X4_runOut_77 C E ih x4 x5 (s_lost + 1) s_gone s_many s_lying h
      · refine g_aload_n (pc := 29) C 0 rfl dX4_runOut_29 ?_
        refine g_get (pc := 30) C FOK_X4 0 rfl rfl 10 (by decide) kw_174 rfl dX4_runOut_30 ?_
        refine g_iload (pc := 33) C 4 rfl dX4_runOut_33 ?_
        refine g_bipush (pc := 35) C dX4_runOut_35 cb_12 ?_
        refine g_imul (pc := 37) C dX4_runOut_37 ?_
        refine g_aload_n (pc := 38) C 0 rfl dX4_runOut_38 ?_
        refine g_get (pc := 39) C FOK_X4 0 rfl rfl 9 (by decide) kw_172 rfl dX4_runOut_39 ?_
        refine g_iload (pc := 42) C 4 rfl dX4_runOut_42 ?_
        obtain ⟨hi, h⟩ := ix_of h
        refine g_iald (pc := 44) C 4 rfl hi dX4_runOut_44 ?_
        refine g_iadd (pc := 45) C dX4_runOut_45 ?_
        refine g_aload_n (pc := 46) C 0 rfl dX4_runOut_46 ?_
        refine g_aload_n (pc := 47) C 1 rfl dX4_runOut_47 ?_
        refine g_iload_n (pc := 48) C 2 rfl dX4_runOut_48 ?_
        obtain ⟨v1, hc, h⟩ := b1_of h
        refine g_callV (pc := 49) C (w' := cs_X4 J.2.2.1 a0 s_year s_wet s_lost s_eaten s_tied s_ripeMany s_gone s_place s_heard s_many s_lying s_ripe ++ cs_X2 J.2.2.1 a1 p_beds p_letters p_readers p_far p_drain p_length p_words p_home) (As := [.ref (a1 0), .int n1]) (st := [.int ((x4 * 12) + (s_many x4.toNatClampNeg)), .ref (a0 5)]) (ci := 4) (q0 := 0) rfl rfl (t_X4_nextOf (a0 := a0) (a1 := a1) hc) Sub.same kw_864 kw_473 kw_474 kw_88 hy_X4_nextOf kw_475 rfl (Nat.le_of_ble_eq_true rfl) (Nat.le_of_ble_eq_true rfl) (Nat.le_of_ble_eq_true rfl) (Nat.le_of_ble_eq_true rfl) (Nat.le_of_ble_eq_true rfl) dX4_runOut_49 ?_
        obtain ⟨hi, h⟩ := ix_of h
        refine g_iast (pc := 52) C (w' := cs_X4 J.2.2.1 a0 s_year s_wet s_lost s_eaten s_tied s_ripeMany s_gone s_place s_heard s_many (upd s_lying ((x4 * 12) + (s_many x4.toNatClampNeg)).toNatClampNeg v1) s_ripe ++ cs_X2 J.2.2.1 a1 p_beds p_letters p_readers p_far p_drain p_length p_words p_home) 5 rfl hi dX4_runOut_52 rfl ?_
        refine g_aload_n (pc := 53) C 0 rfl dX4_runOut_53 ?_
        refine g_get (pc := 54) C FOK_X4 0 rfl rfl 9 (by decide) kw_172 rfl dX4_runOut_54 ?_
        refine g_iload (pc := 57) C 4 rfl dX4_runOut_57 ?_
        refine g_dup2 (pc := 59) C dX4_runOut_59 rfl rfl ?_
        obtain ⟨hi, h⟩ := ix_of h
        refine g_iald (pc := 60) C 4 rfl hi dX4_runOut_60 ?_
        refine g_iconst (pc := 61) C dX4_runOut_61 ci_1 ?_
        refine g_iadd (pc := 62) C dX4_runOut_62 ?_
        obtain ⟨hi, h⟩ := ix_of h
        refine g_iast (pc := 63) C (w' := cs_X4 J.2.2.1 a0 s_year s_wet s_lost s_eaten s_tied s_ripeMany s_gone s_place s_heard (upd s_many x4.toNatClampNeg ((s_many x4.toNatClampNeg) + 1)) (upd s_lying ((x4 * 12) + (s_many x4.toNatClampNeg)).toNatClampNeg v1) s_ripe ++ cs_X2 J.2.2.1 a1 p_beds p_letters p_readers p_far p_drain p_length p_words p_home) 4 rfl hi dX4_runOut_63 rfl ?_
        refine g_goto (pc := 64) C (tgt := 77) dX4_runOut_64 rfl ?_
        exact j_X4_runOut_77 C E ih x4 x5 s_lost s_gone (upd s_many x4.toNatClampNeg ((s_many x4.toNatClampNeg) + 1)) (upd s_lying ((x4 * 12) + (s_many x4.toNatClampNeg)).toNatClampNeg v1) h
set_option maxRecDepth 100000 in
set_option maxHeartbeats 4000000 in
theorem t_X4_runOut {J : Jt} {a0 : Nat → Nat} {a1 : Nat → Nat} {s_year : Int32} {s_wet : Int32} {s_lost : Int32} {s_eaten : Int32} {s_tied : Int32} {s_ripeMany : Int32} {s_gone : Nat → Int32} {s_place : Nat → Int32} {s_heard : Nat → Int32} {s_many : Nat → Int32} {s_lying : Nat → Int32} {s_ripe : Nat → Int32} {p_beds : Int32} {p_letters : Int32} {p_readers : Int32} {p_far : Nat → Int32} {p_drain : Nat → Int32} {p_length : Nat → Int32} {p_words : Nat → Int32} {p_home : Nat → Int32} {n1 : Int32} {n2 : Int32} {o_s_lost : Int32} {o_s_gone : Nat → Int32} {o_s_many : Nat → Int32} {o_s_lying : Nat → Int32} (h : f_X4_runOut s_lost s_gone s_many s_lying p_drain p_length p_words n1 n2 = some (o_s_lost, o_s_gone, o_s_many, o_s_lying)) : Mt J yX4_runOut cX4_runOut 6 none rm_X4_runOut [.ref (a0 0), .ref (a1 0), .int n1, .int n2] (cs_X4 J.2.2.1 a0 s_year s_wet s_lost s_eaten s_tied s_ripeMany s_gone s_place s_heard s_many s_lying s_ripe ++ cs_X2 J.2.2.1 a1 p_beds p_letters p_readers p_far p_drain p_length p_words p_home) none (cs_X4 J.2.2.1 a0 s_year s_wet o_s_lost s_eaten s_tied s_ripeMany o_s_gone s_place s_heard o_s_many o_s_lying s_ripe ++ cs_X2 J.2.2.1 a1 p_beds p_letters p_readers p_far p_drain p_length p_words p_home) := by
  refine Mt_of (own := RX4) (by decide) rfl (Nat.le_of_ble_eq_true rfl) rfl (fun Z C E => ?_)
  unfold f_X4_runOut at h
  show G J Z 0 0 (cs_X4 J.2.2.1 a0 s_year s_wet s_lost s_eaten s_tied s_ripeMany s_gone s_place s_heard s_many s_lying s_ripe ++ cs_X2 J.2.2.1 a1 p_beds p_letters p_readers p_far p_drain p_length p_words p_home) 6 [(0, .ref (a0 0)), (1, .ref (a1 0)), (2, .int n1), (3, .int n2)] 0 []
  refine g_aload_n (pc := 0) C 1 rfl dX4_runOut_0 ?_
  refine g_get (pc := 1) C FOK_X2 7 rfl rfl 4 (by decide) kw_296 rfl dX4_runOut_1 ?_
  refine g_iload_n (pc := 4) C 2 rfl dX4_runOut_4 ?_
  obtain ⟨hi, h⟩ := ix_of h
  refine g_iald (pc := 5) C 9 rfl hi dX4_runOut_5 ?_
  refine g_istore (pc := 6) C [(4, .int (p_drain n1.toNatClampNeg)), (0, .ref (a0 0)), (1, .ref (a1 0)), (2, .int n1), (3, .int n2)] dX4_runOut_6 (by decide) rfl ?_
  refine g_iconst (pc := 8) C dX4_runOut_8 ci_0 ?_
  refine g_istore (pc := 9) C [(5, .int 0), (4, .int (p_drain n1.toNatClampNeg)), (0, .ref (a0 0)), (1, .ref (a1 0)), (2, .int n1), (3, .int n2)] dX4_runOut_9 (by decide) rfl ?_
  refine g_lv [2, 3, 4, 5, 1, 0] rfl ?_
  exact j_X4_runOut_11 C E  FU (p_drain n1.toNatClampNeg) 0 s_lost s_gone s_many s_lying h
noncomputable def f_X4_pour_12 (s_year : Int32) (s_tied : Int32) (p_letters : Int32) (p_far : Nat → Int32) (p_drain : Nat → Int32) (p_length : Nat → Int32) (p_words : Nat → Int32) (l_code : Nat → Int32) (l_length : Int32) (n1 : Int32) : Nat → Int32 → Int32 → Int32 → (Nat → Int32) → (Nat → Int32) → (Nat → Int32) → (Nat → Int32) → (Nat → Int32) → Option (Int32 × Int32 × (Nat → Int32) × (Nat → Int32) × (Nat → Int32) × (Nat → Int32) × (Nat → Int32))
  | 0, _, _, _, _, _, _, _, _ => none
  | n + 1, x4, s_wet, s_lost, s_gone, s_many, s_lying, l_values, l_stack => if p_letters ≤ x4 then some (s_wet, s_lost, s_gone, s_many, s_lying, l_values, l_stack) else b1 (f_X4_isTied s_tied x4) (fun v1 => if v1 = 0 then b1 (f_X4_leftOf s_gone p_length x4) (fun v2 => if v2 ≤ 0 then f_X4_pour_12 s_year s_tied p_letters p_far p_drain p_length p_words l_code l_length n1 n (x4 + 1) s_wet s_lost s_gone s_many s_lying l_values l_stack else b3 (f_X4_runOf s_year s_gone s_many p_far p_drain p_length l_code l_values l_stack l_length x4 n1 s_wet) (fun v3 c4 c5 => b4 (f_X4_runOut s_lost s_gone s_many s_lying p_drain p_length p_words x4 v3) (fun c6 c7 c8 c9 => f_X4_pour_12 s_year s_tied p_letters p_far p_drain p_length p_words l_code l_length n1 n (x4 + 1) s_wet c6 c7 c8 c9 c4 c5))) else f_X4_pour_12 s_year s_tied p_letters p_far p_drain p_length p_words l_code l_length n1 n (x4 + 1) s_wet s_lost s_gone s_many s_lying l_values l_stack)
noncomputable def f_X4_pour (s_year : Int32) (s_wet : Int32) (s_lost : Int32) (s_tied : Int32) (s_gone : Nat → Int32) (s_many : Nat → Int32) (s_lying : Nat → Int32) (p_letters : Int32) (p_far : Nat → Int32) (p_drain : Nat → Int32) (p_length : Nat → Int32) (p_words : Nat → Int32) (l_code : Nat → Int32) (l_values : Nat → Int32) (l_stack : Nat → Int32) (l_length : Int32) (n1 : Int32) : Option (Int32 × Int32 × (Nat → Int32) × (Nat → Int32) × (Nat → Int32) × (Nat → Int32) × (Nat → Int32)) := b1 (f_X4_wetBy s_wet n1) (fun v10 => f_X4_pour_12 s_year s_tied p_letters p_far p_drain p_length p_words l_code l_length n1 FU 0 v10 s_lost s_gone s_many s_lying l_values l_stack)
def rm_X4_pour : Room := { frames := 3, cells := 0, slots := 0, locals := 80 }
set_option maxRecDepth 100000 in
set_option maxHeartbeats 4000000 in
theorem j_X4_pour_12 {J : Jt} {Z : Zt} {a0 : Nat → Nat} {a1 : Nat → Nat} {a2 : Nat → Nat} {s_year : Int32} {s_eaten : Int32} {s_tied : Int32} {s_ripeMany : Int32} {s_place : Nat → Int32} {s_heard : Nat → Int32} {s_ripe : Nat → Int32} {p_beds : Int32} {p_letters : Int32} {p_readers : Int32} {p_far : Nat → Int32} {p_drain : Nat → Int32} {p_length : Nat → Int32} {p_words : Nat → Int32} {p_home : Nat → Int32} {l_code : Nat → Int32} {l_length : Int32} {n1 : Int32} {o_s_wet : Int32} {o_s_lost : Int32} {o_s_gone : Nat → Int32} {o_s_many : Nat → Int32} {o_s_lying : Nat → Int32} {o_l_values : Nat → Int32} {o_l_stack : Nat → Int32} (C : Cx J Z cX4_pour 5 RX4 none rm_X4_pour) (E : Ez J Z 0 0 none (cs_X4 J.2.2.1 a0 s_year o_s_wet o_s_lost s_eaten s_tied s_ripeMany o_s_gone s_place s_heard o_s_many o_s_lying s_ripe ++ cs_X2 J.2.2.1 a1 p_beds p_letters p_readers p_far p_drain p_length p_words p_home ++ cs_X1 J.2.2.1 a2 l_code o_l_values o_l_stack l_length)) : ∀ (n : Nat) (x4 : Int32) (s_wet : Int32) (s_lost : Int32) (s_gone : Nat → Int32) (s_many : Nat → Int32) (s_lying : Nat → Int32) (l_values : Nat → Int32) (l_stack : Nat → Int32), f_X4_pour_12 s_year s_tied p_letters p_far p_drain p_length p_words l_code l_length n1 n x4 s_wet s_lost s_gone s_many s_lying l_values l_stack = some (o_s_wet, o_s_lost, o_s_gone, o_s_many, o_s_lying, o_l_values, o_l_stack) → G J Z 0 0 (cs_X4 J.2.2.1 a0 s_year s_wet s_lost s_eaten s_tied s_ripeMany s_gone s_place s_heard s_many s_lying s_ripe ++ cs_X2 J.2.2.1 a1 p_beds p_letters p_readers p_far p_drain p_length p_words p_home ++ cs_X1 J.2.2.1 a2 l_code l_values l_stack l_length) 5 [(0, .ref (a0 0)), (1, .ref (a1 0)), (2, .ref (a2 0)), (3, .int n1), (4, .int x4)] 12 [] := by
  intro n
  induction n with
  | zero =>
    intro x4 s_wet s_lost s_gone s_many s_lying l_values l_stack h
    rw [f_X4_pour_12] at h
    cases h
  | succ n ih =>
    intro x4 s_wet s_lost s_gone s_many s_lying l_values l_stack h
    rw [f_X4_pour_12] at h
    refine g_iload (pc := 12) C 4 rfl dX4_pour_12 ?_
    refine g_aload_n (pc := 14) C 1 rfl dX4_pour_14 ?_
    refine g_get (pc := 15) C FOK_X2 7 rfl rfl 1 (by decide) kw_285 rfl dX4_pour_15 ?_
    refine g_icmp_ge (pc := 18) C (tgt := 66) dX4_pour_18 rfl h (fun h => ?_) (fun h => ?_)
    · cases h
      exact g_vret C E dX4_pour_66
    · refine g_aload_n (pc := 21) C 0 rfl dX4_pour_21 ?_
      refine g_iload (pc := 22) C 4 rfl dX4_pour_22 ?_
      obtain ⟨v1, hc, h⟩ := b1_of h
      refine g_callV (pc := 24) C (w' := cs_X4 J.2.2.1 a0 s_year s_wet s_lost s_eaten s_tied s_ripeMany s_gone s_place s_heard s_many s_lying s_ripe ++ cs_X2 J.2.2.1 a1 p_beds p_letters p_readers p_far p_drain p_length p_words p_home ++ cs_X1 J.2.2.1 a2 l_code l_values l_stack l_length) (As := [.int x4]) (st := []) (ci := 4) (q0 := 0) rfl rfl (t_X4_isTied (a0 := a0) hc) (Sub.gen [0, 1, 2, 3, 4, 5, 6] [7, 8, 9, 10, 11, 12, 13, 14, 15, 16] [10, 11, 12, 13, 14, 15, 16, 0, 1, 2, 3, 4, 5, 6, 7, 8, 9] rfl (by decide) rfl (by decide) (by decide) rfl (by decide)) kw_890 kw_891 kw_892 kw_88 hy_X4_isTied kw_893 rfl (Nat.le_of_ble_eq_true rfl) (Nat.le_of_ble_eq_true rfl) (Nat.le_of_ble_eq_true rfl) (Nat.le_of_ble_eq_true rfl) (Nat.le_of_ble_eq_true rfl) dX4_pour_24 ?_
      refine g_if_ne (pc := 27) C (tgt := 60) dX4_pour_27 rfl h (fun h => ?_) (fun h => ?_)
      · refine g_iinc (pc := 60) C (j := 4) [(4, .int (x4 + 1)), (0, .ref (a0 0)), (1, .ref (a1 0)), (2, .ref (a2 0)), (3, .int n1)] dX4_pour_60 rfl (ii_1 _) (by decide) rfl ?_
        refine g_goto (pc := 63) C (tgt := 12) dX4_pour_63 rfl ?_
        refine g_lv [1, 2, 3, 4, 0] rfl ?_
        exact ih (x4 + 1) s_wet s_lost s_gone s_many s_lying l_values l_stack h
      · refine g_aload_n (pc := 30) C 0 rfl dX4_pour_30 ?_
        refine g_aload_n (pc := 31) C 1 rfl dX4_pour_31 ?_
        refine g_iload (pc := 32) C 4 rfl dX4_pour_32 ?_
        obtain ⟨v2, hc, h⟩ := b1_of h
        refine g_callV (pc := 34) C (w' := cs_X4 J.2.2.1 a0 s_year s_wet s_lost s_eaten s_tied s_ripeMany s_gone s_place s_heard s_many s_lying s_ripe ++ cs_X2 J.2.2.1 a1 p_beds p_letters p_readers p_far p_drain p_length p_words p_home ++ cs_X1 J.2.2.1 a2 l_code l_values l_stack l_length) (As := [.ref (a1 0), .int x4]) (st := []) (ci := 4) (q0 := 0) rfl rfl (t_X4_leftOf (a0 := a0) (a1 := a1) hc) (Sub.gen [0, 1, 2, 3, 4, 5, 6, 7, 8, 9, 10, 11, 12] [13, 14, 15, 16] [4, 5, 6, 7, 8, 9, 10, 11, 12, 13, 14, 15, 16, 0, 1, 2, 3] rfl (by decide) rfl (by decide) (by decide) rfl (by decide)) kw_476 kw_465 kw_466 kw_88 hy_X4_leftOf kw_467 rfl (Nat.le_of_ble_eq_true rfl) (Nat.le_of_ble_eq_true rfl) (Nat.le_of_ble_eq_true rfl) (Nat.le_of_ble_eq_true rfl) (Nat.le_of_ble_eq_true rfl) dX4_pour_34 ?_
        refine g_if_le (pc := 37) C (tgt := 60) dX4_pour_37 rfl h (fun h => ?_) (fun h => ?_)
        · refine g_iinc (pc := 60) C (j := 4) [(4, .int (x4 + 1)), (0, .ref (a0 0)), (1, .ref (a1 0)), (2, .ref (a2 0)), (3, .int n1)] dX4_pour_60 rfl (ii_1 _) (by decide) rfl ?_
          refine g_goto (pc := 63) C (tgt := 12) dX4_pour_63 rfl ?_
          refine g_lv [1, 2, 3, 4, 0] rfl ?_
          exact ih (x4 + 1) s_wet s_lost s_gone s_many s_lying l_values l_stack h
        · refine g_aload_n (pc := 40) C 0 rfl dX4_pour_40 ?_
          refine g_aload_n (pc := 41) C 1 rfl dX4_pour_41 ?_
          refine g_iload (pc := 42) C 4 rfl dX4_pour_42 ?_
          refine g_aload_n (pc := 44) C 0 rfl dX4_pour_44 ?_
          refine g_aload_n (pc := 45) C 1 rfl dX4_pour_45 ?_
          refine g_aload_n (pc := 46) C 2 rfl dX4_pour_46 ?_
          refine g_iload (pc := 47) C 4 rfl dX4_pour_47 ?_
          refine g_iload_n (pc := 49) C 3 rfl dX4_pour_49 ?_
          refine g_aload_n (pc := 50) C 0 rfl dX4_pour_50 ?_
          refine g_get (pc := 51) C FOK_X4 0 rfl rfl 1 (by decide) kw_157 rfl dX4_pour_51 ?_
          obtain ⟨v3, c4, c5, hc, h⟩ := b3_of h
          refine g_callV (pc := 54) C (w' := cs_X4 J.2.2.1 a0 s_year s_wet s_lost s_eaten s_tied s_ripeMany s_gone s_place s_heard s_many s_lying s_ripe ++ cs_X2 J.2.2.1 a1 p_beds p_letters p_readers p_far p_drain p_length p_words p_home ++ cs_X1 J.2.2.1 a2 l_code c4 c5 l_length) (As := [.ref (a1 0), .ref (a2 0), .int x4, .int n1, .int s_wet]) (st := [.int x4, .ref (a1 0), .ref (a0 0)]) (ci := 4) (q0 := 0) rfl rfl (t_X4_runOf (a0 := a0) (a1 := a1) (a2 := a2) hc) Sub.same kw_895 kw_896 kw_897 kw_88 hy_X4_runOf kw_898 rfl (Nat.le_of_ble_eq_true rfl) (Nat.le_of_ble_eq_true rfl) (Nat.le_of_ble_eq_true rfl) (Nat.le_of_ble_eq_true rfl) (Nat.le_of_ble_eq_true rfl) dX4_pour_54 ?_
          obtain ⟨c6, c7, c8, c9, hc, h⟩ := b4_of h
          refine g_callV (pc := 57) C (w' := cs_X4 J.2.2.1 a0 s_year s_wet c6 s_eaten s_tied s_ripeMany c7 s_place s_heard c8 c9 s_ripe ++ cs_X2 J.2.2.1 a1 p_beds p_letters p_readers p_far p_drain p_length p_words p_home ++ cs_X1 J.2.2.1 a2 l_code c4 c5 l_length) (As := [.ref (a1 0), .int x4, .int v3]) (st := []) (ci := 4) (q0 := 0) rfl rfl (t_X4_runOut (a0 := a0) (a1 := a1) hc) (Sub.gen [0, 1, 2, 3, 4, 5, 6, 7, 8, 9, 10, 11, 12] [13, 14, 15, 16] [4, 5, 6, 7, 8, 9, 10, 11, 12, 13, 14, 15, 16, 0, 1, 2, 3] rfl (by decide) rfl (by decide) (by decide) rfl (by decide)) kw_906 kw_907 kw_908 kw_88 hy_X4_runOut kw_909 rfl (Nat.le_of_ble_eq_true rfl) (Nat.le_of_ble_eq_true rfl) (Nat.le_of_ble_eq_true rfl) (Nat.le_of_ble_eq_true rfl) (Nat.le_of_ble_eq_true rfl) dX4_pour_57 ?_
          refine g_iinc (pc := 60) C (j := 4) [(4, .int (x4 + 1)), (0, .ref (a0 0)), (1, .ref (a1 0)), (2, .ref (a2 0)), (3, .int n1)] dX4_pour_60 rfl (ii_1 _) (by decide) rfl ?_
          refine g_goto (pc := 63) C (tgt := 12) dX4_pour_63 rfl ?_
          refine g_lv [1, 2, 3, 4, 0] rfl ?_
          exact ih (x4 + 1) s_wet c6 c7 c8 c9 c4 c5 h
set_option maxRecDepth 100000 in
set_option maxHeartbeats 4000000 in
theorem t_X4_pour {J : Jt} {a0 : Nat → Nat} {a1 : Nat → Nat} {a2 : Nat → Nat} {s_year : Int32} {s_wet : Int32} {s_lost : Int32} {s_eaten : Int32} {s_tied : Int32} {s_ripeMany : Int32} {s_gone : Nat → Int32} {s_place : Nat → Int32} {s_heard : Nat → Int32} {s_many : Nat → Int32} {s_lying : Nat → Int32} {s_ripe : Nat → Int32} {p_beds : Int32} {p_letters : Int32} {p_readers : Int32} {p_far : Nat → Int32} {p_drain : Nat → Int32} {p_length : Nat → Int32} {p_words : Nat → Int32} {p_home : Nat → Int32} {l_code : Nat → Int32} {l_values : Nat → Int32} {l_stack : Nat → Int32} {l_length : Int32} {n1 : Int32} {o_s_wet : Int32} {o_s_lost : Int32} {o_s_gone : Nat → Int32} {o_s_many : Nat → Int32} {o_s_lying : Nat → Int32} {o_l_values : Nat → Int32} {o_l_stack : Nat → Int32} (h : f_X4_pour s_year s_wet s_lost s_tied s_gone s_many s_lying p_letters p_far p_drain p_length p_words l_code l_values l_stack l_length n1 = some (o_s_wet, o_s_lost, o_s_gone, o_s_many, o_s_lying, o_l_values, o_l_stack)) : Mt J yX4_pour cX4_pour 5 none rm_X4_pour [.ref (a0 0), .ref (a1 0), .ref (a2 0), .int n1] (cs_X4 J.2.2.1 a0 s_year s_wet s_lost s_eaten s_tied s_ripeMany s_gone s_place s_heard s_many s_lying s_ripe ++ cs_X2 J.2.2.1 a1 p_beds p_letters p_readers p_far p_drain p_length p_words p_home ++ cs_X1 J.2.2.1 a2 l_code l_values l_stack l_length) none (cs_X4 J.2.2.1 a0 s_year o_s_wet o_s_lost s_eaten s_tied s_ripeMany o_s_gone s_place s_heard o_s_many o_s_lying s_ripe ++ cs_X2 J.2.2.1 a1 p_beds p_letters p_readers p_far p_drain p_length p_words p_home ++ cs_X1 J.2.2.1 a2 l_code o_l_values o_l_stack l_length) := by
  refine Mt_of (own := RX4) (by decide) rfl (Nat.le_of_ble_eq_true rfl) rfl (fun Z C E => ?_)
  unfold f_X4_pour at h
  show G J Z 0 0 (cs_X4 J.2.2.1 a0 s_year s_wet s_lost s_eaten s_tied s_ripeMany s_gone s_place s_heard s_many s_lying s_ripe ++ cs_X2 J.2.2.1 a1 p_beds p_letters p_readers p_far p_drain p_length p_words p_home ++ cs_X1 J.2.2.1 a2 l_code l_values l_stack l_length) 5 [(0, .ref (a0 0)), (1, .ref (a1 0)), (2, .ref (a2 0)), (3, .int n1)] 0 []
  refine g_aload_n (pc := 0) C 0 rfl dX4_pour_0 ?_
  refine g_aload_n (pc := 1) C 0 rfl dX4_pour_1 ?_
  refine g_iload_n (pc := 2) C 3 rfl dX4_pour_2 ?_
  obtain ⟨v10, hc, h⟩ := b1_of h
  refine g_callV (pc := 3) C (w' := cs_X4 J.2.2.1 a0 s_year s_wet s_lost s_eaten s_tied s_ripeMany s_gone s_place s_heard s_many s_lying s_ripe ++ cs_X2 J.2.2.1 a1 p_beds p_letters p_readers p_far p_drain p_length p_words p_home ++ cs_X1 J.2.2.1 a2 l_code l_values l_stack l_length) (As := [.int n1]) (st := [.ref (a0 0)]) (ci := 4) (q0 := 0) rfl rfl (t_X4_wetBy (a0 := a0) hc) (Sub.gen [0, 1, 2, 3, 4, 5, 6] [7, 8, 9, 10, 11, 12, 13, 14, 15, 16] [10, 11, 12, 13, 14, 15, 16, 0, 1, 2, 3, 4, 5, 6, 7, 8, 9] rfl (by decide) rfl (by decide) (by decide) rfl (by decide)) kw_885 kw_886 kw_887 kw_88 hy_X4_wetBy kw_888 rfl (Nat.le_of_ble_eq_true rfl) (Nat.le_of_ble_eq_true rfl) (Nat.le_of_ble_eq_true rfl) (Nat.le_of_ble_eq_true rfl) (Nat.le_of_ble_eq_true rfl) dX4_pour_3 ?_
  refine g_put (pc := 6) C (w' := cs_X4 J.2.2.1 a0 s_year v10 s_lost s_eaten s_tied s_ripeMany s_gone s_place s_heard s_many s_lying s_ripe ++ cs_X2 J.2.2.1 a1 p_beds p_letters p_readers p_far p_drain p_length p_words p_home ++ cs_X1 J.2.2.1 a2 l_code l_values l_stack l_length) FOK_X4 0 rfl rfl 1 (by decide) kw_157 rfl rfl rfl (Nat.le_of_ble_eq_true rfl) dX4_pour_6 rfl ?_
  refine g_iconst (pc := 9) C dX4_pour_9 ci_0 ?_
  refine g_istore (pc := 10) C [(4, .int 0), (0, .ref (a0 0)), (1, .ref (a1 0)), (2, .ref (a2 0)), (3, .int n1)] dX4_pour_10 (by decide) rfl ?_
  refine g_lv [1, 2, 3, 4, 0] rfl ?_
  exact j_X4_pour_12 C E  FU 0 v10 s_lost s_gone s_many s_lying l_values l_stack h
noncomputable def f_X4_go (s_place : Nat → Int32) (s_heard : Nat → Int32) (s_many : Nat → Int32) (s_lying : Nat → Int32) (n1 : Int32) (n2 : Int32) : Option (Int32 × (Nat → Int32) × (Nat → Int32)) := if ixb n1 5 then if (s_place n1.toNatClampNeg) = n2 then some (0, s_place, s_heard) else if ixb n1 5 then if ixb n1 5 then b1 (f_X4_wordsIn s_many s_lying n2) (fun v1 => if ixb n1 5 then some (1, upd s_place n1.toNatClampNeg n2, upd s_heard n1.toNatClampNeg ((s_heard n1.toNatClampNeg) ||| v1)) else none) else none else none else none
def rm_X4_go : Room := { frames := 2, cells := 0, slots := 0, locals := 45 }
set_option maxRecDepth 100000 in
set_option maxHeartbeats 4000000 in
theorem t_X4_go {J : Jt} {a0 : Nat → Nat} {s_year : Int32} {s_wet : Int32} {s_lost : Int32} {s_eaten : Int32} {s_tied : Int32} {s_ripeMany : Int32} {s_gone : Nat → Int32} {s_place : Nat → Int32} {s_heard : Nat → Int32} {s_many : Nat → Int32} {s_lying : Nat → Int32} {s_ripe : Nat → Int32} {n1 : Int32} {n2 : Int32} {r : Int32} {o_s_place : Nat → Int32} {o_s_heard : Nat → Int32} (h : f_X4_go s_place s_heard s_many s_lying n1 n2 = some (r, o_s_place, o_s_heard)) : Mt J yX4_go cX4_go 3 (some .boolean) rm_X4_go [.ref (a0 0), .int n1, .int n2] (cs_X4 J.2.2.1 a0 s_year s_wet s_lost s_eaten s_tied s_ripeMany s_gone s_place s_heard s_many s_lying s_ripe) (some (.int r)) (cs_X4 J.2.2.1 a0 s_year s_wet s_lost s_eaten s_tied s_ripeMany s_gone o_s_place o_s_heard s_many s_lying s_ripe) := by
  refine Mt_of (own := RX4) (by decide) rfl (Nat.le_of_ble_eq_true rfl) rfl (fun Z C E => ?_)
  unfold f_X4_go at h
  show G J Z 0 0 (cs_X4 J.2.2.1 a0 s_year s_wet s_lost s_eaten s_tied s_ripeMany s_gone s_place s_heard s_many s_lying s_ripe) 3 [(0, .ref (a0 0)), (1, .int n1), (2, .int n2)] 0 []
  refine g_aload_n (pc := 0) C 0 rfl dX4_go_0 ?_
  refine g_get (pc := 1) C FOK_X4 0 rfl rfl 7 (by decide) kw_168 rfl dX4_go_1 ?_
  refine g_iload_n (pc := 4) C 1 rfl dX4_go_4 ?_
  obtain ⟨hi, h⟩ := ix_of h
  refine g_iald (pc := 5) C 2 rfl hi dX4_go_5 ?_
  refine g_iload_n (pc := 6) C 2 rfl dX4_go_6 ?_
  refine g_icmp_ne (pc := 7) C (tgt := 12) dX4_go_7 rfl h (fun h => ?_) (fun h => ?_)
  · refine g_aload_n (pc := 12) C 0 rfl dX4_go_12 ?_
    refine g_get (pc := 13) C FOK_X4 0 rfl rfl 7 (by decide) kw_168 rfl dX4_go_13 ?_
    refine g_iload_n (pc := 16) C 1 rfl dX4_go_16 ?_
    refine g_iload_n (pc := 17) C 2 rfl dX4_go_17 ?_
    obtain ⟨hi, h⟩ := ix_of h
    refine g_iast (pc := 18) C (w' := cs_X4 J.2.2.1 a0 s_year s_wet s_lost s_eaten s_tied s_ripeMany s_gone (upd s_place n1.toNatClampNeg n2) s_heard s_many s_lying s_ripe) 2 rfl hi dX4_go_18 rfl ?_
    refine g_aload_n (pc := 19) C 0 rfl dX4_go_19 ?_
    refine g_get (pc := 20) C FOK_X4 0 rfl rfl 8 (by decide) kw_170 rfl dX4_go_20 ?_
    refine g_iload_n (pc := 23) C 1 rfl dX4_go_23 ?_
    refine g_dup2 (pc := 24) C dX4_go_24 rfl rfl ?_
    obtain ⟨hi, h⟩ := ix_of h
    refine g_iald (pc := 25) C 3 rfl hi dX4_go_25 ?_
    refine g_aload_n (pc := 26) C 0 rfl dX4_go_26 ?_
    refine g_iload_n (pc := 27) C 2 rfl dX4_go_27 ?_
    obtain ⟨v1, hc, h⟩ := b1_of h
    refine g_callV (pc := 28) C (w' := cs_X4 J.2.2.1 a0 s_year s_wet s_lost s_eaten s_tied s_ripeMany s_gone (upd s_place n1.toNatClampNeg n2) s_heard s_many s_lying s_ripe) (As := [.int n2]) (st := [.int (s_heard n1.toNatClampNeg), .int n1, .ref (a0 3)]) (ci := 4) (q0 := 0) rfl rfl (t_X4_wordsIn (a0 := a0) hc) Sub.same kw_869 kw_870 kw_871 kw_88 hy_X4_wordsIn kw_872 rfl (Nat.le_of_ble_eq_true rfl) (Nat.le_of_ble_eq_true rfl) (Nat.le_of_ble_eq_true rfl) (Nat.le_of_ble_eq_true rfl) (Nat.le_of_ble_eq_true rfl) dX4_go_28 ?_
    refine g_ior (pc := 31) C dX4_go_31 ?_
    obtain ⟨hi, h⟩ := ix_of h
    refine g_iast (pc := 32) C (w' := cs_X4 J.2.2.1 a0 s_year s_wet s_lost s_eaten s_tied s_ripeMany s_gone (upd s_place n1.toNatClampNeg n2) (upd s_heard n1.toNatClampNeg ((s_heard n1.toNatClampNeg) ||| v1)) s_many s_lying s_ripe) 3 rfl hi dX4_go_32 rfl ?_
    refine g_iconst (pc := 33) C dX4_go_33 ci_1 ?_
    cases h
    exact g_zret C rfl E dX4_go_34
  · refine g_iconst (pc := 10) C dX4_go_10 ci_0 ?_
    cases h
    exact g_zret C rfl E dX4_go_11
noncomputable def f_X4_clearBed (s_eaten : Int32) (s_many : Nat → Int32) (n1 : Int32) : Option (Int32 × Int32 × (Nat → Int32)) := if ixb n1 6 then if (s_many n1.toNatClampNeg) = 0 then some (0, s_eaten, s_many) else if ixb n1 6 then if ixb n1 6 then some (1, s_eaten + (s_many n1.toNatClampNeg), upd s_many n1.toNatClampNeg 0) else none else none else none
def rm_X4_clearBed : Room := { frames := 0, cells := 0, slots := 0, locals := 0 }
set_option maxRecDepth 100000 in
set_option maxHeartbeats 4000000 in
theorem t_X4_clearBed {J : Jt} {a0 : Nat → Nat} {s_year : Int32} {s_wet : Int32} {s_lost : Int32} {s_eaten : Int32} {s_tied : Int32} {s_ripeMany : Int32} {s_gone : Nat → Int32} {s_place : Nat → Int32} {s_heard : Nat → Int32} {s_many : Nat → Int32} {s_lying : Nat → Int32} {s_ripe : Nat → Int32} {n1 : Int32} {r : Int32} {o_s_eaten : Int32} {o_s_many : Nat → Int32} (h : f_X4_clearBed s_eaten s_many n1 = some (r, o_s_eaten, o_s_many)) : Mt J yX4_clearBed cX4_clearBed 2 (some .boolean) rm_X4_clearBed [.ref (a0 0), .int n1] (cs_X4 J.2.2.1 a0 s_year s_wet s_lost s_eaten s_tied s_ripeMany s_gone s_place s_heard s_many s_lying s_ripe) (some (.int r)) (cs_X4 J.2.2.1 a0 s_year s_wet s_lost o_s_eaten s_tied s_ripeMany s_gone s_place s_heard o_s_many s_lying s_ripe) := by
  refine Mt_of (own := RX4) (by decide) rfl (Nat.le_of_ble_eq_true rfl) rfl (fun Z C E => ?_)
  unfold f_X4_clearBed at h
  show G J Z 0 0 (cs_X4 J.2.2.1 a0 s_year s_wet s_lost s_eaten s_tied s_ripeMany s_gone s_place s_heard s_many s_lying s_ripe) 2 [(0, .ref (a0 0)), (1, .int n1)] 0 []
  refine g_aload_n (pc := 0) C 0 rfl dX4_clearBed_0 ?_
  refine g_get (pc := 1) C FOK_X4 0 rfl rfl 9 (by decide) kw_172 rfl dX4_clearBed_1 ?_
  refine g_iload_n (pc := 4) C 1 rfl dX4_clearBed_4 ?_
  obtain ⟨hi, h⟩ := ix_of h
  refine g_iald (pc := 5) C 4 rfl hi dX4_clearBed_5 ?_
  refine g_if_ne (pc := 6) C (tgt := 11) dX4_clearBed_6 rfl h (fun h => ?_) (fun h => ?_)
  · refine g_aload_n (pc := 11) C 0 rfl dX4_clearBed_11 ?_
    refine g_dup (pc := 12) C dX4_clearBed_12 rfl ?_
    refine g_get (pc := 13) C FOK_X4 0 rfl rfl 3 (by decide) kw_161 rfl dX4_clearBed_13 ?_
    refine g_aload_n (pc := 16) C 0 rfl dX4_clearBed_16 ?_
    refine g_get (pc := 17) C FOK_X4 0 rfl rfl 9 (by decide) kw_172 rfl dX4_clearBed_17 ?_
    refine g_iload_n (pc := 20) C 1 rfl dX4_clearBed_20 ?_
    obtain ⟨hi, h⟩ := ix_of h
    refine g_iald (pc := 21) C 4 rfl hi dX4_clearBed_21 ?_
    refine g_iadd (pc := 22) C dX4_clearBed_22 ?_
    refine g_put (pc := 23) C (w' := cs_X4 J.2.2.1 a0 s_year s_wet s_lost (s_eaten + (s_many n1.toNatClampNeg)) s_tied s_ripeMany s_gone s_place s_heard s_many s_lying s_ripe) FOK_X4 0 rfl rfl 3 (by decide) kw_161 rfl rfl rfl (Nat.le_of_ble_eq_true rfl) dX4_clearBed_23 rfl ?_
    refine g_aload_n (pc := 26) C 0 rfl dX4_clearBed_26 ?_
    refine g_get (pc := 27) C FOK_X4 0 rfl rfl 9 (by decide) kw_172 rfl dX4_clearBed_27 ?_
    refine g_iload_n (pc := 30) C 1 rfl dX4_clearBed_30 ?_
    refine g_iconst (pc := 31) C dX4_clearBed_31 ci_0 ?_
    obtain ⟨hi, h⟩ := ix_of h
    refine g_iast (pc := 32) C (w' := cs_X4 J.2.2.1 a0 s_year s_wet s_lost (s_eaten + (s_many n1.toNatClampNeg)) s_tied s_ripeMany s_gone s_place s_heard (upd s_many n1.toNatClampNeg 0) s_lying s_ripe) 4 rfl hi dX4_clearBed_32 rfl ?_
    refine g_iconst (pc := 33) C dX4_clearBed_33 ci_1 ?_
    cases h
    exact g_zret C rfl E dX4_clearBed_34
  · refine g_iconst (pc := 9) C dX4_clearBed_9 ci_0 ?_
    cases h
    exact g_zret C rfl E dX4_clearBed_10
noncomputable def f_X4_ripen_30  (n1 : Int32) (s_ripeMany : Int32) (s_ripe : Nat → Int32) : Option (Int32 × (Nat → Int32)) := if ixb s_ripeMany 60 then some (s_ripeMany + 1, upd s_ripe s_ripeMany.toNatClampNeg n1) else none
noncomputable def f_X4_ripen (s_ripeMany : Int32) (s_ripe : Nat → Int32) (n1 : Int32) : Option (Int32 × (Nat → Int32)) := if s_ripeMany < 60 then f_X4_ripen_30 n1 s_ripeMany s_ripe else if cpb 1 0 59 60 60 then f_X4_ripen_30 n1 59 (va_cpy s_ripe s_ripe (1 : Int32).toNatClampNeg (0 : Int32).toNatClampNeg (59 : Int32).toNatClampNeg) else none
def rm_X4_ripen : Room := { frames := 1, cells := 0, slots := 0, locals := 80 }
set_option maxRecDepth 100000 in
set_option maxHeartbeats 4000000 in
theorem j_X4_ripen_30 {J : Jt} {Z : Zt} {a0 : Nat → Nat} {s_year : Int32} {s_wet : Int32} {s_lost : Int32} {s_eaten : Int32} {s_tied : Int32} {s_gone : Nat → Int32} {s_place : Nat → Int32} {s_heard : Nat → Int32} {s_many : Nat → Int32} {s_lying : Nat → Int32} {n1 : Int32} {o_s_ripeMany : Int32} {o_s_ripe : Nat → Int32} (C : Cx J Z cX4_ripen 2 RX4 none rm_X4_ripen) (E : Ez J Z 0 0 none (cs_X4 J.2.2.1 a0 s_year s_wet s_lost s_eaten s_tied o_s_ripeMany s_gone s_place s_heard s_many s_lying o_s_ripe)) : ∀ (s_ripeMany : Int32) (s_ripe : Nat → Int32), f_X4_ripen_30 n1 s_ripeMany s_ripe = some (o_s_ripeMany, o_s_ripe) → G J Z 0 0 (cs_X4 J.2.2.1 a0 s_year s_wet s_lost s_eaten s_tied s_ripeMany s_gone s_place s_heard s_many s_lying s_ripe) 2 [(0, .ref (a0 0)), (1, .int n1)] 30 [] := by
  intro s_ripeMany s_ripe h
  unfold f_X4_ripen_30 at h
  refine g_aload_n (pc := 30) C 0 rfl dX4_ripen_30 ?_
  refine g_get (pc := 31) C FOK_X4 0 rfl rfl 11 (by decide) kw_175 rfl dX4_ripen_31 ?_
  refine g_aload_n (pc := 34) C 0 rfl dX4_ripen_34 ?_
  refine g_get (pc := 35) C FOK_X4 0 rfl rfl 5 (by decide) kw_165 rfl dX4_ripen_35 ?_
  refine g_iload_n (pc := 38) C 1 rfl dX4_ripen_38 ?_
  obtain ⟨hi, h⟩ := ix_of h
  refine g_iast (pc := 39) C (w' := cs_X4 J.2.2.1 a0 s_year s_wet s_lost s_eaten s_tied s_ripeMany s_gone s_place s_heard s_many s_lying (upd s_ripe s_ripeMany.toNatClampNeg n1)) 6 rfl hi dX4_ripen_39 rfl ?_
  refine g_aload_n (pc := 40) C 0 rfl dX4_ripen_40 ?_
  refine g_dup (pc := 41) C dX4_ripen_41 rfl ?_
  refine g_get (pc := 42) C FOK_X4 0 rfl rfl 5 (by decide) kw_165 rfl dX4_ripen_42 ?_
  refine g_iconst (pc := 45) C dX4_ripen_45 ci_1 ?_
  refine g_iadd (pc := 46) C dX4_ripen_46 ?_
  refine g_put (pc := 47) C (w' := cs_X4 J.2.2.1 a0 s_year s_wet s_lost s_eaten s_tied (s_ripeMany + 1) s_gone s_place s_heard s_many s_lying (upd s_ripe s_ripeMany.toNatClampNeg n1)) FOK_X4 0 rfl rfl 5 (by decide) kw_165 rfl rfl rfl (Nat.le_of_ble_eq_true rfl) dX4_ripen_47 rfl ?_
  cases h
  exact g_vret C E dX4_ripen_50
set_option maxRecDepth 100000 in
set_option maxHeartbeats 4000000 in
theorem t_X4_ripen {J : Jt} {a0 : Nat → Nat} {s_year : Int32} {s_wet : Int32} {s_lost : Int32} {s_eaten : Int32} {s_tied : Int32} {s_ripeMany : Int32} {s_gone : Nat → Int32} {s_place : Nat → Int32} {s_heard : Nat → Int32} {s_many : Nat → Int32} {s_lying : Nat → Int32} {s_ripe : Nat → Int32} {n1 : Int32} {o_s_ripeMany : Int32} {o_s_ripe : Nat → Int32} (h : f_X4_ripen s_ripeMany s_ripe n1 = some (o_s_ripeMany, o_s_ripe)) : Mt J yX4_ripen cX4_ripen 2 none rm_X4_ripen [.ref (a0 0), .int n1] (cs_X4 J.2.2.1 a0 s_year s_wet s_lost s_eaten s_tied s_ripeMany s_gone s_place s_heard s_many s_lying s_ripe) none (cs_X4 J.2.2.1 a0 s_year s_wet s_lost s_eaten s_tied o_s_ripeMany s_gone s_place s_heard s_many s_lying o_s_ripe) := by
  refine Mt_of (own := RX4) (by decide) rfl (Nat.le_of_ble_eq_true rfl) rfl (fun Z C E => ?_)
  unfold f_X4_ripen at h
  show G J Z 0 0 (cs_X4 J.2.2.1 a0 s_year s_wet s_lost s_eaten s_tied s_ripeMany s_gone s_place s_heard s_many s_lying s_ripe) 2 [(0, .ref (a0 0)), (1, .int n1)] 0 []
  refine g_aload_n (pc := 0) C 0 rfl dX4_ripen_0 ?_
  refine g_get (pc := 1) C FOK_X4 0 rfl rfl 5 (by decide) kw_165 rfl dX4_ripen_1 ?_
  refine g_bipush (pc := 4) C dX4_ripen_4 cb_60 ?_
  refine g_icmp_lt (pc := 6) C (tgt := 30) dX4_ripen_6 rfl h (fun h => ?_) (fun h => ?_)
  · exact j_X4_ripen_30 C E  s_ripeMany s_ripe h
  · refine g_aload_n (pc := 9) C 0 rfl dX4_ripen_9 ?_
    refine g_get (pc := 10) C FOK_X4 0 rfl rfl 11 (by decide) kw_175 rfl dX4_ripen_10 ?_
    refine g_iconst (pc := 13) C dX4_ripen_13 ci_1 ?_
    refine g_aload_n (pc := 14) C 0 rfl dX4_ripen_14 ?_
    refine g_get (pc := 15) C FOK_X4 0 rfl rfl 11 (by decide) kw_175 rfl dX4_ripen_15 ?_
    refine g_iconst (pc := 18) C dX4_ripen_18 ci_0 ?_
    refine g_bipush (pc := 19) C dX4_ripen_19 cb_59 ?_
    obtain ⟨hi, h⟩ := cp_of h
    refine g_copyi (pc := 21) C (w' := cs_X4 J.2.2.1 a0 s_year s_wet s_lost s_eaten s_tied s_ripeMany s_gone s_place s_heard s_many s_lying (va_cpy s_ripe s_ripe (1 : Int32).toNatClampNeg (0 : Int32).toNatClampNeg (59 : Int32).toNatClampNeg)) kw_449 kw_451 kw_450 kw_106 6 6 rfl rfl hi (Nat.le_of_ble_eq_true rfl) (Nat.le_of_ble_eq_true rfl) dX4_ripen_21 rfl ?_
    refine g_aload_n (pc := 24) C 0 rfl dX4_ripen_24 ?_
    refine g_bipush (pc := 25) C dX4_ripen_25 cb_59 ?_
    refine g_put (pc := 27) C (w' := cs_X4 J.2.2.1 a0 s_year s_wet s_lost s_eaten s_tied 59 s_gone s_place s_heard s_many s_lying (va_cpy s_ripe s_ripe (1 : Int32).toNatClampNeg (0 : Int32).toNatClampNeg (59 : Int32).toNatClampNeg)) FOK_X4 0 rfl rfl 5 (by decide) kw_165 rfl rfl rfl (Nat.le_of_ble_eq_true rfl) dX4_ripen_27 rfl ?_
    exact j_X4_ripen_30 C E  59 (va_cpy s_ripe s_ripe (1 : Int32).toNatClampNeg (0 : Int32).toNatClampNeg (59 : Int32).toNatClampNeg) h
noncomputable def f_X4_passYear_2 (p_beds : Int32) : Nat → Int32 → Int32 → Int32 → Int32 → (Nat → Int32) → (Nat → Int32) → (Nat → Int32) → Option (Int32 × Int32 × Int32 × (Nat → Int32) × (Nat → Int32) × (Nat → Int32))
  | 0, _, _, _, _, _, _, _ => none
  | n + 1, x2, s_year, s_wet, s_ripeMany, s_many, s_lying, s_ripe => if p_beds ≤ x2 then some (s_year + 1, s_wet / 2, s_ripeMany, s_many, s_lying, s_ripe) else if ixb x2 6 then if (s_many x2.toNatClampNeg) ≤ 0 then f_X4_passYear_2 p_beds n (x2 + 1) s_year s_wet s_ripeMany s_many s_lying s_ripe else b1 (f_X4_lyingAt s_many s_lying x2 0) (fun v1 => b2 (f_X4_ripen s_ripeMany s_ripe v1) (fun c2 c3 => if cpb ((x2 * 12) + 1) (x2 * 12) 11 72 72 then if ixb x2 6 then if ixb x2 6 then f_X4_passYear_2 p_beds n (x2 + 1) s_year s_wet c2 (upd s_many x2.toNatClampNeg ((s_many x2.toNatClampNeg) - 1)) (va_cpy s_lying s_lying ((x2 * 12) + 1).toNatClampNeg (x2 * 12).toNatClampNeg (11 : Int32).toNatClampNeg) c3 else none else none else none)) else none
noncomputable def f_X4_passYear (s_year : Int32) (s_wet : Int32) (s_ripeMany : Int32) (s_many : Nat → Int32) (s_lying : Nat → Int32) (s_ripe : Nat → Int32) (p_beds : Int32) : Option (Int32 × Int32 × Int32 × (Nat → Int32) × (Nat → Int32) × (Nat → Int32)) := f_X4_passYear_2 p_beds FU 0 s_year s_wet s_ripeMany s_many s_lying s_ripe
def rm_X4_passYear : Room := { frames := 2, cells := 0, slots := 0, locals := 101 }
set_option maxRecDepth 100000 in
set_option maxHeartbeats 4000000 in
theorem j_X4_passYear_2 {J : Jt} {Z : Zt} {a0 : Nat → Nat} {a1 : Nat → Nat} {s_lost : Int32} {s_eaten : Int32} {s_tied : Int32} {s_gone : Nat → Int32} {s_place : Nat → Int32} {s_heard : Nat → Int32} {p_beds : Int32} {p_letters : Int32} {p_readers : Int32} {p_far : Nat → Int32} {p_drain : Nat → Int32} {p_length : Nat → Int32} {p_words : Nat → Int32} {p_home : Nat → Int32} {o_s_year : Int32} {o_s_wet : Int32} {o_s_ripeMany : Int32} {o_s_many : Nat → Int32} {o_s_lying : Nat → Int32} {o_s_ripe : Nat → Int32} (C : Cx J Z cX4_passYear 3 RX4 none rm_X4_passYear) (E : Ez J Z 0 0 none (cs_X4 J.2.2.1 a0 o_s_year o_s_wet s_lost s_eaten s_tied o_s_ripeMany s_gone s_place s_heard o_s_many o_s_lying o_s_ripe ++ cs_X2 J.2.2.1 a1 p_beds p_letters p_readers p_far p_drain p_length p_words p_home)) : ∀ (n : Nat) (x2 : Int32) (s_year : Int32) (s_wet : Int32) (s_ripeMany : Int32) (s_many : Nat → Int32) (s_lying : Nat → Int32) (s_ripe : Nat → Int32), f_X4_passYear_2 p_beds n x2 s_year s_wet s_ripeMany s_many s_lying s_ripe = some (o_s_year, o_s_wet, o_s_ripeMany, o_s_many, o_s_lying, o_s_ripe) → G J Z 0 0 (cs_X4 J.2.2.1 a0 s_year s_wet s_lost s_eaten s_tied s_ripeMany s_gone s_place s_heard s_many s_lying s_ripe ++ cs_X2 J.2.2.1 a1 p_beds p_letters p_readers p_far p_drain p_length p_words p_home) 3 [(0, .ref (a0 0)), (1, .ref (a1 0)), (2, .int x2)] 2 [] := by
  intro n
  induction n with
  | zero =>
    intro x2 s_year s_wet s_ripeMany s_many s_lying s_ripe h
    rw [f_X4_passYear_2] at h
    cases h
  | succ n ih =>
    intro x2 s_year s_wet s_ripeMany s_many s_lying s_ripe h
    rw [f_X4_passYear_2] at h
    refine g_iload_n (pc := 2) C 2 rfl dX4_passYear_2 ?_
    refine g_aload_n (pc := 3) C 1 rfl dX4_passYear_3 ?_
    refine g_get (pc := 4) C FOK_X2 7 rfl rfl 0 (by decide) kw_280 rfl dX4_passYear_4 ?_
    refine g_icmp_ge (pc := 7) C (tgt := 68) dX4_passYear_7 rfl h (fun h => ?_) (fun h => ?_)
    · refine g_aload_n (pc := 68) C 0 rfl dX4_passYear_68 ?_
      refine g_dup (pc := 69) C dX4_passYear_69 rfl ?_
      refine g_get (pc := 70) C FOK_X4 0 rfl rfl 1 (by decide) kw_157 rfl dX4_passYear_70 ?_
      refine g_iconst (pc := 73) C dX4_passYear_73 ci_2 ?_
      refine g_idiv (pc := 74) C dX4_passYear_74 (by decide) ?_
      refine g_put (pc := 75) C (w' := cs_X4 J.2.2.1 a0 s_year (s_wet / 2) s_lost s_eaten s_tied s_ripeMany s_gone s_place s_heard s_many s_lying s_ripe ++ cs_X2 J.2.2.1 a1 p_beds p_letters p_readers p_far p_drain p_length p_words p_home) FOK_X4 0 rfl rfl 1 (by decide) kw_157 rfl rfl rfl (Nat.le_of_ble_eq_true rfl) dX4_passYear_75 rfl ?_
      refine g_aload_n (pc := 78) C 0 rfl dX4_passYear_78 ?_
      refine g_dup (pc := 79) C dX4_passYear_79 rfl ?_
      refine g_get (pc := 80) C FOK_X4 0 rfl rfl 0 (by decide) kw_154 rfl dX4_passYear_80 ?_
      refine g_iconst (pc := 83) C dX4_passYear_83 ci_1 ?_
      refine g_iadd (pc := 84) C dX4_passYear_84 ?_
      refine g_put (pc := 85) C (w' := cs_X4 J.2.2.1 a0 (s_year + 1) (s_wet / 2) s_lost s_eaten s_tied s_ripeMany s_gone s_place s_heard s_many s_lying s_ripe ++ cs_X2 J.2.2.1 a1 p_beds p_letters p_readers p_far p_drain p_length p_words p_home) FOK_X4 0 rfl rfl 0 (by decide) kw_154 rfl rfl rfl (Nat.le_of_ble_eq_true rfl) dX4_passYear_85 rfl ?_
      cases h
      exact g_vret C E dX4_passYear_88
    · refine g_aload_n (pc := 10) C 0 rfl dX4_passYear_10 ?_
      refine g_get (pc := 11) C FOK_X4 0 rfl rfl 9 (by decide) kw_172 rfl dX4_passYear_11 ?_
      refine g_iload_n (pc := 14) C 2 rfl dX4_passYear_14 ?_
      obtain ⟨hi, h⟩ := ix_of h
      refine g_iald (pc := 15) C 4 rfl hi dX4_passYear_15 ?_
      refine g_if_le (pc := 16) C (tgt := 62) dX4_passYear_16 rfl h (fun h => ?_) (fun h => ?_)
      · refine g_iinc (pc := 62) C (j := 2) [(2, .int (x2 + 1)), (0, .ref (a0 0)), (1, .ref (a1 0))] dX4_passYear_62 rfl (ii_1 _) (by decide) rfl ?_
        refine g_goto (pc := 65) C (tgt := 2) dX4_passYear_65 rfl ?_
        refine g_lv [1, 2, 0] rfl ?_
        exact ih (x2 + 1) s_year s_wet s_ripeMany s_many s_lying s_ripe h
      · refine g_aload_n (pc := 19) C 0 rfl dX4_passYear_19 ?_
        refine g_aload_n (pc := 20) C 0 rfl dX4_passYear_20 ?_
        refine g_iload_n (pc := 21) C 2 rfl dX4_passYear_21 ?_
        refine g_iconst (pc := 22) C dX4_passYear_22 ci_0 ?_
        obtain ⟨v1, hc, h⟩ := b1_of h
        refine g_callV (pc := 23) C (w' := cs_X4 J.2.2.1 a0 s_year s_wet s_lost s_eaten s_tied s_ripeMany s_gone s_place s_heard s_many s_lying s_ripe ++ cs_X2 J.2.2.1 a1 p_beds p_letters p_readers p_far p_drain p_length p_words p_home) (As := [.int x2, .int 0]) (st := [.ref (a0 0)]) (ci := 4) (q0 := 0) rfl rfl (t_X4_lyingAt (a0 := a0) hc) (Sub.gen [0, 1, 2, 3, 4, 5, 6] [7, 8, 9, 10, 11, 12] [6, 7, 8, 9, 10, 11, 12, 0, 1, 2, 3, 4, 5] rfl (by decide) rfl (by decide) (by decide) rfl (by decide)) kw_873 kw_874 kw_875 kw_88 hy_X4_lyingAt kw_876 rfl (Nat.le_of_ble_eq_true rfl) (Nat.le_of_ble_eq_true rfl) (Nat.le_of_ble_eq_true rfl) (Nat.le_of_ble_eq_true rfl) (Nat.le_of_ble_eq_true rfl) dX4_passYear_23 ?_
        obtain ⟨c2, c3, hc, h⟩ := b2_of h
        refine g_callV (pc := 26) C (w' := cs_X4 J.2.2.1 a0 s_year s_wet s_lost s_eaten s_tied c2 s_gone s_place s_heard s_many s_lying c3 ++ cs_X2 J.2.2.1 a1 p_beds p_letters p_readers p_far p_drain p_length p_words p_home) (As := [.int v1]) (st := []) (ci := 4) (q0 := 0) rfl rfl (t_X4_ripen (a0 := a0) hc) (Sub.gen [0, 1, 2, 3, 4, 5, 6] [7, 8, 9, 10, 11, 12] [6, 7, 8, 9, 10, 11, 12, 0, 1, 2, 3, 4, 5] rfl (by decide) rfl (by decide) (by decide) rfl (by decide)) kw_914 kw_915 kw_916 kw_88 hy_X4_ripen kw_917 rfl (Nat.le_of_ble_eq_true rfl) (Nat.le_of_ble_eq_true rfl) (Nat.le_of_ble_eq_true rfl) (Nat.le_of_ble_eq_true rfl) (Nat.le_of_ble_eq_true rfl) dX4_passYear_26 ?_
        refine g_aload_n (pc := 29) C 0 rfl dX4_passYear_29 ?_
        refine g_get (pc := 30) C FOK_X4 0 rfl rfl 10 (by decide) kw_174 rfl dX4_passYear_30 ?_
        refine g_iload_n (pc := 33) C 2 rfl dX4_passYear_33 ?_
        refine g_bipush (pc := 34) C dX4_passYear_34 cb_12 ?_
        refine g_imul (pc := 36) C dX4_passYear_36 ?_
        refine g_iconst (pc := 37) C dX4_passYear_37 ci_1 ?_
        refine g_iadd (pc := 38) C dX4_passYear_38 ?_
        refine g_aload_n (pc := 39) C 0 rfl dX4_passYear_39 ?_
        refine g_get (pc := 40) C FOK_X4 0 rfl rfl 10 (by decide) kw_174 rfl dX4_passYear_40 ?_
        refine g_iload_n (pc := 43) C 2 rfl dX4_passYear_43 ?_
        refine g_bipush (pc := 44) C dX4_passYear_44 cb_12 ?_
        refine g_imul (pc := 46) C dX4_passYear_46 ?_
        refine g_bipush (pc := 47) C dX4_passYear_47 cb_11 ?_
        obtain ⟨hi, h⟩ := cp_of h
        refine g_copyi (pc := 49) C (w' := cs_X4 J.2.2.1 a0 s_year s_wet s_lost s_eaten s_tied c2 s_gone s_place s_heard s_many (va_cpy s_lying s_lying ((x2 * 12) + 1).toNatClampNeg (x2 * 12).toNatClampNeg (11 : Int32).toNatClampNeg) c3 ++ cs_X2 J.2.2.1 a1 p_beds p_letters p_readers p_far p_drain p_length p_words p_home) kw_449 kw_451 kw_450 kw_106 5 5 rfl rfl hi (Nat.le_of_ble_eq_true rfl) (Nat.le_of_ble_eq_true rfl) dX4_passYear_49 rfl ?_
        refine g_aload_n (pc := 52) C 0 rfl dX4_passYear_52 ?_
        refine g_get (pc := 53) C FOK_X4 0 rfl rfl 9 (by decide) kw_172 rfl dX4_passYear_53 ?_
        refine g_iload_n (pc := 56) C 2 rfl dX4_passYear_56 ?_
        refine g_dup2 (pc := 57) C dX4_passYear_57 rfl rfl ?_
        obtain ⟨hi, h⟩ := ix_of h
        refine g_iald (pc := 58) C 4 rfl hi dX4_passYear_58 ?_
        refine g_iconst (pc := 59) C dX4_passYear_59 ci_1 ?_
        refine g_isub (pc := 60) C dX4_passYear_60 ?_
        obtain ⟨hi, h⟩ := ix_of h
        refine g_iast (pc := 61) C (w' := cs_X4 J.2.2.1 a0 s_year s_wet s_lost s_eaten s_tied c2 s_gone s_place s_heard (upd s_many x2.toNatClampNeg ((s_many x2.toNatClampNeg) - 1)) (va_cpy s_lying s_lying ((x2 * 12) + 1).toNatClampNeg (x2 * 12).toNatClampNeg (11 : Int32).toNatClampNeg) c3 ++ cs_X2 J.2.2.1 a1 p_beds p_letters p_readers p_far p_drain p_length p_words p_home) 4 rfl hi dX4_passYear_61 rfl ?_
        refine g_iinc (pc := 62) C (j := 2) [(2, .int (x2 + 1)), (0, .ref (a0 0)), (1, .ref (a1 0))] dX4_passYear_62 rfl (ii_1 _) (by decide) rfl ?_
        refine g_goto (pc := 65) C (tgt := 2) dX4_passYear_65 rfl ?_
        refine g_lv [1, 2, 0] rfl ?_
        exact ih (x2 + 1) s_year s_wet c2 (upd s_many x2.toNatClampNeg ((s_many x2.toNatClampNeg) - 1)) (va_cpy s_lying s_lying ((x2 * 12) + 1).toNatClampNeg (x2 * 12).toNatClampNeg (11 : Int32).toNatClampNeg) c3 h
set_option maxRecDepth 100000 in
set_option maxHeartbeats 4000000 in
theorem t_X4_passYear {J : Jt} {a0 : Nat → Nat} {a1 : Nat → Nat} {s_year : Int32} {s_wet : Int32} {s_lost : Int32} {s_eaten : Int32} {s_tied : Int32} {s_ripeMany : Int32} {s_gone : Nat → Int32} {s_place : Nat → Int32} {s_heard : Nat → Int32} {s_many : Nat → Int32} {s_lying : Nat → Int32} {s_ripe : Nat → Int32} {p_beds : Int32} {p_letters : Int32} {p_readers : Int32} {p_far : Nat → Int32} {p_drain : Nat → Int32} {p_length : Nat → Int32} {p_words : Nat → Int32} {p_home : Nat → Int32} {o_s_year : Int32} {o_s_wet : Int32} {o_s_ripeMany : Int32} {o_s_many : Nat → Int32} {o_s_lying : Nat → Int32} {o_s_ripe : Nat → Int32} (h : f_X4_passYear s_year s_wet s_ripeMany s_many s_lying s_ripe p_beds = some (o_s_year, o_s_wet, o_s_ripeMany, o_s_many, o_s_lying, o_s_ripe)) : Mt J yX4_passYear cX4_passYear 3 none rm_X4_passYear [.ref (a0 0), .ref (a1 0)] (cs_X4 J.2.2.1 a0 s_year s_wet s_lost s_eaten s_tied s_ripeMany s_gone s_place s_heard s_many s_lying s_ripe ++ cs_X2 J.2.2.1 a1 p_beds p_letters p_readers p_far p_drain p_length p_words p_home) none (cs_X4 J.2.2.1 a0 o_s_year o_s_wet s_lost s_eaten s_tied o_s_ripeMany s_gone s_place s_heard o_s_many o_s_lying o_s_ripe ++ cs_X2 J.2.2.1 a1 p_beds p_letters p_readers p_far p_drain p_length p_words p_home) := by
  refine Mt_of (own := RX4) (by decide) rfl (Nat.le_of_ble_eq_true rfl) rfl (fun Z C E => ?_)
  unfold f_X4_passYear at h
  show G J Z 0 0 (cs_X4 J.2.2.1 a0 s_year s_wet s_lost s_eaten s_tied s_ripeMany s_gone s_place s_heard s_many s_lying s_ripe ++ cs_X2 J.2.2.1 a1 p_beds p_letters p_readers p_far p_drain p_length p_words p_home) 3 [(0, .ref (a0 0)), (1, .ref (a1 0))] 0 []
  refine g_iconst (pc := 0) C dX4_passYear_0 ci_0 ?_
  refine g_istore_n (pc := 1) C [(2, .int 0), (0, .ref (a0 0)), (1, .ref (a1 0))] dX4_passYear_1 rfl (by decide) rfl ?_
  refine g_lv [1, 2, 0] rfl ?_
  exact j_X4_passYear_2 C E  FU 0 s_year s_wet s_ripeMany s_many s_lying s_ripe h
noncomputable def f_X5_worth_20 (f_seam : Nat → Int32) (f_toCome : Nat → Int32) (n1 : Int32) (n2 : Int32) (n3 : Int32) (y0 : Int32) : Option (Int32) := if ixb (((n3 &&& (((1 : Int32) <<< (n2 &&& 31)) ^^^ (-1))) * 6) + n2) 384 then some (y0 + (f_toCome (((n3 &&& (((1 : Int32) <<< (n2 &&& 31)) ^^^ (-1))) * 6) + n2).toNatClampNeg)) else none
noncomputable def f_X5_worth (f_seam : Nat → Int32) (f_toCome : Nat → Int32) (n1 : Int32) (n2 : Int32) (n3 : Int32) : Option (Int32) := if n1 = (-1) then f_X5_worth_20 f_seam f_toCome n1 n2 n3 0 else if ixb ((n1 * 6) + n2) 36 then f_X5_worth_20 f_seam f_toCome n1 n2 n3 (f_seam ((n1 * 6) + n2).toNatClampNeg) else none
def rm_X5_worth : Room := { frames := 0, cells := 0, slots := 0, locals := 0 }
set_option maxRecDepth 100000 in
set_option maxHeartbeats 4000000 in
theorem j_X5_worth_20 {J : Jt} {Z : Zt} {a0 : Nat → Nat} {f_order : Nat → Int32} {f_seam : Nat → Int32} {f_toCome : Nat → Int32} {f_places : Int32} {f_seams : Int32} {n1 : Int32} {n2 : Int32} {n3 : Int32} {r : Int32} (C : Cx J Z cX5_worth 5 RX5 (some .int) rm_X5_worth) (E : Ez J Z 0 0 (some (.int r)) (cs_X5 J.2.2.1 a0 f_order f_seam f_toCome f_places f_seams)) : ∀ (y0 : Int32), f_X5_worth_20 f_seam f_toCome n1 n2 n3 y0 = some r → G J Z 0 0 (cs_X5 J.2.2.1 a0 f_order f_seam f_toCome f_places f_seams) 5 [(0, .ref (a0 0)), (2, .int n2), (3, .int n3)] 20 [.int y0] := by
  intro y0 h
  unfold f_X5_worth_20 at h
  refine g_istore (pc := 20) C [(4, .int y0), (0, .ref (a0 0)), (2, .int n2), (3, .int n3)] dX5_worth_20 (by decide) rfl ?_
  refine g_iload (pc := 22) C 0 rfl dX5_worth_22 ?_
  refine g_aload_n (pc := 24) C 1 rfl dX5_worth_24 ?_
  refine g_get (pc := 25) C FOK_X5 0 rfl rfl 2 (by decide) kw_251 rfl dX5_worth_25 ?_
  refine g_iload_n (pc := 28) C 3 rfl dX5_worth_28 ?_
  refine g_iconst (pc := 29) C dX5_worth_29 ci_1 ?_
  refine g_iload_n (pc := 30) C 2 rfl dX5_worth_30 ?_
  refine g_ishl (pc := 31) C dX5_worth_31 ?_
  refine g_iconst (pc := 32) C dX5_worth_32 ci_m1 ?_
  refine g_ixor (pc := 33) C dX5_worth_33 ?_
  refine g_iand (pc := 34) C dX5_worth_34 ?_
  refine g_bipush (pc := 35) C dX5_worth_35 cb_6 ?_
  refine g_imul (pc := 37) C dX5_worth_37 ?_
  refine g_iload_n (pc := 38) C 2 rfl dX5_worth_38 ?_
  refine g_iadd (pc := 39) C dX5_worth_39 ?_
  obtain ⟨hi, h⟩ := ix_of h
  refine g_iald (pc := 40) C 3 rfl hi dX5_worth_40 ?_
  refine g_iadd (pc := 41) C dX5_worth_41 ?_
  cases h
  exact g_iret C E dX5_worth_42
set_option maxRecDepth 100000 in
set_option maxHeartbeats 4000000 in
theorem t_X5_worth {J : Jt} {a0 : Nat → Nat} {f_order : Nat → Int32} {f_seam : Nat → Int32} {f_toCome : Nat → Int32} {f_places : Int32} {f_seams : Int32} {n1 : Int32} {n2 : Int32} {n3 : Int32} {r : Int32} (h : f_X5_worth f_seam f_toCome n1 n2 n3 = some r) : Mt J yX5_worth cX5_worth 5 (some .int) rm_X5_worth [.ref (a0 0), .int n1, .int n2, .int n3] (cs_X5 J.2.2.1 a0 f_order f_seam f_toCome f_places f_seams) (some (.int r)) (cs_X5 J.2.2.1 a0 f_order f_seam f_toCome f_places f_seams) := by
  refine Mt_of (own := RX5) (by decide) rfl (Nat.le_of_ble_eq_true rfl) rfl (fun Z C E => ?_)
  unfold f_X5_worth at h
  show G J Z 0 0 (cs_X5 J.2.2.1 a0 f_order f_seam f_toCome f_places f_seams) 5 [(0, .ref (a0 0)), (1, .int n1), (2, .int n2), (3, .int n3)] 0 []
  refine g_iload_n (pc := 0) C 1 rfl dX5_worth_0 ?_
  refine g_iconst (pc := 1) C dX5_worth_1 ci_m1 ?_
  refine g_icmp_ne (pc := 2) C (tgt := 9) dX5_worth_2 rfl h (fun h => ?_) (fun h => ?_)
  · refine g_aload_n (pc := 9) C 0 rfl dX5_worth_9 ?_
    refine g_get (pc := 10) C FOK_X5 0 rfl rfl 1 (by decide) kw_250 rfl dX5_worth_10 ?_
    refine g_iload_n (pc := 13) C 1 rfl dX5_worth_13 ?_
    refine g_bipush (pc := 14) C dX5_worth_14 cb_6 ?_
    refine g_imul (pc := 16) C dX5_worth_16 ?_
    refine g_iload_n (pc := 17) C 2 rfl dX5_worth_17 ?_
    refine g_iadd (pc := 18) C dX5_worth_18 ?_
    obtain ⟨hi, h⟩ := ix_of h
    refine g_iald (pc := 19) C 2 rfl hi dX5_worth_19 ?_
    refine g_lv [0, 2, 3] rfl ?_
    exact j_X5_worth_20 C E  (f_seam ((n1 * 6) + n2).toNatClampNeg) h
  · refine g_iconst (pc := 5) C dX5_worth_5 ci_0 ?_
    refine g_goto (pc := 6) C (tgt := 20) dX5_worth_6 rfl ?_
    refine g_lv [0, 2, 3] rfl ?_
    exact j_X5_worth_20 C E  0 h
noncomputable def f_X5_bestBehind_5 (f_seam : Nat → Int32) (f_toCome : Nat → Int32) (n1 : Int32) (n2 : Int32) : Nat → Int32 → Int32 → Option (Int32)
  | 0, _, _ => none
  | n + 1, x3, x4 => if 6 ≤ x4 then some x3 else b1 (f_X9_has n2 x4) (fun v1 => if v1 = 0 then f_X5_bestBehind_5 f_seam f_toCome n1 n2 n x3 (x4 + 1) else if x3 = (-1) then f_X5_bestBehind_5 f_seam f_toCome n1 n2 n x4 (x4 + 1) else b1 (f_X5_worth f_seam f_toCome n1 x4 n2) (fun v2 => b1 (f_X5_worth f_seam f_toCome n1 x3 n2) (fun v3 => if v2 ≤ v3 then f_X5_bestBehind_5 f_seam f_toCome n1 n2 n x3 (x4 + 1) else f_X5_bestBehind_5 f_seam f_toCome n1 n2 n x4 (x4 + 1))))
noncomputable def f_X5_bestBehind (f_seam : Nat → Int32) (f_toCome : Nat → Int32) (n1 : Int32) (n2 : Int32) : Option (Int32) := f_X5_bestBehind_5 f_seam f_toCome n1 n2 FU (-1) 0
def rm_X5_bestBehind : Room := { frames := 1, cells := 0, slots := 0, locals := 24 }
set_option maxRecDepth 100000 in
set_option maxHeartbeats 4000000 in
theorem j_X5_bestBehind_5 {J : Jt} {Z : Zt} {a0 : Nat → Nat} {f_order : Nat → Int32} {f_seam : Nat → Int32} {f_toCome : Nat → Int32} {f_places : Int32} {f_seams : Int32} {n1 : Int32} {n2 : Int32} {r : Int32} (C : Cx J Z cX5_bestBehind 5 RX5 (some .int) rm_X5_bestBehind) (E : Ez J Z 0 0 (some (.int r)) (cs_X5 J.2.2.1 a0 f_order f_seam f_toCome f_places f_seams)) : ∀ (n : Nat) (x3 : Int32) (x4 : Int32), f_X5_bestBehind_5 f_seam f_toCome n1 n2 n x3 x4 = some r → G J Z 0 0 (cs_X5 J.2.2.1 a0 f_order f_seam f_toCome f_places f_seams) 5 [(0, .ref (a0 0)), (1, .int n1), (2, .int n2), (3, .int x3), (4, .int x4)] 5 [] := by
  intro n
  induction n with
  | zero =>
    intro x3 x4 h
    rw [f_X5_bestBehind_5] at h
    cases h
  | succ n ih =>
    intro x3 x4 h
    rw [f_X5_bestBehind_5] at h
    refine g_iload (pc := 5) C 4 rfl dX5_bestBehind_5 ?_
    refine g_bipush (pc := 7) C dX5_bestBehind_7 cb_6 ?_
    refine g_icmp_ge (pc := 9) C (tgt := 53) dX5_bestBehind_9 rfl h (fun h => ?_) (fun h => ?_)
    · refine g_iload_n (pc := 53) C 3 rfl dX5_bestBehind_53 ?_
      cases h
      exact g_iret C E dX5_bestBehind_54
    · refine g_iload_n (pc := 12) C 2 rfl dX5_bestBehind_12 ?_
      refine g_iload (pc := 13) C 4 rfl dX5_bestBehind_13 ?_
      obtain ⟨v1, hc, h⟩ := b1_of h
      refine g_callSN (pc := 15) C (w' := cs_X5 J.2.2.1 a0 f_order f_seam f_toCome f_places f_seams) (As := [.int n2, .int x4]) (st := []) (t_X9_has hc) Sub.nil (by decide) kw_483 kw_86 hn_X9_has kw_484 rfl (Nat.le_of_ble_eq_true rfl) (Nat.le_of_ble_eq_true rfl) (Nat.le_of_ble_eq_true rfl) (Nat.le_of_ble_eq_true rfl) (Nat.le_of_ble_eq_true rfl) dX5_bestBehind_15 ?_
      refine g_if_eq (pc := 18) C (tgt := 47) dX5_bestBehind_18 rfl h (fun h => ?_) (fun h => ?_)
      · refine g_iinc (pc := 47) C (j := 4) [(4, .int (x4 + 1)), (0, .ref (a0 0)), (1, .int n1), (2, .int n2), (3, .int x3)] dX5_bestBehind_47 rfl (ii_1 _) (by decide) rfl ?_
        refine g_goto (pc := 50) C (tgt := 5) dX5_bestBehind_50 rfl ?_
        refine g_lv [1, 2, 3, 4, 0] rfl ?_
        exact ih x3 (x4 + 1) h
      · refine g_iload_n (pc := 21) C 3 rfl dX5_bestBehind_21 ?_
        refine g_iconst (pc := 22) C dX5_bestBehind_22 ci_m1 ?_
        refine g_icmp_eq (pc := 23) C (tgt := 44) dX5_bestBehind_23 rfl h (fun h => ?_) (fun h => ?_)
        · refine g_iload (pc := 44) C 4 rfl dX5_bestBehind_44 ?_
          refine g_istore_n (pc := 46) C [(3, .int x4), (0, .ref (a0 0)), (1, .int n1), (2, .int n2), (4, .int x4)] dX5_bestBehind_46 rfl (by decide) rfl ?_
          refine g_iinc (pc := 47) C (j := 4) [(4, .int (x4 + 1)), (3, .int x4), (0, .ref (a0 0)), (1, .int n1), (2, .int n2)] dX5_bestBehind_47 rfl (ii_1 _) (by decide) rfl ?_
          refine g_goto (pc := 50) C (tgt := 5) dX5_bestBehind_50 rfl ?_
          refine g_lv [2, 3, 4, 1, 0] rfl ?_
          exact ih x4 (x4 + 1) h
        · refine g_aload_n (pc := 26) C 0 rfl dX5_bestBehind_26 ?_
          refine g_iload_n (pc := 27) C 1 rfl dX5_bestBehind_27 ?_
          refine g_iload (pc := 28) C 4 rfl dX5_bestBehind_28 ?_
          refine g_iload_n (pc := 30) C 2 rfl dX5_bestBehind_30 ?_
          obtain ⟨v2, hc, h⟩ := b1_of h
          refine g_callV (pc := 31) C (w' := cs_X5 J.2.2.1 a0 f_order f_seam f_toCome f_places f_seams) (As := [.int n1, .int x4, .int n2]) (st := []) (ci := 5) (q0 := 0) rfl rfl (t_X5_worth (a0 := a0) hc) Sub.same kw_485 kw_486 kw_487 kw_91 hy_X5_worth kw_488 rfl (Nat.le_of_ble_eq_true rfl) (Nat.le_of_ble_eq_true rfl) (Nat.le_of_ble_eq_true rfl) (Nat.le_of_ble_eq_true rfl) (Nat.le_of_ble_eq_true rfl) dX5_bestBehind_31 ?_
          refine g_aload_n (pc := 34) C 0 rfl dX5_bestBehind_34 ?_
          refine g_iload_n (pc := 35) C 1 rfl dX5_bestBehind_35 ?_
          refine g_iload_n (pc := 36) C 3 rfl dX5_bestBehind_36 ?_
          refine g_iload_n (pc := 37) C 2 rfl dX5_bestBehind_37 ?_
          obtain ⟨v3, hc, h⟩ := b1_of h
          refine g_callV (pc := 38) C (w' := cs_X5 J.2.2.1 a0 f_order f_seam f_toCome f_places f_seams) (As := [.int n1, .int x3, .int n2]) (st := [.int v2]) (ci := 5) (q0 := 0) rfl rfl (t_X5_worth (a0 := a0) hc) Sub.same kw_485 kw_486 kw_487 kw_91 hy_X5_worth kw_488 rfl (Nat.le_of_ble_eq_true rfl) (Nat.le_of_ble_eq_true rfl) (Nat.le_of_ble_eq_true rfl) (Nat.le_of_ble_eq_true rfl) (Nat.le_of_ble_eq_true rfl) dX5_bestBehind_38 ?_
          refine g_icmp_le (pc := 41) C (tgt := 47) dX5_bestBehind_41 rfl h (fun h => ?_) (fun h => ?_)
          · refine g_iinc (pc := 47) C (j := 4) [(4, .int (x4 + 1)), (0, .ref (a0 0)), (1, .int n1), (2, .int n2), (3, .int x3)] dX5_bestBehind_47 rfl (ii_1 _) (by decide) rfl ?_
            refine g_goto (pc := 50) C (tgt := 5) dX5_bestBehind_50 rfl ?_
            refine g_lv [1, 2, 3, 4, 0] rfl ?_
            exact ih x3 (x4 + 1) h
          · refine g_iload (pc := 44) C 4 rfl dX5_bestBehind_44 ?_
            refine g_istore_n (pc := 46) C [(3, .int x4), (0, .ref (a0 0)), (1, .int n1), (2, .int n2), (4, .int x4)] dX5_bestBehind_46 rfl (by decide) rfl ?_
            refine g_iinc (pc := 47) C (j := 4) [(4, .int (x4 + 1)), (3, .int x4), (0, .ref (a0 0)), (1, .int n1), (2, .int n2)] dX5_bestBehind_47 rfl (ii_1 _) (by decide) rfl ?_
            refine g_goto (pc := 50) C (tgt := 5) dX5_bestBehind_50 rfl ?_
            refine g_lv [2, 3, 4, 1, 0] rfl ?_
            exact ih x4 (x4 + 1) h
set_option maxRecDepth 100000 in
set_option maxHeartbeats 4000000 in
theorem t_X5_bestBehind {J : Jt} {a0 : Nat → Nat} {f_order : Nat → Int32} {f_seam : Nat → Int32} {f_toCome : Nat → Int32} {f_places : Int32} {f_seams : Int32} {n1 : Int32} {n2 : Int32} {r : Int32} (h : f_X5_bestBehind f_seam f_toCome n1 n2 = some r) : Mt J yX5_bestBehind cX5_bestBehind 5 (some .int) rm_X5_bestBehind [.ref (a0 0), .int n1, .int n2] (cs_X5 J.2.2.1 a0 f_order f_seam f_toCome f_places f_seams) (some (.int r)) (cs_X5 J.2.2.1 a0 f_order f_seam f_toCome f_places f_seams) := by
  refine Mt_of (own := RX5) (by decide) rfl (Nat.le_of_ble_eq_true rfl) rfl (fun Z C E => ?_)
  unfold f_X5_bestBehind at h
  show G J Z 0 0 (cs_X5 J.2.2.1 a0 f_order f_seam f_toCome f_places f_seams) 5 [(0, .ref (a0 0)), (1, .int n1), (2, .int n2)] 0 []
  refine g_iconst (pc := 0) C dX5_bestBehind_0 ci_m1 ?_
  refine g_istore_n (pc := 1) C [(3, .int (-1)), (0, .ref (a0 0)), (1, .int n1), (2, .int n2)] dX5_bestBehind_1 rfl (by decide) rfl ?_
  refine g_iconst (pc := 2) C dX5_bestBehind_2 ci_0 ?_
  refine g_istore (pc := 3) C [(4, .int 0), (3, .int (-1)), (0, .ref (a0 0)), (1, .int n1), (2, .int n2)] dX5_bestBehind_3 (by decide) rfl ?_
  refine g_lv [2, 3, 4, 1, 0] rfl ?_
  exact j_X5_bestBehind_5 C E  FU (-1) 0 h
noncomputable def f_X5_choose_64 (f_seam : Nat → Int32) (f_toCome : Nat → Int32) (n1 : Int32) (k17 : Int32 → Int32 → Int32 → (Nat → Int32) → Int32 → Int32 → Option ((Nat → Int32) × Int32 × Int32)) (x2 : Int32) (x4 : Int32) (x5 : Int32) (y1 : Int32) (f_order : Nat → Int32) (f_places : Int32) (f_seams : Int32) : Option ((Nat → Int32) × Int32 × Int32) := if ixb x4 6 then k17 (x2 &&& (((1 : Int32) <<< (x5 &&& 31)) ^^^ (-1))) x5 (x4 + 1) (upd f_order x4.toNatClampNeg x5) (f_places + 1) y1 else none
noncomputable def f_X5_choose_17 (f_seam : Nat → Int32) (f_toCome : Nat → Int32) (n1 : Int32) : Nat → Int32 → Int32 → Int32 → (Nat → Int32) → Int32 → Int32 → Option ((Nat → Int32) × Int32 × Int32)
  | 0, _, _, _, _, _, _ => none
  | n + 1, x2, x3, x4, f_order, f_places, f_seams => if 6 ≤ x4 then some (f_order, f_places, f_seams) else if x2 = 0 then some (f_order, f_places, f_seams) else b1 (f_X5_bestBehind f_seam f_toCome x3 x2) (fun v1 => if v1 = (-1) then some (f_order, f_places, f_seams) else if x4 = 0 then b1 (f_X5_worth f_seam f_toCome x3 v1 x2) (fun v2 => f_X5_choose_64 f_seam f_toCome n1 (f_X5_choose_17 f_seam f_toCome n1 n) x2 x4 v1 v2 f_order f_places f_seams) else f_X5_choose_64 f_seam f_toCome n1 (f_X5_choose_17 f_seam f_toCome n1 n) x2 x4 v1 f_seams f_order f_places f_seams)
noncomputable def f_X5_choose (f_order : Nat → Int32) (f_seam : Nat → Int32) (f_toCome : Nat → Int32) (f_places : Int32) (f_seams : Int32) (n1 : Int32) : Option ((Nat → Int32) × Int32 × Int32) := f_X5_choose_17 f_seam f_toCome n1 FU n1 (-1) 0 f_order 0 0
def rm_X5_choose : Room := { frames := 2, cells := 0, slots := 0, locals := 48 }
set_option maxRecDepth 100000 in
set_option maxHeartbeats 4000000 in
theorem j_X5_choose_64 {J : Jt} {Z : Zt} {a0 : Nat → Nat} {f_seam : Nat → Int32} {f_toCome : Nat → Int32} {n1 : Int32} {o_f_order : Nat → Int32} {o_f_places : Int32} {o_f_seams : Int32} {k17 : Int32 → Int32 → Int32 → (Nat → Int32) → Int32 → Int32 → Option ((Nat → Int32) × Int32 × Int32)} (C : Cx J Z cX5_choose 6 RX5 none rm_X5_choose) (E : Ez J Z 0 0 none (cs_X5 J.2.2.1 a0 o_f_order f_seam f_toCome o_f_places o_f_seams)) (hk17 : ∀ (x2 : Int32) (x3 : Int32) (x4 : Int32) (f_order : Nat → Int32) (f_places : Int32) (f_seams : Int32), k17 x2 x3 x4 f_order f_places f_seams = some (o_f_order, o_f_places, o_f_seams) → G J Z 0 0 (cs_X5 J.2.2.1 a0 f_order f_seam f_toCome f_places f_seams) 6 [(0, .ref (a0 0)), (2, .int x2), (3, .int x3), (4, .int x4)] 17 []) : ∀ (x2 : Int32) (x4 : Int32) (x5 : Int32) (y1 : Int32) (f_order : Nat → Int32) (f_places : Int32) (f_seams : Int32), f_X5_choose_64 f_seam f_toCome n1 k17 x2 x4 x5 y1 f_order f_places f_seams = some (o_f_order, o_f_places, o_f_seams) → G J Z 0 0 (cs_X5 J.2.2.1 a0 f_order f_seam f_toCome f_places f_seams) 6 [(0, .ref (a0 0)), (2, .int x2), (4, .int x4), (5, .int x5)] 64 [.int y1, .ref (a0 0)] := by
  intro x2 x4 x5 y1 f_order f_places f_seams h
  unfold f_X5_choose_64 at h
  refine g_put (pc := 64) C (w' := cs_X5 J.2.2.1 a0 f_order f_seam f_toCome f_places y1) FOK_X5 0 rfl rfl 4 (by decide) kw_254 rfl rfl rfl (Nat.le_of_ble_eq_true rfl) dX5_choose_64 rfl ?_
  refine g_aload_n (pc := 67) C 0 rfl dX5_choose_67 ?_
  refine g_get (pc := 68) C FOK_X5 0 rfl rfl 0 (by decide) kw_248 rfl dX5_choose_68 ?_
  refine g_iload (pc := 71) C 2 rfl dX5_choose_71 ?_
  refine g_iload (pc := 73) C 3 rfl dX5_choose_73 ?_
  obtain ⟨hi, h⟩ := ix_of h
  refine g_iast (pc := 75) C (w' := cs_X5 J.2.2.1 a0 (upd f_order x4.toNatClampNeg x5) f_seam f_toCome f_places y1) 1 rfl hi dX5_choose_75 rfl ?_
  refine g_aload_n (pc := 76) C 0 rfl dX5_choose_76 ?_
  refine g_dup (pc := 77) C dX5_choose_77 rfl ?_
  refine g_get (pc := 78) C FOK_X5 0 rfl rfl 3 (by decide) kw_252 rfl dX5_choose_78 ?_
  refine g_iconst (pc := 81) C dX5_choose_81 ci_1 ?_
  refine g_iadd (pc := 82) C dX5_choose_82 ?_
  refine g_put (pc := 83) C (w' := cs_X5 J.2.2.1 a0 (upd f_order x4.toNatClampNeg x5) f_seam f_toCome (f_places + 1) y1) FOK_X5 0 rfl rfl 3 (by decide) kw_252 rfl rfl rfl (Nat.le_of_ble_eq_true rfl) dX5_choose_83 rfl ?_
  refine g_iload_n (pc := 86) C 1 rfl dX5_choose_86 ?_
  refine g_iconst (pc := 87) C dX5_choose_87 ci_1 ?_
  refine g_iload (pc := 88) C 3 rfl dX5_choose_88 ?_
  refine g_ishl (pc := 90) C dX5_choose_90 ?_
  refine g_iconst (pc := 91) C dX5_choose_91 ci_m1 ?_
  refine g_ixor (pc := 92) C dX5_choose_92 ?_
  refine g_iand (pc := 93) C dX5_choose_93 ?_
  refine g_istore_n (pc := 94) C [(2, .int (x2 &&& (((1 : Int32) <<< (x5 &&& 31)) ^^^ (-1)))), (0, .ref (a0 0)), (4, .int x4), (5, .int x5)] dX5_choose_94 rfl (by decide) rfl ?_
  refine g_iload (pc := 95) C 3 rfl dX5_choose_95 ?_
  refine g_istore_n (pc := 97) C [(3, .int x5), (2, .int (x2 &&& (((1 : Int32) <<< (x5 &&& 31)) ^^^ (-1)))), (0, .ref (a0 0)), (4, .int x4), (5, .int x5)] dX5_choose_97 rfl (by decide) rfl ?_
  refine g_iinc (pc := 98) C (j := 3) [(4, .int (x4 + 1)), (3, .int x5), (2, .int (x2 &&& (((1 : Int32) <<< (x5 &&& 31)) ^^^ (-1)))), (0, .ref (a0 0)), (5, .int x5)] dX5_choose_98 rfl (ii_1 _) (by decide) rfl ?_
  refine g_goto (pc := 101) C (tgt := 17) dX5_choose_101 rfl ?_
  refine g_lv [3, 2, 1, 0] rfl ?_
  exact hk17 (x2 &&& (((1 : Int32) <<< (x5 &&& 31)) ^^^ (-1))) x5 (x4 + 1) (upd f_order x4.toNatClampNeg x5) (f_places + 1) y1 h
set_option maxRecDepth 100000 in
set_option maxHeartbeats 4000000 in
theorem j_X5_choose_17 {J : Jt} {Z : Zt} {a0 : Nat → Nat} {f_seam : Nat → Int32} {f_toCome : Nat → Int32} {n1 : Int32} {o_f_order : Nat → Int32} {o_f_places : Int32} {o_f_seams : Int32} (C : Cx J Z cX5_choose 6 RX5 none rm_X5_choose) (E : Ez J Z 0 0 none (cs_X5 J.2.2.1 a0 o_f_order f_seam f_toCome o_f_places o_f_seams)) : ∀ (n : Nat) (x2 : Int32) (x3 : Int32) (x4 : Int32) (f_order : Nat → Int32) (f_places : Int32) (f_seams : Int32), f_X5_choose_17 f_seam f_toCome n1 n x2 x3 x4 f_order f_places f_seams = some (o_f_order, o_f_places, o_f_seams) → G J Z 0 0 (cs_X5 J.2.2.1 a0 f_order f_seam f_toCome f_places f_seams) 6 [(0, .ref (a0 0)), (2, .int x2), (3, .int x3), (4, .int x4)] 17 [] := by
  intro n
  induction n with
  | zero =>
    intro x2 x3 x4 f_order f_places f_seams h
    rw [f_X5_choose_17] at h
    cases h
  | succ n ih =>
    intro x2 x3 x4 f_order f_places f_seams h
    rw [f_X5_choose_17] at h
    refine g_iload (pc := 17) C 3 rfl dX5_choose_17 ?_
    refine g_bipush (pc := 19) C dX5_choose_19 cb_6 ?_
    refine g_icmp_ge (pc := 21) C (tgt := 104) dX5_choose_21 rfl h (fun h => ?_) (fun h => ?_)
    · cases h
      exact g_vret C E dX5_choose_104
    · refine g_iload_n (pc := 24) C 1 rfl dX5_choose_24 ?_
      refine g_if_eq (pc := 25) C (tgt := 104) dX5_choose_25 rfl h (fun h => ?_) (fun h => ?_)
      · cases h
        exact g_vret C E dX5_choose_104
      · refine g_aload_n (pc := 28) C 0 rfl dX5_choose_28 ?_
        refine g_iload_n (pc := 29) C 2 rfl dX5_choose_29 ?_
        refine g_iload_n (pc := 30) C 1 rfl dX5_choose_30 ?_
        obtain ⟨v1, hc, h⟩ := b1_of h
        refine g_callV (pc := 31) C (w' := cs_X5 J.2.2.1 a0 f_order f_seam f_toCome f_places f_seams) (As := [.int x3, .int x2]) (st := []) (ci := 5) (q0 := 0) rfl rfl (t_X5_bestBehind (a0 := a0) hc) Sub.same kw_478 kw_479 kw_480 kw_91 hy_X5_bestBehind kw_481 rfl (Nat.le_of_ble_eq_true rfl) (Nat.le_of_ble_eq_true rfl) (Nat.le_of_ble_eq_true rfl) (Nat.le_of_ble_eq_true rfl) (Nat.le_of_ble_eq_true rfl) dX5_choose_31 ?_
        refine g_istore (pc := 34) C [(5, .int v1), (0, .ref (a0 0)), (2, .int x2), (3, .int x3), (4, .int x4)] dX5_choose_34 (by decide) rfl ?_
        refine g_iload (pc := 36) C 0 rfl dX5_choose_36 ?_
        refine g_iconst (pc := 38) C dX5_choose_38 ci_m1 ?_
        refine g_icmp_ne (pc := 39) C (tgt := 43) dX5_choose_39 rfl h (fun h => ?_) (fun h => ?_)
        · refine g_aload_n (pc := 43) C 1 rfl dX5_choose_43 ?_
          refine g_iload (pc := 44) C 4 rfl dX5_choose_44 ?_
          refine g_if_ne (pc := 46) C (tgt := 60) dX5_choose_46 rfl h (fun h => ?_) (fun h => ?_)
          · refine g_aload_n (pc := 60) C 1 rfl dX5_choose_60 ?_
            refine g_get (pc := 61) C FOK_X5 0 rfl rfl 4 (by decide) kw_254 rfl dX5_choose_61 ?_
            refine g_lv [1, 2, 4, 0] rfl ?_
            exact j_X5_choose_64 C E ih x2 x4 v1 f_seams f_order f_places f_seams h
          · refine g_aload_n (pc := 49) C 1 rfl dX5_choose_49 ?_
            refine g_iload_n (pc := 50) C 3 rfl dX5_choose_50 ?_
            refine g_iload (pc := 51) C 0 rfl dX5_choose_51 ?_
            refine g_iload_n (pc := 53) C 2 rfl dX5_choose_53 ?_
            obtain ⟨v2, hc, h⟩ := b1_of h
            refine g_callV (pc := 54) C (w' := cs_X5 J.2.2.1 a0 f_order f_seam f_toCome f_places f_seams) (As := [.int x3, .int v1, .int x2]) (st := [.ref (a0 0)]) (ci := 5) (q0 := 0) rfl rfl (t_X5_worth (a0 := a0) hc) Sub.same kw_485 kw_486 kw_487 kw_91 hy_X5_worth kw_488 rfl (Nat.le_of_ble_eq_true rfl) (Nat.le_of_ble_eq_true rfl) (Nat.le_of_ble_eq_true rfl) (Nat.le_of_ble_eq_true rfl) (Nat.le_of_ble_eq_true rfl) dX5_choose_54 ?_
            refine g_goto (pc := 57) C (tgt := 64) dX5_choose_57 rfl ?_
            refine g_lv [1, 2, 4, 0] rfl ?_
            exact j_X5_choose_64 C E ih x2 x4 v1 v2 f_order f_places f_seams h
        · cases h
          exact g_vret C E dX5_choose_42
set_option maxRecDepth 100000 in
set_option maxHeartbeats 4000000 in
theorem t_X5_choose {J : Jt} {a0 : Nat → Nat} {f_order : Nat → Int32} {f_seam : Nat → Int32} {f_toCome : Nat → Int32} {f_places : Int32} {f_seams : Int32} {n1 : Int32} {o_f_order : Nat → Int32} {o_f_places : Int32} {o_f_seams : Int32} (h : f_X5_choose f_order f_seam f_toCome f_places f_seams n1 = some (o_f_order, o_f_places, o_f_seams)) : Mt J yX5_choose cX5_choose 6 none rm_X5_choose [.ref (a0 0), .int n1] (cs_X5 J.2.2.1 a0 f_order f_seam f_toCome f_places f_seams) none (cs_X5 J.2.2.1 a0 o_f_order f_seam f_toCome o_f_places o_f_seams) := by
  refine Mt_of (own := RX5) (by decide) rfl (Nat.le_of_ble_eq_true rfl) rfl (fun Z C E => ?_)
  unfold f_X5_choose at h
  show G J Z 0 0 (cs_X5 J.2.2.1 a0 f_order f_seam f_toCome f_places f_seams) 6 [(0, .ref (a0 0)), (1, .int n1)] 0 []
  refine g_aload_n (pc := 0) C 0 rfl dX5_choose_0 ?_
  refine g_iconst (pc := 1) C dX5_choose_1 ci_0 ?_
  refine g_put (pc := 2) C (w' := cs_X5 J.2.2.1 a0 f_order f_seam f_toCome 0 f_seams) FOK_X5 0 rfl rfl 3 (by decide) kw_252 rfl rfl rfl (Nat.le_of_ble_eq_true rfl) dX5_choose_2 rfl ?_
  refine g_aload_n (pc := 5) C 0 rfl dX5_choose_5 ?_
  refine g_iconst (pc := 6) C dX5_choose_6 ci_0 ?_
  refine g_put (pc := 7) C (w' := cs_X5 J.2.2.1 a0 f_order f_seam f_toCome 0 0) FOK_X5 0 rfl rfl 4 (by decide) kw_254 rfl rfl rfl (Nat.le_of_ble_eq_true rfl) dX5_choose_7 rfl ?_
  refine g_iload_n (pc := 10) C 1 rfl dX5_choose_10 ?_
  refine g_istore_n (pc := 11) C [(2, .int n1), (0, .ref (a0 0)), (1, .int n1)] dX5_choose_11 rfl (by decide) rfl ?_
  refine g_iconst (pc := 12) C dX5_choose_12 ci_m1 ?_
  refine g_istore_n (pc := 13) C [(3, .int (-1)), (2, .int n1), (0, .ref (a0 0)), (1, .int n1)] dX5_choose_13 rfl (by decide) rfl ?_
  refine g_iconst (pc := 14) C dX5_choose_14 ci_0 ?_
  refine g_istore (pc := 15) C [(4, .int 0), (3, .int (-1)), (2, .int n1), (0, .ref (a0 0)), (1, .int n1)] dX5_choose_15 (by decide) rfl ?_
  refine g_lv [3, 2, 1, 0] rfl ?_
  exact j_X5_choose_17 C E  FU n1 (-1) 0 f_order 0 0 h
noncomputable def f_X5_find_123 (s_gone : Nat → Int32) (p_letters : Int32) (p_length : Nat → Int32) (p_words : Nat → Int32) (k109 : Int32 → Int32 → (Nat → Int32) → (Nat → Int32) → (Nat → Int32) → Int32 → Int32 → Option ((Nat → Int32) × (Nat → Int32) × (Nat → Int32) × Int32 × Int32)) : Nat → Int32 → Int32 → Int32 → (Nat → Int32) → (Nat → Int32) → (Nat → Int32) → Int32 → Int32 → Option ((Nat → Int32) × (Nat → Int32) × (Nat → Int32) × Int32 × Int32)
  | 0, _, _, _, _, _, _, _, _ => none
  | n + 1, x3, x4, x5, f_order, f_seam, f_toCome, f_places, f_seams => if p_letters ≤ x5 then k109 x3 (x4 + 1) f_order f_seam f_toCome f_places f_seams else b1 (f_X5_bestBehind f_seam f_toCome x5 x4) (fun v1 => if v1 = (-1) then if ixb ((x4 * 6) + x5) 384 then f_X5_find_123 s_gone p_letters p_length p_words k109 n x3 x4 (x5 + 1) f_order f_seam (upd f_toCome ((x4 * 6) + x5).toNatClampNeg 0) f_places f_seams else none else b1 (f_X5_worth f_seam f_toCome x5 v1 x4) (fun v2 => if ixb ((x4 * 6) + x5) 384 then f_X5_find_123 s_gone p_letters p_length p_words k109 n x3 x4 (x5 + 1) f_order f_seam (upd f_toCome ((x4 * 6) + x5).toNatClampNeg v2) f_places f_seams else none))
noncomputable def f_X5_find_109 (s_gone : Nat → Int32) (p_letters : Int32) (p_length : Nat → Int32) (p_words : Nat → Int32) : Nat → Int32 → Int32 → (Nat → Int32) → (Nat → Int32) → (Nat → Int32) → Int32 → Int32 → Option ((Nat → Int32) × (Nat → Int32) × (Nat → Int32) × Int32 × Int32)
  | 0, _, _, _, _, _, _, _ => none
  | n + 1, x3, x4, f_order, f_seam, f_toCome, f_places, f_seams => if ((1 : Int32) <<< (p_letters &&& 31)) ≤ x4 then b3 (f_X5_choose f_order f_seam f_toCome f_places f_seams x3) (fun c3 c4 c5 => some (c3, f_seam, f_toCome, c4, c5)) else f_X5_find_123 s_gone p_letters p_length p_words (f_X5_find_109 s_gone p_letters p_length p_words n) FU x3 x4 0 f_order f_seam f_toCome f_places f_seams
noncomputable def f_X5_find_38 (s_gone : Nat → Int32) (p_letters : Int32) (p_length : Nat → Int32) (p_words : Nat → Int32) (k5 : Int32 → Int32 → (Nat → Int32) → (Nat → Int32) → (Nat → Int32) → Int32 → Int32 → Option ((Nat → Int32) × (Nat → Int32) × (Nat → Int32) × Int32 × Int32)) : Nat → Int32 → Int32 → Int32 → (Nat → Int32) → (Nat → Int32) → (Nat → Int32) → Int32 → Int32 → Option ((Nat → Int32) × (Nat → Int32) × (Nat → Int32) × Int32 × Int32)
  | 0, _, _, _, _, _, _, _, _ => none
  | n + 1, x3, x4, x5, f_order, f_seam, f_toCome, f_places, f_seams => if p_letters ≤ x5 then k5 x3 (x4 + 1) f_order f_seam f_toCome f_places f_seams else if ixb x4 6 then b1 (f_X2_wordAt p_words x4 ((p_length x4.toNatClampNeg) - 1)) (fun v6 => b1 (f_X4_nextOf s_gone p_length p_words x5) (fun v7 => if v6 = v7 then if ixb ((x4 * 6) + x5) 36 then f_X5_find_38 s_gone p_letters p_length p_words k5 n x3 x4 (x5 + 1) f_order (upd f_seam ((x4 * 6) + x5).toNatClampNeg 1) f_toCome f_places f_seams else none else if ixb ((x4 * 6) + x5) 36 then f_X5_find_38 s_gone p_letters p_length p_words k5 n x3 x4 (x5 + 1) f_order (upd f_seam ((x4 * 6) + x5).toNatClampNeg 0) f_toCome f_places f_seams else none)) else none
noncomputable def f_X5_find_5 (s_gone : Nat → Int32) (p_letters : Int32) (p_length : Nat → Int32) (p_words : Nat → Int32) : Nat → Int32 → Int32 → (Nat → Int32) → (Nat → Int32) → (Nat → Int32) → Int32 → Int32 → Option ((Nat → Int32) × (Nat → Int32) × (Nat → Int32) × Int32 × Int32)
  | 0, _, _, _, _, _, _, _ => none
  | n + 1, x3, x4, f_order, f_seam, f_toCome, f_places, f_seams => if p_letters ≤ x4 then f_X5_find_109 s_gone p_letters p_length p_words FU x3 0 f_order f_seam f_toCome f_places f_seams else b1 (f_X4_leftOf s_gone p_length x4) (fun v8 => if v8 ≤ 0 then f_X5_find_38 s_gone p_letters p_length p_words (f_X5_find_5 s_gone p_letters p_length p_words n) FU (x3 ||| 0) x4 0 f_order f_seam f_toCome f_places f_seams else f_X5_find_38 s_gone p_letters p_length p_words (f_X5_find_5 s_gone p_letters p_length p_words n) FU (x3 ||| ((1 : Int32) <<< (x4 &&& 31))) x4 0 f_order f_seam f_toCome f_places f_seams)
noncomputable def f_X5_find (f_order : Nat → Int32) (f_seam : Nat → Int32) (f_toCome : Nat → Int32) (f_places : Int32) (f_seams : Int32) (s_gone : Nat → Int32) (p_letters : Int32) (p_length : Nat → Int32) (p_words : Nat → Int32) : Option ((Nat → Int32) × (Nat → Int32) × (Nat → Int32) × Int32 × Int32) := f_X5_find_5 s_gone p_letters p_length p_words FU 0 0 f_order f_seam f_toCome f_places f_seams
def rm_X5_find : Room := { frames := 3, cells := 0, slots := 0, locals := 73 }
set_option maxRecDepth 100000 in
set_option maxHeartbeats 4000000 in
theorem j_X5_find_123 {J : Jt} {Z : Zt} {a0 : Nat → Nat} {a1 : Nat → Nat} {a2 : Nat → Nat} {s_year : Int32} {s_wet : Int32} {s_lost : Int32} {s_eaten : Int32} {s_tied : Int32} {s_ripeMany : Int32} {s_gone : Nat → Int32} {s_place : Nat → Int32} {s_heard : Nat → Int32} {s_many : Nat → Int32} {s_lying : Nat → Int32} {s_ripe : Nat → Int32} {p_beds : Int32} {p_letters : Int32} {p_readers : Int32} {p_far : Nat → Int32} {p_drain : Nat → Int32} {p_length : Nat → Int32} {p_words : Nat → Int32} {p_home : Nat → Int32} {o_f_order : Nat → Int32} {o_f_seam : Nat → Int32} {o_f_toCome : Nat → Int32} {o_f_places : Int32} {o_f_seams : Int32} {k109 : Int32 → Int32 → (Nat → Int32) → (Nat → Int32) → (Nat → Int32) → Int32 → Int32 → Option ((Nat → Int32) × (Nat → Int32) × (Nat → Int32) × Int32 × Int32)} (C : Cx J Z cX5_find 7 RX5 none rm_X5_find) (E : Ez J Z 0 0 none (cs_X5 J.2.2.1 a0 o_f_order o_f_seam o_f_toCome o_f_places o_f_seams ++ cs_X4 J.2.2.1 a1 s_year s_wet s_lost s_eaten s_tied s_ripeMany s_gone s_place s_heard s_many s_lying s_ripe ++ cs_X2 J.2.2.1 a2 p_beds p_letters p_readers p_far p_drain p_length p_words p_home)) (hk109 : ∀ (x3 : Int32) (x4 : Int32) (f_order : Nat → Int32) (f_seam : Nat → Int32) (f_toCome : Nat → Int32) (f_places : Int32) (f_seams : Int32), k109 x3 x4 f_order f_seam f_toCome f_places f_seams = some (o_f_order, o_f_seam, o_f_toCome, o_f_places, o_f_seams) → G J Z 0 0 (cs_X5 J.2.2.1 a0 f_order f_seam f_toCome f_places f_seams ++ cs_X4 J.2.2.1 a1 s_year s_wet s_lost s_eaten s_tied s_ripeMany s_gone s_place s_heard s_many s_lying s_ripe ++ cs_X2 J.2.2.1 a2 p_beds p_letters p_readers p_far p_drain p_length p_words p_home) 7 [(0, .ref (a0 0)), (2, .ref (a2 0)), (3, .int x3), (4, .int x4)] 109 []) : ∀ (n : Nat) (x3 : Int32) (x4 : Int32) (x5 : Int32) (f_order : Nat → Int32) (f_seam : Nat → Int32) (f_toCome : Nat → Int32) (f_places : Int32) (f_seams : Int32), f_X5_find_123 s_gone p_letters p_length p_words k109 n x3 x4 x5 f_order f_seam f_toCome f_places f_seams = some (o_f_order, o_f_seam, o_f_toCome, o_f_places, o_f_seams) → G J Z 0 0 (cs_X5 J.2.2.1 a0 f_order f_seam f_toCome f_places f_seams ++ cs_X4 J.2.2.1 a1 s_year s_wet s_lost s_eaten s_tied s_ripeMany s_gone s_place s_heard s_many s_lying s_ripe ++ cs_X2 J.2.2.1 a2 p_beds p_letters p_readers p_far p_drain p_length p_words p_home) 7 [(0, .ref (a0 0)), (2, .ref (a2 0)), (3, .int x3), (4, .int x4), (5, .int x5)] 123 [] := by
  intro n
  induction n with
  | zero =>
    intro x3 x4 x5 f_order f_seam f_toCome f_places f_seams h
    rw [f_X5_find_123] at h
    cases h
  | succ n ih =>
    intro x3 x4 x5 f_order f_seam f_toCome f_places f_seams h
    rw [f_X5_find_123] at h
    refine g_iload (pc := 123) C 4 rfl dX5_find_123 ?_
    refine g_aload_n (pc := 125) C 1 rfl dX5_find_125 ?_
    refine g_get (pc := 126) C FOK_X2 11 rfl rfl 1 (by decide) kw_282 rfl dX5_find_126 ?_
    refine g_icmp_ge (pc := 129) C (tgt := 181) dX5_find_129 rfl h (fun h => ?_) (fun h => ?_)
    · refine g_iinc (pc := 181) C (j := 3) [(4, .int (x4 + 1)), (0, .ref (a0 0)), (2, .ref (a2 0)), (3, .int x3), (5, .int x5)] dX5_find_181 rfl (ii_1 _) (by decide) rfl ?_
      refine g_goto (pc := 184) C (tgt := 109) dX5_find_184 rfl ?_
      refine g_lv [1, 2, 3, 0] rfl ?_
      exact hk109 x3 (x4 + 1) f_order f_seam f_toCome f_places f_seams h
    · refine g_aload_n (pc := 132) C 0 rfl dX5_find_132 ?_
      refine g_iload (pc := 133) C 4 rfl dX5_find_133 ?_
      refine g_iload (pc := 135) C 3 rfl dX5_find_135 ?_
      obtain ⟨v1, hc, h⟩ := b1_of h
      refine g_callV (pc := 137) C (w' := cs_X5 J.2.2.1 a0 f_order f_seam f_toCome f_places f_seams ++ cs_X4 J.2.2.1 a1 s_year s_wet s_lost s_eaten s_tied s_ripeMany s_gone s_place s_heard s_many s_lying s_ripe ++ cs_X2 J.2.2.1 a2 p_beds p_letters p_readers p_far p_drain p_length p_words p_home) (As := [.int x5, .int x4]) (st := []) (ci := 5) (q0 := 0) rfl rfl (t_X5_bestBehind (a0 := a0) hc) (Sub.gen [0, 1, 2, 3] [4, 5, 6, 7, 8, 9, 10, 11, 12, 13, 14, 15, 16] [13, 14, 15, 16, 0, 1, 2, 3, 4, 5, 6, 7, 8, 9, 10, 11, 12] rfl (by decide) rfl (by decide) (by decide) rfl (by decide)) kw_478 kw_479 kw_480 kw_91 hy_X5_bestBehind kw_481 rfl (Nat.le_of_ble_eq_true rfl) (Nat.le_of_ble_eq_true rfl) (Nat.le_of_ble_eq_true rfl) (Nat.le_of_ble_eq_true rfl) (Nat.le_of_ble_eq_true rfl) dX5_find_137 ?_
      refine g_istore (pc := 140) C [(6, .int v1), (0, .ref (a0 0)), (2, .ref (a2 0)), (3, .int x3), (4, .int x4), (5, .int x5)] dX5_find_140 (by decide) rfl ?_
      refine g_aload_n (pc := 142) C 1 rfl dX5_find_142 ?_
      refine g_get (pc := 143) C FOK_X5 0 rfl rfl 2 (by decide) kw_251 rfl dX5_find_143 ?_
      refine g_iload (pc := 146) C 4 rfl dX5_find_146 ?_
      refine g_bipush (pc := 148) C dX5_find_148 cb_6 ?_
      refine g_imul (pc := 150) C dX5_find_150 ?_
      refine g_iload (pc := 151) C 5 rfl dX5_find_151 ?_
      refine g_iadd (pc := 153) C dX5_find_153 ?_
      refine g_iload (pc := 154) C 0 rfl dX5_find_154 ?_
      refine g_iconst (pc := 156) C dX5_find_156 ci_m1 ?_
      refine g_icmp_ne (pc := 157) C (tgt := 164) dX5_find_157 rfl h (fun h => ?_) (fun h => ?_)
      · refine g_aload_n (pc := 164) C 1 rfl dX5_find_164 ?_
        refine g_iload (pc := 165) C 5 rfl dX5_find_165 ?_
        refine g_iload (pc := 167) C 0 rfl dX5_find_167 ?_
        refine g_iload (pc := 169) C 4 rfl dX5_find_169 ?_
        obtain ⟨v2, hc, h⟩ := b1_of h
        refine g_callV (pc := 171) C (w' := cs_X5 J.2.2.1 a0 f_order f_seam f_toCome f_places f_seams ++ cs_X4 J.2.2.1 a1 s_year s_wet s_lost s_eaten s_tied s_ripeMany s_gone s_place s_heard s_many s_lying s_ripe ++ cs_X2 J.2.2.1 a2 p_beds p_letters p_readers p_far p_drain p_length p_words p_home) (As := [.int x5, .int v1, .int x4]) (st := [.int ((x4 * 6) + x5), .ref (a0 3)]) (ci := 5) (q0 := 0) rfl rfl (t_X5_worth (a0 := a0) hc) (Sub.gen [0, 1, 2, 3] [4, 5, 6, 7, 8, 9, 10, 11, 12, 13, 14, 15, 16] [13, 14, 15, 16, 0, 1, 2, 3, 4, 5, 6, 7, 8, 9, 10, 11, 12] rfl (by decide) rfl (by decide) (by decide) rfl (by decide)) kw_485 kw_486 kw_487 kw_91 hy_X5_worth kw_488 rfl (Nat.le_of_ble_eq_true rfl) (Nat.le_of_ble_eq_true rfl) (Nat.le_of_ble_eq_true rfl) (Nat.le_of_ble_eq_true rfl) (Nat.le_of_ble_eq_true rfl) dX5_find_171 ?_
        obtain ⟨hi, h⟩ := ix_of h
        refine g_iast (pc := 174) C (w' := cs_X5 J.2.2.1 a0 f_order f_seam (upd f_toCome ((x4 * 6) + x5).toNatClampNeg v2) f_places f_seams ++ cs_X4 J.2.2.1 a1 s_year s_wet s_lost s_eaten s_tied s_ripeMany s_gone s_place s_heard s_many s_lying s_ripe ++ cs_X2 J.2.2.1 a2 p_beds p_letters p_readers p_far p_drain p_length p_words p_home) 3 rfl hi dX5_find_174 rfl ?_
        refine g_iinc (pc := 175) C (j := 5) [(5, .int (x5 + 1)), (6, .int v1), (0, .ref (a0 0)), (2, .ref (a2 0)), (3, .int x3), (4, .int x4)] dX5_find_175 rfl (ii_1 _) (by decide) rfl ?_
        refine g_goto (pc := 178) C (tgt := 123) dX5_find_178 rfl ?_
        refine g_lv [2, 3, 4, 5, 0] rfl ?_
        exact ih x3 x4 (x5 + 1) f_order f_seam (upd f_toCome ((x4 * 6) + x5).toNatClampNeg v2) f_places f_seams h
      · refine g_iconst (pc := 160) C dX5_find_160 ci_0 ?_
        refine g_goto (pc := 161) C (tgt := 174) dX5_find_161 rfl ?_
        obtain ⟨hi, h⟩ := ix_of h
        refine g_iast (pc := 174) C (w' := cs_X5 J.2.2.1 a0 f_order f_seam (upd f_toCome ((x4 * 6) + x5).toNatClampNeg 0) f_places f_seams ++ cs_X4 J.2.2.1 a1 s_year s_wet s_lost s_eaten s_tied s_ripeMany s_gone s_place s_heard s_many s_lying s_ripe ++ cs_X2 J.2.2.1 a2 p_beds p_letters p_readers p_far p_drain p_length p_words p_home) 3 rfl hi dX5_find_174 rfl ?_
        refine g_iinc (pc := 175) C (j := 5) [(5, .int (x5 + 1)), (6, .int v1), (0, .ref (a0 0)), (2, .ref (a2 0)), (3, .int x3), (4, .int x4)] dX5_find_175 rfl (ii_1 _) (by decide) rfl ?_
        refine g_goto (pc := 178) C (tgt := 123) dX5_find_178 rfl ?_
        refine g_lv [2, 3, 4, 5, 0] rfl ?_
        exact ih x3 x4 (x5 + 1) f_order f_seam (upd f_toCome ((x4 * 6) + x5).toNatClampNeg 0) f_places f_seams h
set_option maxRecDepth 100000 in
set_option maxHeartbeats 4000000 in
theorem j_X5_find_109 {J : Jt} {Z : Zt} {a0 : Nat → Nat} {a1 : Nat → Nat} {a2 : Nat → Nat} {s_year : Int32} {s_wet : Int32} {s_lost : Int32} {s_eaten : Int32} {s_tied : Int32} {s_ripeMany : Int32} {s_gone : Nat → Int32} {s_place : Nat → Int32} {s_heard : Nat → Int32} {s_many : Nat → Int32} {s_lying : Nat → Int32} {s_ripe : Nat → Int32} {p_beds : Int32} {p_letters : Int32} {p_readers : Int32} {p_far : Nat → Int32} {p_drain : Nat → Int32} {p_length : Nat → Int32} {p_words : Nat → Int32} {p_home : Nat → Int32} {o_f_order : Nat → Int32} {o_f_seam : Nat → Int32} {o_f_toCome : Nat → Int32} {o_f_places : Int32} {o_f_seams : Int32} (C : Cx J Z cX5_find 7 RX5 none rm_X5_find) (E : Ez J Z 0 0 none (cs_X5 J.2.2.1 a0 o_f_order o_f_seam o_f_toCome o_f_places o_f_seams ++ cs_X4 J.2.2.1 a1 s_year s_wet s_lost s_eaten s_tied s_ripeMany s_gone s_place s_heard s_many s_lying s_ripe ++ cs_X2 J.2.2.1 a2 p_beds p_letters p_readers p_far p_drain p_length p_words p_home)) : ∀ (n : Nat) (x3 : Int32) (x4 : Int32) (f_order : Nat → Int32) (f_seam : Nat → Int32) (f_toCome : Nat → Int32) (f_places : Int32) (f_seams : Int32), f_X5_find_109 s_gone p_letters p_length p_words n x3 x4 f_order f_seam f_toCome f_places f_seams = some (o_f_order, o_f_seam, o_f_toCome, o_f_places, o_f_seams) → G J Z 0 0 (cs_X5 J.2.2.1 a0 f_order f_seam f_toCome f_places f_seams ++ cs_X4 J.2.2.1 a1 s_year s_wet s_lost s_eaten s_tied s_ripeMany s_gone s_place s_heard s_many s_lying s_ripe ++ cs_X2 J.2.2.1 a2 p_beds p_letters p_readers p_far p_drain p_length p_words p_home) 7 [(0, .ref (a0 0)), (2, .ref (a2 0)), (3, .int x3), (4, .int x4)] 109 [] := by
  intro n
  induction n with
  | zero =>
    intro x3 x4 f_order f_seam f_toCome f_places f_seams h
    rw [f_X5_find_109] at h
    cases h
  | succ n ih =>
    intro x3 x4 f_order f_seam f_toCome f_places f_seams h
    rw [f_X5_find_109] at h
    refine g_iload (pc := 109) C 3 rfl dX5_find_109 ?_
    refine g_iconst (pc := 111) C dX5_find_111 ci_1 ?_
    refine g_aload_n (pc := 112) C 1 rfl dX5_find_112 ?_
    refine g_get (pc := 113) C FOK_X2 11 rfl rfl 1 (by decide) kw_282 rfl dX5_find_113 ?_
    refine g_ishl (pc := 116) C dX5_find_116 ?_
    refine g_icmp_ge (pc := 117) C (tgt := 187) dX5_find_117 rfl h (fun h => ?_) (fun h => ?_)
    · refine g_aload_n (pc := 187) C 0 rfl dX5_find_187 ?_
      refine g_iload_n (pc := 188) C 2 rfl dX5_find_188 ?_
      obtain ⟨c3, c4, c5, hc, h⟩ := b3_of h
      refine g_callV (pc := 189) C (w' := cs_X5 J.2.2.1 a0 c3 f_seam f_toCome c4 c5 ++ cs_X4 J.2.2.1 a1 s_year s_wet s_lost s_eaten s_tied s_ripeMany s_gone s_place s_heard s_many s_lying s_ripe ++ cs_X2 J.2.2.1 a2 p_beds p_letters p_readers p_far p_drain p_length p_words p_home) (As := [.int x3]) (st := []) (ci := 5) (q0 := 0) rfl rfl (t_X5_choose (a0 := a0) hc) (Sub.gen [0, 1, 2, 3] [4, 5, 6, 7, 8, 9, 10, 11, 12, 13, 14, 15, 16] [13, 14, 15, 16, 0, 1, 2, 3, 4, 5, 6, 7, 8, 9, 10, 11, 12] rfl (by decide) rfl (by decide) (by decide) rfl (by decide)) kw_489 kw_490 kw_491 kw_91 hy_X5_choose kw_492 rfl (Nat.le_of_ble_eq_true rfl) (Nat.le_of_ble_eq_true rfl) (Nat.le_of_ble_eq_true rfl) (Nat.le_of_ble_eq_true rfl) (Nat.le_of_ble_eq_true rfl) dX5_find_189 ?_
      cases h
      exact g_vret C E dX5_find_192
    · refine g_iconst (pc := 120) C dX5_find_120 ci_0 ?_
      refine g_istore (pc := 121) C [(5, .int 0), (0, .ref (a0 0)), (2, .ref (a2 0)), (3, .int x3), (4, .int x4)] dX5_find_121 (by decide) rfl ?_
      refine g_lv [1, 2, 3, 4, 0] rfl ?_
      exact j_X5_find_123 C E ih FU x3 x4 0 f_order f_seam f_toCome f_places f_seams h
set_option maxRecDepth 100000 in
set_option maxHeartbeats 4000000 in
theorem j_X5_find_38 {J : Jt} {Z : Zt} {a0 : Nat → Nat} {a1 : Nat → Nat} {a2 : Nat → Nat} {s_year : Int32} {s_wet : Int32} {s_lost : Int32} {s_eaten : Int32} {s_tied : Int32} {s_ripeMany : Int32} {s_gone : Nat → Int32} {s_place : Nat → Int32} {s_heard : Nat → Int32} {s_many : Nat → Int32} {s_lying : Nat → Int32} {s_ripe : Nat → Int32} {p_beds : Int32} {p_letters : Int32} {p_readers : Int32} {p_far : Nat → Int32} {p_drain : Nat → Int32} {p_length : Nat → Int32} {p_words : Nat → Int32} {p_home : Nat → Int32} {o_f_order : Nat → Int32} {o_f_seam : Nat → Int32} {o_f_toCome : Nat → Int32} {o_f_places : Int32} {o_f_seams : Int32} {k5 : Int32 → Int32 → (Nat → Int32) → (Nat → Int32) → (Nat → Int32) → Int32 → Int32 → Option ((Nat → Int32) × (Nat → Int32) × (Nat → Int32) × Int32 × Int32)} (C : Cx J Z cX5_find 7 RX5 none rm_X5_find) (E : Ez J Z 0 0 none (cs_X5 J.2.2.1 a0 o_f_order o_f_seam o_f_toCome o_f_places o_f_seams ++ cs_X4 J.2.2.1 a1 s_year s_wet s_lost s_eaten s_tied s_ripeMany s_gone s_place s_heard s_many s_lying s_ripe ++ cs_X2 J.2.2.1 a2 p_beds p_letters p_readers p_far p_drain p_length p_words p_home)) (hk5 : ∀ (x3 : Int32) (x4 : Int32) (f_order : Nat → Int32) (f_seam : Nat → Int32) (f_toCome : Nat → Int32) (f_places : Int32) (f_seams : Int32), k5 x3 x4 f_order f_seam f_toCome f_places f_seams = some (o_f_order, o_f_seam, o_f_toCome, o_f_places, o_f_seams) → G J Z 0 0 (cs_X5 J.2.2.1 a0 f_order f_seam f_toCome f_places f_seams ++ cs_X4 J.2.2.1 a1 s_year s_wet s_lost s_eaten s_tied s_ripeMany s_gone s_place s_heard s_many s_lying s_ripe ++ cs_X2 J.2.2.1 a2 p_beds p_letters p_readers p_far p_drain p_length p_words p_home) 7 [(0, .ref (a0 0)), (1, .ref (a1 0)), (2, .ref (a2 0)), (3, .int x3), (4, .int x4)] 5 []) : ∀ (n : Nat) (x3 : Int32) (x4 : Int32) (x5 : Int32) (f_order : Nat → Int32) (f_seam : Nat → Int32) (f_toCome : Nat → Int32) (f_places : Int32) (f_seams : Int32), f_X5_find_38 s_gone p_letters p_length p_words k5 n x3 x4 x5 f_order f_seam f_toCome f_places f_seams = some (o_f_order, o_f_seam, o_f_toCome, o_f_places, o_f_seams) → G J Z 0 0 (cs_X5 J.2.2.1 a0 f_order f_seam f_toCome f_places f_seams ++ cs_X4 J.2.2.1 a1 s_year s_wet s_lost s_eaten s_tied s_ripeMany s_gone s_place s_heard s_many s_lying s_ripe ++ cs_X2 J.2.2.1 a2 p_beds p_letters p_readers p_far p_drain p_length p_words p_home) 7 [(0, .ref (a0 0)), (1, .ref (a1 0)), (2, .ref (a2 0)), (3, .int x3), (4, .int x4), (5, .int x5)] 38 [] := by
  intro n
  induction n with
  | zero =>
    intro x3 x4 x5 f_order f_seam f_toCome f_places f_seams h
    rw [f_X5_find_38] at h
    cases h
  | succ n ih =>
    intro x3 x4 x5 f_order f_seam f_toCome f_places f_seams h
    rw [f_X5_find_38] at h
    refine g_iload (pc := 38) C 5 rfl dX5_find_38 ?_
    refine g_aload_n (pc := 40) C 2 rfl dX5_find_40 ?_
    refine g_get (pc := 41) C FOK_X2 11 rfl rfl 1 (by decide) kw_282 rfl dX5_find_41 ?_
    refine g_icmp_ge (pc := 44) C (tgt := 100) dX5_find_44 rfl h (fun h => ?_) (fun h => ?_)
    · refine g_iinc (pc := 100) C (j := 4) [(4, .int (x4 + 1)), (0, .ref (a0 0)), (1, .ref (a1 0)), (2, .ref (a2 0)), (3, .int x3), (5, .int x5)] dX5_find_100 rfl (ii_1 _) (by decide) rfl ?_
      refine g_goto (pc := 103) C (tgt := 5) dX5_find_103 rfl ?_
      refine g_lv [1, 2, 3, 4, 0] rfl ?_
      exact hk5 x3 (x4 + 1) f_order f_seam f_toCome f_places f_seams h
    · refine g_aload_n (pc := 47) C 2 rfl dX5_find_47 ?_
      refine g_iload (pc := 48) C 4 rfl dX5_find_48 ?_
      refine g_aload_n (pc := 50) C 2 rfl dX5_find_50 ?_
      refine g_get (pc := 51) C FOK_X2 11 rfl rfl 5 (by decide) kw_298 rfl dX5_find_51 ?_
      refine g_iload (pc := 54) C 4 rfl dX5_find_54 ?_
      obtain ⟨hi, h⟩ := ix_of h
      refine g_iald (pc := 56) C 14 rfl hi dX5_find_56 ?_
      refine g_iconst (pc := 57) C dX5_find_57 ci_1 ?_
      refine g_isub (pc := 58) C dX5_find_58 ?_
      obtain ⟨v6, hc, h⟩ := b1_of h
      refine g_callV (pc := 59) C (w' := cs_X5 J.2.2.1 a0 f_order f_seam f_toCome f_places f_seams ++ cs_X4 J.2.2.1 a1 s_year s_wet s_lost s_eaten s_tied s_ripeMany s_gone s_place s_heard s_many s_lying s_ripe ++ cs_X2 J.2.2.1 a2 p_beds p_letters p_readers p_far p_drain p_length p_words p_home) (As := [.int x4, .int ((p_length x4.toNatClampNeg) - 1)]) (st := []) (ci := 2) (q0 := 11) rfl rfl (t_X2_wordAt (a0 := a2) hc) (Sub.gen [11, 12, 13, 14, 15, 16] [0, 1, 2, 3, 4, 5, 6, 7, 8, 9, 10] [0, 1, 2, 3, 4, 5, 6, 7, 8, 9, 10, 11, 12, 13, 14, 15, 16] rfl (by decide) rfl (by decide) (by decide) rfl (by decide)) kw_468 kw_469 kw_470 kw_92 hy_X2_wordAt kw_471 rfl (Nat.le_of_ble_eq_true rfl) (Nat.le_of_ble_eq_true rfl) (Nat.le_of_ble_eq_true rfl) (Nat.le_of_ble_eq_true rfl) (Nat.le_of_ble_eq_true rfl) dX5_find_59 ?_
      refine g_istore (pc := 62) C [(6, .int v6), (0, .ref (a0 0)), (1, .ref (a1 0)), (2, .ref (a2 0)), (3, .int x3), (4, .int x4), (5, .int x5)] dX5_find_62 (by decide) rfl ?_
      refine g_aload_n (pc := 64) C 1 rfl dX5_find_64 ?_
      refine g_get (pc := 65) C FOK_X5 0 rfl rfl 1 (by decide) kw_250 rfl dX5_find_65 ?_
      refine g_iload (pc := 68) C 5 rfl dX5_find_68 ?_
      refine g_bipush (pc := 70) C dX5_find_70 cb_6 ?_
      refine g_imul (pc := 72) C dX5_find_72 ?_
      refine g_iload (pc := 73) C 6 rfl dX5_find_73 ?_
      refine g_iadd (pc := 75) C dX5_find_75 ?_
      refine g_iload (pc := 76) C 0 rfl dX5_find_76 ?_
      refine g_aload_n (pc := 78) C 2 rfl dX5_find_78 ?_
      refine g_aload_n (pc := 79) C 3 rfl dX5_find_79 ?_
      refine g_iload (pc := 80) C 6 rfl dX5_find_80 ?_
      obtain ⟨v7, hc, h⟩ := b1_of h
      refine g_callV (pc := 82) C (w' := cs_X5 J.2.2.1 a0 f_order f_seam f_toCome f_places f_seams ++ cs_X4 J.2.2.1 a1 s_year s_wet s_lost s_eaten s_tied s_ripeMany s_gone s_place s_heard s_many s_lying s_ripe ++ cs_X2 J.2.2.1 a2 p_beds p_letters p_readers p_far p_drain p_length p_words p_home) (As := [.ref (a2 0), .int x5]) (st := [.int v6, .int ((x4 * 6) + x5), .ref (a0 2)]) (ci := 4) (q0 := 4) rfl rfl (t_X4_nextOf (a0 := a1) (a1 := a2) hc) (Sub.gen [4, 5, 6, 7, 8, 9, 10, 11, 12, 13, 14, 15, 16] [0, 1, 2, 3] [0, 1, 2, 3, 4, 5, 6, 7, 8, 9, 10, 11, 12, 13, 14, 15, 16] rfl (by decide) rfl (by decide) (by decide) rfl (by decide)) kw_472 kw_473 kw_474 kw_88 hy_X4_nextOf kw_475 rfl (Nat.le_of_ble_eq_true rfl) (Nat.le_of_ble_eq_true rfl) (Nat.le_of_ble_eq_true rfl) (Nat.le_of_ble_eq_true rfl) (Nat.le_of_ble_eq_true rfl) dX5_find_82 ?_
      refine g_icmp_ne (pc := 85) C (tgt := 92) dX5_find_85 rfl h (fun h => ?_) (fun h => ?_)
      · refine g_iconst (pc := 92) C dX5_find_92 ci_0 ?_
        obtain ⟨hi, h⟩ := ix_of h
        refine g_iast (pc := 93) C (w' := cs_X5 J.2.2.1 a0 f_order (upd f_seam ((x4 * 6) + x5).toNatClampNeg 0) f_toCome f_places f_seams ++ cs_X4 J.2.2.1 a1 s_year s_wet s_lost s_eaten s_tied s_ripeMany s_gone s_place s_heard s_many s_lying s_ripe ++ cs_X2 J.2.2.1 a2 p_beds p_letters p_readers p_far p_drain p_length p_words p_home) 2 rfl hi dX5_find_93 rfl ?_
        refine g_iinc (pc := 94) C (j := 6) [(5, .int (x5 + 1)), (6, .int v6), (0, .ref (a0 0)), (1, .ref (a1 0)), (2, .ref (a2 0)), (3, .int x3), (4, .int x4)] dX5_find_94 rfl (ii_1 _) (by decide) rfl ?_
        refine g_goto (pc := 97) C (tgt := 38) dX5_find_97 rfl ?_
        refine g_lv [2, 3, 4, 5, 6, 0] rfl ?_
        exact ih x3 x4 (x5 + 1) f_order (upd f_seam ((x4 * 6) + x5).toNatClampNeg 0) f_toCome f_places f_seams h
      · refine g_iconst (pc := 88) C dX5_find_88 ci_1 ?_
        refine g_goto (pc := 89) C (tgt := 93) dX5_find_89 rfl ?_
        obtain ⟨hi, h⟩ := ix_of h
        refine g_iast (pc := 93) C (w' := cs_X5 J.2.2.1 a0 f_order (upd f_seam ((x4 * 6) + x5).toNatClampNeg 1) f_toCome f_places f_seams ++ cs_X4 J.2.2.1 a1 s_year s_wet s_lost s_eaten s_tied s_ripeMany s_gone s_place s_heard s_many s_lying s_ripe ++ cs_X2 J.2.2.1 a2 p_beds p_letters p_readers p_far p_drain p_length p_words p_home) 2 rfl hi dX5_find_93 rfl ?_
        refine g_iinc (pc := 94) C (j := 6) [(5, .int (x5 + 1)), (6, .int v6), (0, .ref (a0 0)), (1, .ref (a1 0)), (2, .ref (a2 0)), (3, .int x3), (4, .int x4)] dX5_find_94 rfl (ii_1 _) (by decide) rfl ?_
        refine g_goto (pc := 97) C (tgt := 38) dX5_find_97 rfl ?_
        refine g_lv [2, 3, 4, 5, 6, 0] rfl ?_
        exact ih x3 x4 (x5 + 1) f_order (upd f_seam ((x4 * 6) + x5).toNatClampNeg 1) f_toCome f_places f_seams h
set_option maxRecDepth 100000 in
set_option maxHeartbeats 4000000 in
theorem j_X5_find_5 {J : Jt} {Z : Zt} {a0 : Nat → Nat} {a1 : Nat → Nat} {a2 : Nat → Nat} {s_year : Int32} {s_wet : Int32} {s_lost : Int32} {s_eaten : Int32} {s_tied : Int32} {s_ripeMany : Int32} {s_gone : Nat → Int32} {s_place : Nat → Int32} {s_heard : Nat → Int32} {s_many : Nat → Int32} {s_lying : Nat → Int32} {s_ripe : Nat → Int32} {p_beds : Int32} {p_letters : Int32} {p_readers : Int32} {p_far : Nat → Int32} {p_drain : Nat → Int32} {p_length : Nat → Int32} {p_words : Nat → Int32} {p_home : Nat → Int32} {o_f_order : Nat → Int32} {o_f_seam : Nat → Int32} {o_f_toCome : Nat → Int32} {o_f_places : Int32} {o_f_seams : Int32} (C : Cx J Z cX5_find 7 RX5 none rm_X5_find) (E : Ez J Z 0 0 none (cs_X5 J.2.2.1 a0 o_f_order o_f_seam o_f_toCome o_f_places o_f_seams ++ cs_X4 J.2.2.1 a1 s_year s_wet s_lost s_eaten s_tied s_ripeMany s_gone s_place s_heard s_many s_lying s_ripe ++ cs_X2 J.2.2.1 a2 p_beds p_letters p_readers p_far p_drain p_length p_words p_home)) : ∀ (n : Nat) (x3 : Int32) (x4 : Int32) (f_order : Nat → Int32) (f_seam : Nat → Int32) (f_toCome : Nat → Int32) (f_places : Int32) (f_seams : Int32), f_X5_find_5 s_gone p_letters p_length p_words n x3 x4 f_order f_seam f_toCome f_places f_seams = some (o_f_order, o_f_seam, o_f_toCome, o_f_places, o_f_seams) → G J Z 0 0 (cs_X5 J.2.2.1 a0 f_order f_seam f_toCome f_places f_seams ++ cs_X4 J.2.2.1 a1 s_year s_wet s_lost s_eaten s_tied s_ripeMany s_gone s_place s_heard s_many s_lying s_ripe ++ cs_X2 J.2.2.1 a2 p_beds p_letters p_readers p_far p_drain p_length p_words p_home) 7 [(0, .ref (a0 0)), (1, .ref (a1 0)), (2, .ref (a2 0)), (3, .int x3), (4, .int x4)] 5 [] := by
  intro n
  induction n with
  | zero =>
    intro x3 x4 f_order f_seam f_toCome f_places f_seams h
    rw [f_X5_find_5] at h
    cases h
  | succ n ih =>
    intro x3 x4 f_order f_seam f_toCome f_places f_seams h
    rw [f_X5_find_5] at h
    refine g_iload (pc := 5) C 4 rfl dX5_find_5 ?_
    refine g_aload_n (pc := 7) C 2 rfl dX5_find_7 ?_
    refine g_get (pc := 8) C FOK_X2 11 rfl rfl 1 (by decide) kw_282 rfl dX5_find_8 ?_
    refine g_icmp_ge (pc := 11) C (tgt := 106) dX5_find_11 rfl h (fun h => ?_) (fun h => ?_)
    · refine g_iconst (pc := 106) C dX5_find_106 ci_0 ?_
      refine g_istore (pc := 107) C [(4, .int 0), (0, .ref (a0 0)), (1, .ref (a1 0)), (2, .ref (a2 0)), (3, .int x3)] dX5_find_107 (by decide) rfl ?_
      refine g_lv [1, 3, 4, 0] rfl ?_
      exact j_X5_find_109 C E  FU x3 0 f_order f_seam f_toCome f_places f_seams h
    · refine g_iload_n (pc := 14) C 3 rfl dX5_find_14 ?_
      refine g_aload_n (pc := 15) C 1 rfl dX5_find_15 ?_
      refine g_aload_n (pc := 16) C 2 rfl dX5_find_16 ?_
      refine g_iload (pc := 17) C 4 rfl dX5_find_17 ?_
      obtain ⟨v8, hc, h⟩ := b1_of h
      refine g_callV (pc := 19) C (w' := cs_X5 J.2.2.1 a0 f_order f_seam f_toCome f_places f_seams ++ cs_X4 J.2.2.1 a1 s_year s_wet s_lost s_eaten s_tied s_ripeMany s_gone s_place s_heard s_many s_lying s_ripe ++ cs_X2 J.2.2.1 a2 p_beds p_letters p_readers p_far p_drain p_length p_words p_home) (As := [.ref (a2 0), .int x4]) (st := [.int x3]) (ci := 4) (q0 := 4) rfl rfl (t_X4_leftOf (a0 := a1) (a1 := a2) hc) (Sub.gen [4, 5, 6, 7, 8, 9, 10, 11, 12, 13, 14, 15, 16] [0, 1, 2, 3] [0, 1, 2, 3, 4, 5, 6, 7, 8, 9, 10, 11, 12, 13, 14, 15, 16] rfl (by decide) rfl (by decide) (by decide) rfl (by decide)) kw_464 kw_465 kw_466 kw_88 hy_X4_leftOf kw_467 rfl (Nat.le_of_ble_eq_true rfl) (Nat.le_of_ble_eq_true rfl) (Nat.le_of_ble_eq_true rfl) (Nat.le_of_ble_eq_true rfl) (Nat.le_of_ble_eq_true rfl) dX5_find_19 ?_
      refine g_if_le (pc := 22) C (tgt := 32) dX5_find_22 rfl h (fun h => ?_) (fun h => ?_)
      · refine g_iconst (pc := 32) C dX5_find_32 ci_0 ?_
        refine g_ior (pc := 33) C dX5_find_33 ?_
        refine g_istore_n (pc := 34) C [(3, .int (x3 ||| 0)), (0, .ref (a0 0)), (1, .ref (a1 0)), (2, .ref (a2 0)), (4, .int x4)] dX5_find_34 rfl (by decide) rfl ?_
        refine g_iconst (pc := 35) C dX5_find_35 ci_0 ?_
        refine g_istore (pc := 36) C [(5, .int 0), (3, .int (x3 ||| 0)), (0, .ref (a0 0)), (1, .ref (a1 0)), (2, .ref (a2 0)), (4, .int x4)] dX5_find_36 (by decide) rfl ?_
        refine g_lv [2, 3, 4, 1, 5, 0] rfl ?_
        exact j_X5_find_38 C E ih FU (x3 ||| 0) x4 0 f_order f_seam f_toCome f_places f_seams h
      · refine g_iconst (pc := 25) C dX5_find_25 ci_1 ?_
        refine g_iload (pc := 26) C 4 rfl dX5_find_26 ?_
        refine g_ishl (pc := 28) C dX5_find_28 ?_
        refine g_goto (pc := 29) C (tgt := 33) dX5_find_29 rfl ?_
        refine g_ior (pc := 33) C dX5_find_33 ?_
        refine g_istore_n (pc := 34) C [(3, .int (x3 ||| ((1 : Int32) <<< (x4 &&& 31)))), (0, .ref (a0 0)), (1, .ref (a1 0)), (2, .ref (a2 0)), (4, .int x4)] dX5_find_34 rfl (by decide) rfl ?_
        refine g_iconst (pc := 35) C dX5_find_35 ci_0 ?_
        refine g_istore (pc := 36) C [(5, .int 0), (3, .int (x3 ||| ((1 : Int32) <<< (x4 &&& 31)))), (0, .ref (a0 0)), (1, .ref (a1 0)), (2, .ref (a2 0)), (4, .int x4)] dX5_find_36 (by decide) rfl ?_
        refine g_lv [2, 3, 4, 1, 5, 0] rfl ?_
        exact j_X5_find_38 C E ih FU (x3 ||| ((1 : Int32) <<< (x4 &&& 31))) x4 0 f_order f_seam f_toCome f_places f_seams h
set_option maxRecDepth 100000 in
set_option maxHeartbeats 4000000 in
theorem t_X5_find {J : Jt} {a0 : Nat → Nat} {a1 : Nat → Nat} {a2 : Nat → Nat} {f_order : Nat → Int32} {f_seam : Nat → Int32} {f_toCome : Nat → Int32} {f_places : Int32} {f_seams : Int32} {s_year : Int32} {s_wet : Int32} {s_lost : Int32} {s_eaten : Int32} {s_tied : Int32} {s_ripeMany : Int32} {s_gone : Nat → Int32} {s_place : Nat → Int32} {s_heard : Nat → Int32} {s_many : Nat → Int32} {s_lying : Nat → Int32} {s_ripe : Nat → Int32} {p_beds : Int32} {p_letters : Int32} {p_readers : Int32} {p_far : Nat → Int32} {p_drain : Nat → Int32} {p_length : Nat → Int32} {p_words : Nat → Int32} {p_home : Nat → Int32} {o_f_order : Nat → Int32} {o_f_seam : Nat → Int32} {o_f_toCome : Nat → Int32} {o_f_places : Int32} {o_f_seams : Int32} (h : f_X5_find f_order f_seam f_toCome f_places f_seams s_gone p_letters p_length p_words = some (o_f_order, o_f_seam, o_f_toCome, o_f_places, o_f_seams)) : Mt J yX5_find cX5_find 7 none rm_X5_find [.ref (a0 0), .ref (a1 0), .ref (a2 0)] (cs_X5 J.2.2.1 a0 f_order f_seam f_toCome f_places f_seams ++ cs_X4 J.2.2.1 a1 s_year s_wet s_lost s_eaten s_tied s_ripeMany s_gone s_place s_heard s_many s_lying s_ripe ++ cs_X2 J.2.2.1 a2 p_beds p_letters p_readers p_far p_drain p_length p_words p_home) none (cs_X5 J.2.2.1 a0 o_f_order o_f_seam o_f_toCome o_f_places o_f_seams ++ cs_X4 J.2.2.1 a1 s_year s_wet s_lost s_eaten s_tied s_ripeMany s_gone s_place s_heard s_many s_lying s_ripe ++ cs_X2 J.2.2.1 a2 p_beds p_letters p_readers p_far p_drain p_length p_words p_home) := by
  refine Mt_of (own := RX5) (by decide) rfl (Nat.le_of_ble_eq_true rfl) rfl (fun Z C E => ?_)
  unfold f_X5_find at h
  show G J Z 0 0 (cs_X5 J.2.2.1 a0 f_order f_seam f_toCome f_places f_seams ++ cs_X4 J.2.2.1 a1 s_year s_wet s_lost s_eaten s_tied s_ripeMany s_gone s_place s_heard s_many s_lying s_ripe ++ cs_X2 J.2.2.1 a2 p_beds p_letters p_readers p_far p_drain p_length p_words p_home) 7 [(0, .ref (a0 0)), (1, .ref (a1 0)), (2, .ref (a2 0))] 0 []
  refine g_iconst (pc := 0) C dX5_find_0 ci_0 ?_
  refine g_istore_n (pc := 1) C [(3, .int 0), (0, .ref (a0 0)), (1, .ref (a1 0)), (2, .ref (a2 0))] dX5_find_1 rfl (by decide) rfl ?_
  refine g_iconst (pc := 2) C dX5_find_2 ci_0 ?_
  refine g_istore (pc := 3) C [(4, .int 0), (3, .int 0), (0, .ref (a0 0)), (1, .ref (a1 0)), (2, .ref (a2 0))] dX5_find_3 (by decide) rfl ?_
  refine g_lv [2, 3, 4, 1, 0] rfl ?_
  exact j_X5_find_5 C E  FU 0 0 f_order f_seam f_toCome f_places f_seams h
noncomputable def f_X6_draw (u_drawn : Int32) (n1 : Int32) : Option (Int32 × Int32) := if n1 ≤ 0 then some (0, (u_drawn * 1103515245) + 12345) else if n1 = 0 then none else some ((((((u_drawn * 1103515245) + 12345).toUInt32 >>> ((16 : Int32).toUInt32 &&& Int32.toUInt32 31)).toInt32) &&& 32767) - (((((u_drawn * 1103515245) + 12345).toUInt32 >>> ((16 : Int32).toUInt32 &&& Int32.toUInt32 31)).toInt32) &&& 32767) / n1 * n1, (u_drawn * 1103515245) + 12345)
def rm_X6_draw : Room := { frames := 0, cells := 0, slots := 0, locals := 0 }
set_option maxRecDepth 100000 in
set_option maxHeartbeats 4000000 in
theorem t_X6_draw {J : Jt} {a0 : Nat → Nat} {u_drawn : Int32} {n1 : Int32} {r : Int32} {o_u_drawn : Int32} (h : f_X6_draw u_drawn n1 = some (r, o_u_drawn)) : Mt J yX6_draw cX6_draw 3 (some .int) rm_X6_draw [.ref (a0 0), .int n1] (cs_X6 J.2.2.1 a0 u_drawn) (some (.int r)) (cs_X6 J.2.2.1 a0 o_u_drawn) := by
  refine Mt_of (own := RX6) (by decide) rfl (Nat.le_of_ble_eq_true rfl) rfl (fun Z C E => ?_)
  unfold f_X6_draw at h
  show G J Z 0 0 (cs_X6 J.2.2.1 a0 u_drawn) 3 [(0, .ref (a0 0)), (1, .int n1)] 0 []
  refine g_aload_n (pc := 0) C 0 rfl dX6_draw_0 ?_
  refine g_aload_n (pc := 1) C 0 rfl dX6_draw_1 ?_
  refine g_get (pc := 2) C FOK_X6 0 rfl rfl 0 (by decide) kw_238 rfl dX6_draw_2 ?_
  refine g_ldc (pc := 5) C dX6_draw_5 kw_1239 ?_
  refine g_imul (pc := 7) C dX6_draw_7 ?_
  refine g_sipush (pc := 8) C dX6_draw_8 cs_12345 ?_
  refine g_iadd (pc := 11) C dX6_draw_11 ?_
  refine g_put (pc := 12) C (w' := cs_X6 J.2.2.1 a0 ((u_drawn * 1103515245) + 12345)) FOK_X6 0 rfl rfl 0 (by decide) kw_238 rfl rfl rfl (Nat.le_of_ble_eq_true rfl) dX6_draw_12 rfl ?_
  refine g_aload_n (pc := 15) C 0 rfl dX6_draw_15 ?_
  refine g_get (pc := 16) C FOK_X6 0 rfl rfl 0 (by decide) kw_238 rfl dX6_draw_16 ?_
  refine g_bipush (pc := 19) C dX6_draw_19 cb_16 ?_
  refine g_iushr (pc := 21) C dX6_draw_21 ?_
  refine g_sipush (pc := 22) C dX6_draw_22 cs_32767 ?_
  refine g_iand (pc := 25) C dX6_draw_25 ?_
  refine g_istore_n (pc := 26) C [(2, .int (((((u_drawn * 1103515245) + 12345).toUInt32 >>> ((16 : Int32).toUInt32 &&& Int32.toUInt32 31)).toInt32) &&& 32767)), (0, .ref (a0 0)), (1, .int n1)] dX6_draw_26 rfl (by decide) rfl ?_
  refine g_iload_n (pc := 27) C 2 rfl dX6_draw_27 ?_
  refine g_if_le (pc := 28) C (tgt := 37) dX6_draw_28 rfl h (fun h => ?_) (fun h => ?_)
  · refine g_iconst (pc := 37) C dX6_draw_37 ci_0 ?_
    cases h
    exact g_iret C E dX6_draw_38
  · refine g_iload_n (pc := 31) C 0 rfl dX6_draw_31 ?_
    refine g_iload_n (pc := 32) C 2 rfl dX6_draw_32 ?_
    obtain ⟨hz, h⟩ := nz_of h
    refine g_irem (pc := 33) C dX6_draw_33 hz ?_
    refine g_goto (pc := 34) C (tgt := 38) dX6_draw_34 rfl ?_
    cases h
    exact g_iret C E dX6_draw_38
noncomputable def f_X6_passHalf_42 (s_year : Int32) (s_tied : Int32) (p_beds : Int32) (p_letters : Int32) (p_readers : Int32) (p_far : Nat → Int32) (p_drain : Nat → Int32) (p_length : Nat → Int32) (p_words : Nat → Int32) (l_code : Nat → Int32) (l_length : Int32) (n1 : Int32) (u_drawn : Int32) (s_wet : Int32) (s_lost : Int32) (s_gone : Nat → Int32) (s_place : Nat → Int32) (s_heard : Nat → Int32) (s_many : Nat → Int32) (s_lying : Nat → Int32) (l_values : Nat → Int32) (l_stack : Nat → Int32) : Option (Int32 × Int32 × Int32 × (Nat → Int32) × (Nat → Int32) × (Nat → Int32) × (Nat → Int32) × (Nat → Int32) × (Nat → Int32) × (Nat → Int32)) := if p_readers ≤ 0 then some (u_drawn, s_wet, s_lost, s_gone, s_place, s_heard, s_many, s_lying, l_values, l_stack) else b2 (f_X6_draw u_drawn p_readers) (fun v1 c2 => b2 (f_X6_draw c2 p_beds) (fun v3 c4 => b3 (f_X4_go s_place s_heard s_many s_lying v1 v3) (fun v5 c6 c7 => some (c4, s_wet, s_lost, s_gone, c6, c7, s_many, s_lying, l_values, l_stack))))
noncomputable def f_X6_passHalf (u_drawn : Int32) (s_year : Int32) (s_wet : Int32) (s_lost : Int32) (s_tied : Int32) (s_gone : Nat → Int32) (s_place : Nat → Int32) (s_heard : Nat → Int32) (s_many : Nat → Int32) (s_lying : Nat → Int32) (p_beds : Int32) (p_letters : Int32) (p_readers : Int32) (p_far : Nat → Int32) (p_drain : Nat → Int32) (p_length : Nat → Int32) (p_words : Nat → Int32) (l_code : Nat → Int32) (l_values : Nat → Int32) (l_stack : Nat → Int32) (l_length : Int32) (n1 : Int32) : Option (Int32 × Int32 × Int32 × (Nat → Int32) × (Nat → Int32) × (Nat → Int32) × (Nat → Int32) × (Nat → Int32) × (Nat → Int32) × (Nat → Int32)) := b2 (f_X6_draw u_drawn 16) (fun v8 c9 => if n1 ≤ v8 then b2 (f_X6_draw c9 30) (fun v10 c11 => b2 (f_X4_blow s_gone s_place s_heard p_letters p_readers p_far p_length p_words (v10 + 1)) (fun v12 c13 => f_X6_passHalf_42 s_year s_tied p_beds p_letters p_readers p_far p_drain p_length p_words l_code l_length n1 c11 s_wet s_lost s_gone s_place c13 s_many s_lying l_values l_stack)) else b2 (f_X6_draw c9 20) (fun v14 c15 => b7 (f_X4_pour s_year s_wet s_lost s_tied s_gone s_many s_lying p_letters p_far p_drain p_length p_words l_code l_values l_stack l_length (v14 + 1)) (fun c16 c17 c18 c19 c20 c21 c22 => f_X6_passHalf_42 s_year s_tied p_beds p_letters p_readers p_far p_drain p_length p_words l_code l_length n1 c15 c16 c17 c18 s_place s_heard c19 c20 c21 c22)))
def rm_X6_passHalf : Room := { frames := 4, cells := 0, slots := 0, locals := 104 }
set_option maxRecDepth 100000 in
set_option maxHeartbeats 4000000 in
theorem j_X6_passHalf_42 {J : Jt} {Z : Zt} {a0 : Nat → Nat} {a1 : Nat → Nat} {a2 : Nat → Nat} {a3 : Nat → Nat} {s_year : Int32} {s_eaten : Int32} {s_tied : Int32} {s_ripeMany : Int32} {s_ripe : Nat → Int32} {p_beds : Int32} {p_letters : Int32} {p_readers : Int32} {p_far : Nat → Int32} {p_drain : Nat → Int32} {p_length : Nat → Int32} {p_words : Nat → Int32} {p_home : Nat → Int32} {l_code : Nat → Int32} {l_length : Int32} {n1 : Int32} {o_u_drawn : Int32} {o_s_wet : Int32} {o_s_lost : Int32} {o_s_gone : Nat → Int32} {o_s_place : Nat → Int32} {o_s_heard : Nat → Int32} {o_s_many : Nat → Int32} {o_s_lying : Nat → Int32} {o_l_values : Nat → Int32} {o_l_stack : Nat → Int32} (C : Cx J Z cX6_passHalf 6 RX6 none rm_X6_passHalf) (E : Ez J Z 0 0 none (cs_X6 J.2.2.1 a0 o_u_drawn ++ cs_X4 J.2.2.1 a1 s_year o_s_wet o_s_lost s_eaten s_tied s_ripeMany o_s_gone o_s_place o_s_heard o_s_many o_s_lying s_ripe ++ cs_X2 J.2.2.1 a2 p_beds p_letters p_readers p_far p_drain p_length p_words p_home ++ cs_X1 J.2.2.1 a3 l_code o_l_values o_l_stack l_length)) : ∀ (u_drawn : Int32) (s_wet : Int32) (s_lost : Int32) (s_gone : Nat → Int32) (s_place : Nat → Int32) (s_heard : Nat → Int32) (s_many : Nat → Int32) (s_lying : Nat → Int32) (l_values : Nat → Int32) (l_stack : Nat → Int32), f_X6_passHalf_42 s_year s_tied p_beds p_letters p_readers p_far p_drain p_length p_words l_code l_length n1 u_drawn s_wet s_lost s_gone s_place s_heard s_many s_lying l_values l_stack = some (o_u_drawn, o_s_wet, o_s_lost, o_s_gone, o_s_place, o_s_heard, o_s_many, o_s_lying, o_l_values, o_l_stack) → G J Z 0 0 (cs_X6 J.2.2.1 a0 u_drawn ++ cs_X4 J.2.2.1 a1 s_year s_wet s_lost s_eaten s_tied s_ripeMany s_gone s_place s_heard s_many s_lying s_ripe ++ cs_X2 J.2.2.1 a2 p_beds p_letters p_readers p_far p_drain p_length p_words p_home ++ cs_X1 J.2.2.1 a3 l_code l_values l_stack l_length) 6 [(0, .ref (a0 0)), (1, .ref (a1 0)), (2, .ref (a2 0))] 42 [] := by
  intro u_drawn s_wet s_lost s_gone s_place s_heard s_many s_lying l_values l_stack h
  unfold f_X6_passHalf_42 at h
  refine g_aload_n (pc := 42) C 2 rfl dX6_passHalf_42 ?_
  refine g_get (pc := 43) C FOK_X2 8 rfl rfl 2 (by decide) kw_287 rfl dX6_passHalf_43 ?_
  refine g_if_le (pc := 46) C (tgt := 74) dX6_passHalf_46 rfl h (fun h => ?_) (fun h => ?_)
  · cases h
    exact g_vret C E dX6_passHalf_74
  · refine g_aload_n (pc := 49) C 0 rfl dX6_passHalf_49 ?_
    refine g_aload_n (pc := 50) C 2 rfl dX6_passHalf_50 ?_
    refine g_get (pc := 51) C FOK_X2 8 rfl rfl 2 (by decide) kw_287 rfl dX6_passHalf_51 ?_
    obtain ⟨v1, c2, hc, h⟩ := b2_of h
    refine g_callV (pc := 54) C (w' := cs_X6 J.2.2.1 a0 c2 ++ cs_X4 J.2.2.1 a1 s_year s_wet s_lost s_eaten s_tied s_ripeMany s_gone s_place s_heard s_many s_lying s_ripe ++ cs_X2 J.2.2.1 a2 p_beds p_letters p_readers p_far p_drain p_length p_words p_home ++ cs_X1 J.2.2.1 a3 l_code l_values l_stack l_length) (As := [.int p_readers]) (st := []) (ci := 6) (q0 := 0) rfl rfl (t_X6_draw (a0 := a0) hc) (Sub.gen [0] [1, 2, 3, 4, 5, 6, 7, 8, 9, 10, 11, 12, 13, 14, 15, 16, 17] [17, 0, 1, 2, 3, 4, 5, 6, 7, 8, 9, 10, 11, 12, 13, 14, 15, 16] rfl (by decide) rfl (by decide) (by decide) rfl (by decide)) kw_1235 kw_1236 kw_1237 kw_90 hy_X6_draw kw_1238 rfl (Nat.le_of_ble_eq_true rfl) (Nat.le_of_ble_eq_true rfl) (Nat.le_of_ble_eq_true rfl) (Nat.le_of_ble_eq_true rfl) (Nat.le_of_ble_eq_true rfl) dX6_passHalf_54 ?_
    refine g_istore (pc := 57) C [(5, .int v1), (0, .ref (a0 0)), (1, .ref (a1 0)), (2, .ref (a2 0))] dX6_passHalf_57 (by decide) rfl ?_
    refine g_aload_n (pc := 59) C 2 rfl dX6_passHalf_59 ?_
    refine g_iload (pc := 60) C 0 rfl dX6_passHalf_60 ?_
    refine g_aload_n (pc := 62) C 1 rfl dX6_passHalf_62 ?_
    refine g_aload_n (pc := 63) C 3 rfl dX6_passHalf_63 ?_
    refine g_get (pc := 64) C FOK_X2 8 rfl rfl 0 (by decide) kw_276 rfl dX6_passHalf_64 ?_
    obtain ⟨v3, c4, hc, h⟩ := b2_of h
    refine g_callV (pc := 67) C (w' := cs_X6 J.2.2.1 a0 c4 ++ cs_X4 J.2.2.1 a1 s_year s_wet s_lost s_eaten s_tied s_ripeMany s_gone s_place s_heard s_many s_lying s_ripe ++ cs_X2 J.2.2.1 a2 p_beds p_letters p_readers p_far p_drain p_length p_words p_home ++ cs_X1 J.2.2.1 a3 l_code l_values l_stack l_length) (As := [.int p_beds]) (st := [.int v1, .ref (a1 0)]) (ci := 6) (q0 := 0) rfl rfl (t_X6_draw (a0 := a0) hc) (Sub.gen [0] [1, 2, 3, 4, 5, 6, 7, 8, 9, 10, 11, 12, 13, 14, 15, 16, 17] [17, 0, 1, 2, 3, 4, 5, 6, 7, 8, 9, 10, 11, 12, 13, 14, 15, 16] rfl (by decide) rfl (by decide) (by decide) rfl (by decide)) kw_1235 kw_1236 kw_1237 kw_90 hy_X6_draw kw_1238 rfl (Nat.le_of_ble_eq_true rfl) (Nat.le_of_ble_eq_true rfl) (Nat.le_of_ble_eq_true rfl) (Nat.le_of_ble_eq_true rfl) (Nat.le_of_ble_eq_true rfl) dX6_passHalf_67 ?_
    obtain ⟨v5, c6, c7, hc, h⟩ := b3_of h
    refine g_callV (pc := 70) C (w' := cs_X6 J.2.2.1 a0 c4 ++ cs_X4 J.2.2.1 a1 s_year s_wet s_lost s_eaten s_tied s_ripeMany s_gone c6 c7 s_many s_lying s_ripe ++ cs_X2 J.2.2.1 a2 p_beds p_letters p_readers p_far p_drain p_length p_words p_home ++ cs_X1 J.2.2.1 a3 l_code l_values l_stack l_length) (As := [.int v1, .int v3]) (st := []) (ci := 4) (q0 := 1) rfl rfl (t_X4_go (a0 := a1) hc) (Sub.gen [1, 2, 3, 4, 5, 6, 7] [0, 8, 9, 10, 11, 12, 13, 14, 15, 16, 17] [0, 11, 12, 13, 14, 15, 16, 17, 1, 2, 3, 4, 5, 6, 7, 8, 9, 10] rfl (by decide) rfl (by decide) (by decide) rfl (by decide)) kw_1242 kw_866 kw_867 kw_88 hy_X4_go kw_868 rfl (Nat.le_of_ble_eq_true rfl) (Nat.le_of_ble_eq_true rfl) (Nat.le_of_ble_eq_true rfl) (Nat.le_of_ble_eq_true rfl) (Nat.le_of_ble_eq_true rfl) dX6_passHalf_70 ?_
    refine g_pop (pc := 73) C dX6_passHalf_73 rfl ?_
    cases h
    exact g_vret C E dX6_passHalf_74
set_option maxRecDepth 100000 in
set_option maxHeartbeats 4000000 in
theorem t_X6_passHalf {J : Jt} {a0 : Nat → Nat} {a1 : Nat → Nat} {a2 : Nat → Nat} {a3 : Nat → Nat} {u_drawn : Int32} {s_year : Int32} {s_wet : Int32} {s_lost : Int32} {s_eaten : Int32} {s_tied : Int32} {s_ripeMany : Int32} {s_gone : Nat → Int32} {s_place : Nat → Int32} {s_heard : Nat → Int32} {s_many : Nat → Int32} {s_lying : Nat → Int32} {s_ripe : Nat → Int32} {p_beds : Int32} {p_letters : Int32} {p_readers : Int32} {p_far : Nat → Int32} {p_drain : Nat → Int32} {p_length : Nat → Int32} {p_words : Nat → Int32} {p_home : Nat → Int32} {l_code : Nat → Int32} {l_values : Nat → Int32} {l_stack : Nat → Int32} {l_length : Int32} {n1 : Int32} {o_u_drawn : Int32} {o_s_wet : Int32} {o_s_lost : Int32} {o_s_gone : Nat → Int32} {o_s_place : Nat → Int32} {o_s_heard : Nat → Int32} {o_s_many : Nat → Int32} {o_s_lying : Nat → Int32} {o_l_values : Nat → Int32} {o_l_stack : Nat → Int32} (h : f_X6_passHalf u_drawn s_year s_wet s_lost s_tied s_gone s_place s_heard s_many s_lying p_beds p_letters p_readers p_far p_drain p_length p_words l_code l_values l_stack l_length n1 = some (o_u_drawn, o_s_wet, o_s_lost, o_s_gone, o_s_place, o_s_heard, o_s_many, o_s_lying, o_l_values, o_l_stack)) : Mt J yX6_passHalf cX6_passHalf 6 none rm_X6_passHalf [.ref (a0 0), .ref (a1 0), .ref (a2 0), .ref (a3 0), .int n1] (cs_X6 J.2.2.1 a0 u_drawn ++ cs_X4 J.2.2.1 a1 s_year s_wet s_lost s_eaten s_tied s_ripeMany s_gone s_place s_heard s_many s_lying s_ripe ++ cs_X2 J.2.2.1 a2 p_beds p_letters p_readers p_far p_drain p_length p_words p_home ++ cs_X1 J.2.2.1 a3 l_code l_values l_stack l_length) none (cs_X6 J.2.2.1 a0 o_u_drawn ++ cs_X4 J.2.2.1 a1 s_year o_s_wet o_s_lost s_eaten s_tied s_ripeMany o_s_gone o_s_place o_s_heard o_s_many o_s_lying s_ripe ++ cs_X2 J.2.2.1 a2 p_beds p_letters p_readers p_far p_drain p_length p_words p_home ++ cs_X1 J.2.2.1 a3 l_code o_l_values o_l_stack l_length) := by
  refine Mt_of (own := RX6) (by decide) rfl (Nat.le_of_ble_eq_true rfl) rfl (fun Z C E => ?_)
  unfold f_X6_passHalf at h
  show G J Z 0 0 (cs_X6 J.2.2.1 a0 u_drawn ++ cs_X4 J.2.2.1 a1 s_year s_wet s_lost s_eaten s_tied s_ripeMany s_gone s_place s_heard s_many s_lying s_ripe ++ cs_X2 J.2.2.1 a2 p_beds p_letters p_readers p_far p_drain p_length p_words p_home ++ cs_X1 J.2.2.1 a3 l_code l_values l_stack l_length) 6 [(0, .ref (a0 0)), (1, .ref (a1 0)), (2, .ref (a2 0)), (3, .ref (a3 0)), (4, .int n1)] 0 []
  refine g_aload_n (pc := 0) C 0 rfl dX6_passHalf_0 ?_
  refine g_bipush (pc := 1) C dX6_passHalf_1 cb_16 ?_
  obtain ⟨v8, c9, hc, h⟩ := b2_of h
  refine g_callV (pc := 3) C (w' := cs_X6 J.2.2.1 a0 c9 ++ cs_X4 J.2.2.1 a1 s_year s_wet s_lost s_eaten s_tied s_ripeMany s_gone s_place s_heard s_many s_lying s_ripe ++ cs_X2 J.2.2.1 a2 p_beds p_letters p_readers p_far p_drain p_length p_words p_home ++ cs_X1 J.2.2.1 a3 l_code l_values l_stack l_length) (As := [.int 16]) (st := []) (ci := 6) (q0 := 0) rfl rfl (t_X6_draw (a0 := a0) hc) (Sub.gen [0] [1, 2, 3, 4, 5, 6, 7, 8, 9, 10, 11, 12, 13, 14, 15, 16, 17] [17, 0, 1, 2, 3, 4, 5, 6, 7, 8, 9, 10, 11, 12, 13, 14, 15, 16] rfl (by decide) rfl (by decide) (by decide) rfl (by decide)) kw_1235 kw_1236 kw_1237 kw_90 hy_X6_draw kw_1238 rfl (Nat.le_of_ble_eq_true rfl) (Nat.le_of_ble_eq_true rfl) (Nat.le_of_ble_eq_true rfl) (Nat.le_of_ble_eq_true rfl) (Nat.le_of_ble_eq_true rfl) dX6_passHalf_3 ?_
  refine g_iload (pc := 6) C 4 rfl dX6_passHalf_6 ?_
  refine g_icmp_ge (pc := 8) C (tgt := 28) dX6_passHalf_8 rfl h (fun h => ?_) (fun h => ?_)
  · refine g_aload_n (pc := 28) C 1 rfl dX6_passHalf_28 ?_
    refine g_aload_n (pc := 29) C 2 rfl dX6_passHalf_29 ?_
    refine g_aload_n (pc := 30) C 0 rfl dX6_passHalf_30 ?_
    refine g_bipush (pc := 31) C dX6_passHalf_31 cb_30 ?_
    obtain ⟨v10, c11, hc, h⟩ := b2_of h
    refine g_callV (pc := 33) C (w' := cs_X6 J.2.2.1 a0 c11 ++ cs_X4 J.2.2.1 a1 s_year s_wet s_lost s_eaten s_tied s_ripeMany s_gone s_place s_heard s_many s_lying s_ripe ++ cs_X2 J.2.2.1 a2 p_beds p_letters p_readers p_far p_drain p_length p_words p_home ++ cs_X1 J.2.2.1 a3 l_code l_values l_stack l_length) (As := [.int 30]) (st := [.ref (a2 0), .ref (a1 0)]) (ci := 6) (q0 := 0) rfl rfl (t_X6_draw (a0 := a0) hc) (Sub.gen [0] [1, 2, 3, 4, 5, 6, 7, 8, 9, 10, 11, 12, 13, 14, 15, 16, 17] [17, 0, 1, 2, 3, 4, 5, 6, 7, 8, 9, 10, 11, 12, 13, 14, 15, 16] rfl (by decide) rfl (by decide) (by decide) rfl (by decide)) kw_1235 kw_1236 kw_1237 kw_90 hy_X6_draw kw_1238 rfl (Nat.le_of_ble_eq_true rfl) (Nat.le_of_ble_eq_true rfl) (Nat.le_of_ble_eq_true rfl) (Nat.le_of_ble_eq_true rfl) (Nat.le_of_ble_eq_true rfl) dX6_passHalf_33 ?_
    refine g_iconst (pc := 36) C dX6_passHalf_36 ci_1 ?_
    refine g_iadd (pc := 37) C dX6_passHalf_37 ?_
    obtain ⟨v12, c13, hc, h⟩ := b2_of h
    refine g_callV (pc := 38) C (w' := cs_X6 J.2.2.1 a0 c11 ++ cs_X4 J.2.2.1 a1 s_year s_wet s_lost s_eaten s_tied s_ripeMany s_gone s_place c13 s_many s_lying s_ripe ++ cs_X2 J.2.2.1 a2 p_beds p_letters p_readers p_far p_drain p_length p_words p_home ++ cs_X1 J.2.2.1 a3 l_code l_values l_stack l_length) (As := [.ref (a2 0), .int (v10 + 1)]) (st := []) (ci := 4) (q0 := 1) rfl rfl (t_X4_blow (a0 := a1) (a1 := a2) hc) (Sub.gen [1, 2, 3, 4, 5, 6, 7, 8, 9, 10, 11, 12, 13] [0, 14, 15, 16, 17] [0, 5, 6, 7, 8, 9, 10, 11, 12, 13, 14, 15, 16, 17, 1, 2, 3, 4] rfl (by decide) rfl (by decide) (by decide) rfl (by decide)) kw_1241 kw_857 kw_858 kw_88 hy_X4_blow kw_859 rfl (Nat.le_of_ble_eq_true rfl) (Nat.le_of_ble_eq_true rfl) (Nat.le_of_ble_eq_true rfl) (Nat.le_of_ble_eq_true rfl) (Nat.le_of_ble_eq_true rfl) dX6_passHalf_38 ?_
    refine g_pop (pc := 41) C dX6_passHalf_41 rfl ?_
    refine g_lv [0, 1, 2] rfl ?_
    exact j_X6_passHalf_42 C E  c11 s_wet s_lost s_gone s_place c13 s_many s_lying l_values l_stack h
  · refine g_aload_n (pc := 11) C 1 rfl dX6_passHalf_11 ?_
    refine g_aload_n (pc := 12) C 2 rfl dX6_passHalf_12 ?_
    refine g_aload_n (pc := 13) C 3 rfl dX6_passHalf_13 ?_
    refine g_aload_n (pc := 14) C 0 rfl dX6_passHalf_14 ?_
    refine g_bipush (pc := 15) C dX6_passHalf_15 cb_20 ?_
    obtain ⟨v14, c15, hc, h⟩ := b2_of h
    refine g_callV (pc := 17) C (w' := cs_X6 J.2.2.1 a0 c15 ++ cs_X4 J.2.2.1 a1 s_year s_wet s_lost s_eaten s_tied s_ripeMany s_gone s_place s_heard s_many s_lying s_ripe ++ cs_X2 J.2.2.1 a2 p_beds p_letters p_readers p_far p_drain p_length p_words p_home ++ cs_X1 J.2.2.1 a3 l_code l_values l_stack l_length) (As := [.int 20]) (st := [.ref (a3 0), .ref (a2 0), .ref (a1 0)]) (ci := 6) (q0 := 0) rfl rfl (t_X6_draw (a0 := a0) hc) (Sub.gen [0] [1, 2, 3, 4, 5, 6, 7, 8, 9, 10, 11, 12, 13, 14, 15, 16, 17] [17, 0, 1, 2, 3, 4, 5, 6, 7, 8, 9, 10, 11, 12, 13, 14, 15, 16] rfl (by decide) rfl (by decide) (by decide) rfl (by decide)) kw_1235 kw_1236 kw_1237 kw_90 hy_X6_draw kw_1238 rfl (Nat.le_of_ble_eq_true rfl) (Nat.le_of_ble_eq_true rfl) (Nat.le_of_ble_eq_true rfl) (Nat.le_of_ble_eq_true rfl) (Nat.le_of_ble_eq_true rfl) dX6_passHalf_17 ?_
    refine g_iconst (pc := 20) C dX6_passHalf_20 ci_1 ?_
    refine g_iadd (pc := 21) C dX6_passHalf_21 ?_
    obtain ⟨c16, c17, c18, c19, c20, c21, c22, hc, h⟩ := b7_of h
    refine g_callV (pc := 22) C (w' := cs_X6 J.2.2.1 a0 c15 ++ cs_X4 J.2.2.1 a1 s_year c16 c17 s_eaten s_tied s_ripeMany c18 s_place s_heard c19 c20 s_ripe ++ cs_X2 J.2.2.1 a2 p_beds p_letters p_readers p_far p_drain p_length p_words p_home ++ cs_X1 J.2.2.1 a3 l_code c21 c22 l_length) (As := [.ref (a2 0), .ref (a3 0), .int (v14 + 1)]) (st := []) (ci := 4) (q0 := 1) rfl rfl (t_X4_pour (a0 := a1) (a1 := a2) (a2 := a3) hc) (Sub.gen [1, 2, 3, 4, 5, 6, 7, 8, 9, 10, 11, 12, 13, 14, 15, 16, 17] [0] [0, 1, 2, 3, 4, 5, 6, 7, 8, 9, 10, 11, 12, 13, 14, 15, 16, 17] rfl (by decide) rfl (by decide) (by decide) rfl (by decide)) kw_1240 kw_882 kw_883 kw_88 hy_X4_pour kw_884 rfl (Nat.le_of_ble_eq_true rfl) (Nat.le_of_ble_eq_true rfl) (Nat.le_of_ble_eq_true rfl) (Nat.le_of_ble_eq_true rfl) (Nat.le_of_ble_eq_true rfl) dX6_passHalf_22 ?_
    refine g_goto (pc := 25) C (tgt := 42) dX6_passHalf_25 rfl ?_
    refine g_lv [0, 1, 2] rfl ?_
    exact j_X6_passHalf_42 C E  c15 c16 c17 c18 s_place s_heard c19 c20 c21 c22 h
noncomputable def f_X6_pass_9 (s_tied : Int32) (p_beds : Int32) (p_letters : Int32) (p_readers : Int32) (p_far : Nat → Int32) (p_drain : Nat → Int32) (p_length : Nat → Int32) (p_words : Nat → Int32) (l_code : Nat → Int32) (l_length : Int32) (n1 : Int32) (n2 : Int32) (n3 : Int32) : Nat → Int32 → Int32 → Int32 → Int32 → Int32 → Int32 → (Nat → Int32) → (Nat → Int32) → (Nat → Int32) → (Nat → Int32) → (Nat → Int32) → (Nat → Int32) → (Nat → Int32) → (Nat → Int32) → Option (Int32 × Int32 × Int32 × Int32 × Int32 × (Nat → Int32) × (Nat → Int32) × (Nat → Int32) × (Nat → Int32) × (Nat → Int32) × (Nat → Int32) × (Nat → Int32) × (Nat → Int32))
  | 0, _, _, _, _, _, _, _, _, _, _, _, _, _, _ => none
  | n + 1, x7, u_drawn, s_year, s_wet, s_lost, s_ripeMany, s_gone, s_place, s_heard, s_many, s_lying, s_ripe, l_values, l_stack => if n3 ≤ x7 then some (u_drawn, s_year, s_wet, s_lost, s_ripeMany, s_gone, s_place, s_heard, s_many, s_lying, s_ripe, l_values, l_stack) else b10 (f_X6_passHalf u_drawn s_year s_wet s_lost s_tied s_gone s_place s_heard s_many s_lying p_beds p_letters p_readers p_far p_drain p_length p_words l_code l_values l_stack l_length n2) (fun c1 c2 c3 c4 c5 c6 c7 c8 c9 c10 => b10 (f_X6_passHalf c1 s_year c2 c3 s_tied c4 c5 c6 c7 c8 p_beds p_letters p_readers p_far p_drain p_length p_words l_code c9 c10 l_length n2) (fun c11 c12 c13 c14 c15 c16 c17 c18 c19 c20 => b6 (f_X4_passYear s_year c12 s_ripeMany c17 c18 s_ripe p_beds) (fun c21 c22 c23 c24 c25 c26 => f_X6_pass_9 s_tied p_beds p_letters p_readers p_far p_drain p_length p_words l_code l_length n1 n2 n3 n (x7 + 1) c11 c21 c22 c13 c23 c14 c15 c16 c24 c25 c26 c19 c20)))
noncomputable def f_X6_pass (u_drawn : Int32) (s_year : Int32) (s_wet : Int32) (s_lost : Int32) (s_tied : Int32) (s_ripeMany : Int32) (s_gone : Nat → Int32) (s_place : Nat → Int32) (s_heard : Nat → Int32) (s_many : Nat → Int32) (s_lying : Nat → Int32) (s_ripe : Nat → Int32) (p_beds : Int32) (p_letters : Int32) (p_readers : Int32) (p_far : Nat → Int32) (p_drain : Nat → Int32) (p_length : Nat → Int32) (p_words : Nat → Int32) (l_code : Nat → Int32) (l_values : Nat → Int32) (l_stack : Nat → Int32) (l_length : Int32) (n1 : Int32) (n2 : Int32) (n3 : Int32) : Option (Int32 × Int32 × Int32 × Int32 × Int32 × (Nat → Int32) × (Nat → Int32) × (Nat → Int32) × (Nat → Int32) × (Nat → Int32) × (Nat → Int32) × (Nat → Int32) × (Nat → Int32)) := f_X6_pass_9 s_tied p_beds p_letters p_readers p_far p_drain p_length p_words l_code l_length n1 n2 n3 FU 0 n1 s_year s_wet s_lost s_ripeMany s_gone s_place s_heard s_many s_lying s_ripe l_values l_stack
def rm_X6_pass : Room := { frames := 5, cells := 0, slots := 0, locals := 129 }
set_option maxRecDepth 100000 in
set_option maxHeartbeats 4000000 in
theorem j_X6_pass_9 {J : Jt} {Z : Zt} {a0 : Nat → Nat} {a1 : Nat → Nat} {a2 : Nat → Nat} {a3 : Nat → Nat} {s_eaten : Int32} {s_tied : Int32} {p_beds : Int32} {p_letters : Int32} {p_readers : Int32} {p_far : Nat → Int32} {p_drain : Nat → Int32} {p_length : Nat → Int32} {p_words : Nat → Int32} {p_home : Nat → Int32} {l_code : Nat → Int32} {l_length : Int32} {n1 : Int32} {n2 : Int32} {n3 : Int32} {o_u_drawn : Int32} {o_s_year : Int32} {o_s_wet : Int32} {o_s_lost : Int32} {o_s_ripeMany : Int32} {o_s_gone : Nat → Int32} {o_s_place : Nat → Int32} {o_s_heard : Nat → Int32} {o_s_many : Nat → Int32} {o_s_lying : Nat → Int32} {o_s_ripe : Nat → Int32} {o_l_values : Nat → Int32} {o_l_stack : Nat → Int32} (C : Cx J Z cX6_pass 8 RX6 none rm_X6_pass) (E : Ez J Z 0 0 none (cs_X6 J.2.2.1 a0 o_u_drawn ++ cs_X4 J.2.2.1 a1 o_s_year o_s_wet o_s_lost s_eaten s_tied o_s_ripeMany o_s_gone o_s_place o_s_heard o_s_many o_s_lying o_s_ripe ++ cs_X2 J.2.2.1 a2 p_beds p_letters p_readers p_far p_drain p_length p_words p_home ++ cs_X1 J.2.2.1 a3 l_code o_l_values o_l_stack l_length)) : ∀ (n : Nat) (x7 : Int32) (u_drawn : Int32) (s_year : Int32) (s_wet : Int32) (s_lost : Int32) (s_ripeMany : Int32) (s_gone : Nat → Int32) (s_place : Nat → Int32) (s_heard : Nat → Int32) (s_many : Nat → Int32) (s_lying : Nat → Int32) (s_ripe : Nat → Int32) (l_values : Nat → Int32) (l_stack : Nat → Int32), f_X6_pass_9 s_tied p_beds p_letters p_readers p_far p_drain p_length p_words l_code l_length n1 n2 n3 n x7 u_drawn s_year s_wet s_lost s_ripeMany s_gone s_place s_heard s_many s_lying s_ripe l_values l_stack = some (o_u_drawn, o_s_year, o_s_wet, o_s_lost, o_s_ripeMany, o_s_gone, o_s_place, o_s_heard, o_s_many, o_s_lying, o_s_ripe, o_l_values, o_l_stack) → G J Z 0 0 (cs_X6 J.2.2.1 a0 u_drawn ++ cs_X4 J.2.2.1 a1 s_year s_wet s_lost s_eaten s_tied s_ripeMany s_gone s_place s_heard s_many s_lying s_ripe ++ cs_X2 J.2.2.1 a2 p_beds p_letters p_readers p_far p_drain p_length p_words p_home ++ cs_X1 J.2.2.1 a3 l_code l_values l_stack l_length) 8 [(0, .ref (a0 0)), (1, .ref (a1 0)), (2, .ref (a2 0)), (3, .ref (a3 0)), (5, .int n2), (6, .int n3), (7, .int x7)] 9 [] := by
  intro n
  induction n with
  | zero =>
    intro x7 u_drawn s_year s_wet s_lost s_ripeMany s_gone s_place s_heard s_many s_lying s_ripe l_values l_stack h
    rw [f_X6_pass_9] at h
    cases h
  | succ n ih =>
    intro x7 u_drawn s_year s_wet s_lost s_ripeMany s_gone s_place s_heard s_many s_lying s_ripe l_values l_stack h
    rw [f_X6_pass_9] at h
    refine g_iload (pc := 9) C 6 rfl dX6_pass_9 ?_
    refine g_iload (pc := 11) C 5 rfl dX6_pass_11 ?_
    refine g_icmp_ge (pc := 13) C (tgt := 45) dX6_pass_13 rfl h (fun h => ?_) (fun h => ?_)
    · cases h
      exact g_vret C E dX6_pass_45
    · refine g_aload_n (pc := 16) C 0 rfl dX6_pass_16 ?_
      refine g_aload_n (pc := 17) C 1 rfl dX6_pass_17 ?_
      refine g_aload_n (pc := 18) C 2 rfl dX6_pass_18 ?_
      refine g_aload_n (pc := 19) C 3 rfl dX6_pass_19 ?_
      refine g_iload (pc := 20) C 4 rfl dX6_pass_20 ?_
      obtain ⟨c1, c2, c3, c4, c5, c6, c7, c8, c9, c10, hc, h⟩ := b10_of h
      refine g_callV (pc := 22) C (w' := cs_X6 J.2.2.1 a0 c1 ++ cs_X4 J.2.2.1 a1 s_year c2 c3 s_eaten s_tied s_ripeMany c4 c5 c6 c7 c8 s_ripe ++ cs_X2 J.2.2.1 a2 p_beds p_letters p_readers p_far p_drain p_length p_words p_home ++ cs_X1 J.2.2.1 a3 l_code c9 c10 l_length) (As := [.ref (a1 0), .ref (a2 0), .ref (a3 0), .int n2]) (st := []) (ci := 6) (q0 := 0) rfl rfl (t_X6_passHalf (a0 := a0) (a1 := a1) (a2 := a2) (a3 := a3) hc) Sub.same kw_1231 kw_1232 kw_1233 kw_90 hy_X6_passHalf kw_1234 rfl (Nat.le_of_ble_eq_true rfl) (Nat.le_of_ble_eq_true rfl) (Nat.le_of_ble_eq_true rfl) (Nat.le_of_ble_eq_true rfl) (Nat.le_of_ble_eq_true rfl) dX6_pass_22 ?_
      refine g_aload_n (pc := 25) C 0 rfl dX6_pass_25 ?_
      refine g_aload_n (pc := 26) C 1 rfl dX6_pass_26 ?_
      refine g_aload_n (pc := 27) C 2 rfl dX6_pass_27 ?_
      refine g_aload_n (pc := 28) C 3 rfl dX6_pass_28 ?_
      refine g_iload (pc := 29) C 4 rfl dX6_pass_29 ?_
      obtain ⟨c11, c12, c13, c14, c15, c16, c17, c18, c19, c20, hc, h⟩ := b10_of h
      refine g_callV (pc := 31) C (w' := cs_X6 J.2.2.1 a0 c11 ++ cs_X4 J.2.2.1 a1 s_year c12 c13 s_eaten s_tied s_ripeMany c14 c15 c16 c17 c18 s_ripe ++ cs_X2 J.2.2.1 a2 p_beds p_letters p_readers p_far p_drain p_length p_words p_home ++ cs_X1 J.2.2.1 a3 l_code c19 c20 l_length) (As := [.ref (a1 0), .ref (a2 0), .ref (a3 0), .int n2]) (st := []) (ci := 6) (q0 := 0) rfl rfl (t_X6_passHalf (a0 := a0) (a1 := a1) (a2 := a2) (a3 := a3) hc) Sub.same kw_1231 kw_1232 kw_1233 kw_90 hy_X6_passHalf kw_1234 rfl (Nat.le_of_ble_eq_true rfl) (Nat.le_of_ble_eq_true rfl) (Nat.le_of_ble_eq_true rfl) (Nat.le_of_ble_eq_true rfl) (Nat.le_of_ble_eq_true rfl) dX6_pass_31 ?_
      refine g_aload_n (pc := 34) C 1 rfl dX6_pass_34 ?_
      refine g_aload_n (pc := 35) C 2 rfl dX6_pass_35 ?_
      obtain ⟨c21, c22, c23, c24, c25, c26, hc, h⟩ := b6_of h
      refine g_callV (pc := 36) C (w' := cs_X6 J.2.2.1 a0 c11 ++ cs_X4 J.2.2.1 a1 c21 c22 c13 s_eaten s_tied c23 c14 c15 c16 c24 c25 c26 ++ cs_X2 J.2.2.1 a2 p_beds p_letters p_readers p_far p_drain p_length p_words p_home ++ cs_X1 J.2.2.1 a3 l_code c19 c20 l_length) (As := [.ref (a2 0)]) (st := []) (ci := 4) (q0 := 1) rfl rfl (t_X4_passYear (a0 := a1) (a1 := a2) hc) (Sub.gen [1, 2, 3, 4, 5, 6, 7, 8, 9, 10, 11, 12, 13] [0, 14, 15, 16, 17] [0, 5, 6, 7, 8, 9, 10, 11, 12, 13, 14, 15, 16, 17, 1, 2, 3, 4] rfl (by decide) rfl (by decide) (by decide) rfl (by decide)) kw_1243 kw_911 kw_912 kw_88 hy_X4_passYear kw_913 rfl (Nat.le_of_ble_eq_true rfl) (Nat.le_of_ble_eq_true rfl) (Nat.le_of_ble_eq_true rfl) (Nat.le_of_ble_eq_true rfl) (Nat.le_of_ble_eq_true rfl) dX6_pass_36 ?_
      refine g_iinc (pc := 39) C (j := 6) [(7, .int (x7 + 1)), (0, .ref (a0 0)), (1, .ref (a1 0)), (2, .ref (a2 0)), (3, .ref (a3 0)), (5, .int n2), (6, .int n3)] dX6_pass_39 rfl (ii_1 _) (by decide) rfl ?_
      refine g_goto (pc := 42) C (tgt := 9) dX6_pass_42 rfl ?_
      refine g_lv [1, 2, 3, 4, 5, 6, 0] rfl ?_
      exact ih (x7 + 1) c11 c21 c22 c13 c23 c14 c15 c16 c24 c25 c26 c19 c20 h
set_option maxRecDepth 100000 in
set_option maxHeartbeats 4000000 in
theorem t_X6_pass {J : Jt} {a0 : Nat → Nat} {a1 : Nat → Nat} {a2 : Nat → Nat} {a3 : Nat → Nat} {u_drawn : Int32} {s_year : Int32} {s_wet : Int32} {s_lost : Int32} {s_eaten : Int32} {s_tied : Int32} {s_ripeMany : Int32} {s_gone : Nat → Int32} {s_place : Nat → Int32} {s_heard : Nat → Int32} {s_many : Nat → Int32} {s_lying : Nat → Int32} {s_ripe : Nat → Int32} {p_beds : Int32} {p_letters : Int32} {p_readers : Int32} {p_far : Nat → Int32} {p_drain : Nat → Int32} {p_length : Nat → Int32} {p_words : Nat → Int32} {p_home : Nat → Int32} {l_code : Nat → Int32} {l_values : Nat → Int32} {l_stack : Nat → Int32} {l_length : Int32} {n1 : Int32} {n2 : Int32} {n3 : Int32} {o_u_drawn : Int32} {o_s_year : Int32} {o_s_wet : Int32} {o_s_lost : Int32} {o_s_ripeMany : Int32} {o_s_gone : Nat → Int32} {o_s_place : Nat → Int32} {o_s_heard : Nat → Int32} {o_s_many : Nat → Int32} {o_s_lying : Nat → Int32} {o_s_ripe : Nat → Int32} {o_l_values : Nat → Int32} {o_l_stack : Nat → Int32} (h : f_X6_pass u_drawn s_year s_wet s_lost s_tied s_ripeMany s_gone s_place s_heard s_many s_lying s_ripe p_beds p_letters p_readers p_far p_drain p_length p_words l_code l_values l_stack l_length n1 n2 n3 = some (o_u_drawn, o_s_year, o_s_wet, o_s_lost, o_s_ripeMany, o_s_gone, o_s_place, o_s_heard, o_s_many, o_s_lying, o_s_ripe, o_l_values, o_l_stack)) : Mt J yX6_pass cX6_pass 8 none rm_X6_pass [.ref (a0 0), .ref (a1 0), .ref (a2 0), .ref (a3 0), .int n1, .int n2, .int n3] (cs_X6 J.2.2.1 a0 u_drawn ++ cs_X4 J.2.2.1 a1 s_year s_wet s_lost s_eaten s_tied s_ripeMany s_gone s_place s_heard s_many s_lying s_ripe ++ cs_X2 J.2.2.1 a2 p_beds p_letters p_readers p_far p_drain p_length p_words p_home ++ cs_X1 J.2.2.1 a3 l_code l_values l_stack l_length) none (cs_X6 J.2.2.1 a0 o_u_drawn ++ cs_X4 J.2.2.1 a1 o_s_year o_s_wet o_s_lost s_eaten s_tied o_s_ripeMany o_s_gone o_s_place o_s_heard o_s_many o_s_lying o_s_ripe ++ cs_X2 J.2.2.1 a2 p_beds p_letters p_readers p_far p_drain p_length p_words p_home ++ cs_X1 J.2.2.1 a3 l_code o_l_values o_l_stack l_length) := by
  refine Mt_of (own := RX6) (by decide) rfl (Nat.le_of_ble_eq_true rfl) rfl (fun Z C E => ?_)
  unfold f_X6_pass at h
  show G J Z 0 0 (cs_X6 J.2.2.1 a0 u_drawn ++ cs_X4 J.2.2.1 a1 s_year s_wet s_lost s_eaten s_tied s_ripeMany s_gone s_place s_heard s_many s_lying s_ripe ++ cs_X2 J.2.2.1 a2 p_beds p_letters p_readers p_far p_drain p_length p_words p_home ++ cs_X1 J.2.2.1 a3 l_code l_values l_stack l_length) 8 [(0, .ref (a0 0)), (1, .ref (a1 0)), (2, .ref (a2 0)), (3, .ref (a3 0)), (4, .int n1), (5, .int n2), (6, .int n3)] 0 []
  refine g_aload_n (pc := 0) C 0 rfl dX6_pass_0 ?_
  refine g_iload (pc := 1) C 4 rfl dX6_pass_1 ?_
  refine g_put (pc := 3) C (w' := cs_X6 J.2.2.1 a0 n1 ++ cs_X4 J.2.2.1 a1 s_year s_wet s_lost s_eaten s_tied s_ripeMany s_gone s_place s_heard s_many s_lying s_ripe ++ cs_X2 J.2.2.1 a2 p_beds p_letters p_readers p_far p_drain p_length p_words p_home ++ cs_X1 J.2.2.1 a3 l_code l_values l_stack l_length) FOK_X6 0 rfl rfl 0 (by decide) kw_238 rfl rfl rfl (Nat.le_of_ble_eq_true rfl) dX6_pass_3 rfl ?_
  refine g_iconst (pc := 6) C dX6_pass_6 ci_0 ?_
  refine g_istore (pc := 7) C [(7, .int 0), (0, .ref (a0 0)), (1, .ref (a1 0)), (2, .ref (a2 0)), (3, .ref (a3 0)), (4, .int n1), (5, .int n2), (6, .int n3)] dX6_pass_7 (by decide) rfl ?_
  refine g_lv [1, 2, 3, 4, 6, 7, 0] rfl ?_
  exact j_X6_pass_9 C E  FU 0 n1 s_year s_wet s_lost s_ripeMany s_gone s_place s_heard s_many s_lying s_ripe l_values l_stack h
noncomputable def f_X7_hasRoom (t_held : Int32) : Option (Int32) := if 600 < (t_held + 20) then some 0 else some 1
def rm_X7_hasRoom : Room := { frames := 0, cells := 0, slots := 0, locals := 0 }
set_option maxRecDepth 100000 in
set_option maxHeartbeats 4000000 in
theorem t_X7_hasRoom {J : Jt} {a0 : Nat → Nat} {t_bytes : Nat → Int32} {t_held : Int32} {t_end : Int32} {t_at : Int32} {t_start : Int32} {t_faultKind : Int32} {t_faultPlace : Int32} {r : Int32} (h : f_X7_hasRoom t_held = some r) : Mt J yX7_hasRoom cX7_hasRoom 1 (some .boolean) rm_X7_hasRoom [.ref (a0 0)] (cs_X7 J.2.2.1 a0 t_bytes t_held t_end t_at t_start t_faultKind t_faultPlace) (some (.int r)) (cs_X7 J.2.2.1 a0 t_bytes t_held t_end t_at t_start t_faultKind t_faultPlace) := by
  refine Mt_of (own := RX7) (by decide) rfl (Nat.le_of_ble_eq_true rfl) rfl (fun Z C E => ?_)
  unfold f_X7_hasRoom at h
  show G J Z 0 0 (cs_X7 J.2.2.1 a0 t_bytes t_held t_end t_at t_start t_faultKind t_faultPlace) 1 [(0, .ref (a0 0))] 0 []
  refine g_aload_n (pc := 0) C 0 rfl dX7_hasRoom_0 ?_
  refine g_get (pc := 1) C FOK_X7 0 rfl rfl 1 (by decide) kw_124 rfl dX7_hasRoom_1 ?_
  refine g_bipush (pc := 4) C dX7_hasRoom_4 cb_20 ?_
  refine g_iadd (pc := 6) C dX7_hasRoom_6 ?_
  refine g_sipush (pc := 7) C dX7_hasRoom_7 cs_600 ?_
  refine g_icmp_gt (pc := 10) C (tgt := 17) dX7_hasRoom_10 rfl h (fun h => ?_) (fun h => ?_)
  · refine g_iconst (pc := 17) C dX7_hasRoom_17 ci_0 ?_
    cases h
    exact g_zret C rfl E dX7_hasRoom_18
  · refine g_iconst (pc := 13) C dX7_hasRoom_13 ci_1 ?_
    refine g_goto (pc := 14) C (tgt := 18) dX7_hasRoom_14 rfl ?_
    cases h
    exact g_zret C rfl E dX7_hasRoom_18
noncomputable def f_X7_put_3  (n1 : Int32) : Nat → Int32 → (Nat → Int32) → Int32 → Option ((Nat → Int32) × Int32)
  | 0, _, _, _ => none
  | n + 1, x2, t_bytes, t_held => if x2 < 0 then some (t_bytes, t_held) else if 600 ≤ t_held then some (t_bytes, t_held) else if ixb t_held 600 then f_X7_put_3 n1 n (x2 + (-8)) (upd t_bytes t_held.toNatClampNeg (vp_nar .byte ((n1 >>> (x2 &&& 31)).toInt8.toInt32))) (t_held + 1) else none
noncomputable def f_X7_put (t_bytes : Nat → Int32) (t_held : Int32) (n1 : Int32) : Option ((Nat → Int32) × Int32) := f_X7_put_3 n1 FU 24 t_bytes t_held
def rm_X7_put : Room := { frames := 0, cells := 0, slots := 0, locals := 0 }
set_option maxRecDepth 100000 in
set_option maxHeartbeats 4000000 in
theorem j_X7_put_3 {J : Jt} {Z : Zt} {a0 : Nat → Nat} {t_end : Int32} {t_at : Int32} {t_start : Int32} {t_faultKind : Int32} {t_faultPlace : Int32} {n1 : Int32} {o_t_bytes : Nat → Int32} {o_t_held : Int32} (C : Cx J Z cX7_put 3 RX7 none rm_X7_put) (E : Ez J Z 0 0 none (cs_X7 J.2.2.1 a0 o_t_bytes o_t_held t_end t_at t_start t_faultKind t_faultPlace)) : ∀ (n : Nat) (x2 : Int32) (t_bytes : Nat → Int32) (t_held : Int32), f_X7_put_3 n1 n x2 t_bytes t_held = some (o_t_bytes, o_t_held) → G J Z 0 0 (cs_X7 J.2.2.1 a0 t_bytes t_held t_end t_at t_start t_faultKind t_faultPlace) 3 [(0, .ref (a0 0)), (1, .int n1), (2, .int x2)] 3 [] := by
  intro n
  induction n with
  | zero =>
    intro x2 t_bytes t_held h
    rw [f_X7_put_3] at h
    cases h
  | succ n ih =>
    intro x2 t_bytes t_held h
    rw [f_X7_put_3] at h
    refine g_iload_n (pc := 3) C 2 rfl dX7_put_3 ?_
    refine g_if_lt (pc := 4) C (tgt := 46) dX7_put_4 rfl h (fun h => ?_) (fun h => ?_)
    · cases h
      exact g_vret C E dX7_put_46
    · refine g_aload_n (pc := 7) C 0 rfl dX7_put_7 ?_
      refine g_get (pc := 8) C FOK_X7 0 rfl rfl 1 (by decide) kw_124 rfl dX7_put_8 ?_
      refine g_sipush (pc := 11) C dX7_put_11 cs_600 ?_
      refine g_icmp_ge (pc := 14) C (tgt := 46) dX7_put_14 rfl h (fun h => ?_) (fun h => ?_)
      · cases h
        exact g_vret C E dX7_put_46
      · refine g_aload_n (pc := 17) C 0 rfl dX7_put_17 ?_
        refine g_get (pc := 18) C FOK_X7 0 rfl rfl 0 (by decide) kw_123 rfl dX7_put_18 ?_
        refine g_aload_n (pc := 21) C 0 rfl dX7_put_21 ?_
        refine g_get (pc := 22) C FOK_X7 0 rfl rfl 1 (by decide) kw_124 rfl dX7_put_22 ?_
        refine g_iload_n (pc := 25) C 1 rfl dX7_put_25 ?_
        refine g_iload_n (pc := 26) C 2 rfl dX7_put_26 ?_
        refine g_ishr (pc := 27) C dX7_put_27 ?_
        refine g_i2b (pc := 28) C dX7_put_28 ?_
        obtain ⟨hi, h⟩ := ix_of h
        refine g_bast (pc := 29) C (w' := cs_X7 J.2.2.1 a0 (upd t_bytes t_held.toNatClampNeg (vp_nar .byte ((n1 >>> (x2 &&& 31)).toInt8.toInt32))) t_held t_end t_at t_start t_faultKind t_faultPlace) 1 rfl hi dX7_put_29 rfl ?_
        refine g_aload_n (pc := 30) C 0 rfl dX7_put_30 ?_
        refine g_dup (pc := 31) C dX7_put_31 rfl ?_
        refine g_get (pc := 32) C FOK_X7 0 rfl rfl 1 (by decide) kw_124 rfl dX7_put_32 ?_
        refine g_iconst (pc := 35) C dX7_put_35 ci_1 ?_
        refine g_iadd (pc := 36) C dX7_put_36 ?_
        refine g_put (pc := 37) C (w' := cs_X7 J.2.2.1 a0 (upd t_bytes t_held.toNatClampNeg (vp_nar .byte ((n1 >>> (x2 &&& 31)).toInt8.toInt32))) (t_held + 1) t_end t_at t_start t_faultKind t_faultPlace) FOK_X7 0 rfl rfl 1 (by decide) kw_124 rfl rfl rfl (Nat.le_of_ble_eq_true rfl) dX7_put_37 rfl ?_
        refine g_iinc (pc := 40) C (j := 2) [(2, .int (x2 + (-8))), (0, .ref (a0 0)), (1, .int n1)] dX7_put_40 rfl (ii_m8 _) (by decide) rfl ?_
        refine g_goto (pc := 43) C (tgt := 3) dX7_put_43 rfl ?_
        refine g_lv [1, 2, 0] rfl ?_
        exact ih (x2 + (-8)) (upd t_bytes t_held.toNatClampNeg (vp_nar .byte ((n1 >>> (x2 &&& 31)).toInt8.toInt32))) (t_held + 1) h
set_option maxRecDepth 100000 in
set_option maxHeartbeats 4000000 in
theorem t_X7_put {J : Jt} {a0 : Nat → Nat} {t_bytes : Nat → Int32} {t_held : Int32} {t_end : Int32} {t_at : Int32} {t_start : Int32} {t_faultKind : Int32} {t_faultPlace : Int32} {n1 : Int32} {o_t_bytes : Nat → Int32} {o_t_held : Int32} (h : f_X7_put t_bytes t_held n1 = some (o_t_bytes, o_t_held)) : Mt J yX7_put cX7_put 3 none rm_X7_put [.ref (a0 0), .int n1] (cs_X7 J.2.2.1 a0 t_bytes t_held t_end t_at t_start t_faultKind t_faultPlace) none (cs_X7 J.2.2.1 a0 o_t_bytes o_t_held t_end t_at t_start t_faultKind t_faultPlace) := by
  refine Mt_of (own := RX7) (by decide) rfl (Nat.le_of_ble_eq_true rfl) rfl (fun Z C E => ?_)
  unfold f_X7_put at h
  show G J Z 0 0 (cs_X7 J.2.2.1 a0 t_bytes t_held t_end t_at t_start t_faultKind t_faultPlace) 3 [(0, .ref (a0 0)), (1, .int n1)] 0 []
  refine g_bipush (pc := 0) C dX7_put_0 cb_24 ?_
  refine g_istore_n (pc := 2) C [(2, .int 24), (0, .ref (a0 0)), (1, .int n1)] dX7_put_2 rfl (by decide) rfl ?_
  refine g_lv [1, 2, 0] rfl ?_
  exact j_X7_put_3 C E  FU 24 t_bytes t_held h
noncomputable def f_X7_open (t_end : Int32) (t_at : Int32) (t_start : Int32) (t_faultKind : Int32) (t_faultPlace : Int32) (n1 : Int32) : Option (Int32 × Int32 × Int32 × Int32 × Int32) := some (n1, 0, 0, 0, (-1))
def rm_X7_open : Room := { frames := 0, cells := 0, slots := 0, locals := 0 }
set_option maxRecDepth 100000 in
set_option maxHeartbeats 4000000 in
theorem t_X7_open {J : Jt} {a0 : Nat → Nat} {t_bytes : Nat → Int32} {t_held : Int32} {t_end : Int32} {t_at : Int32} {t_start : Int32} {t_faultKind : Int32} {t_faultPlace : Int32} {n1 : Int32} {o_t_end : Int32} {o_t_at : Int32} {o_t_start : Int32} {o_t_faultKind : Int32} {o_t_faultPlace : Int32} (h : f_X7_open t_end t_at t_start t_faultKind t_faultPlace n1 = some (o_t_end, o_t_at, o_t_start, o_t_faultKind, o_t_faultPlace)) : Mt J yX7_open cX7_open 2 none rm_X7_open [.ref (a0 0), .int n1] (cs_X7 J.2.2.1 a0 t_bytes t_held t_end t_at t_start t_faultKind t_faultPlace) none (cs_X7 J.2.2.1 a0 t_bytes t_held o_t_end o_t_at o_t_start o_t_faultKind o_t_faultPlace) := by
  refine Mt_of (own := RX7) (by decide) rfl (Nat.le_of_ble_eq_true rfl) rfl (fun Z C E => ?_)
  unfold f_X7_open at h
  show G J Z 0 0 (cs_X7 J.2.2.1 a0 t_bytes t_held t_end t_at t_start t_faultKind t_faultPlace) 2 [(0, .ref (a0 0)), (1, .int n1)] 0 []
  refine g_aload_n (pc := 0) C 0 rfl dX7_open_0 ?_
  refine g_iload_n (pc := 1) C 1 rfl dX7_open_1 ?_
  refine g_put (pc := 2) C (w' := cs_X7 J.2.2.1 a0 t_bytes t_held n1 t_at t_start t_faultKind t_faultPlace) FOK_X7 0 rfl rfl 2 (by decide) kw_126 rfl rfl rfl (Nat.le_of_ble_eq_true rfl) dX7_open_2 rfl ?_
  refine g_aload_n (pc := 5) C 0 rfl dX7_open_5 ?_
  refine g_iconst (pc := 6) C dX7_open_6 ci_0 ?_
  refine g_put (pc := 7) C (w' := cs_X7 J.2.2.1 a0 t_bytes t_held n1 0 t_start t_faultKind t_faultPlace) FOK_X7 0 rfl rfl 3 (by decide) kw_127 rfl rfl rfl (Nat.le_of_ble_eq_true rfl) dX7_open_7 rfl ?_
  refine g_aload_n (pc := 10) C 0 rfl dX7_open_10 ?_
  refine g_iconst (pc := 11) C dX7_open_11 ci_0 ?_
  refine g_put (pc := 12) C (w' := cs_X7 J.2.2.1 a0 t_bytes t_held n1 0 0 t_faultKind t_faultPlace) FOK_X7 0 rfl rfl 4 (by decide) kw_128 rfl rfl rfl (Nat.le_of_ble_eq_true rfl) dX7_open_12 rfl ?_
  refine g_aload_n (pc := 15) C 0 rfl dX7_open_15 ?_
  refine g_iconst (pc := 16) C dX7_open_16 ci_0 ?_
  refine g_put (pc := 17) C (w' := cs_X7 J.2.2.1 a0 t_bytes t_held n1 0 0 0 t_faultPlace) FOK_X7 0 rfl rfl 5 (by decide) kw_129 rfl rfl rfl (Nat.le_of_ble_eq_true rfl) dX7_open_17 rfl ?_
  refine g_aload_n (pc := 20) C 0 rfl dX7_open_20 ?_
  refine g_iconst (pc := 21) C dX7_open_21 ci_m1 ?_
  refine g_put (pc := 22) C (w' := cs_X7 J.2.2.1 a0 t_bytes t_held n1 0 0 0 (-1)) FOK_X7 0 rfl rfl 6 (by decide) kw_130 rfl rfl rfl (Nat.le_of_ble_eq_true rfl) dX7_open_22 rfl ?_
  cases h
  exact g_vret C E dX7_open_25
noncomputable def f_X7_empty (t_held : Int32) : Option (Int32) := some 0
def rm_X7_empty : Room := { frames := 0, cells := 0, slots := 0, locals := 0 }
set_option maxRecDepth 100000 in
set_option maxHeartbeats 4000000 in
theorem t_X7_empty {J : Jt} {a0 : Nat → Nat} {t_bytes : Nat → Int32} {t_held : Int32} {t_end : Int32} {t_at : Int32} {t_start : Int32} {t_faultKind : Int32} {t_faultPlace : Int32} {o_t_held : Int32} (h : f_X7_empty t_held = some o_t_held) : Mt J yX7_empty cX7_empty 1 none rm_X7_empty [.ref (a0 0)] (cs_X7 J.2.2.1 a0 t_bytes t_held t_end t_at t_start t_faultKind t_faultPlace) none (cs_X7 J.2.2.1 a0 t_bytes o_t_held t_end t_at t_start t_faultKind t_faultPlace) := by
  refine Mt_of (own := RX7) (by decide) rfl (Nat.le_of_ble_eq_true rfl) rfl (fun Z C E => ?_)
  unfold f_X7_empty at h
  show G J Z 0 0 (cs_X7 J.2.2.1 a0 t_bytes t_held t_end t_at t_start t_faultKind t_faultPlace) 1 [(0, .ref (a0 0))] 0 []
  refine g_aload_n (pc := 0) C 0 rfl dX7_empty_0 ?_
  refine g_iconst (pc := 1) C dX7_empty_1 ci_0 ?_
  refine g_put (pc := 2) C (w' := cs_X7 J.2.2.1 a0 t_bytes 0 t_end t_at t_start t_faultKind t_faultPlace) FOK_X7 0 rfl rfl 1 (by decide) kw_124 rfl rfl rfl (Nat.le_of_ble_eq_true rfl) dX7_empty_2 rfl ?_
  cases h
  exact g_vret C E dX7_empty_5
noncomputable def f_X7_isSound (t_faultKind : Int32) : Option (Int32) := if t_faultKind = 0 then some 1 else some 0
def rm_X7_isSound : Room := { frames := 0, cells := 0, slots := 0, locals := 0 }
set_option maxRecDepth 100000 in
set_option maxHeartbeats 4000000 in
theorem t_X7_isSound {J : Jt} {a0 : Nat → Nat} {t_bytes : Nat → Int32} {t_held : Int32} {t_end : Int32} {t_at : Int32} {t_start : Int32} {t_faultKind : Int32} {t_faultPlace : Int32} {r : Int32} (h : f_X7_isSound t_faultKind = some r) : Mt J yX7_isSound cX7_isSound 1 (some .boolean) rm_X7_isSound [.ref (a0 0)] (cs_X7 J.2.2.1 a0 t_bytes t_held t_end t_at t_start t_faultKind t_faultPlace) (some (.int r)) (cs_X7 J.2.2.1 a0 t_bytes t_held t_end t_at t_start t_faultKind t_faultPlace) := by
  refine Mt_of (own := RX7) (by decide) rfl (Nat.le_of_ble_eq_true rfl) rfl (fun Z C E => ?_)
  unfold f_X7_isSound at h
  show G J Z 0 0 (cs_X7 J.2.2.1 a0 t_bytes t_held t_end t_at t_start t_faultKind t_faultPlace) 1 [(0, .ref (a0 0))] 0 []
  refine g_aload_n (pc := 0) C 0 rfl dX7_isSound_0 ?_
  refine g_get (pc := 1) C FOK_X7 0 rfl rfl 5 (by decide) kw_129 rfl dX7_isSound_1 ?_
  refine g_if_ne (pc := 4) C (tgt := 11) dX7_isSound_4 rfl h (fun h => ?_) (fun h => ?_)
  · refine g_iconst (pc := 11) C dX7_isSound_11 ci_0 ?_
    cases h
    exact g_zret C rfl E dX7_isSound_12
  · refine g_iconst (pc := 7) C dX7_isSound_7 ci_1 ?_
    refine g_goto (pc := 8) C (tgt := 12) dX7_isSound_8 rfl ?_
    cases h
    exact g_zret C rfl E dX7_isSound_12
noncomputable def f_X7_answer (t_faultKind : Int32) : Option (Int32) := some (t_faultKind - 10)
def rm_X7_answer : Room := { frames := 0, cells := 0, slots := 0, locals := 0 }
set_option maxRecDepth 100000 in
set_option maxHeartbeats 4000000 in
theorem t_X7_answer {J : Jt} {a0 : Nat → Nat} {t_bytes : Nat → Int32} {t_held : Int32} {t_end : Int32} {t_at : Int32} {t_start : Int32} {t_faultKind : Int32} {t_faultPlace : Int32} {r : Int32} (h : f_X7_answer t_faultKind = some r) : Mt J yX7_answer cX7_answer 1 (some .int) rm_X7_answer [.ref (a0 0)] (cs_X7 J.2.2.1 a0 t_bytes t_held t_end t_at t_start t_faultKind t_faultPlace) (some (.int r)) (cs_X7 J.2.2.1 a0 t_bytes t_held t_end t_at t_start t_faultKind t_faultPlace) := by
  refine Mt_of (own := RX7) (by decide) rfl (Nat.le_of_ble_eq_true rfl) rfl (fun Z C E => ?_)
  unfold f_X7_answer at h
  show G J Z 0 0 (cs_X7 J.2.2.1 a0 t_bytes t_held t_end t_at t_start t_faultKind t_faultPlace) 1 [(0, .ref (a0 0))] 0 []
  refine g_aload_n (pc := 0) C 0 rfl dX7_answer_0 ?_
  refine g_get (pc := 1) C FOK_X7 0 rfl rfl 5 (by decide) kw_129 rfl dX7_answer_1 ?_
  refine g_bipush (pc := 4) C dX7_answer_4 cb_10 ?_
  refine g_isub (pc := 6) C dX7_answer_6 ?_
  cases h
  exact g_iret C E dX7_answer_7
noncomputable def f_X8_add (w_kind : Nat → Int32) (w_first : Nat → Int32) (w_second : Nat → Int32) (w_length : Int32) (n1 : Int32) (n2 : Int32) (n3 : Int32) : Option ((Nat → Int32) × (Nat → Int32) × (Nat → Int32) × Int32) := if 150 ≤ w_length then some (w_kind, w_first, w_second, w_length) else if ixb w_length 150 then if ixb w_length 150 then if ixb w_length 150 then some (upd w_kind w_length.toNatClampNeg n1, upd w_first w_length.toNatClampNeg n2, upd w_second w_length.toNatClampNeg n3, w_length + 1) else none else none else none
def rm_X8_add : Room := { frames := 0, cells := 0, slots := 0, locals := 0 }
set_option maxRecDepth 100000 in
set_option maxHeartbeats 4000000 in
theorem t_X8_add {J : Jt} {a0 : Nat → Nat} {w_kind : Nat → Int32} {w_first : Nat → Int32} {w_second : Nat → Int32} {w_rounds : Nat → Int32} {w_length : Int32} {w_begun : Int32} {w_refused : Int32} {n1 : Int32} {n2 : Int32} {n3 : Int32} {o_w_kind : Nat → Int32} {o_w_first : Nat → Int32} {o_w_second : Nat → Int32} {o_w_length : Int32} (h : f_X8_add w_kind w_first w_second w_length n1 n2 n3 = some (o_w_kind, o_w_first, o_w_second, o_w_length)) : Mt J yX8_add cX8_add 4 none rm_X8_add [.ref (a0 0), .int n1, .int n2, .int n3] (cs_X8 J.2.2.1 a0 w_kind w_first w_second w_rounds w_length w_begun w_refused) none (cs_X8 J.2.2.1 a0 o_w_kind o_w_first o_w_second w_rounds o_w_length w_begun w_refused) := by
  refine Mt_of (own := RX8) (by decide) rfl (Nat.le_of_ble_eq_true rfl) rfl (fun Z C E => ?_)
  unfold f_X8_add at h
  show G J Z 0 0 (cs_X8 J.2.2.1 a0 w_kind w_first w_second w_rounds w_length w_begun w_refused) 4 [(0, .ref (a0 0)), (1, .int n1), (2, .int n2), (3, .int n3)] 0 []
  refine g_aload_n (pc := 0) C 0 rfl dX8_add_0 ?_
  refine g_get (pc := 1) C FOK_X8 0 rfl rfl 4 (by decide) kw_213 rfl dX8_add_1 ?_
  refine g_sipush (pc := 4) C dX8_add_4 cs_150 ?_
  refine g_icmp_ge (pc := 7) C (tgt := 50) dX8_add_7 rfl h (fun h => ?_) (fun h => ?_)
  · cases h
    exact g_vret C E dX8_add_50
  · refine g_aload_n (pc := 10) C 0 rfl dX8_add_10 ?_
    refine g_get (pc := 11) C FOK_X8 0 rfl rfl 0 (by decide) kw_209 rfl dX8_add_11 ?_
    refine g_aload_n (pc := 14) C 0 rfl dX8_add_14 ?_
    refine g_get (pc := 15) C FOK_X8 0 rfl rfl 4 (by decide) kw_213 rfl dX8_add_15 ?_
    refine g_iload_n (pc := 18) C 1 rfl dX8_add_18 ?_
    obtain ⟨hi, h⟩ := ix_of h
    refine g_iast (pc := 19) C (w' := cs_X8 J.2.2.1 a0 (upd w_kind w_length.toNatClampNeg n1) w_first w_second w_rounds w_length w_begun w_refused) 1 rfl hi dX8_add_19 rfl ?_
    refine g_aload_n (pc := 20) C 0 rfl dX8_add_20 ?_
    refine g_get (pc := 21) C FOK_X8 0 rfl rfl 1 (by decide) kw_210 rfl dX8_add_21 ?_
    refine g_aload_n (pc := 24) C 0 rfl dX8_add_24 ?_
    refine g_get (pc := 25) C FOK_X8 0 rfl rfl 4 (by decide) kw_213 rfl dX8_add_25 ?_
    refine g_iload_n (pc := 28) C 2 rfl dX8_add_28 ?_
    obtain ⟨hi, h⟩ := ix_of h
    refine g_iast (pc := 29) C (w' := cs_X8 J.2.2.1 a0 (upd w_kind w_length.toNatClampNeg n1) (upd w_first w_length.toNatClampNeg n2) w_second w_rounds w_length w_begun w_refused) 2 rfl hi dX8_add_29 rfl ?_
    refine g_aload_n (pc := 30) C 0 rfl dX8_add_30 ?_
    refine g_get (pc := 31) C FOK_X8 0 rfl rfl 2 (by decide) kw_211 rfl dX8_add_31 ?_
    refine g_aload_n (pc := 34) C 0 rfl dX8_add_34 ?_
    refine g_get (pc := 35) C FOK_X8 0 rfl rfl 4 (by decide) kw_213 rfl dX8_add_35 ?_
    refine g_iload_n (pc := 38) C 3 rfl dX8_add_38 ?_
    obtain ⟨hi, h⟩ := ix_of h
    refine g_iast (pc := 39) C (w' := cs_X8 J.2.2.1 a0 (upd w_kind w_length.toNatClampNeg n1) (upd w_first w_length.toNatClampNeg n2) (upd w_second w_length.toNatClampNeg n3) w_rounds w_length w_begun w_refused) 3 rfl hi dX8_add_39 rfl ?_
    refine g_aload_n (pc := 40) C 0 rfl dX8_add_40 ?_
    refine g_dup (pc := 41) C dX8_add_41 rfl ?_
    refine g_get (pc := 42) C FOK_X8 0 rfl rfl 4 (by decide) kw_213 rfl dX8_add_42 ?_
    refine g_iconst (pc := 45) C dX8_add_45 ci_1 ?_
    refine g_iadd (pc := 46) C dX8_add_46 ?_
    refine g_put (pc := 47) C (w' := cs_X8 J.2.2.1 a0 (upd w_kind w_length.toNatClampNeg n1) (upd w_first w_length.toNatClampNeg n2) (upd w_second w_length.toNatClampNeg n3) w_rounds (w_length + 1) w_begun w_refused) FOK_X8 0 rfl rfl 4 (by decide) kw_213 rfl rfl rfl (Nat.le_of_ble_eq_true rfl) dX8_add_47 rfl ?_
    cases h
    exact g_vret C E dX8_add_50
noncomputable def f_X8_afterRound (w_first : Nat → Int32) (w_rounds : Nat → Int32) (n1 : Int32) : Option (Int32 × (Nat → Int32)) := if ixb n1 150 then if (w_first n1.toNatClampNeg) < 0 then some (n1 + 1, w_rounds) else if (w_first n1.toNatClampNeg) < 150 then if ixb (w_first n1.toNatClampNeg) 150 then if ixb (w_first n1.toNatClampNeg) 150 then if ixb (w_first n1.toNatClampNeg) 150 then if ((upd w_rounds (w_first n1.toNatClampNeg).toNatClampNeg ((w_rounds (w_first n1.toNatClampNeg).toNatClampNeg) - 1)) (w_first n1.toNatClampNeg).toNatClampNeg) ≤ 0 then some (n1 + 1, upd w_rounds (w_first n1.toNatClampNeg).toNatClampNeg ((w_rounds (w_first n1.toNatClampNeg).toNatClampNeg) - 1)) else some ((w_first n1.toNatClampNeg) + 1, upd w_rounds (w_first n1.toNatClampNeg).toNatClampNeg ((w_rounds (w_first n1.toNatClampNeg).toNatClampNeg) - 1)) else none else none else none else some (n1 + 1, w_rounds) else none
def rm_X8_afterRound : Room := { frames := 0, cells := 0, slots := 0, locals := 0 }
set_option maxRecDepth 100000 in
set_option maxHeartbeats 4000000 in
theorem t_X8_afterRound {J : Jt} {a0 : Nat → Nat} {w_kind : Nat → Int32} {w_first : Nat → Int32} {w_second : Nat → Int32} {w_rounds : Nat → Int32} {w_length : Int32} {w_begun : Int32} {w_refused : Int32} {n1 : Int32} {r : Int32} {o_w_rounds : Nat → Int32} (h : f_X8_afterRound w_first w_rounds n1 = some (r, o_w_rounds)) : Mt J yX8_afterRound cX8_afterRound 3 (some .int) rm_X8_afterRound [.ref (a0 0), .int n1] (cs_X8 J.2.2.1 a0 w_kind w_first w_second w_rounds w_length w_begun w_refused) (some (.int r)) (cs_X8 J.2.2.1 a0 w_kind w_first w_second o_w_rounds w_length w_begun w_refused) := by
  refine Mt_of (own := RX8) (by decide) rfl (Nat.le_of_ble_eq_true rfl) rfl (fun Z C E => ?_)
  unfold f_X8_afterRound at h
  show G J Z 0 0 (cs_X8 J.2.2.1 a0 w_kind w_first w_second w_rounds w_length w_begun w_refused) 3 [(0, .ref (a0 0)), (1, .int n1)] 0 []
  refine g_aload_n (pc := 0) C 0 rfl dX8_afterRound_0 ?_
  refine g_get (pc := 1) C FOK_X8 0 rfl rfl 1 (by decide) kw_210 rfl dX8_afterRound_1 ?_
  refine g_iload_n (pc := 4) C 1 rfl dX8_afterRound_4 ?_
  obtain ⟨hi, h⟩ := ix_of h
  refine g_iald (pc := 5) C 2 rfl hi dX8_afterRound_5 ?_
  refine g_istore_n (pc := 6) C [(2, .int (w_first n1.toNatClampNeg)), (0, .ref (a0 0)), (1, .int n1)] dX8_afterRound_6 rfl (by decide) rfl ?_
  refine g_iload_n (pc := 7) C 0 rfl dX8_afterRound_7 ?_
  refine g_if_lt (pc := 8) C (tgt := 18) dX8_afterRound_8 rfl h (fun h => ?_) (fun h => ?_)
  · refine g_iload_n (pc := 18) C 2 rfl dX8_afterRound_18 ?_
    refine g_iconst (pc := 19) C dX8_afterRound_19 ci_1 ?_
    refine g_iadd (pc := 20) C dX8_afterRound_20 ?_
    cases h
    exact g_iret C E dX8_afterRound_21
  · refine g_iload_n (pc := 11) C 0 rfl dX8_afterRound_11 ?_
    refine g_sipush (pc := 12) C dX8_afterRound_12 cs_150 ?_
    refine g_icmp_lt (pc := 15) C (tgt := 22) dX8_afterRound_15 rfl h (fun h => ?_) (fun h => ?_)
    · refine g_aload_n (pc := 22) C 1 rfl dX8_afterRound_22 ?_
      refine g_get (pc := 23) C FOK_X8 0 rfl rfl 3 (by decide) kw_212 rfl dX8_afterRound_23 ?_
      refine g_iload_n (pc := 26) C 0 rfl dX8_afterRound_26 ?_
      refine g_dup2 (pc := 27) C dX8_afterRound_27 rfl rfl ?_
      obtain ⟨hi, h⟩ := ix_of h
      refine g_iald (pc := 28) C 4 rfl hi dX8_afterRound_28 ?_
      refine g_iconst (pc := 29) C dX8_afterRound_29 ci_1 ?_
      refine g_isub (pc := 30) C dX8_afterRound_30 ?_
      obtain ⟨hi, h⟩ := ix_of h
      refine g_iast (pc := 31) C (w' := cs_X8 J.2.2.1 a0 w_kind w_first w_second (upd w_rounds (w_first n1.toNatClampNeg).toNatClampNeg ((w_rounds (w_first n1.toNatClampNeg).toNatClampNeg) - 1)) w_length w_begun w_refused) 4 rfl hi dX8_afterRound_31 rfl ?_
      refine g_aload_n (pc := 32) C 1 rfl dX8_afterRound_32 ?_
      refine g_get (pc := 33) C FOK_X8 0 rfl rfl 3 (by decide) kw_212 rfl dX8_afterRound_33 ?_
      refine g_iload_n (pc := 36) C 0 rfl dX8_afterRound_36 ?_
      obtain ⟨hi, h⟩ := ix_of h
      refine g_iald (pc := 37) C 4 rfl hi dX8_afterRound_37 ?_
      refine g_if_le (pc := 38) C (tgt := 47) dX8_afterRound_38 rfl h (fun h => ?_) (fun h => ?_)
      · refine g_iload_n (pc := 47) C 2 rfl dX8_afterRound_47 ?_
        refine g_iconst (pc := 48) C dX8_afterRound_48 ci_1 ?_
        refine g_iadd (pc := 49) C dX8_afterRound_49 ?_
        cases h
        exact g_iret C E dX8_afterRound_50
      · refine g_iload_n (pc := 41) C 0 rfl dX8_afterRound_41 ?_
        refine g_iconst (pc := 42) C dX8_afterRound_42 ci_1 ?_
        refine g_iadd (pc := 43) C dX8_afterRound_43 ?_
        refine g_goto (pc := 44) C (tgt := 50) dX8_afterRound_44 rfl ?_
        cases h
        exact g_iret C E dX8_afterRound_50
    · refine g_iload_n (pc := 18) C 2 rfl dX8_afterRound_18 ?_
      refine g_iconst (pc := 19) C dX8_afterRound_19 ci_1 ?_
      refine g_iadd (pc := 20) C dX8_afterRound_20 ?_
      cases h
      exact g_iret C E dX8_afterRound_21
noncomputable def f_X8_isDone (w_kind : Nat → Int32) (w_first : Nat → Int32) (w_second : Nat → Int32) (s_year : Int32) (s_wet : Int32) (s_lost : Int32) (s_eaten : Int32) (s_tied : Int32) (s_ripeMany : Int32) (s_gone : Nat → Int32) (s_place : Nat → Int32) (s_heard : Nat → Int32) (s_many : Nat → Int32) (s_lying : Nat → Int32) (s_ripe : Nat → Int32) (p_beds : Int32) (p_letters : Int32) (p_readers : Int32) (p_far : Nat → Int32) (p_drain : Nat → Int32) (p_length : Nat → Int32) (p_words : Nat → Int32) (l_code : Nat → Int32) (l_values : Nat → Int32) (l_stack : Nat → Int32) (l_length : Int32) (n1 : Int32) : Option (Int32 × Int32 × Int32 × Int32 × Int32 × Int32 × Int32 × (Nat → Int32) × (Nat → Int32) × (Nat → Int32) × (Nat → Int32) × (Nat → Int32) × (Nat → Int32) × (Nat → Int32) × (Nat → Int32)) := if ixb n1 150 then if (w_kind n1.toNatClampNeg) = 0 then if ixb n1 150 then b2 (f_X4_blow s_gone s_place s_heard p_letters p_readers p_far p_length p_words (w_first n1.toNatClampNeg)) (fun v1 c2 => if zok v1 then some (v1, s_year, s_wet, s_lost, s_eaten, s_tied, s_ripeMany, s_gone, s_place, c2, s_many, s_lying, s_ripe, l_values, l_stack) else none) else none else if (w_kind n1.toNatClampNeg) = 1 then if ixb n1 150 then b7 (f_X4_pour s_year s_wet s_lost s_tied s_gone s_many s_lying p_letters p_far p_drain p_length p_words l_code l_values l_stack l_length (w_first n1.toNatClampNeg)) (fun c3 c4 c5 c6 c7 c8 c9 => some (1, s_year, c3, c4, s_eaten, s_tied, s_ripeMany, c5, s_place, s_heard, c6, c7, s_ripe, c8, c9)) else none else if (w_kind n1.toNatClampNeg) = 2 then if ixb n1 150 then some (1, s_year, s_wet, s_lost, s_eaten, s_tied ^^^ ((1 : Int32) <<< ((w_first n1.toNatClampNeg) &&& 31)), s_ripeMany, s_gone, s_place, s_heard, s_many, s_lying, s_ripe, l_values, l_stack) else none else if (w_kind n1.toNatClampNeg) = 3 then if ixb n1 150 then if ixb n1 150 then b3 (f_X4_go s_place s_heard s_many s_lying (w_first n1.toNatClampNeg) (w_second n1.toNatClampNeg)) (fun v10 c11 c12 => if zok v10 then some (v10, s_year, s_wet, s_lost, s_eaten, s_tied, s_ripeMany, s_gone, c11, c12, s_many, s_lying, s_ripe, l_values, l_stack) else none) else none else none else if (w_kind n1.toNatClampNeg) = 4 then if ixb n1 150 then b3 (f_X4_clearBed s_eaten s_many (w_first n1.toNatClampNeg)) (fun v13 c14 c15 => if zok v13 then some (v13, s_year, s_wet, s_lost, c14, s_tied, s_ripeMany, s_gone, s_place, s_heard, c15, s_lying, s_ripe, l_values, l_stack) else none) else none else if s_year < 400 then b6 (f_X4_passYear s_year s_wet s_ripeMany s_many s_lying s_ripe p_beds) (fun c16 c17 c18 c19 c20 c21 => some (1, c16, c17, s_lost, s_eaten, s_tied, c18, s_gone, s_place, s_heard, c19, c20, c21, l_values, l_stack)) else some (0, s_year, s_wet, s_lost, s_eaten, s_tied, s_ripeMany, s_gone, s_place, s_heard, s_many, s_lying, s_ripe, l_values, l_stack) else none
def rm_X8_isDone : Room := { frames := 4, cells := 0, slots := 0, locals := 123 }
set_option maxRecDepth 100000 in
set_option maxHeartbeats 4000000 in
theorem t_X8_isDone {J : Jt} {a0 : Nat → Nat} {a1 : Nat → Nat} {a2 : Nat → Nat} {a3 : Nat → Nat} {w_kind : Nat → Int32} {w_first : Nat → Int32} {w_second : Nat → Int32} {w_rounds : Nat → Int32} {w_length : Int32} {w_begun : Int32} {w_refused : Int32} {s_year : Int32} {s_wet : Int32} {s_lost : Int32} {s_eaten : Int32} {s_tied : Int32} {s_ripeMany : Int32} {s_gone : Nat → Int32} {s_place : Nat → Int32} {s_heard : Nat → Int32} {s_many : Nat → Int32} {s_lying : Nat → Int32} {s_ripe : Nat → Int32} {p_beds : Int32} {p_letters : Int32} {p_readers : Int32} {p_far : Nat → Int32} {p_drain : Nat → Int32} {p_length : Nat → Int32} {p_words : Nat → Int32} {p_home : Nat → Int32} {l_code : Nat → Int32} {l_values : Nat → Int32} {l_stack : Nat → Int32} {l_length : Int32} {n1 : Int32} {r : Int32} {o_s_year : Int32} {o_s_wet : Int32} {o_s_lost : Int32} {o_s_eaten : Int32} {o_s_tied : Int32} {o_s_ripeMany : Int32} {o_s_gone : Nat → Int32} {o_s_place : Nat → Int32} {o_s_heard : Nat → Int32} {o_s_many : Nat → Int32} {o_s_lying : Nat → Int32} {o_s_ripe : Nat → Int32} {o_l_values : Nat → Int32} {o_l_stack : Nat → Int32} (h : f_X8_isDone w_kind w_first w_second s_year s_wet s_lost s_eaten s_tied s_ripeMany s_gone s_place s_heard s_many s_lying s_ripe p_beds p_letters p_readers p_far p_drain p_length p_words l_code l_values l_stack l_length n1 = some (r, o_s_year, o_s_wet, o_s_lost, o_s_eaten, o_s_tied, o_s_ripeMany, o_s_gone, o_s_place, o_s_heard, o_s_many, o_s_lying, o_s_ripe, o_l_values, o_l_stack)) : Mt J yX8_isDone cX8_isDone 5 (some .boolean) rm_X8_isDone [.ref (a0 0), .ref (a1 0), .ref (a2 0), .ref (a3 0), .int n1] (cs_X8 J.2.2.1 a0 w_kind w_first w_second w_rounds w_length w_begun w_refused ++ cs_X4 J.2.2.1 a1 s_year s_wet s_lost s_eaten s_tied s_ripeMany s_gone s_place s_heard s_many s_lying s_ripe ++ cs_X2 J.2.2.1 a2 p_beds p_letters p_readers p_far p_drain p_length p_words p_home ++ cs_X1 J.2.2.1 a3 l_code l_values l_stack l_length) (some (.int r)) (cs_X8 J.2.2.1 a0 w_kind w_first w_second w_rounds w_length w_begun w_refused ++ cs_X4 J.2.2.1 a1 o_s_year o_s_wet o_s_lost o_s_eaten o_s_tied o_s_ripeMany o_s_gone o_s_place o_s_heard o_s_many o_s_lying o_s_ripe ++ cs_X2 J.2.2.1 a2 p_beds p_letters p_readers p_far p_drain p_length p_words p_home ++ cs_X1 J.2.2.1 a3 l_code o_l_values o_l_stack l_length) := by
  refine Mt_of (own := RX8) (by decide) rfl (Nat.le_of_ble_eq_true rfl) rfl (fun Z C E => ?_)
  unfold f_X8_isDone at h
  show G J Z 0 0 (cs_X8 J.2.2.1 a0 w_kind w_first w_second w_rounds w_length w_begun w_refused ++ cs_X4 J.2.2.1 a1 s_year s_wet s_lost s_eaten s_tied s_ripeMany s_gone s_place s_heard s_many s_lying s_ripe ++ cs_X2 J.2.2.1 a2 p_beds p_letters p_readers p_far p_drain p_length p_words p_home ++ cs_X1 J.2.2.1 a3 l_code l_values l_stack l_length) 5 [(0, .ref (a0 0)), (1, .ref (a1 0)), (2, .ref (a2 0)), (3, .ref (a3 0)), (4, .int n1)] 0 []
  refine g_aload_n (pc := 0) C 0 rfl dX8_isDone_0 ?_
  refine g_get (pc := 1) C FOK_X8 0 rfl rfl 0 (by decide) kw_209 rfl dX8_isDone_1 ?_
  refine g_iload (pc := 4) C 4 rfl dX8_isDone_4 ?_
  obtain ⟨hi, h⟩ := ix_of h
  refine g_iald (pc := 6) C 1 rfl hi dX8_isDone_6 ?_
  rcases ite_of h with ⟨hc, h⟩ | ⟨hn0, h⟩
  · refine g_tsIn (pc := 7) C (tgt := 40) dX8_isDone_7 (by rw [hc]; decide) (by rw [hc]; decide) (by rw [hc]; rfl) rfl ?_
    refine g_aload_n (pc := 40) C 1 rfl dX8_isDone_40 ?_
    refine g_aload_n (pc := 41) C 2 rfl dX8_isDone_41 ?_
    refine g_aload_n (pc := 42) C 0 rfl dX8_isDone_42 ?_
    refine g_get (pc := 43) C FOK_X8 0 rfl rfl 1 (by decide) kw_210 rfl dX8_isDone_43 ?_
    refine g_iload (pc := 46) C 4 rfl dX8_isDone_46 ?_
    obtain ⟨hi, h⟩ := ix_of h
    refine g_iald (pc := 48) C 2 rfl hi dX8_isDone_48 ?_
    obtain ⟨v1, c2, hc, h⟩ := b2_of h
    refine g_callV (pc := 49) C (w' := cs_X8 J.2.2.1 a0 w_kind w_first w_second w_rounds w_length w_begun w_refused ++ cs_X4 J.2.2.1 a1 s_year s_wet s_lost s_eaten s_tied s_ripeMany s_gone s_place c2 s_many s_lying s_ripe ++ cs_X2 J.2.2.1 a2 p_beds p_letters p_readers p_far p_drain p_length p_words p_home ++ cs_X1 J.2.2.1 a3 l_code l_values l_stack l_length) (As := [.ref (a2 0), .int (w_first n1.toNatClampNeg)]) (st := []) (ci := 4) (q0 := 5) rfl rfl (t_X4_blow (a0 := a1) (a1 := a2) hc) (Sub.gen [5, 6, 7, 8, 9, 10, 11, 12, 13, 14, 15, 16, 17] [0, 1, 2, 3, 4, 18, 19, 20, 21] [0, 1, 2, 3, 4, 9, 10, 11, 12, 13, 14, 15, 16, 17, 18, 19, 20, 21, 5, 6, 7, 8] rfl (by decide) rfl (by decide) (by decide) rfl (by decide)) kw_856 kw_857 kw_858 kw_88 hy_X4_blow kw_859 rfl (Nat.le_of_ble_eq_true rfl) (Nat.le_of_ble_eq_true rfl) (Nat.le_of_ble_eq_true rfl) (Nat.le_of_ble_eq_true rfl) (Nat.le_of_ble_eq_true rfl) dX8_isDone_49 ?_
    obtain ⟨hz, h⟩ := zok_of h
    cases h
    exact g_zret C hz E dX8_isDone_52
  rcases ite_of h with ⟨hc, h⟩ | ⟨hn1, h⟩
  · refine g_tsIn (pc := 7) C (tgt := 84) dX8_isDone_7 (by rw [hc]; decide) (by rw [hc]; decide) (by rw [hc]; rfl) rfl ?_
    refine g_aload_n (pc := 84) C 1 rfl dX8_isDone_84 ?_
    refine g_aload_n (pc := 85) C 2 rfl dX8_isDone_85 ?_
    refine g_aload_n (pc := 86) C 3 rfl dX8_isDone_86 ?_
    refine g_aload_n (pc := 87) C 0 rfl dX8_isDone_87 ?_
    refine g_get (pc := 88) C FOK_X8 0 rfl rfl 1 (by decide) kw_210 rfl dX8_isDone_88 ?_
    refine g_iload (pc := 91) C 4 rfl dX8_isDone_91 ?_
    obtain ⟨hi, h⟩ := ix_of h
    refine g_iald (pc := 93) C 2 rfl hi dX8_isDone_93 ?_
    obtain ⟨c3, c4, c5, c6, c7, c8, c9, hc, h⟩ := b7_of h
    refine g_callV (pc := 94) C (w' := cs_X8 J.2.2.1 a0 w_kind w_first w_second w_rounds w_length w_begun w_refused ++ cs_X4 J.2.2.1 a1 s_year c3 c4 s_eaten s_tied s_ripeMany c5 s_place s_heard c6 c7 s_ripe ++ cs_X2 J.2.2.1 a2 p_beds p_letters p_readers p_far p_drain p_length p_words p_home ++ cs_X1 J.2.2.1 a3 l_code c8 c9 l_length) (As := [.ref (a2 0), .ref (a3 0), .int (w_first n1.toNatClampNeg)]) (st := []) (ci := 4) (q0 := 5) rfl rfl (t_X4_pour (a0 := a1) (a1 := a2) (a2 := a3) hc) (Sub.gen [5, 6, 7, 8, 9, 10, 11, 12, 13, 14, 15, 16, 17, 18, 19, 20, 21] [0, 1, 2, 3, 4] [0, 1, 2, 3, 4, 5, 6, 7, 8, 9, 10, 11, 12, 13, 14, 15, 16, 17, 18, 19, 20, 21] rfl (by decide) rfl (by decide) (by decide) rfl (by decide)) kw_881 kw_882 kw_883 kw_88 hy_X4_pour kw_884 rfl (Nat.le_of_ble_eq_true rfl) (Nat.le_of_ble_eq_true rfl) (Nat.le_of_ble_eq_true rfl) (Nat.le_of_ble_eq_true rfl) (Nat.le_of_ble_eq_true rfl) dX8_isDone_94 ?_
    refine g_iconst (pc := 97) C dX8_isDone_97 ci_1 ?_
    cases h
    exact g_zret C rfl E dX8_isDone_98
  rcases ite_of h with ⟨hc, h⟩ | ⟨hn2, h⟩
  · refine g_tsIn (pc := 7) C (tgt := 99) dX8_isDone_7 (by rw [hc]; decide) (by rw [hc]; decide) (by rw [hc]; rfl) rfl ?_
    refine g_aload_n (pc := 99) C 1 rfl dX8_isDone_99 ?_
    refine g_dup (pc := 100) C dX8_isDone_100 rfl ?_
    refine g_get (pc := 101) C FOK_X4 5 rfl rfl 4 (by decide) kw_164 rfl dX8_isDone_101 ?_
    refine g_iconst (pc := 104) C dX8_isDone_104 ci_1 ?_
    refine g_aload_n (pc := 105) C 0 rfl dX8_isDone_105 ?_
    refine g_get (pc := 106) C FOK_X8 0 rfl rfl 1 (by decide) kw_210 rfl dX8_isDone_106 ?_
    refine g_iload (pc := 109) C 4 rfl dX8_isDone_109 ?_
    obtain ⟨hi, h⟩ := ix_of h
    refine g_iald (pc := 111) C 2 rfl hi dX8_isDone_111 ?_
    refine g_ishl (pc := 112) C dX8_isDone_112 ?_
    refine g_ixor (pc := 113) C dX8_isDone_113 ?_
    refine g_put (pc := 114) C (w' := cs_X8 J.2.2.1 a0 w_kind w_first w_second w_rounds w_length w_begun w_refused ++ cs_X4 J.2.2.1 a1 s_year s_wet s_lost s_eaten (s_tied ^^^ ((1 : Int32) <<< ((w_first n1.toNatClampNeg) &&& 31))) s_ripeMany s_gone s_place s_heard s_many s_lying s_ripe ++ cs_X2 J.2.2.1 a2 p_beds p_letters p_readers p_far p_drain p_length p_words p_home ++ cs_X1 J.2.2.1 a3 l_code l_values l_stack l_length) FOK_X4 5 rfl rfl 4 (by decide) kw_164 rfl rfl rfl (Nat.le_of_ble_eq_true rfl) dX8_isDone_114 rfl ?_
    refine g_iconst (pc := 117) C dX8_isDone_117 ci_1 ?_
    cases h
    exact g_zret C rfl E dX8_isDone_118
  rcases ite_of h with ⟨hc, h⟩ | ⟨hn3, h⟩
  · refine g_tsIn (pc := 7) C (tgt := 53) dX8_isDone_7 (by rw [hc]; decide) (by rw [hc]; decide) (by rw [hc]; rfl) rfl ?_
    refine g_aload_n (pc := 53) C 1 rfl dX8_isDone_53 ?_
    refine g_aload_n (pc := 54) C 0 rfl dX8_isDone_54 ?_
    refine g_get (pc := 55) C FOK_X8 0 rfl rfl 1 (by decide) kw_210 rfl dX8_isDone_55 ?_
    refine g_iload (pc := 58) C 4 rfl dX8_isDone_58 ?_
    obtain ⟨hi, h⟩ := ix_of h
    refine g_iald (pc := 60) C 2 rfl hi dX8_isDone_60 ?_
    refine g_aload_n (pc := 61) C 0 rfl dX8_isDone_61 ?_
    refine g_get (pc := 62) C FOK_X8 0 rfl rfl 2 (by decide) kw_211 rfl dX8_isDone_62 ?_
    refine g_iload (pc := 65) C 4 rfl dX8_isDone_65 ?_
    obtain ⟨hi, h⟩ := ix_of h
    refine g_iald (pc := 67) C 3 rfl hi dX8_isDone_67 ?_
    obtain ⟨v10, c11, c12, hc, h⟩ := b3_of h
    refine g_callV (pc := 68) C (w' := cs_X8 J.2.2.1 a0 w_kind w_first w_second w_rounds w_length w_begun w_refused ++ cs_X4 J.2.2.1 a1 s_year s_wet s_lost s_eaten s_tied s_ripeMany s_gone c11 c12 s_many s_lying s_ripe ++ cs_X2 J.2.2.1 a2 p_beds p_letters p_readers p_far p_drain p_length p_words p_home ++ cs_X1 J.2.2.1 a3 l_code l_values l_stack l_length) (As := [.int (w_first n1.toNatClampNeg), .int (w_second n1.toNatClampNeg)]) (st := []) (ci := 4) (q0 := 5) rfl rfl (t_X4_go (a0 := a1) hc) (Sub.gen [5, 6, 7, 8, 9, 10, 11] [0, 1, 2, 3, 4, 12, 13, 14, 15, 16, 17, 18, 19, 20, 21] [0, 1, 2, 3, 4, 15, 16, 17, 18, 19, 20, 21, 5, 6, 7, 8, 9, 10, 11, 12, 13, 14] rfl (by decide) rfl (by decide) (by decide) rfl (by decide)) kw_865 kw_866 kw_867 kw_88 hy_X4_go kw_868 rfl (Nat.le_of_ble_eq_true rfl) (Nat.le_of_ble_eq_true rfl) (Nat.le_of_ble_eq_true rfl) (Nat.le_of_ble_eq_true rfl) (Nat.le_of_ble_eq_true rfl) dX8_isDone_68 ?_
    obtain ⟨hz, h⟩ := zok_of h
    cases h
    exact g_zret C hz E dX8_isDone_71
  rcases ite_of h with ⟨hc, h⟩ | ⟨hn4, h⟩
  · refine g_tsIn (pc := 7) C (tgt := 72) dX8_isDone_7 (by rw [hc]; decide) (by rw [hc]; decide) (by rw [hc]; rfl) rfl ?_
    refine g_aload_n (pc := 72) C 1 rfl dX8_isDone_72 ?_
    refine g_aload_n (pc := 73) C 0 rfl dX8_isDone_73 ?_
    refine g_get (pc := 74) C FOK_X8 0 rfl rfl 1 (by decide) kw_210 rfl dX8_isDone_74 ?_
    refine g_iload (pc := 77) C 4 rfl dX8_isDone_77 ?_
    obtain ⟨hi, h⟩ := ix_of h
    refine g_iald (pc := 79) C 2 rfl hi dX8_isDone_79 ?_
    obtain ⟨v13, c14, c15, hc, h⟩ := b3_of h
    refine g_callV (pc := 80) C (w' := cs_X8 J.2.2.1 a0 w_kind w_first w_second w_rounds w_length w_begun w_refused ++ cs_X4 J.2.2.1 a1 s_year s_wet s_lost c14 s_tied s_ripeMany s_gone s_place s_heard c15 s_lying s_ripe ++ cs_X2 J.2.2.1 a2 p_beds p_letters p_readers p_far p_drain p_length p_words p_home ++ cs_X1 J.2.2.1 a3 l_code l_values l_stack l_length) (As := [.int (w_first n1.toNatClampNeg)]) (st := []) (ci := 4) (q0 := 5) rfl rfl (t_X4_clearBed (a0 := a1) hc) (Sub.gen [5, 6, 7, 8, 9, 10, 11] [0, 1, 2, 3, 4, 12, 13, 14, 15, 16, 17, 18, 19, 20, 21] [0, 1, 2, 3, 4, 15, 16, 17, 18, 19, 20, 21, 5, 6, 7, 8, 9, 10, 11, 12, 13, 14] rfl (by decide) rfl (by decide) (by decide) rfl (by decide)) kw_877 kw_878 kw_879 kw_88 hy_X4_clearBed kw_880 rfl (Nat.le_of_ble_eq_true rfl) (Nat.le_of_ble_eq_true rfl) (Nat.le_of_ble_eq_true rfl) (Nat.le_of_ble_eq_true rfl) (Nat.le_of_ble_eq_true rfl) dX8_isDone_80 ?_
    obtain ⟨hz, h⟩ := zok_of h
    cases h
    exact g_zret C hz E dX8_isDone_83
  have hq0 := lv_neT hn0 (a := 0) (by decide)
  have hq1 := lv_neT hn1 (a := 1) (by decide)
  have hq2 := lv_neT hn2 (a := 2) (by decide)
  have hq3 := lv_neT hn3 (a := 3) (by decide)
  have hq4 := lv_neT hn4 (a := 4) (by decide)
  refine g_tsOut (pc := 7) C (tgt := 119) dX8_isDone_7 (by omega) rfl ?_
  refine g_aload_n (pc := 119) C 1 rfl dX8_isDone_119 ?_
  refine g_get (pc := 120) C FOK_X4 5 rfl rfl 0 (by decide) kw_156 rfl dX8_isDone_120 ?_
  refine g_sipush (pc := 123) C dX8_isDone_123 cs_400 ?_
  refine g_icmp_lt (pc := 126) C (tgt := 131) dX8_isDone_126 rfl h (fun h => ?_) (fun h => ?_)
  · refine g_aload_n (pc := 131) C 1 rfl dX8_isDone_131 ?_
    refine g_aload_n (pc := 132) C 2 rfl dX8_isDone_132 ?_
    obtain ⟨c16, c17, c18, c19, c20, c21, hc, h⟩ := b6_of h
    refine g_callV (pc := 133) C (w' := cs_X8 J.2.2.1 a0 w_kind w_first w_second w_rounds w_length w_begun w_refused ++ cs_X4 J.2.2.1 a1 c16 c17 s_lost s_eaten s_tied c18 s_gone s_place s_heard c19 c20 c21 ++ cs_X2 J.2.2.1 a2 p_beds p_letters p_readers p_far p_drain p_length p_words p_home ++ cs_X1 J.2.2.1 a3 l_code l_values l_stack l_length) (As := [.ref (a2 0)]) (st := []) (ci := 4) (q0 := 5) rfl rfl (t_X4_passYear (a0 := a1) (a1 := a2) hc) (Sub.gen [5, 6, 7, 8, 9, 10, 11, 12, 13, 14, 15, 16, 17] [0, 1, 2, 3, 4, 18, 19, 20, 21] [0, 1, 2, 3, 4, 9, 10, 11, 12, 13, 14, 15, 16, 17, 18, 19, 20, 21, 5, 6, 7, 8] rfl (by decide) rfl (by decide) (by decide) rfl (by decide)) kw_910 kw_911 kw_912 kw_88 hy_X4_passYear kw_913 rfl (Nat.le_of_ble_eq_true rfl) (Nat.le_of_ble_eq_true rfl) (Nat.le_of_ble_eq_true rfl) (Nat.le_of_ble_eq_true rfl) (Nat.le_of_ble_eq_true rfl) dX8_isDone_133 ?_
    refine g_iconst (pc := 136) C dX8_isDone_136 ci_1 ?_
    cases h
    exact g_zret C rfl E dX8_isDone_137
  · refine g_iconst (pc := 129) C dX8_isDone_129 ci_0 ?_
    cases h
    exact g_zret C rfl E dX8_isDone_130
noncomputable def f_X8_perform_19 (w_kind : Nat → Int32) (w_first : Nat → Int32) (w_second : Nat → Int32) (w_length : Int32) (p_beds : Int32) (p_letters : Int32) (p_readers : Int32) (p_far : Nat → Int32) (p_drain : Nat → Int32) (p_length : Nat → Int32) (p_words : Nat → Int32) (l_code : Nat → Int32) (l_length : Int32) : Nat → Int32 → Int32 → Int32 → (Nat → Int32) → Int32 → Int32 → Int32 → Int32 → Int32 → Int32 → Int32 → Int32 → (Nat → Int32) → (Nat → Int32) → (Nat → Int32) → (Nat → Int32) → (Nat → Int32) → (Nat → Int32) → (Nat → Int32) → (Nat → Int32) → Option (Int32 × (Nat → Int32) × Int32 × Int32 × Int32 × Int32 × Int32 × Int32 × Int32 × Int32 × (Nat → Int32) × (Nat → Int32) × (Nat → Int32) × (Nat → Int32) × (Nat → Int32) × (Nat → Int32) × (Nat → Int32) × (Nat → Int32))
  | 0, _, _, _, _, _, _, _, _, _, _, _, _, _, _, _, _, _, _, _, _ => none
  | n + 1, x4, x5, x6, w_rounds, w_begun, w_refused, s_year, s_wet, s_lost, s_eaten, s_tied, s_ripeMany, s_gone, s_place, s_heard, s_many, s_lying, s_ripe, l_values, l_stack => if 1000000 ≤ x6 then some (x4, w_rounds, w_begun, w_refused, s_year, s_wet, s_lost, s_eaten, s_tied, s_ripeMany, s_gone, s_place, s_heard, s_many, s_lying, s_ripe, l_values, l_stack) else if x5 < 0 then some (x4, w_rounds, w_begun, w_refused, s_year, s_wet, s_lost, s_eaten, s_tied, s_ripeMany, s_gone, s_place, s_heard, s_many, s_lying, s_ripe, l_values, l_stack) else if w_length ≤ x5 then some (x4, w_rounds, w_begun, w_refused, s_year, s_wet, s_lost, s_eaten, s_tied, s_ripeMany, s_gone, s_place, s_heard, s_many, s_lying, s_ripe, l_values, l_stack) else if 150 ≤ x5 then some (x4, w_rounds, w_begun, w_refused, s_year, s_wet, s_lost, s_eaten, s_tied, s_ripeMany, s_gone, s_place, s_heard, s_many, s_lying, s_ripe, l_values, l_stack) else if ixb x5 150 then if (w_kind x5.toNatClampNeg) = 7 then b2 (f_X8_afterRound w_first w_rounds x5) (fun v16 c17 => f_X8_perform_19 w_kind w_first w_second w_length p_beds p_letters p_readers p_far p_drain p_length p_words l_code l_length n x4 v16 (x6 + 1) c17 w_begun w_refused s_year s_wet s_lost s_eaten s_tied s_ripeMany s_gone s_place s_heard s_many s_lying s_ripe l_values l_stack) else if w_begun < 200 then if ixb x5 150 then if (w_kind x5.toNatClampNeg) = 6 then if ixb x5 150 then if ixb x5 150 then if ixb x5 150 then if (w_first x5.toNatClampNeg) ≤ 0 then if ixb x5 150 then f_X8_perform_19 w_kind w_first w_second w_length p_beds p_letters p_readers p_far p_drain p_length p_words l_code l_length n x4 ((w_second x5.toNatClampNeg) + 1) (x6 + 1) (upd w_rounds x5.toNatClampNeg (w_first x5.toNatClampNeg)) (w_begun + 1) w_refused s_year s_wet s_lost s_eaten s_tied s_ripeMany s_gone s_place s_heard s_many s_lying s_ripe l_values l_stack else none else f_X8_perform_19 w_kind w_first w_second w_length p_beds p_letters p_readers p_far p_drain p_length p_words l_code l_length n x4 (x5 + 1) (x6 + 1) (upd w_rounds x5.toNatClampNeg (w_first x5.toNatClampNeg)) (w_begun + 1) w_refused s_year s_wet s_lost s_eaten s_tied s_ripeMany s_gone s_place s_heard s_many s_lying s_ripe l_values l_stack else none else none else none else b15 (f_X8_isDone w_kind w_first w_second s_year s_wet s_lost s_eaten s_tied s_ripeMany s_gone s_place s_heard s_many s_lying s_ripe p_beds p_letters p_readers p_far p_drain p_length p_words l_code l_values l_stack l_length x5) (fun v1 c2 c3 c4 c5 c6 c7 c8 c9 c10 c11 c12 c13 c14 c15 => if v1 = 0 then f_X8_perform_19 w_kind w_first w_second w_length p_beds p_letters p_readers p_far p_drain p_length p_words l_code l_length n x4 (x5 + 1) (x6 + 1) w_rounds (w_begun + 1) (w_refused + 1) c2 c3 c4 c5 c6 c7 c8 c9 c10 c11 c12 c13 c14 c15 else f_X8_perform_19 w_kind w_first w_second w_length p_beds p_letters p_readers p_far p_drain p_length p_words l_code l_length n (x4 + 1) (x5 + 1) (x6 + 1) w_rounds (w_begun + 1) w_refused c2 c3 c4 c5 c6 c7 c8 c9 c10 c11 c12 c13 c14 c15) else none else some (x4, w_rounds, w_begun, w_refused, s_year, s_wet, s_lost, s_eaten, s_tied, s_ripeMany, s_gone, s_place, s_heard, s_many, s_lying, s_ripe, l_values, l_stack) else none
noncomputable def f_X8_perform (w_kind : Nat → Int32) (w_first : Nat → Int32) (w_second : Nat → Int32) (w_rounds : Nat → Int32) (w_length : Int32) (w_begun : Int32) (w_refused : Int32) (s_year : Int32) (s_wet : Int32) (s_lost : Int32) (s_eaten : Int32) (s_tied : Int32) (s_ripeMany : Int32) (s_gone : Nat → Int32) (s_place : Nat → Int32) (s_heard : Nat → Int32) (s_many : Nat → Int32) (s_lying : Nat → Int32) (s_ripe : Nat → Int32) (p_beds : Int32) (p_letters : Int32) (p_readers : Int32) (p_far : Nat → Int32) (p_drain : Nat → Int32) (p_length : Nat → Int32) (p_words : Nat → Int32) (l_code : Nat → Int32) (l_values : Nat → Int32) (l_stack : Nat → Int32) (l_length : Int32) : Option (Int32 × (Nat → Int32) × Int32 × Int32 × Int32 × Int32 × Int32 × Int32 × Int32 × Int32 × (Nat → Int32) × (Nat → Int32) × (Nat → Int32) × (Nat → Int32) × (Nat → Int32) × (Nat → Int32) × (Nat → Int32) × (Nat → Int32)) := f_X8_perform_19 w_kind w_first w_second w_length p_beds p_letters p_readers p_far p_drain p_length p_words l_code l_length FU 0 0 0 w_rounds 0 0 s_year s_wet s_lost s_eaten s_tied s_ripeMany s_gone s_place s_heard s_many s_lying s_ripe l_values l_stack
def rm_X8_perform : Room := { frames := 5, cells := 0, slots := 0, locals := 147 }
set_option maxRecDepth 100000 in
set_option maxHeartbeats 4000000 in
theorem j_X8_perform_19 {J : Jt} {Z : Zt} {a0 : Nat → Nat} {a1 : Nat → Nat} {a2 : Nat → Nat} {a3 : Nat → Nat} {w_kind : Nat → Int32} {w_first : Nat → Int32} {w_second : Nat → Int32} {w_length : Int32} {p_beds : Int32} {p_letters : Int32} {p_readers : Int32} {p_far : Nat → Int32} {p_drain : Nat → Int32} {p_length : Nat → Int32} {p_words : Nat → Int32} {p_home : Nat → Int32} {l_code : Nat → Int32} {l_length : Int32} {r : Int32} {o_w_rounds : Nat → Int32} {o_w_begun : Int32} {o_w_refused : Int32} {o_s_year : Int32} {o_s_wet : Int32} {o_s_lost : Int32} {o_s_eaten : Int32} {o_s_tied : Int32} {o_s_ripeMany : Int32} {o_s_gone : Nat → Int32} {o_s_place : Nat → Int32} {o_s_heard : Nat → Int32} {o_s_many : Nat → Int32} {o_s_lying : Nat → Int32} {o_s_ripe : Nat → Int32} {o_l_values : Nat → Int32} {o_l_stack : Nat → Int32} (C : Cx J Z cX8_perform 7 RX8 (some .int) rm_X8_perform) (E : Ez J Z 0 0 (some (.int r)) (cs_X8 J.2.2.1 a0 w_kind w_first w_second o_w_rounds w_length o_w_begun o_w_refused ++ cs_X4 J.2.2.1 a1 o_s_year o_s_wet o_s_lost o_s_eaten o_s_tied o_s_ripeMany o_s_gone o_s_place o_s_heard o_s_many o_s_lying o_s_ripe ++ cs_X2 J.2.2.1 a2 p_beds p_letters p_readers p_far p_drain p_length p_words p_home ++ cs_X1 J.2.2.1 a3 l_code o_l_values o_l_stack l_length)) : ∀ (n : Nat) (x4 : Int32) (x5 : Int32) (x6 : Int32) (w_rounds : Nat → Int32) (w_begun : Int32) (w_refused : Int32) (s_year : Int32) (s_wet : Int32) (s_lost : Int32) (s_eaten : Int32) (s_tied : Int32) (s_ripeMany : Int32) (s_gone : Nat → Int32) (s_place : Nat → Int32) (s_heard : Nat → Int32) (s_many : Nat → Int32) (s_lying : Nat → Int32) (s_ripe : Nat → Int32) (l_values : Nat → Int32) (l_stack : Nat → Int32), f_X8_perform_19 w_kind w_first w_second w_length p_beds p_letters p_readers p_far p_drain p_length p_words l_code l_length n x4 x5 x6 w_rounds w_begun w_refused s_year s_wet s_lost s_eaten s_tied s_ripeMany s_gone s_place s_heard s_many s_lying s_ripe l_values l_stack = some (r, o_w_rounds, o_w_begun, o_w_refused, o_s_year, o_s_wet, o_s_lost, o_s_eaten, o_s_tied, o_s_ripeMany, o_s_gone, o_s_place, o_s_heard, o_s_many, o_s_lying, o_s_ripe, o_l_values, o_l_stack) → G J Z 0 0 (cs_X8 J.2.2.1 a0 w_kind w_first w_second w_rounds w_length w_begun w_refused ++ cs_X4 J.2.2.1 a1 s_year s_wet s_lost s_eaten s_tied s_ripeMany s_gone s_place s_heard s_many s_lying s_ripe ++ cs_X2 J.2.2.1 a2 p_beds p_letters p_readers p_far p_drain p_length p_words p_home ++ cs_X1 J.2.2.1 a3 l_code l_values l_stack l_length) 7 [(0, .ref (a0 0)), (1, .ref (a1 0)), (2, .ref (a2 0)), (3, .ref (a3 0)), (4, .int x4), (5, .int x5), (6, .int x6)] 19 [] := by
  intro n
  induction n with
  | zero =>
    intro x4 x5 x6 w_rounds w_begun w_refused s_year s_wet s_lost s_eaten s_tied s_ripeMany s_gone s_place s_heard s_many s_lying s_ripe l_values l_stack h
    rw [f_X8_perform_19] at h
    cases h
  | succ n ih =>
    intro x4 x5 x6 w_rounds w_begun w_refused s_year s_wet s_lost s_eaten s_tied s_ripeMany s_gone s_place s_heard s_many s_lying s_ripe l_values l_stack h
    rw [f_X8_perform_19] at h
    refine g_iload (pc := 19) C 6 rfl dX8_perform_19 ?_
    refine g_ldc (pc := 21) C dX8_perform_21 kw_847 ?_
    refine g_icmp_ge (pc := 23) C (tgt := 188) dX8_perform_23 rfl h (fun h => ?_) (fun h => ?_)
    · refine g_iload (pc := 188) C 4 rfl dX8_perform_188 ?_
      cases h
      exact g_iret C E dX8_perform_190
    · refine g_iload (pc := 26) C 5 rfl dX8_perform_26 ?_
      refine g_if_lt (pc := 28) C (tgt := 188) dX8_perform_28 rfl h (fun h => ?_) (fun h => ?_)
      · refine g_iload (pc := 188) C 4 rfl dX8_perform_188 ?_
        cases h
        exact g_iret C E dX8_perform_190
      · refine g_iload (pc := 31) C 5 rfl dX8_perform_31 ?_
        refine g_aload_n (pc := 33) C 0 rfl dX8_perform_33 ?_
        refine g_get (pc := 34) C FOK_X8 0 rfl rfl 4 (by decide) kw_213 rfl dX8_perform_34 ?_
        refine g_icmp_ge (pc := 37) C (tgt := 188) dX8_perform_37 rfl h (fun h => ?_) (fun h => ?_)
        · refine g_iload (pc := 188) C 4 rfl dX8_perform_188 ?_
          cases h
          exact g_iret C E dX8_perform_190
        · refine g_iload (pc := 40) C 5 rfl dX8_perform_40 ?_
          refine g_sipush (pc := 42) C dX8_perform_42 cs_150 ?_
          refine g_icmp_ge (pc := 45) C (tgt := 188) dX8_perform_45 rfl h (fun h => ?_) (fun h => ?_)
          · refine g_iload (pc := 188) C 4 rfl dX8_perform_188 ?_
            cases h
            exact g_iret C E dX8_perform_190
          · refine g_aload_n (pc := 48) C 0 rfl dX8_perform_48 ?_
            refine g_get (pc := 49) C FOK_X8 0 rfl rfl 0 (by decide) kw_209 rfl dX8_perform_49 ?_
            refine g_iload (pc := 52) C 5 rfl dX8_perform_52 ?_
            obtain ⟨hi, h⟩ := ix_of h
            refine g_iald (pc := 54) C 1 rfl hi dX8_perform_54 ?_
            refine g_bipush (pc := 55) C dX8_perform_55 cb_7 ?_
            refine g_icmp_ne (pc := 57) C (tgt := 71) dX8_perform_57 rfl h (fun h => ?_) (fun h => ?_)
            · refine g_aload_n (pc := 71) C 0 rfl dX8_perform_71 ?_
              refine g_get (pc := 72) C FOK_X8 0 rfl rfl 5 (by decide) kw_214 rfl dX8_perform_72 ?_
              refine g_sipush (pc := 75) C dX8_perform_75 cs_200 ?_
              refine g_icmp_lt (pc := 78) C (tgt := 84) dX8_perform_78 rfl h (fun h => ?_) (fun h => ?_)
              · refine g_aload_n (pc := 84) C 0 rfl dX8_perform_84 ?_
                refine g_dup (pc := 85) C dX8_perform_85 rfl ?_
                refine g_get (pc := 86) C FOK_X8 0 rfl rfl 5 (by decide) kw_214 rfl dX8_perform_86 ?_
                refine g_iconst (pc := 89) C dX8_perform_89 ci_1 ?_
                refine g_iadd (pc := 90) C dX8_perform_90 ?_
                refine g_put (pc := 91) C (w' := cs_X8 J.2.2.1 a0 w_kind w_first w_second w_rounds w_length (w_begun + 1) w_refused ++ cs_X4 J.2.2.1 a1 s_year s_wet s_lost s_eaten s_tied s_ripeMany s_gone s_place s_heard s_many s_lying s_ripe ++ cs_X2 J.2.2.1 a2 p_beds p_letters p_readers p_far p_drain p_length p_words p_home ++ cs_X1 J.2.2.1 a3 l_code l_values l_stack l_length) FOK_X8 0 rfl rfl 5 (by decide) kw_214 rfl rfl rfl (Nat.le_of_ble_eq_true rfl) dX8_perform_91 rfl ?_
                refine g_aload_n (pc := 94) C 0 rfl dX8_perform_94 ?_
                refine g_get (pc := 95) C FOK_X8 0 rfl rfl 0 (by decide) kw_209 rfl dX8_perform_95 ?_
                refine g_iload (pc := 98) C 5 rfl dX8_perform_98 ?_
                obtain ⟨hi, h⟩ := ix_of h
                refine g_iald (pc := 100) C 1 rfl hi dX8_perform_100 ?_
                refine g_bipush (pc := 101) C dX8_perform_101 cb_6 ?_
                refine g_icmp_ne (pc := 103) C (tgt := 151) dX8_perform_103 rfl h (fun h => ?_) (fun h => ?_)
                · refine g_aload_n (pc := 151) C 0 rfl dX8_perform_151 ?_
                  refine g_aload_n (pc := 152) C 1 rfl dX8_perform_152 ?_
                  refine g_aload_n (pc := 153) C 2 rfl dX8_perform_153 ?_
                  refine g_aload_n (pc := 154) C 3 rfl dX8_perform_154 ?_
                  refine g_iload (pc := 155) C 5 rfl dX8_perform_155 ?_
                  obtain ⟨v1, c2, c3, c4, c5, c6, c7, c8, c9, c10, c11, c12, c13, c14, c15, hc, h⟩ := b15_of h
                  refine g_callV (pc := 157) C (w' := cs_X8 J.2.2.1 a0 w_kind w_first w_second w_rounds w_length (w_begun + 1) w_refused ++ cs_X4 J.2.2.1 a1 c2 c3 c4 c5 c6 c7 c8 c9 c10 c11 c12 c13 ++ cs_X2 J.2.2.1 a2 p_beds p_letters p_readers p_far p_drain p_length p_words p_home ++ cs_X1 J.2.2.1 a3 l_code c14 c15 l_length) (As := [.ref (a1 0), .ref (a2 0), .ref (a3 0), .int x5]) (st := []) (ci := 8) (q0 := 0) rfl rfl (t_X8_isDone (a0 := a0) (a1 := a1) (a2 := a2) (a3 := a3) hc) Sub.same kw_852 kw_853 kw_854 kw_89 hy_X8_isDone kw_855 rfl (Nat.le_of_ble_eq_true rfl) (Nat.le_of_ble_eq_true rfl) (Nat.le_of_ble_eq_true rfl) (Nat.le_of_ble_eq_true rfl) (Nat.le_of_ble_eq_true rfl) dX8_perform_157 ?_
                  refine g_if_eq (pc := 160) C (tgt := 169) dX8_perform_160 rfl h (fun h => ?_) (fun h => ?_)
                  · refine g_aload_n (pc := 169) C 0 rfl dX8_perform_169 ?_
                    refine g_dup (pc := 170) C dX8_perform_170 rfl ?_
                    refine g_get (pc := 171) C FOK_X8 0 rfl rfl 6 (by decide) kw_215 rfl dX8_perform_171 ?_
                    refine g_iconst (pc := 174) C dX8_perform_174 ci_1 ?_
                    refine g_iadd (pc := 175) C dX8_perform_175 ?_
                    refine g_put (pc := 176) C (w' := cs_X8 J.2.2.1 a0 w_kind w_first w_second w_rounds w_length (w_begun + 1) (w_refused + 1) ++ cs_X4 J.2.2.1 a1 c2 c3 c4 c5 c6 c7 c8 c9 c10 c11 c12 c13 ++ cs_X2 J.2.2.1 a2 p_beds p_letters p_readers p_far p_drain p_length p_words p_home ++ cs_X1 J.2.2.1 a3 l_code c14 c15 l_length) FOK_X8 0 rfl rfl 6 (by decide) kw_215 rfl rfl rfl (Nat.le_of_ble_eq_true rfl) dX8_perform_176 rfl ?_
                    refine g_iinc (pc := 179) C (j := 5) [(5, .int (x5 + 1)), (0, .ref (a0 0)), (1, .ref (a1 0)), (2, .ref (a2 0)), (3, .ref (a3 0)), (4, .int x4), (6, .int x6)] dX8_perform_179 rfl (ii_1 _) (by decide) rfl ?_
                    refine g_iinc (pc := 182) C (j := 6) [(6, .int (x6 + 1)), (5, .int (x5 + 1)), (0, .ref (a0 0)), (1, .ref (a1 0)), (2, .ref (a2 0)), (3, .ref (a3 0)), (4, .int x4)] dX8_perform_182 rfl (ii_1 _) (by decide) rfl ?_
                    refine g_goto (pc := 185) C (tgt := 19) dX8_perform_185 rfl ?_
                    refine g_lv [2, 3, 4, 5, 6, 1, 0] rfl ?_
                    exact ih x4 (x5 + 1) (x6 + 1) w_rounds (w_begun + 1) (w_refused + 1) c2 c3 c4 c5 c6 c7 c8 c9 c10 c11 c12 c13 c14 c15 h
                  · refine g_iinc (pc := 163) C (j := 4) [(4, .int (x4 + 1)), (0, .ref (a0 0)), (1, .ref (a1 0)), (2, .ref (a2 0)), (3, .ref (a3 0)), (5, .int x5), (6, .int x6)] dX8_perform_163 rfl (ii_1 _) (by decide) rfl ?_
                    refine g_goto (pc := 166) C (tgt := 179) dX8_perform_166 rfl ?_
                    refine g_iinc (pc := 179) C (j := 5) [(5, .int (x5 + 1)), (4, .int (x4 + 1)), (0, .ref (a0 0)), (1, .ref (a1 0)), (2, .ref (a2 0)), (3, .ref (a3 0)), (6, .int x6)] dX8_perform_179 rfl (ii_1 _) (by decide) rfl ?_
                    refine g_iinc (pc := 182) C (j := 6) [(6, .int (x6 + 1)), (5, .int (x5 + 1)), (4, .int (x4 + 1)), (0, .ref (a0 0)), (1, .ref (a1 0)), (2, .ref (a2 0)), (3, .ref (a3 0))] dX8_perform_182 rfl (ii_1 _) (by decide) rfl ?_
                    refine g_goto (pc := 185) C (tgt := 19) dX8_perform_185 rfl ?_
                    refine g_lv [3, 4, 5, 6, 2, 1, 0] rfl ?_
                    exact ih (x4 + 1) (x5 + 1) (x6 + 1) w_rounds (w_begun + 1) w_refused c2 c3 c4 c5 c6 c7 c8 c9 c10 c11 c12 c13 c14 c15 h
                · refine g_aload_n (pc := 106) C 0 rfl dX8_perform_106 ?_
                  refine g_get (pc := 107) C FOK_X8 0 rfl rfl 3 (by decide) kw_212 rfl dX8_perform_107 ?_
                  refine g_iload (pc := 110) C 5 rfl dX8_perform_110 ?_
                  refine g_aload_n (pc := 112) C 0 rfl dX8_perform_112 ?_
                  refine g_get (pc := 113) C FOK_X8 0 rfl rfl 1 (by decide) kw_210 rfl dX8_perform_113 ?_
                  refine g_iload (pc := 116) C 5 rfl dX8_perform_116 ?_
                  obtain ⟨hi, h⟩ := ix_of h
                  refine g_iald (pc := 118) C 2 rfl hi dX8_perform_118 ?_
                  obtain ⟨hi, h⟩ := ix_of h
                  refine g_iast (pc := 119) C (w' := cs_X8 J.2.2.1 a0 w_kind w_first w_second (upd w_rounds x5.toNatClampNeg (w_first x5.toNatClampNeg)) w_length (w_begun + 1) w_refused ++ cs_X4 J.2.2.1 a1 s_year s_wet s_lost s_eaten s_tied s_ripeMany s_gone s_place s_heard s_many s_lying s_ripe ++ cs_X2 J.2.2.1 a2 p_beds p_letters p_readers p_far p_drain p_length p_words p_home ++ cs_X1 J.2.2.1 a3 l_code l_values l_stack l_length) 4 rfl hi dX8_perform_119 rfl ?_
                  refine g_aload_n (pc := 120) C 0 rfl dX8_perform_120 ?_
                  refine g_get (pc := 121) C FOK_X8 0 rfl rfl 1 (by decide) kw_210 rfl dX8_perform_121 ?_
                  refine g_iload (pc := 124) C 5 rfl dX8_perform_124 ?_
                  obtain ⟨hi, h⟩ := ix_of h
                  refine g_iald (pc := 126) C 2 rfl hi dX8_perform_126 ?_
                  refine g_if_le (pc := 127) C (tgt := 137) dX8_perform_127 rfl h (fun h => ?_) (fun h => ?_)
                  · refine g_aload_n (pc := 137) C 0 rfl dX8_perform_137 ?_
                    refine g_get (pc := 138) C FOK_X8 0 rfl rfl 2 (by decide) kw_211 rfl dX8_perform_138 ?_
                    refine g_iload (pc := 141) C 5 rfl dX8_perform_141 ?_
                    obtain ⟨hi, h⟩ := ix_of h
                    refine g_iald (pc := 143) C 3 rfl hi dX8_perform_143 ?_
                    refine g_iconst (pc := 144) C dX8_perform_144 ci_1 ?_
                    refine g_iadd (pc := 145) C dX8_perform_145 ?_
                    refine g_istore (pc := 146) C [(5, .int ((w_second x5.toNatClampNeg) + 1)), (0, .ref (a0 0)), (1, .ref (a1 0)), (2, .ref (a2 0)), (3, .ref (a3 0)), (4, .int x4), (6, .int x6)] dX8_perform_146 (by decide) rfl ?_
                    refine g_goto (pc := 148) C (tgt := 182) dX8_perform_148 rfl ?_
                    refine g_iinc (pc := 182) C (j := 6) [(6, .int (x6 + 1)), (5, .int ((w_second x5.toNatClampNeg) + 1)), (0, .ref (a0 0)), (1, .ref (a1 0)), (2, .ref (a2 0)), (3, .ref (a3 0)), (4, .int x4)] dX8_perform_182 rfl (ii_1 _) (by decide) rfl ?_
                    refine g_goto (pc := 185) C (tgt := 19) dX8_perform_185 rfl ?_
                    refine g_lv [2, 3, 4, 5, 6, 1, 0] rfl ?_
                    exact ih x4 ((w_second x5.toNatClampNeg) + 1) (x6 + 1) (upd w_rounds x5.toNatClampNeg (w_first x5.toNatClampNeg)) (w_begun + 1) w_refused s_year s_wet s_lost s_eaten s_tied s_ripeMany s_gone s_place s_heard s_many s_lying s_ripe l_values l_stack h
                  · refine g_iload (pc := 130) C 5 rfl dX8_perform_130 ?_
                    refine g_iconst (pc := 132) C dX8_perform_132 ci_1 ?_
                    refine g_iadd (pc := 133) C dX8_perform_133 ?_
                    refine g_goto (pc := 134) C (tgt := 146) dX8_perform_134 rfl ?_
                    refine g_istore (pc := 146) C [(5, .int (x5 + 1)), (0, .ref (a0 0)), (1, .ref (a1 0)), (2, .ref (a2 0)), (3, .ref (a3 0)), (4, .int x4), (6, .int x6)] dX8_perform_146 (by decide) rfl ?_
                    refine g_goto (pc := 148) C (tgt := 182) dX8_perform_148 rfl ?_
                    refine g_iinc (pc := 182) C (j := 6) [(6, .int (x6 + 1)), (5, .int (x5 + 1)), (0, .ref (a0 0)), (1, .ref (a1 0)), (2, .ref (a2 0)), (3, .ref (a3 0)), (4, .int x4)] dX8_perform_182 rfl (ii_1 _) (by decide) rfl ?_
                    refine g_goto (pc := 185) C (tgt := 19) dX8_perform_185 rfl ?_
                    refine g_lv [2, 3, 4, 5, 6, 1, 0] rfl ?_
                    exact ih x4 (x5 + 1) (x6 + 1) (upd w_rounds x5.toNatClampNeg (w_first x5.toNatClampNeg)) (w_begun + 1) w_refused s_year s_wet s_lost s_eaten s_tied s_ripeMany s_gone s_place s_heard s_many s_lying s_ripe l_values l_stack h
              · refine g_iload (pc := 81) C 4 rfl dX8_perform_81 ?_
                cases h
                exact g_iret C E dX8_perform_83
            · refine g_aload_n (pc := 60) C 0 rfl dX8_perform_60 ?_
              refine g_iload (pc := 61) C 5 rfl dX8_perform_61 ?_
              obtain ⟨v16, c17, hc, h⟩ := b2_of h
              refine g_callV (pc := 63) C (w' := cs_X8 J.2.2.1 a0 w_kind w_first w_second c17 w_length w_begun w_refused ++ cs_X4 J.2.2.1 a1 s_year s_wet s_lost s_eaten s_tied s_ripeMany s_gone s_place s_heard s_many s_lying s_ripe ++ cs_X2 J.2.2.1 a2 p_beds p_letters p_readers p_far p_drain p_length p_words p_home ++ cs_X1 J.2.2.1 a3 l_code l_values l_stack l_length) (As := [.int x5]) (st := []) (ci := 8) (q0 := 0) rfl rfl (t_X8_afterRound (a0 := a0) hc) (Sub.gen [0, 1, 2, 3, 4] [5, 6, 7, 8, 9, 10, 11, 12, 13, 14, 15, 16, 17, 18, 19, 20, 21] [17, 18, 19, 20, 21, 0, 1, 2, 3, 4, 5, 6, 7, 8, 9, 10, 11, 12, 13, 14, 15, 16] rfl (by decide) rfl (by decide) (by decide) rfl (by decide)) kw_848 kw_849 kw_850 kw_89 hy_X8_afterRound kw_851 rfl (Nat.le_of_ble_eq_true rfl) (Nat.le_of_ble_eq_true rfl) (Nat.le_of_ble_eq_true rfl) (Nat.le_of_ble_eq_true rfl) (Nat.le_of_ble_eq_true rfl) dX8_perform_63 ?_
              refine g_istore (pc := 66) C [(5, .int v16), (0, .ref (a0 0)), (1, .ref (a1 0)), (2, .ref (a2 0)), (3, .ref (a3 0)), (4, .int x4), (6, .int x6)] dX8_perform_66 (by decide) rfl ?_
              refine g_goto (pc := 68) C (tgt := 182) dX8_perform_68 rfl ?_
              refine g_iinc (pc := 182) C (j := 6) [(6, .int (x6 + 1)), (5, .int v16), (0, .ref (a0 0)), (1, .ref (a1 0)), (2, .ref (a2 0)), (3, .ref (a3 0)), (4, .int x4)] dX8_perform_182 rfl (ii_1 _) (by decide) rfl ?_
              refine g_goto (pc := 185) C (tgt := 19) dX8_perform_185 rfl ?_
              refine g_lv [2, 3, 4, 5, 6, 1, 0] rfl ?_
              exact ih x4 v16 (x6 + 1) c17 w_begun w_refused s_year s_wet s_lost s_eaten s_tied s_ripeMany s_gone s_place s_heard s_many s_lying s_ripe l_values l_stack h
set_option maxRecDepth 100000 in
set_option maxHeartbeats 4000000 in
theorem t_X8_perform {J : Jt} {a0 : Nat → Nat} {a1 : Nat → Nat} {a2 : Nat → Nat} {a3 : Nat → Nat} {w_kind : Nat → Int32} {w_first : Nat → Int32} {w_second : Nat → Int32} {w_rounds : Nat → Int32} {w_length : Int32} {w_begun : Int32} {w_refused : Int32} {s_year : Int32} {s_wet : Int32} {s_lost : Int32} {s_eaten : Int32} {s_tied : Int32} {s_ripeMany : Int32} {s_gone : Nat → Int32} {s_place : Nat → Int32} {s_heard : Nat → Int32} {s_many : Nat → Int32} {s_lying : Nat → Int32} {s_ripe : Nat → Int32} {p_beds : Int32} {p_letters : Int32} {p_readers : Int32} {p_far : Nat → Int32} {p_drain : Nat → Int32} {p_length : Nat → Int32} {p_words : Nat → Int32} {p_home : Nat → Int32} {l_code : Nat → Int32} {l_values : Nat → Int32} {l_stack : Nat → Int32} {l_length : Int32} {r : Int32} {o_w_rounds : Nat → Int32} {o_w_begun : Int32} {o_w_refused : Int32} {o_s_year : Int32} {o_s_wet : Int32} {o_s_lost : Int32} {o_s_eaten : Int32} {o_s_tied : Int32} {o_s_ripeMany : Int32} {o_s_gone : Nat → Int32} {o_s_place : Nat → Int32} {o_s_heard : Nat → Int32} {o_s_many : Nat → Int32} {o_s_lying : Nat → Int32} {o_s_ripe : Nat → Int32} {o_l_values : Nat → Int32} {o_l_stack : Nat → Int32} (h : f_X8_perform w_kind w_first w_second w_rounds w_length w_begun w_refused s_year s_wet s_lost s_eaten s_tied s_ripeMany s_gone s_place s_heard s_many s_lying s_ripe p_beds p_letters p_readers p_far p_drain p_length p_words l_code l_values l_stack l_length = some (r, o_w_rounds, o_w_begun, o_w_refused, o_s_year, o_s_wet, o_s_lost, o_s_eaten, o_s_tied, o_s_ripeMany, o_s_gone, o_s_place, o_s_heard, o_s_many, o_s_lying, o_s_ripe, o_l_values, o_l_stack)) : Mt J yX8_perform cX8_perform 7 (some .int) rm_X8_perform [.ref (a0 0), .ref (a1 0), .ref (a2 0), .ref (a3 0)] (cs_X8 J.2.2.1 a0 w_kind w_first w_second w_rounds w_length w_begun w_refused ++ cs_X4 J.2.2.1 a1 s_year s_wet s_lost s_eaten s_tied s_ripeMany s_gone s_place s_heard s_many s_lying s_ripe ++ cs_X2 J.2.2.1 a2 p_beds p_letters p_readers p_far p_drain p_length p_words p_home ++ cs_X1 J.2.2.1 a3 l_code l_values l_stack l_length) (some (.int r)) (cs_X8 J.2.2.1 a0 w_kind w_first w_second o_w_rounds w_length o_w_begun o_w_refused ++ cs_X4 J.2.2.1 a1 o_s_year o_s_wet o_s_lost o_s_eaten o_s_tied o_s_ripeMany o_s_gone o_s_place o_s_heard o_s_many o_s_lying o_s_ripe ++ cs_X2 J.2.2.1 a2 p_beds p_letters p_readers p_far p_drain p_length p_words p_home ++ cs_X1 J.2.2.1 a3 l_code o_l_values o_l_stack l_length) := by
  refine Mt_of (own := RX8) (by decide) rfl (Nat.le_of_ble_eq_true rfl) rfl (fun Z C E => ?_)
  unfold f_X8_perform at h
  show G J Z 0 0 (cs_X8 J.2.2.1 a0 w_kind w_first w_second w_rounds w_length w_begun w_refused ++ cs_X4 J.2.2.1 a1 s_year s_wet s_lost s_eaten s_tied s_ripeMany s_gone s_place s_heard s_many s_lying s_ripe ++ cs_X2 J.2.2.1 a2 p_beds p_letters p_readers p_far p_drain p_length p_words p_home ++ cs_X1 J.2.2.1 a3 l_code l_values l_stack l_length) 7 [(0, .ref (a0 0)), (1, .ref (a1 0)), (2, .ref (a2 0)), (3, .ref (a3 0))] 0 []
  refine g_aload_n (pc := 0) C 0 rfl dX8_perform_0 ?_
  refine g_iconst (pc := 1) C dX8_perform_1 ci_0 ?_
  refine g_put (pc := 2) C (w' := cs_X8 J.2.2.1 a0 w_kind w_first w_second w_rounds w_length 0 w_refused ++ cs_X4 J.2.2.1 a1 s_year s_wet s_lost s_eaten s_tied s_ripeMany s_gone s_place s_heard s_many s_lying s_ripe ++ cs_X2 J.2.2.1 a2 p_beds p_letters p_readers p_far p_drain p_length p_words p_home ++ cs_X1 J.2.2.1 a3 l_code l_values l_stack l_length) FOK_X8 0 rfl rfl 5 (by decide) kw_214 rfl rfl rfl (Nat.le_of_ble_eq_true rfl) dX8_perform_2 rfl ?_
  refine g_aload_n (pc := 5) C 0 rfl dX8_perform_5 ?_
  refine g_iconst (pc := 6) C dX8_perform_6 ci_0 ?_
  refine g_put (pc := 7) C (w' := cs_X8 J.2.2.1 a0 w_kind w_first w_second w_rounds w_length 0 0 ++ cs_X4 J.2.2.1 a1 s_year s_wet s_lost s_eaten s_tied s_ripeMany s_gone s_place s_heard s_many s_lying s_ripe ++ cs_X2 J.2.2.1 a2 p_beds p_letters p_readers p_far p_drain p_length p_words p_home ++ cs_X1 J.2.2.1 a3 l_code l_values l_stack l_length) FOK_X8 0 rfl rfl 6 (by decide) kw_215 rfl rfl rfl (Nat.le_of_ble_eq_true rfl) dX8_perform_7 rfl ?_
  refine g_iconst (pc := 10) C dX8_perform_10 ci_0 ?_
  refine g_istore (pc := 11) C [(4, .int 0), (0, .ref (a0 0)), (1, .ref (a1 0)), (2, .ref (a2 0)), (3, .ref (a3 0))] dX8_perform_11 (by decide) rfl ?_
  refine g_iconst (pc := 13) C dX8_perform_13 ci_0 ?_
  refine g_istore (pc := 14) C [(5, .int 0), (4, .int 0), (0, .ref (a0 0)), (1, .ref (a1 0)), (2, .ref (a2 0)), (3, .ref (a3 0))] dX8_perform_14 (by decide) rfl ?_
  refine g_iconst (pc := 16) C dX8_perform_16 ci_0 ?_
  refine g_istore (pc := 17) C [(6, .int 0), (5, .int 0), (4, .int 0), (0, .ref (a0 0)), (1, .ref (a1 0)), (2, .ref (a2 0)), (3, .ref (a3 0))] dX8_perform_17 (by decide) rfl ?_
  refine g_lv [3, 4, 5, 6, 2, 1, 0] rfl ?_
  exact j_X8_perform_19 C E  FU 0 0 0 w_rounds 0 0 s_year s_wet s_lost s_eaten s_tied s_ripeMany s_gone s_place s_heard s_many s_lying s_ripe l_values l_stack h
