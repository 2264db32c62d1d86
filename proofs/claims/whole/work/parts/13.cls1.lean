noncomputable def f_X0_clear_7  : Nat → Int32 → (Nat → Int32) → Int32 → Option ((Nat → Int32) × Int32)
  | 0, _, _, _ => none
  | n + 1, x1, b_last, b_lines => if 6 ≤ x1 then some (b_last, b_lines) else if ixb x1 6 then f_X0_clear_7 n (x1 + 1) (upd b_last x1.toNatClampNeg (-1)) b_lines else none
noncomputable def f_X0_clear (b_last : Nat → Int32) (b_lines : Int32) : Option ((Nat → Int32) × Int32) := f_X0_clear_7 FU 0 b_last 0
def rm_X0_clear : Room := { frames := 0, cells := 0, slots := 0, locals := 0 }
set_option maxRecDepth 100000 in
set_option maxHeartbeats 4000000 in
theorem j_X0_clear_7 {J : Jt} {Z : Zt} {a0 : Nat → Nat} {o_b_last : Nat → Int32} {o_b_lines : Int32} (C : Cx J Z cX0_clear 2 RX0 none rm_X0_clear) (E : Ez J Z 0 0 none (cs_X0 J.2.2.1 a0 o_b_last o_b_lines)) : ∀ (n : Nat) (x1 : Int32) (b_last : Nat → Int32) (b_lines : Int32), f_X0_clear_7 n x1 b_last b_lines = some (o_b_last, o_b_lines) → G J Z 0 0 (cs_X0 J.2.2.1 a0 b_last b_lines) 2 [(0, .ref (a0 0)), (1, .int x1)] 7 [] := by
  intro n
  induction n with
  | zero =>
    intro x1 b_last b_lines h
    rw [f_X0_clear_7] at h
    cases h
  | succ n ih =>
    intro x1 b_last b_lines h
    rw [f_X0_clear_7] at h
    refine g_iload_n (pc := 7) C 1 rfl dX0_clear_7 ?_
    refine g_bipush (pc := 8) C dX0_clear_8 cb_6 ?_
    refine g_icmp_ge (pc := 10) C (tgt := 26) dX0_clear_10 rfl h (fun h => ?_) (fun h => ?_)
    · cases h
      exact g_vret C E dX0_clear_26
    · refine g_aload_n (pc := 13) C 0 rfl dX0_clear_13 ?_
      refine g_get (pc := 14) C FOK_X0 0 rfl rfl 0 (by decide) kw_358 rfl dX0_clear_14 ?_
      refine g_iload_n (pc := 17) C 1 rfl dX0_clear_17 ?_
      refine g_iconst (pc := 18) C dX0_clear_18 ci_m1 ?_
      obtain ⟨hi, h⟩ := ix_of h
      refine g_iast (pc := 19) C (w' := cs_X0 J.2.2.1 a0 (upd b_last x1.toNatClampNeg (-1)) b_lines) 1 rfl hi dX0_clear_19 rfl ?_
      refine g_iinc (pc := 20) C (j := 1) [(1, .int (x1 + 1)), (0, .ref (a0 0))] dX0_clear_20 rfl (ii_1 _) (by decide) rfl ?_
      refine g_goto (pc := 23) C (tgt := 7) dX0_clear_23 rfl ?_
      refine g_lv [1, 0] rfl ?_
      exact ih (x1 + 1) (upd b_last x1.toNatClampNeg (-1)) b_lines h
set_option maxRecDepth 100000 in
set_option maxHeartbeats 4000000 in
theorem t_X0_clear {J : Jt} {a0 : Nat → Nat} {b_last : Nat → Int32} {b_lines : Int32} {o_b_last : Nat → Int32} {o_b_lines : Int32} (h : f_X0_clear b_last b_lines = some (o_b_last, o_b_lines)) : Mt J yX0_clear cX0_clear 2 none rm_X0_clear [.ref (a0 0)] (cs_X0 J.2.2.1 a0 b_last b_lines) none (cs_X0 J.2.2.1 a0 o_b_last o_b_lines) := by
  refine Mt_of (own := RX0) (by decide) rfl (Nat.le_of_ble_eq_true rfl) rfl (fun Z C E => ?_)
  unfold f_X0_clear at h
  show G J Z 0 0 (cs_X0 J.2.2.1 a0 b_last b_lines) 2 [(0, .ref (a0 0))] 0 []
  refine g_aload_n (pc := 0) C 0 rfl dX0_clear_0 ?_
  refine g_iconst (pc := 1) C dX0_clear_1 ci_0 ?_
  refine g_put (pc := 2) C (w' := cs_X0 J.2.2.1 a0 b_last 0) FOK_X0 0 rfl rfl 1 (by decide) kw_360 rfl rfl rfl (Nat.le_of_ble_eq_true rfl) dX0_clear_2 rfl ?_
  refine g_iconst (pc := 5) C dX0_clear_5 ci_0 ?_
  refine g_istore_n (pc := 6) C [(1, .int 0), (0, .ref (a0 0))] dX0_clear_6 rfl (by decide) rfl ?_
  refine g_lv [1, 0] rfl ?_
  exact j_X0_clear_7 C E  FU 0 b_last 0 h
noncomputable def f_X7_blame (t_start : Int32) (t_faultKind : Int32) (t_faultPlace : Int32) (n1 : Int32) : Option (Int32 × Int32) := if t_faultKind = 0 then some (n1, t_start) else some (t_faultKind, t_faultPlace)
def rm_X7_blame : Room := { frames := 0, cells := 0, slots := 0, locals := 0 }
set_option maxRecDepth 100000 in
set_option maxHeartbeats 4000000 in
theorem t_X7_blame {J : Jt} {a0 : Nat → Nat} {t_bytes : Nat → Int32} {t_held : Int32} {t_end : Int32} {t_at : Int32} {t_start : Int32} {t_faultKind : Int32} {t_faultPlace : Int32} {n1 : Int32} {o_t_faultKind : Int32} {o_t_faultPlace : Int32} (h : f_X7_blame t_start t_faultKind t_faultPlace n1 = some (o_t_faultKind, o_t_faultPlace)) : Mt J yX7_blame cX7_blame 2 none rm_X7_blame [.ref (a0 0), .int n1] (cs_X7 J.2.2.1 a0 t_bytes t_held t_end t_at t_start t_faultKind t_faultPlace) none (cs_X7 J.2.2.1 a0 t_bytes t_held t_end t_at t_start o_t_faultKind o_t_faultPlace) := by
  refine Mt_of (own := RX7) (by decide) rfl (Nat.le_of_ble_eq_true rfl) rfl (fun Z C E => ?_)
  unfold f_X7_blame at h
  show G J Z 0 0 (cs_X7 J.2.2.1 a0 t_bytes t_held t_end t_at t_start t_faultKind t_faultPlace) 2 [(0, .ref (a0 0)), (1, .int n1)] 0 []
  refine g_aload_n (pc := 0) C 0 rfl dX7_blame_0 ?_
  refine g_get (pc := 1) C FOK_X7 0 rfl rfl 5 (by decide) kw_129 rfl dX7_blame_1 ?_
  refine g_if_ne (pc := 4) C (tgt := 20) dX7_blame_4 rfl h (fun h => ?_) (fun h => ?_)
  · cases h
    exact g_vret C E dX7_blame_20
  · refine g_aload_n (pc := 7) C 0 rfl dX7_blame_7 ?_
    refine g_iload_n (pc := 8) C 1 rfl dX7_blame_8 ?_
    refine g_put (pc := 9) C (w' := cs_X7 J.2.2.1 a0 t_bytes t_held t_end t_at t_start n1 t_faultPlace) FOK_X7 0 rfl rfl 5 (by decide) kw_129 rfl rfl rfl (Nat.le_of_ble_eq_true rfl) dX7_blame_9 rfl ?_
    refine g_aload_n (pc := 12) C 0 rfl dX7_blame_12 ?_
    refine g_aload_n (pc := 13) C 0 rfl dX7_blame_13 ?_
    refine g_get (pc := 14) C FOK_X7 0 rfl rfl 4 (by decide) kw_128 rfl dX7_blame_14 ?_
    refine g_put (pc := 17) C (w' := cs_X7 J.2.2.1 a0 t_bytes t_held t_end t_at t_start n1 t_start) FOK_X7 0 rfl rfl 6 (by decide) kw_130 rfl rfl rfl (Nat.le_of_ble_eq_true rfl) dX7_blame_17 rfl ?_
    cases h
    exact g_vret C E dX7_blame_20
noncomputable def f_X7_peek_57 (t_bytes : Nat → Int32) (t_end : Int32) (t_faultKind : Int32) (t_at : Int32) (t_start : Int32) : Option (Int32 × Int32 × Int32) := if t_end ≤ t_at then some ((-1), t_at, t_at) else if 600 ≤ t_at then some ((-1), t_at, t_at) else if ixb t_at 600 then some ((t_bytes t_at.toNatClampNeg) &&& 255, t_at, t_at) else none
noncomputable def f_X7_peek_9 (t_bytes : Nat → Int32) (t_end : Int32) (t_faultKind : Int32) : Nat → Int32 → Int32 → Option (Int32 × Int32 × Int32)
  | 0, _, _ => none
  | n + 1, t_at, t_start => if t_end ≤ t_at then f_X7_peek_57 t_bytes t_end t_faultKind t_at t_start else if 600 ≤ t_at then f_X7_peek_57 t_bytes t_end t_faultKind t_at t_start else if ixb t_at 600 then if (t_bytes t_at.toNatClampNeg) = 32 then f_X7_peek_9 t_bytes t_end t_faultKind n (t_at + 1) t_start else f_X7_peek_57 t_bytes t_end t_faultKind t_at t_start else none
noncomputable def f_X7_peek (t_bytes : Nat → Int32) (t_end : Int32) (t_at : Int32) (t_start : Int32) (t_faultKind : Int32) : Option (Int32 × Int32 × Int32) := if t_faultKind = 0 then f_X7_peek_9 t_bytes t_end t_faultKind FU t_at t_start else some ((-1), t_at, t_start)
def rm_X7_peek : Room := { frames := 0, cells := 0, slots := 0, locals := 0 }
set_option maxRecDepth 100000 in
set_option maxHeartbeats 4000000 in
theorem j_X7_peek_57 {J : Jt} {Z : Zt} {a0 : Nat → Nat} {t_bytes : Nat → Int32} {t_held : Int32} {t_end : Int32} {t_faultKind : Int32} {t_faultPlace : Int32} {r : Int32} {o_t_at : Int32} {o_t_start : Int32} (C : Cx J Z cX7_peek 1 RX7 (some .int) rm_X7_peek) (E : Ez J Z 0 0 (some (.int r)) (cs_X7 J.2.2.1 a0 t_bytes t_held t_end o_t_at o_t_start t_faultKind t_faultPlace)) : ∀ (t_at : Int32) (t_start : Int32), f_X7_peek_57 t_bytes t_end t_faultKind t_at t_start = some (r, o_t_at, o_t_start) → G J Z 0 0 (cs_X7 J.2.2.1 a0 t_bytes t_held t_end t_at t_start t_faultKind t_faultPlace) 1 [(0, .ref (a0 0))] 57 [] := by
  intro t_at t_start h
  unfold f_X7_peek_57 at h
  refine g_aload_n (pc := 57) C 0 rfl dX7_peek_57 ?_
  refine g_aload_n (pc := 58) C 0 rfl dX7_peek_58 ?_
  refine g_get (pc := 59) C FOK_X7 0 rfl rfl 3 (by decide) kw_127 rfl dX7_peek_59 ?_
  refine g_put (pc := 62) C (w' := cs_X7 J.2.2.1 a0 t_bytes t_held t_end t_at t_at t_faultKind t_faultPlace) FOK_X7 0 rfl rfl 4 (by decide) kw_128 rfl rfl rfl (Nat.le_of_ble_eq_true rfl) dX7_peek_62 rfl ?_
  refine g_aload_n (pc := 65) C 0 rfl dX7_peek_65 ?_
  refine g_get (pc := 66) C FOK_X7 0 rfl rfl 3 (by decide) kw_127 rfl dX7_peek_66 ?_
  refine g_aload_n (pc := 69) C 0 rfl dX7_peek_69 ?_
  refine g_get (pc := 70) C FOK_X7 0 rfl rfl 2 (by decide) kw_126 rfl dX7_peek_70 ?_
  refine g_icmp_ge (pc := 73) C (tgt := 102) dX7_peek_73 rfl h (fun h => ?_) (fun h => ?_)
  · refine g_iconst (pc := 102) C dX7_peek_102 ci_m1 ?_
    cases h
    exact g_iret C E dX7_peek_103
  · refine g_aload_n (pc := 76) C 0 rfl dX7_peek_76 ?_
    refine g_get (pc := 77) C FOK_X7 0 rfl rfl 3 (by decide) kw_127 rfl dX7_peek_77 ?_
    refine g_sipush (pc := 80) C dX7_peek_80 cs_600 ?_
    refine g_icmp_ge (pc := 83) C (tgt := 102) dX7_peek_83 rfl h (fun h => ?_) (fun h => ?_)
    · refine g_iconst (pc := 102) C dX7_peek_102 ci_m1 ?_
      cases h
      exact g_iret C E dX7_peek_103
    · refine g_aload_n (pc := 86) C 0 rfl dX7_peek_86 ?_
      refine g_get (pc := 87) C FOK_X7 0 rfl rfl 0 (by decide) kw_123 rfl dX7_peek_87 ?_
      refine g_aload_n (pc := 90) C 0 rfl dX7_peek_90 ?_
      refine g_get (pc := 91) C FOK_X7 0 rfl rfl 3 (by decide) kw_127 rfl dX7_peek_91 ?_
      obtain ⟨hi, h⟩ := ix_of h
      refine g_bald (pc := 94) C 1 rfl hi dX7_peek_94 ?_
      refine g_sipush (pc := 95) C dX7_peek_95 cs_255 ?_
      refine g_iand (pc := 98) C dX7_peek_98 ?_
      refine g_goto (pc := 99) C (tgt := 103) dX7_peek_99 rfl ?_
      cases h
      exact g_iret C E dX7_peek_103
set_option maxRecDepth 100000 in
set_option maxHeartbeats 4000000 in
theorem j_X7_peek_9 {J : Jt} {Z : Zt} {a0 : Nat → Nat} {t_bytes : Nat → Int32} {t_held : Int32} {t_end : Int32} {t_faultKind : Int32} {t_faultPlace : Int32} {r : Int32} {o_t_at : Int32} {o_t_start : Int32} (C : Cx J Z cX7_peek 1 RX7 (some .int) rm_X7_peek) (E : Ez J Z 0 0 (some (.int r)) (cs_X7 J.2.2.1 a0 t_bytes t_held t_end o_t_at o_t_start t_faultKind t_faultPlace)) : ∀ (n : Nat) (t_at : Int32) (t_start : Int32), f_X7_peek_9 t_bytes t_end t_faultKind n t_at t_start = some (r, o_t_at, o_t_start) → G J Z 0 0 (cs_X7 J.2.2.1 a0 t_bytes t_held t_end t_at t_start t_faultKind t_faultPlace) 1 [(0, .ref (a0 0))] 9 [] := by
  intro n
  induction n with
  | zero =>
    intro t_at t_start h
    rw [f_X7_peek_9] at h
    cases h
  | succ n ih =>
    intro t_at t_start h
    rw [f_X7_peek_9] at h
    refine g_aload_n (pc := 9) C 0 rfl dX7_peek_9 ?_
    refine g_get (pc := 10) C FOK_X7 0 rfl rfl 3 (by decide) kw_127 rfl dX7_peek_10 ?_
    refine g_aload_n (pc := 13) C 0 rfl dX7_peek_13 ?_
    refine g_get (pc := 14) C FOK_X7 0 rfl rfl 2 (by decide) kw_126 rfl dX7_peek_14 ?_
    refine g_icmp_ge (pc := 17) C (tgt := 57) dX7_peek_17 rfl h (fun h => ?_) (fun h => ?_)
    · exact j_X7_peek_57 C E  t_at t_start h
    · refine g_aload_n (pc := 20) C 0 rfl dX7_peek_20 ?_
      refine g_get (pc := 21) C FOK_X7 0 rfl rfl 3 (by decide) kw_127 rfl dX7_peek_21 ?_
      refine g_sipush (pc := 24) C dX7_peek_24 cs_600 ?_
      refine g_icmp_ge (pc := 27) C (tgt := 57) dX7_peek_27 rfl h (fun h => ?_) (fun h => ?_)
      · exact j_X7_peek_57 C E  t_at t_start h
      · refine g_aload_n (pc := 30) C 0 rfl dX7_peek_30 ?_
        refine g_get (pc := 31) C FOK_X7 0 rfl rfl 0 (by decide) kw_123 rfl dX7_peek_31 ?_
        refine g_aload_n (pc := 34) C 0 rfl dX7_peek_34 ?_
        refine g_get (pc := 35) C FOK_X7 0 rfl rfl 3 (by decide) kw_127 rfl dX7_peek_35 ?_
        obtain ⟨hi, h⟩ := ix_of h
        refine g_bald (pc := 38) C 1 rfl hi dX7_peek_38 ?_
        refine g_bipush (pc := 39) C dX7_peek_39 cb_32 ?_
        refine g_icmp_ne (pc := 41) C (tgt := 57) dX7_peek_41 rfl h (fun h => ?_) (fun h => ?_)
        · exact j_X7_peek_57 C E  t_at t_start h
        · refine g_aload_n (pc := 44) C 0 rfl dX7_peek_44 ?_
          refine g_dup (pc := 45) C dX7_peek_45 rfl ?_
          refine g_get (pc := 46) C FOK_X7 0 rfl rfl 3 (by decide) kw_127 rfl dX7_peek_46 ?_
          refine g_iconst (pc := 49) C dX7_peek_49 ci_1 ?_
          refine g_iadd (pc := 50) C dX7_peek_50 ?_
          refine g_put (pc := 51) C (w' := cs_X7 J.2.2.1 a0 t_bytes t_held t_end (t_at + 1) t_start t_faultKind t_faultPlace) FOK_X7 0 rfl rfl 3 (by decide) kw_127 rfl rfl rfl (Nat.le_of_ble_eq_true rfl) dX7_peek_51 rfl ?_
          refine g_goto (pc := 54) C (tgt := 9) dX7_peek_54 rfl ?_
          exact ih (t_at + 1) t_start h
set_option maxRecDepth 100000 in
set_option maxHeartbeats 4000000 in
theorem t_X7_peek {J : Jt} {a0 : Nat → Nat} {t_bytes : Nat → Int32} {t_held : Int32} {t_end : Int32} {t_at : Int32} {t_start : Int32} {t_faultKind : Int32} {t_faultPlace : Int32} {r : Int32} {o_t_at : Int32} {o_t_start : Int32} (h : f_X7_peek t_bytes t_end t_at t_start t_faultKind = some (r, o_t_at, o_t_start)) : Mt J yX7_peek cX7_peek 1 (some .int) rm_X7_peek [.ref (a0 0)] (cs_X7 J.2.2.1 a0 t_bytes t_held t_end t_at t_start t_faultKind t_faultPlace) (some (.int r)) (cs_X7 J.2.2.1 a0 t_bytes t_held t_end o_t_at o_t_start t_faultKind t_faultPlace) := by
  refine Mt_of (own := RX7) (by decide) rfl (Nat.le_of_ble_eq_true rfl) rfl (fun Z C E => ?_)
  unfold f_X7_peek at h
  show G J Z 0 0 (cs_X7 J.2.2.1 a0 t_bytes t_held t_end t_at t_start t_faultKind t_faultPlace) 1 [(0, .ref (a0 0))] 0 []
  refine g_aload_n (pc := 0) C 0 rfl dX7_peek_0 ?_
  refine g_get (pc := 1) C FOK_X7 0 rfl rfl 5 (by decide) kw_129 rfl dX7_peek_1 ?_
  refine g_if_eq (pc := 4) C (tgt := 9) dX7_peek_4 rfl h (fun h => ?_) (fun h => ?_)
  · exact j_X7_peek_9 C E  FU t_at t_start h
  · refine g_iconst (pc := 7) C dX7_peek_7 ci_m1 ?_
    cases h
    exact g_iret C E dX7_peek_8
noncomputable def f_X7_isAtEnd (t_bytes : Nat → Int32) (t_end : Int32) (t_at : Int32) (t_start : Int32) (t_faultKind : Int32) : Option (Int32 × Int32 × Int32) := b3 (f_X7_peek t_bytes t_end t_at t_start t_faultKind) (fun v1 c2 c3 => if v1 = (-1) then some (1, c2, c3) else some (0, c2, c3))
def rm_X7_isAtEnd : Room := { frames := 1, cells := 0, slots := 0, locals := 20 }
set_option maxRecDepth 100000 in
set_option maxHeartbeats 4000000 in
theorem t_X7_isAtEnd {J : Jt} {a0 : Nat → Nat} {t_bytes : Nat → Int32} {t_held : Int32} {t_end : Int32} {t_at : Int32} {t_start : Int32} {t_faultKind : Int32} {t_faultPlace : Int32} {r : Int32} {o_t_at : Int32} {o_t_start : Int32} (h : f_X7_isAtEnd t_bytes t_end t_at t_start t_faultKind = some (r, o_t_at, o_t_start)) : Mt J yX7_isAtEnd cX7_isAtEnd 1 (some .boolean) rm_X7_isAtEnd [.ref (a0 0)] (cs_X7 J.2.2.1 a0 t_bytes t_held t_end t_at t_start t_faultKind t_faultPlace) (some (.int r)) (cs_X7 J.2.2.1 a0 t_bytes t_held t_end o_t_at o_t_start t_faultKind t_faultPlace) := by
  refine Mt_of (own := RX7) (by decide) rfl (Nat.le_of_ble_eq_true rfl) rfl (fun Z C E => ?_)
  unfold f_X7_isAtEnd at h
  show G J Z 0 0 (cs_X7 J.2.2.1 a0 t_bytes t_held t_end t_at t_start t_faultKind t_faultPlace) 1 [(0, .ref (a0 0))] 0 []
  refine g_aload_n (pc := 0) C 0 rfl dX7_isAtEnd_0 ?_
  obtain ⟨v1, c2, c3, hc, h⟩ := b3_of h
  refine g_callV (pc := 1) C (w' := cs_X7 J.2.2.1 a0 t_bytes t_held t_end c2 c3 t_faultKind t_faultPlace) (As := []) (st := []) (ci := 7) (q0 := 0) rfl rfl (t_X7_peek (a0 := a0) hc) Sub.same kw_623 kw_624 kw_625 kw_87 hy_X7_peek kw_626 rfl (Nat.le_of_ble_eq_true rfl) (Nat.le_of_ble_eq_true rfl) (Nat.le_of_ble_eq_true rfl) (Nat.le_of_ble_eq_true rfl) (Nat.le_of_ble_eq_true rfl) dX7_isAtEnd_1 ?_
  refine g_iconst (pc := 4) C dX7_isAtEnd_4 ci_m1 ?_
  refine g_icmp_ne (pc := 5) C (tgt := 12) dX7_isAtEnd_5 rfl h (fun h => ?_) (fun h => ?_)
  · refine g_iconst (pc := 12) C dX7_isAtEnd_12 ci_0 ?_
    cases h
    exact g_zret C rfl E dX7_isAtEnd_13
  · refine g_iconst (pc := 8) C dX7_isAtEnd_8 ci_1 ?_
    refine g_goto (pc := 9) C (tgt := 13) dX7_isAtEnd_9 rfl ?_
    cases h
    exact g_zret C rfl E dX7_isAtEnd_13
noncomputable def f_X7_need (t_bytes : Nat → Int32) (t_end : Int32) (t_at : Int32) (t_start : Int32) (t_faultKind : Int32) (t_faultPlace : Int32) (n1 : Int32) : Option (Int32 × Int32 × Int32 × Int32) := b3 (f_X7_peek t_bytes t_end t_at t_start t_faultKind) (fun v1 c2 c3 => if v1 = n1 then some (c2 + 1, c3, t_faultKind, t_faultPlace) else b2 (f_X7_blame c3 t_faultKind t_faultPlace 1) (fun c4 c5 => some (c2, c3, c4, c5)))
def rm_X7_need : Room := { frames := 1, cells := 0, slots := 0, locals := 21 }
set_option maxRecDepth 100000 in
set_option maxHeartbeats 4000000 in
theorem t_X7_need {J : Jt} {a0 : Nat → Nat} {t_bytes : Nat → Int32} {t_held : Int32} {t_end : Int32} {t_at : Int32} {t_start : Int32} {t_faultKind : Int32} {t_faultPlace : Int32} {n1 : Int32} {o_t_at : Int32} {o_t_start : Int32} {o_t_faultKind : Int32} {o_t_faultPlace : Int32} (h : f_X7_need t_bytes t_end t_at t_start t_faultKind t_faultPlace n1 = some (o_t_at, o_t_start, o_t_faultKind, o_t_faultPlace)) : Mt J yX7_need cX7_need 2 none rm_X7_need [.ref (a0 0), .int n1] (cs_X7 J.2.2.1 a0 t_bytes t_held t_end t_at t_start t_faultKind t_faultPlace) none (cs_X7 J.2.2.1 a0 t_bytes t_held t_end o_t_at o_t_start o_t_faultKind o_t_faultPlace) := by
  refine Mt_of (own := RX7) (by decide) rfl (Nat.le_of_ble_eq_true rfl) rfl (fun Z C E => ?_)
  unfold f_X7_need at h
  show G J Z 0 0 (cs_X7 J.2.2.1 a0 t_bytes t_held t_end t_at t_start t_faultKind t_faultPlace) 2 [(0, .ref (a0 0)), (1, .int n1)] 0 []
  refine g_aload_n (pc := 0) C 0 rfl dX7_need_0 ?_
  obtain ⟨v1, c2, c3, hc, h⟩ := b3_of h
  refine g_callV (pc := 1) C (w' := cs_X7 J.2.2.1 a0 t_bytes t_held t_end c2 c3 t_faultKind t_faultPlace) (As := []) (st := []) (ci := 7) (q0 := 0) rfl rfl (t_X7_peek (a0 := a0) hc) Sub.same kw_623 kw_624 kw_625 kw_87 hy_X7_peek kw_626 rfl (Nat.le_of_ble_eq_true rfl) (Nat.le_of_ble_eq_true rfl) (Nat.le_of_ble_eq_true rfl) (Nat.le_of_ble_eq_true rfl) (Nat.le_of_ble_eq_true rfl) dX7_need_1 ?_
  refine g_iload_n (pc := 4) C 1 rfl dX7_need_4 ?_
  refine g_icmp_ne (pc := 5) C (tgt := 21) dX7_need_5 rfl h (fun h => ?_) (fun h => ?_)
  · refine g_aload_n (pc := 21) C 0 rfl dX7_need_21 ?_
    refine g_iconst (pc := 22) C dX7_need_22 ci_1 ?_
    obtain ⟨c4, c5, hc, h⟩ := b2_of h
    refine g_callV (pc := 23) C (w' := cs_X7 J.2.2.1 a0 t_bytes t_held t_end c2 c3 c4 c5) (As := [.int 1]) (st := []) (ci := 7) (q0 := 0) rfl rfl (t_X7_blame (a0 := a0) hc) Sub.same kw_706 kw_696 kw_697 kw_87 hy_X7_blame kw_698 rfl (Nat.le_of_ble_eq_true rfl) (Nat.le_of_ble_eq_true rfl) (Nat.le_of_ble_eq_true rfl) (Nat.le_of_ble_eq_true rfl) (Nat.le_of_ble_eq_true rfl) dX7_need_23 ?_
    cases h
    exact g_vret C E dX7_need_26
  · refine g_aload_n (pc := 8) C 0 rfl dX7_need_8 ?_
    refine g_dup (pc := 9) C dX7_need_9 rfl ?_
    refine g_get (pc := 10) C FOK_X7 0 rfl rfl 3 (by decide) kw_127 rfl dX7_need_10 ?_
    refine g_iconst (pc := 13) C dX7_need_13 ci_1 ?_
    refine g_iadd (pc := 14) C dX7_need_14 ?_
    refine g_put (pc := 15) C (w' := cs_X7 J.2.2.1 a0 t_bytes t_held t_end (c2 + 1) c3 t_faultKind t_faultPlace) FOK_X7 0 rfl rfl 3 (by decide) kw_127 rfl rfl rfl (Nat.le_of_ble_eq_true rfl) dX7_need_15 rfl ?_
    refine g_goto (pc := 18) C (tgt := 26) dX7_need_18 rfl ?_
    cases h
    exact g_vret C E dX7_need_26
noncomputable def f_X7_byteAt (t_bytes : Nat → Int32) (t_end : Int32) (n1 : Int32) : Option (Int32) := if n1 < 0 then some (-1) else if t_end ≤ n1 then some (-1) else if 600 ≤ n1 then some (-1) else if ixb n1 600 then some ((t_bytes n1.toNatClampNeg) &&& 255) else none
def rm_X7_byteAt : Room := { frames := 0, cells := 0, slots := 0, locals := 0 }
set_option maxRecDepth 100000 in
set_option maxHeartbeats 4000000 in
theorem t_X7_byteAt {J : Jt} {a0 : Nat → Nat} {t_bytes : Nat → Int32} {t_held : Int32} {t_end : Int32} {t_at : Int32} {t_start : Int32} {t_faultKind : Int32} {t_faultPlace : Int32} {n1 : Int32} {r : Int32} (h : f_X7_byteAt t_bytes t_end n1 = some r) : Mt J yX7_byteAt cX7_byteAt 2 (some .int) rm_X7_byteAt [.ref (a0 0), .int n1] (cs_X7 J.2.2.1 a0 t_bytes t_held t_end t_at t_start t_faultKind t_faultPlace) (some (.int r)) (cs_X7 J.2.2.1 a0 t_bytes t_held t_end t_at t_start t_faultKind t_faultPlace) := by
  refine Mt_of (own := RX7) (by decide) rfl (Nat.le_of_ble_eq_true rfl) rfl (fun Z C E => ?_)
  unfold f_X7_byteAt at h
  show G J Z 0 0 (cs_X7 J.2.2.1 a0 t_bytes t_held t_end t_at t_start t_faultKind t_faultPlace) 2 [(0, .ref (a0 0)), (1, .int n1)] 0 []
  refine g_iload_n (pc := 0) C 1 rfl dX7_byteAt_0 ?_
  refine g_if_lt (pc := 1) C (tgt := 32) dX7_byteAt_1 rfl h (fun h => ?_) (fun h => ?_)
  · refine g_iconst (pc := 32) C dX7_byteAt_32 ci_m1 ?_
    cases h
    exact g_iret C E dX7_byteAt_33
  · refine g_iload_n (pc := 4) C 1 rfl dX7_byteAt_4 ?_
    refine g_aload_n (pc := 5) C 0 rfl dX7_byteAt_5 ?_
    refine g_get (pc := 6) C FOK_X7 0 rfl rfl 2 (by decide) kw_126 rfl dX7_byteAt_6 ?_
    refine g_icmp_ge (pc := 9) C (tgt := 32) dX7_byteAt_9 rfl h (fun h => ?_) (fun h => ?_)
    · refine g_iconst (pc := 32) C dX7_byteAt_32 ci_m1 ?_
      cases h
      exact g_iret C E dX7_byteAt_33
    · refine g_iload_n (pc := 12) C 1 rfl dX7_byteAt_12 ?_
      refine g_sipush (pc := 13) C dX7_byteAt_13 cs_600 ?_
      refine g_icmp_ge (pc := 16) C (tgt := 32) dX7_byteAt_16 rfl h (fun h => ?_) (fun h => ?_)
      · refine g_iconst (pc := 32) C dX7_byteAt_32 ci_m1 ?_
        cases h
        exact g_iret C E dX7_byteAt_33
      · refine g_aload_n (pc := 19) C 0 rfl dX7_byteAt_19 ?_
        refine g_get (pc := 20) C FOK_X7 0 rfl rfl 0 (by decide) kw_123 rfl dX7_byteAt_20 ?_
        refine g_iload_n (pc := 23) C 1 rfl dX7_byteAt_23 ?_
        obtain ⟨hi, h⟩ := ix_of h
        refine g_bald (pc := 24) C 1 rfl hi dX7_byteAt_24 ?_
        refine g_sipush (pc := 25) C dX7_byteAt_25 cs_255 ?_
        refine g_iand (pc := 28) C dX7_byteAt_28 ?_
        refine g_goto (pc := 29) C (tgt := 33) dX7_byteAt_29 rfl ?_
        cases h
        exact g_iret C E dX7_byteAt_33
noncomputable def f_X7_isDigit  (n1 : Int32) : Option (Int32) := if n1 < 48 then some 0 else if 57 < n1 then some 0 else some 1
def rm_X7_isDigit : Room := { frames := 0, cells := 0, slots := 0, locals := 0 }
set_option maxRecDepth 100000 in
set_option maxHeartbeats 4000000 in
theorem t_X7_isDigit {J : Jt}  {n1 : Int32} {r : Int32} (h : f_X7_isDigit n1 = some r) : Mt J yX7_isDigit cX7_isDigit 1 (some .boolean) rm_X7_isDigit [.int n1] ([]) (some (.int r)) ([]) := by
  refine Mt_of (own := RX7) (by decide) rfl (Nat.le_of_ble_eq_true rfl) rfl (fun Z C E => ?_)
  unfold f_X7_isDigit at h
  show G J Z 0 0 ([]) 1 [(0, .int n1)] 0 []
  refine g_iload_n (pc := 0) C 0 rfl dX7_isDigit_0 ?_
  refine g_bipush (pc := 1) C dX7_isDigit_1 cb_48 ?_
  refine g_icmp_lt (pc := 3) C (tgt := 16) dX7_isDigit_3 rfl h (fun h => ?_) (fun h => ?_)
  · refine g_iconst (pc := 16) C dX7_isDigit_16 ci_0 ?_
    cases h
    exact g_zret C rfl E dX7_isDigit_17
  · refine g_iload_n (pc := 6) C 0 rfl dX7_isDigit_6 ?_
    refine g_bipush (pc := 7) C dX7_isDigit_7 cb_57 ?_
    refine g_icmp_gt (pc := 9) C (tgt := 16) dX7_isDigit_9 rfl h (fun h => ?_) (fun h => ?_)
    · refine g_iconst (pc := 16) C dX7_isDigit_16 ci_0 ?_
      cases h
      exact g_zret C rfl E dX7_isDigit_17
    · refine g_iconst (pc := 12) C dX7_isDigit_12 ci_1 ?_
      refine g_goto (pc := 13) C (tgt := 17) dX7_isDigit_13 rfl ?_
      cases h
      exact g_zret C rfl E dX7_isDigit_17
noncomputable def f_X7_number_90 (t_bytes : Nat → Int32) (t_end : Int32) (n1 : Int32) (n2 : Int32) (t_at : Int32) (t_start : Int32) (t_faultKind : Int32) (t_faultPlace : Int32) : Option (Int32 × Int32 × Int32 × Int32 × Int32) := b2 (f_X7_blame t_start t_faultKind t_faultPlace 2) (fun c1 c2 => some (0, t_at, t_start, c1, c2))
noncomputable def f_X7_number_80 (t_bytes : Nat → Int32) (t_end : Int32) (n1 : Int32) (n2 : Int32) (x3 : Int32) (t_at : Int32) (t_start : Int32) (t_faultKind : Int32) (t_faultPlace : Int32) : Option (Int32 × Int32 × Int32 × Int32 × Int32) := if x3 < n1 then f_X7_number_90 t_bytes t_end n1 n2 t_at t_start t_faultKind t_faultPlace else if x3 ≤ n2 then some (x3, t_at, t_start, t_faultKind, t_faultPlace) else f_X7_number_90 t_bytes t_end n1 n2 t_at t_start t_faultKind t_faultPlace
noncomputable def f_X7_number_19 (t_bytes : Nat → Int32) (t_end : Int32) (n1 : Int32) (n2 : Int32) : Nat → Int32 → Int32 → Int32 → Int32 → Int32 → Option (Int32 × Int32 × Int32 × Int32 × Int32)
  | 0, _, _, _, _, _ => none
  | n + 1, x3, t_at, t_start, t_faultKind, t_faultPlace => if t_end ≤ t_at then f_X7_number_80 t_bytes t_end n1 n2 x3 t_at t_start t_faultKind t_faultPlace else b1 (f_X7_byteAt t_bytes t_end t_at) (fun v3 => b1 (f_X7_isDigit v3) (fun v4 => if v4 = 0 then f_X7_number_80 t_bytes t_end n1 n2 x3 t_at t_start t_faultKind t_faultPlace else b1 (f_X7_byteAt t_bytes t_end t_at) (fun v5 => f_X7_number_19 t_bytes t_end n1 n2 n (imin (((x3 * 10) + v5) - 48) 1000) (t_at + 1) t_start t_faultKind t_faultPlace)))
noncomputable def f_X7_number (t_bytes : Nat → Int32) (t_end : Int32) (t_at : Int32) (t_start : Int32) (t_faultKind : Int32) (t_faultPlace : Int32) (n1 : Int32) (n2 : Int32) : Option (Int32 × Int32 × Int32 × Int32 × Int32) := b3 (f_X7_peek t_bytes t_end t_at t_start t_faultKind) (fun v6 c7 c8 => b1 (f_X7_isDigit v6) (fun v9 => if v9 = 0 then b2 (f_X7_blame c8 t_faultKind t_faultPlace 1) (fun c10 c11 => some (0, c7, c8, c10, c11)) else f_X7_number_19 t_bytes t_end n1 n2 FU 0 c7 c8 t_faultKind t_faultPlace))
def rm_X7_number : Room := { frames := 1, cells := 0, slots := 0, locals := 40 }
set_option maxRecDepth 100000 in
set_option maxHeartbeats 4000000 in
theorem j_X7_number_90 {J : Jt} {Z : Zt} {a0 : Nat → Nat} {t_bytes : Nat → Int32} {t_held : Int32} {t_end : Int32} {n1 : Int32} {n2 : Int32} {r : Int32} {o_t_at : Int32} {o_t_start : Int32} {o_t_faultKind : Int32} {o_t_faultPlace : Int32} (C : Cx J Z cX7_number 4 RX7 (some .int) rm_X7_number) (E : Ez J Z 0 0 (some (.int r)) (cs_X7 J.2.2.1 a0 t_bytes t_held t_end o_t_at o_t_start o_t_faultKind o_t_faultPlace)) : ∀ (t_at : Int32) (t_start : Int32) (t_faultKind : Int32) (t_faultPlace : Int32), f_X7_number_90 t_bytes t_end n1 n2 t_at t_start t_faultKind t_faultPlace = some (r, o_t_at, o_t_start, o_t_faultKind, o_t_faultPlace) → G J Z 0 0 (cs_X7 J.2.2.1 a0 t_bytes t_held t_end t_at t_start t_faultKind t_faultPlace) 4 [(0, .ref (a0 0))] 90 [] := by
  intro t_at t_start t_faultKind t_faultPlace h
  unfold f_X7_number_90 at h
  refine g_aload_n (pc := 90) C 0 rfl dX7_number_90 ?_
  refine g_iconst (pc := 91) C dX7_number_91 ci_2 ?_
  obtain ⟨c1, c2, hc, h⟩ := b2_of h
  refine g_callV (pc := 92) C (w' := cs_X7 J.2.2.1 a0 t_bytes t_held t_end t_at t_start c1 c2) (As := [.int 2]) (st := []) (ci := 7) (q0 := 0) rfl rfl (t_X7_blame (a0 := a0) hc) Sub.same kw_706 kw_696 kw_697 kw_87 hy_X7_blame kw_698 rfl (Nat.le_of_ble_eq_true rfl) (Nat.le_of_ble_eq_true rfl) (Nat.le_of_ble_eq_true rfl) (Nat.le_of_ble_eq_true rfl) (Nat.le_of_ble_eq_true rfl) dX7_number_92 ?_
  refine g_iconst (pc := 95) C dX7_number_95 ci_0 ?_
  cases h
  exact g_iret C E dX7_number_96
set_option maxRecDepth 100000 in
set_option maxHeartbeats 4000000 in
theorem j_X7_number_80 {J : Jt} {Z : Zt} {a0 : Nat → Nat} {t_bytes : Nat → Int32} {t_held : Int32} {t_end : Int32} {n1 : Int32} {n2 : Int32} {r : Int32} {o_t_at : Int32} {o_t_start : Int32} {o_t_faultKind : Int32} {o_t_faultPlace : Int32} (C : Cx J Z cX7_number 4 RX7 (some .int) rm_X7_number) (E : Ez J Z 0 0 (some (.int r)) (cs_X7 J.2.2.1 a0 t_bytes t_held t_end o_t_at o_t_start o_t_faultKind o_t_faultPlace)) : ∀ (x3 : Int32) (t_at : Int32) (t_start : Int32) (t_faultKind : Int32) (t_faultPlace : Int32), f_X7_number_80 t_bytes t_end n1 n2 x3 t_at t_start t_faultKind t_faultPlace = some (r, o_t_at, o_t_start, o_t_faultKind, o_t_faultPlace) → G J Z 0 0 (cs_X7 J.2.2.1 a0 t_bytes t_held t_end t_at t_start t_faultKind t_faultPlace) 4 [(0, .ref (a0 0)), (1, .int n1), (2, .int n2), (3, .int x3)] 80 [] := by
  intro x3 t_at t_start t_faultKind t_faultPlace h
  unfold f_X7_number_80 at h
  refine g_iload_n (pc := 80) C 3 rfl dX7_number_80 ?_
  refine g_iload_n (pc := 81) C 1 rfl dX7_number_81 ?_
  refine g_icmp_lt (pc := 82) C (tgt := 90) dX7_number_82 rfl h (fun h => ?_) (fun h => ?_)
  · refine g_lv [0] rfl ?_
    exact j_X7_number_90 C E  t_at t_start t_faultKind t_faultPlace h
  · refine g_iload_n (pc := 85) C 3 rfl dX7_number_85 ?_
    refine g_iload_n (pc := 86) C 2 rfl dX7_number_86 ?_
    refine g_icmp_le (pc := 87) C (tgt := 97) dX7_number_87 rfl h (fun h => ?_) (fun h => ?_)
    · refine g_iload_n (pc := 97) C 3 rfl dX7_number_97 ?_
      cases h
      exact g_iret C E dX7_number_98
    · refine g_lv [0] rfl ?_
      exact j_X7_number_90 C E  t_at t_start t_faultKind t_faultPlace h
set_option maxRecDepth 100000 in
set_option maxHeartbeats 4000000 in
theorem j_X7_number_19 {J : Jt} {Z : Zt} {a0 : Nat → Nat} {t_bytes : Nat → Int32} {t_held : Int32} {t_end : Int32} {n1 : Int32} {n2 : Int32} {r : Int32} {o_t_at : Int32} {o_t_start : Int32} {o_t_faultKind : Int32} {o_t_faultPlace : Int32} (C : Cx J Z cX7_number 4 RX7 (some .int) rm_X7_number) (E : Ez J Z 0 0 (some (.int r)) (cs_X7 J.2.2.1 a0 t_bytes t_held t_end o_t_at o_t_start o_t_faultKind o_t_faultPlace)) : ∀ (n : Nat) (x3 : Int32) (t_at : Int32) (t_start : Int32) (t_faultKind : Int32) (t_faultPlace : Int32), f_X7_number_19 t_bytes t_end n1 n2 n x3 t_at t_start t_faultKind t_faultPlace = some (r, o_t_at, o_t_start, o_t_faultKind, o_t_faultPlace) → G J Z 0 0 (cs_X7 J.2.2.1 a0 t_bytes t_held t_end t_at t_start t_faultKind t_faultPlace) 4 [(0, .ref (a0 0)), (1, .int n1), (2, .int n2), (3, .int x3)] 19 [] := by
  intro n
  induction n with
  | zero =>
    intro x3 t_at t_start t_faultKind t_faultPlace h
    rw [f_X7_number_19] at h
    cases h
  | succ n ih =>
    intro x3 t_at t_start t_faultKind t_faultPlace h
    rw [f_X7_number_19] at h
    refine g_aload_n (pc := 19) C 0 rfl dX7_number_19 ?_
    refine g_get (pc := 20) C FOK_X7 0 rfl rfl 3 (by decide) kw_127 rfl dX7_number_20 ?_
    refine g_aload_n (pc := 23) C 0 rfl dX7_number_23 ?_
    refine g_get (pc := 24) C FOK_X7 0 rfl rfl 2 (by decide) kw_126 rfl dX7_number_24 ?_
    refine g_icmp_ge (pc := 27) C (tgt := 80) dX7_number_27 rfl h (fun h => ?_) (fun h => ?_)
    · exact j_X7_number_80 C E  x3 t_at t_start t_faultKind t_faultPlace h
    · refine g_aload_n (pc := 30) C 0 rfl dX7_number_30 ?_
      refine g_aload_n (pc := 31) C 0 rfl dX7_number_31 ?_
      refine g_get (pc := 32) C FOK_X7 0 rfl rfl 3 (by decide) kw_127 rfl dX7_number_32 ?_
      obtain ⟨v3, hc, h⟩ := b1_of h
      refine g_callV (pc := 35) C (w' := cs_X7 J.2.2.1 a0 t_bytes t_held t_end t_at t_start t_faultKind t_faultPlace) (As := [.int t_at]) (st := []) (ci := 7) (q0 := 0) rfl rfl (t_X7_byteAt (a0 := a0) hc) Sub.same kw_646 kw_647 kw_648 kw_87 hy_X7_byteAt kw_649 rfl (Nat.le_of_ble_eq_true rfl) (Nat.le_of_ble_eq_true rfl) (Nat.le_of_ble_eq_true rfl) (Nat.le_of_ble_eq_true rfl) (Nat.le_of_ble_eq_true rfl) dX7_number_35 ?_
      obtain ⟨v4, hc, h⟩ := b1_of h
      refine g_callS (pc := 38) C (w' := cs_X7 J.2.2.1 a0 t_bytes t_held t_end t_at t_start t_faultKind t_faultPlace) (As := [.int v3]) (st := []) (t_X7_isDigit hc) Sub.nil kw_703 kw_704 kw_87 hy_X7_isDigit kw_705 rfl (Nat.le_of_ble_eq_true rfl) (Nat.le_of_ble_eq_true rfl) (Nat.le_of_ble_eq_true rfl) (Nat.le_of_ble_eq_true rfl) (Nat.le_of_ble_eq_true rfl) dX7_number_38 ?_
      refine g_if_eq (pc := 41) C (tgt := 80) dX7_number_41 rfl h (fun h => ?_) (fun h => ?_)
      · exact j_X7_number_80 C E  x3 t_at t_start t_faultKind t_faultPlace h
      · refine g_iload_n (pc := 44) C 3 rfl dX7_number_44 ?_
        refine g_bipush (pc := 45) C dX7_number_45 cb_10 ?_
        refine g_imul (pc := 47) C dX7_number_47 ?_
        refine g_aload_n (pc := 48) C 0 rfl dX7_number_48 ?_
        refine g_aload_n (pc := 49) C 0 rfl dX7_number_49 ?_
        refine g_get (pc := 50) C FOK_X7 0 rfl rfl 3 (by decide) kw_127 rfl dX7_number_50 ?_
        obtain ⟨v5, hc, h⟩ := b1_of h
        refine g_callV (pc := 53) C (w' := cs_X7 J.2.2.1 a0 t_bytes t_held t_end t_at t_start t_faultKind t_faultPlace) (As := [.int t_at]) (st := [.int (x3 * 10)]) (ci := 7) (q0 := 0) rfl rfl (t_X7_byteAt (a0 := a0) hc) Sub.same kw_646 kw_647 kw_648 kw_87 hy_X7_byteAt kw_649 rfl (Nat.le_of_ble_eq_true rfl) (Nat.le_of_ble_eq_true rfl) (Nat.le_of_ble_eq_true rfl) (Nat.le_of_ble_eq_true rfl) (Nat.le_of_ble_eq_true rfl) dX7_number_53 ?_
        refine g_iadd (pc := 56) C dX7_number_56 ?_
        refine g_bipush (pc := 57) C dX7_number_57 cb_48 ?_
        refine g_isub (pc := 59) C dX7_number_59 ?_
        refine g_sipush (pc := 60) C dX7_number_60 cs_1000 ?_
        refine g_imin (pc := 63) C kw_707 kw_543 kw_96 kw_544 (Nat.le_of_ble_eq_true rfl) (Nat.le_of_ble_eq_true rfl) (Nat.le_of_ble_eq_true rfl) (Nat.le_of_ble_eq_true rfl) dX7_number_63 ?_
        refine g_istore_n (pc := 66) C [(3, .int (imin (((x3 * 10) + v5) - 48) 1000)), (0, .ref (a0 0)), (1, .int n1), (2, .int n2)] dX7_number_66 rfl (by decide) rfl ?_
        refine g_aload_n (pc := 67) C 1 rfl dX7_number_67 ?_
        refine g_dup (pc := 68) C dX7_number_68 rfl ?_
        refine g_get (pc := 69) C FOK_X7 0 rfl rfl 3 (by decide) kw_127 rfl dX7_number_69 ?_
        refine g_iconst (pc := 72) C dX7_number_72 ci_1 ?_
        refine g_iadd (pc := 73) C dX7_number_73 ?_
        refine g_put (pc := 74) C (w' := cs_X7 J.2.2.1 a0 t_bytes t_held t_end (t_at + 1) t_start t_faultKind t_faultPlace) FOK_X7 0 rfl rfl 3 (by decide) kw_127 rfl rfl rfl (Nat.le_of_ble_eq_true rfl) dX7_number_74 rfl ?_
        refine g_goto (pc := 77) C (tgt := 19) dX7_number_77 rfl ?_
        refine g_lv [1, 2, 3, 0] rfl ?_
        exact ih (imin (((x3 * 10) + v5) - 48) 1000) (t_at + 1) t_start t_faultKind t_faultPlace h
set_option maxRecDepth 100000 in
set_option maxHeartbeats 4000000 in
theorem t_X7_number {J : Jt} {a0 : Nat → Nat} {t_bytes : Nat → Int32} {t_held : Int32} {t_end : Int32} {t_at : Int32} {t_start : Int32} {t_faultKind : Int32} {t_faultPlace : Int32} {n1 : Int32} {n2 : Int32} {r : Int32} {o_t_at : Int32} {o_t_start : Int32} {o_t_faultKind : Int32} {o_t_faultPlace : Int32} (h : f_X7_number t_bytes t_end t_at t_start t_faultKind t_faultPlace n1 n2 = some (r, o_t_at, o_t_start, o_t_faultKind, o_t_faultPlace)) : Mt J yX7_number cX7_number 4 (some .int) rm_X7_number [.ref (a0 0), .int n1, .int n2] (cs_X7 J.2.2.1 a0 t_bytes t_held t_end t_at t_start t_faultKind t_faultPlace) (some (.int r)) (cs_X7 J.2.2.1 a0 t_bytes t_held t_end o_t_at o_t_start o_t_faultKind o_t_faultPlace) := by
  refine Mt_of (own := RX7) (by decide) rfl (Nat.le_of_ble_eq_true rfl) rfl (fun Z C E => ?_)
  unfold f_X7_number at h
  show G J Z 0 0 (cs_X7 J.2.2.1 a0 t_bytes t_held t_end t_at t_start t_faultKind t_faultPlace) 4 [(0, .ref (a0 0)), (1, .int n1), (2, .int n2)] 0 []
  refine g_aload_n (pc := 0) C 0 rfl dX7_number_0 ?_
  obtain ⟨v6, c7, c8, hc, h⟩ := b3_of h
  refine g_callV (pc := 1) C (w' := cs_X7 J.2.2.1 a0 t_bytes t_held t_end c7 c8 t_faultKind t_faultPlace) (As := []) (st := []) (ci := 7) (q0 := 0) rfl rfl (t_X7_peek (a0 := a0) hc) Sub.same kw_623 kw_624 kw_625 kw_87 hy_X7_peek kw_626 rfl (Nat.le_of_ble_eq_true rfl) (Nat.le_of_ble_eq_true rfl) (Nat.le_of_ble_eq_true rfl) (Nat.le_of_ble_eq_true rfl) (Nat.le_of_ble_eq_true rfl) dX7_number_1 ?_
  obtain ⟨v9, hc, h⟩ := b1_of h
  refine g_callS (pc := 4) C (w' := cs_X7 J.2.2.1 a0 t_bytes t_held t_end c7 c8 t_faultKind t_faultPlace) (As := [.int v6]) (st := []) (t_X7_isDigit hc) Sub.nil kw_703 kw_704 kw_87 hy_X7_isDigit kw_705 rfl (Nat.le_of_ble_eq_true rfl) (Nat.le_of_ble_eq_true rfl) (Nat.le_of_ble_eq_true rfl) (Nat.le_of_ble_eq_true rfl) (Nat.le_of_ble_eq_true rfl) dX7_number_4 ?_
  refine g_if_ne (pc := 7) C (tgt := 17) dX7_number_7 rfl h (fun h => ?_) (fun h => ?_)
  · refine g_iconst (pc := 17) C dX7_number_17 ci_0 ?_
    refine g_istore_n (pc := 18) C [(3, .int 0), (0, .ref (a0 0)), (1, .int n1), (2, .int n2)] dX7_number_18 rfl (by decide) rfl ?_
    refine g_lv [1, 2, 3, 0] rfl ?_
    exact j_X7_number_19 C E  FU 0 c7 c8 t_faultKind t_faultPlace h
  · refine g_aload_n (pc := 10) C 0 rfl dX7_number_10 ?_
    refine g_iconst (pc := 11) C dX7_number_11 ci_1 ?_
    obtain ⟨c10, c11, hc, h⟩ := b2_of h
    refine g_callV (pc := 12) C (w' := cs_X7 J.2.2.1 a0 t_bytes t_held t_end c7 c8 c10 c11) (As := [.int 1]) (st := []) (ci := 7) (q0 := 0) rfl rfl (t_X7_blame (a0 := a0) hc) Sub.same kw_706 kw_696 kw_697 kw_87 hy_X7_blame kw_698 rfl (Nat.le_of_ble_eq_true rfl) (Nat.le_of_ble_eq_true rfl) (Nat.le_of_ble_eq_true rfl) (Nat.le_of_ble_eq_true rfl) (Nat.le_of_ble_eq_true rfl) dX7_number_12 ?_
    refine g_iconst (pc := 15) C dX7_number_15 ci_0 ?_
    cases h
    exact g_iret C E dX7_number_16
noncomputable def f_X0_read_52 (t_bytes : Nat → Int32) (t_end : Int32) (n1 : Int32) (b_last : Nat → Int32) (b_lines : Int32) (t_at : Int32) (t_start : Int32) (t_faultKind : Int32) (t_faultPlace : Int32) : Option ((Nat → Int32) × Int32 × Int32 × Int32 × Int32 × Int32) := b2 (f_X7_blame t_start t_faultKind t_faultPlace 2) (fun c1 c2 => some (b_last, b_lines, t_at, t_start, c1, c2))
noncomputable def f_X0_read_6 (t_bytes : Nat → Int32) (t_end : Int32) (n1 : Int32) : Nat → Int32 → (Nat → Int32) → Int32 → Int32 → Int32 → Int32 → Int32 → Option ((Nat → Int32) × Int32 × Int32 × Int32 × Int32 × Int32)
  | 0, _, _, _, _, _, _, _ => none
  | n + 1, x3, b_last, b_lines, t_at, t_start, t_faultKind, t_faultPlace => if 60 ≤ x3 then some (b_last, b_lines, t_at, t_start, t_faultKind, t_faultPlace) else b3 (f_X7_isAtEnd t_bytes t_end t_at t_start t_faultKind) (fun v3 c4 c5 => if v3 = 0 then b5 (f_X7_number t_bytes t_end c4 c5 t_faultKind t_faultPlace 0 (n1 - 1)) (fun v6 c7 c8 c9 c10 => if v6 < 0 then f_X0_read_52 t_bytes t_end n1 b_last b_lines c7 c8 c9 c10 else if 6 ≤ v6 then f_X0_read_52 t_bytes t_end n1 b_last b_lines c7 c8 c9 c10 else if ixb v6 6 then if (b_last v6.toNatClampNeg) = (-1) then b5 (f_X7_number t_bytes t_end c7 c8 c9 c10 0 16) (fun v11 c12 c13 c14 c15 => if ixb v6 6 then b4 (f_X7_need t_bytes t_end c12 c13 c14 c15 59) (fun c16 c17 c18 c19 => f_X0_read_6 t_bytes t_end n1 n (x3 + 1) (upd b_last v6.toNatClampNeg v11) (b_lines + 1) c16 c17 c18 c19) else none) else f_X0_read_52 t_bytes t_end n1 b_last b_lines c7 c8 c9 c10 else none) else some (b_last, b_lines, c4, c5, t_faultKind, t_faultPlace))
noncomputable def f_X0_read (b_last : Nat → Int32) (b_lines : Int32) (t_bytes : Nat → Int32) (t_end : Int32) (t_at : Int32) (t_start : Int32) (t_faultKind : Int32) (t_faultPlace : Int32) (n1 : Int32) : Option ((Nat → Int32) × Int32 × Int32 × Int32 × Int32 × Int32) := b2 (f_X0_clear b_last b_lines) (fun c20 c21 => f_X0_read_6 t_bytes t_end n1 FU 0 c20 c21 t_at t_start t_faultKind t_faultPlace)
def rm_X0_read : Room := { frames := 2, cells := 0, slots := 0, locals := 63 }
set_option maxRecDepth 100000 in
set_option maxHeartbeats 4000000 in
theorem j_X0_read_52 {J : Jt} {Z : Zt} {a0 : Nat → Nat} {a1 : Nat → Nat} {t_bytes : Nat → Int32} {t_held : Int32} {t_end : Int32} {n1 : Int32} {o_b_last : Nat → Int32} {o_b_lines : Int32} {o_t_at : Int32} {o_t_start : Int32} {o_t_faultKind : Int32} {o_t_faultPlace : Int32} (C : Cx J Z cX0_read 5 RX0 none rm_X0_read) (E : Ez J Z 0 0 none (cs_X0 J.2.2.1 a0 o_b_last o_b_lines ++ cs_X7 J.2.2.1 a1 t_bytes t_held t_end o_t_at o_t_start o_t_faultKind o_t_faultPlace)) : ∀ (b_last : Nat → Int32) (b_lines : Int32) (t_at : Int32) (t_start : Int32) (t_faultKind : Int32) (t_faultPlace : Int32), f_X0_read_52 t_bytes t_end n1 b_last b_lines t_at t_start t_faultKind t_faultPlace = some (o_b_last, o_b_lines, o_t_at, o_t_start, o_t_faultKind, o_t_faultPlace) → G J Z 0 0 (cs_X0 J.2.2.1 a0 b_last b_lines ++ cs_X7 J.2.2.1 a1 t_bytes t_held t_end t_at t_start t_faultKind t_faultPlace) 5 [(1, .ref (a1 0))] 52 [] := by
  intro b_last b_lines t_at t_start t_faultKind t_faultPlace h
  unfold f_X0_read_52 at h
  refine g_aload_n (pc := 52) C 0 rfl dX0_read_52 ?_
  refine g_iconst (pc := 53) C dX0_read_53 ci_2 ?_
  obtain ⟨c1, c2, hc, h⟩ := b2_of h
  refine g_callV (pc := 54) C (w' := cs_X0 J.2.2.1 a0 b_last b_lines ++ cs_X7 J.2.2.1 a1 t_bytes t_held t_end t_at t_start c1 c2) (As := [.int 2]) (st := []) (ci := 7) (q0 := 2) rfl rfl (t_X7_blame (a0 := a1) hc) (Sub.gen [2, 3] [0, 1] [0, 1, 2, 3] rfl (by decide) rfl (by decide) (by decide) rfl (by decide)) kw_931 kw_696 kw_697 kw_87 hy_X7_blame kw_698 rfl (Nat.le_of_ble_eq_true rfl) (Nat.le_of_ble_eq_true rfl) (Nat.le_of_ble_eq_true rfl) (Nat.le_of_ble_eq_true rfl) (Nat.le_of_ble_eq_true rfl) dX0_read_54 ?_
  cases h
  exact g_vret C E dX0_read_57
set_option maxRecDepth 100000 in
set_option maxHeartbeats 4000000 in
theorem j_X0_read_6 {J : Jt} {Z : Zt} {a0 : Nat → Nat} {a1 : Nat → Nat} {t_bytes : Nat → Int32} {t_held : Int32} {t_end : Int32} {n1 : Int32} {o_b_last : Nat → Int32} {o_b_lines : Int32} {o_t_at : Int32} {o_t_start : Int32} {o_t_faultKind : Int32} {o_t_faultPlace : Int32} (C : Cx J Z cX0_read 5 RX0 none rm_X0_read) (E : Ez J Z 0 0 none (cs_X0 J.2.2.1 a0 o_b_last o_b_lines ++ cs_X7 J.2.2.1 a1 t_bytes t_held t_end o_t_at o_t_start o_t_faultKind o_t_faultPlace)) : ∀ (n : Nat) (x3 : Int32) (b_last : Nat → Int32) (b_lines : Int32) (t_at : Int32) (t_start : Int32) (t_faultKind : Int32) (t_faultPlace : Int32), f_X0_read_6 t_bytes t_end n1 n x3 b_last b_lines t_at t_start t_faultKind t_faultPlace = some (o_b_last, o_b_lines, o_t_at, o_t_start, o_t_faultKind, o_t_faultPlace) → G J Z 0 0 (cs_X0 J.2.2.1 a0 b_last b_lines ++ cs_X7 J.2.2.1 a1 t_bytes t_held t_end t_at t_start t_faultKind t_faultPlace) 5 [(0, .ref (a0 0)), (1, .ref (a1 0)), (2, .int n1), (3, .int x3)] 6 [] := by
  intro n
  induction n with
  | zero =>
    intro x3 b_last b_lines t_at t_start t_faultKind t_faultPlace h
    rw [f_X0_read_6] at h
    cases h
  | succ n ih =>
    intro x3 b_last b_lines t_at t_start t_faultKind t_faultPlace h
    rw [f_X0_read_6] at h
    refine g_iload_n (pc := 6) C 3 rfl dX0_read_6 ?_
    refine g_bipush (pc := 7) C dX0_read_7 cb_60 ?_
    refine g_icmp_ge (pc := 9) C (tgt := 94) dX0_read_9 rfl h (fun h => ?_) (fun h => ?_)
    · cases h
      exact g_vret C E dX0_read_94
    · refine g_aload_n (pc := 12) C 1 rfl dX0_read_12 ?_
      obtain ⟨v3, c4, c5, hc, h⟩ := b3_of h
      refine g_callV (pc := 13) C (w' := cs_X0 J.2.2.1 a0 b_last b_lines ++ cs_X7 J.2.2.1 a1 t_bytes t_held t_end c4 c5 t_faultKind t_faultPlace) (As := []) (st := []) (ci := 7) (q0 := 2) rfl rfl (t_X7_isAtEnd (a0 := a1) hc) (Sub.gen [2, 3] [0, 1] [0, 1, 2, 3] rfl (by decide) rfl (by decide) (by decide) rfl (by decide)) kw_929 kw_620 kw_621 kw_87 hy_X7_isAtEnd kw_622 rfl (Nat.le_of_ble_eq_true rfl) (Nat.le_of_ble_eq_true rfl) (Nat.le_of_ble_eq_true rfl) (Nat.le_of_ble_eq_true rfl) (Nat.le_of_ble_eq_true rfl) dX0_read_13 ?_
      refine g_if_ne (pc := 16) C (tgt := 94) dX0_read_16 rfl h (fun h => ?_) (fun h => ?_)
      · cases h
        exact g_vret C E dX0_read_94
      · refine g_aload_n (pc := 19) C 1 rfl dX0_read_19 ?_
        refine g_iconst (pc := 20) C dX0_read_20 ci_0 ?_
        refine g_iload_n (pc := 21) C 2 rfl dX0_read_21 ?_
        refine g_iconst (pc := 22) C dX0_read_22 ci_1 ?_
        refine g_isub (pc := 23) C dX0_read_23 ?_
        obtain ⟨v6, c7, c8, c9, c10, hc, h⟩ := b5_of h
        refine g_callV (pc := 24) C (w' := cs_X0 J.2.2.1 a0 b_last b_lines ++ cs_X7 J.2.2.1 a1 t_bytes t_held t_end c7 c8 c9 c10) (As := [.int 0, .int (n1 - 1)]) (st := []) (ci := 7) (q0 := 2) rfl rfl (t_X7_number (a0 := a1) hc) (Sub.gen [2, 3] [0, 1] [0, 1, 2, 3] rfl (by decide) rfl (by decide) (by decide) rfl (by decide)) kw_930 kw_700 kw_701 kw_87 hy_X7_number kw_702 rfl (Nat.le_of_ble_eq_true rfl) (Nat.le_of_ble_eq_true rfl) (Nat.le_of_ble_eq_true rfl) (Nat.le_of_ble_eq_true rfl) (Nat.le_of_ble_eq_true rfl) dX0_read_24 ?_
        refine g_istore (pc := 27) C [(4, .int v6), (0, .ref (a0 0)), (1, .ref (a1 0)), (2, .int n1), (3, .int x3)] dX0_read_27 (by decide) rfl ?_
        refine g_iload (pc := 29) C 0 rfl dX0_read_29 ?_
        refine g_if_lt (pc := 31) C (tgt := 52) dX0_read_31 rfl h (fun h => ?_) (fun h => ?_)
        · refine g_lv [2] rfl ?_
          exact j_X0_read_52 C E  b_last b_lines c7 c8 c9 c10 h
        · refine g_iload (pc := 34) C 0 rfl dX0_read_34 ?_
          refine g_bipush (pc := 36) C dX0_read_36 cb_6 ?_
          refine g_icmp_ge (pc := 38) C (tgt := 52) dX0_read_38 rfl h (fun h => ?_) (fun h => ?_)
          · refine g_lv [2] rfl ?_
            exact j_X0_read_52 C E  b_last b_lines c7 c8 c9 c10 h
          · refine g_aload_n (pc := 41) C 1 rfl dX0_read_41 ?_
            refine g_get (pc := 42) C FOK_X0 0 rfl rfl 0 (by decide) kw_358 rfl dX0_read_42 ?_
            refine g_iload (pc := 45) C 0 rfl dX0_read_45 ?_
            obtain ⟨hi, h⟩ := ix_of h
            refine g_iald (pc := 47) C 1 rfl hi dX0_read_47 ?_
            refine g_iconst (pc := 48) C dX0_read_48 ci_m1 ?_
            refine g_icmp_eq (pc := 49) C (tgt := 58) dX0_read_49 rfl h (fun h => ?_) (fun h => ?_)
            · refine g_aload_n (pc := 58) C 1 rfl dX0_read_58 ?_
              refine g_get (pc := 59) C FOK_X0 0 rfl rfl 0 (by decide) kw_358 rfl dX0_read_59 ?_
              refine g_iload (pc := 62) C 0 rfl dX0_read_62 ?_
              refine g_aload_n (pc := 64) C 2 rfl dX0_read_64 ?_
              refine g_iconst (pc := 65) C dX0_read_65 ci_0 ?_
              refine g_bipush (pc := 66) C dX0_read_66 cb_16 ?_
              obtain ⟨v11, c12, c13, c14, c15, hc, h⟩ := b5_of h
              refine g_callV (pc := 68) C (w' := cs_X0 J.2.2.1 a0 b_last b_lines ++ cs_X7 J.2.2.1 a1 t_bytes t_held t_end c12 c13 c14 c15) (As := [.int 0, .int 16]) (st := [.int v6, .ref (a0 1)]) (ci := 7) (q0 := 2) rfl rfl (t_X7_number (a0 := a1) hc) (Sub.gen [2, 3] [0, 1] [0, 1, 2, 3] rfl (by decide) rfl (by decide) (by decide) rfl (by decide)) kw_930 kw_700 kw_701 kw_87 hy_X7_number kw_702 rfl (Nat.le_of_ble_eq_true rfl) (Nat.le_of_ble_eq_true rfl) (Nat.le_of_ble_eq_true rfl) (Nat.le_of_ble_eq_true rfl) (Nat.le_of_ble_eq_true rfl) dX0_read_68 ?_
              obtain ⟨hi, h⟩ := ix_of h
              refine g_iast (pc := 71) C (w' := cs_X0 J.2.2.1 a0 (upd b_last v6.toNatClampNeg v11) b_lines ++ cs_X7 J.2.2.1 a1 t_bytes t_held t_end c12 c13 c14 c15) 1 rfl hi dX0_read_71 rfl ?_
              refine g_aload_n (pc := 72) C 1 rfl dX0_read_72 ?_
              refine g_dup (pc := 73) C dX0_read_73 rfl ?_
              refine g_get (pc := 74) C FOK_X0 0 rfl rfl 1 (by decide) kw_360 rfl dX0_read_74 ?_
              refine g_iconst (pc := 77) C dX0_read_77 ci_1 ?_
              refine g_iadd (pc := 78) C dX0_read_78 ?_
              refine g_put (pc := 79) C (w' := cs_X0 J.2.2.1 a0 (upd b_last v6.toNatClampNeg v11) (b_lines + 1) ++ cs_X7 J.2.2.1 a1 t_bytes t_held t_end c12 c13 c14 c15) FOK_X0 0 rfl rfl 1 (by decide) kw_360 rfl rfl rfl (Nat.le_of_ble_eq_true rfl) dX0_read_79 rfl ?_
              refine g_aload_n (pc := 82) C 2 rfl dX0_read_82 ?_
              refine g_bipush (pc := 83) C dX0_read_83 cb_59 ?_
              obtain ⟨c16, c17, c18, c19, hc, h⟩ := b4_of h
              refine g_callV (pc := 85) C (w' := cs_X0 J.2.2.1 a0 (upd b_last v6.toNatClampNeg v11) (b_lines + 1) ++ cs_X7 J.2.2.1 a1 t_bytes t_held t_end c16 c17 c18 c19) (As := [.int 59]) (st := []) (ci := 7) (q0 := 2) rfl rfl (t_X7_need (a0 := a1) hc) (Sub.gen [2, 3] [0, 1] [0, 1, 2, 3] rfl (by decide) rfl (by decide) (by decide) rfl (by decide)) kw_932 kw_723 kw_724 kw_87 hy_X7_need kw_725 rfl (Nat.le_of_ble_eq_true rfl) (Nat.le_of_ble_eq_true rfl) (Nat.le_of_ble_eq_true rfl) (Nat.le_of_ble_eq_true rfl) (Nat.le_of_ble_eq_true rfl) dX0_read_85 ?_
              refine g_iinc (pc := 88) C (j := 4) [(3, .int (x3 + 1)), (4, .int v6), (0, .ref (a0 0)), (1, .ref (a1 0)), (2, .int n1)] dX0_read_88 rfl (ii_1 _) (by decide) rfl ?_
              refine g_goto (pc := 91) C (tgt := 6) dX0_read_91 rfl ?_
              refine g_lv [2, 3, 4, 0] rfl ?_
              exact ih (x3 + 1) (upd b_last v6.toNatClampNeg v11) (b_lines + 1) c16 c17 c18 c19 h
            · refine g_lv [2] rfl ?_
              exact j_X0_read_52 C E  b_last b_lines c7 c8 c9 c10 h
set_option maxRecDepth 100000 in
set_option maxHeartbeats 4000000 in
theorem t_X0_read {J : Jt} {a0 : Nat → Nat} {a1 : Nat → Nat} {b_last : Nat → Int32} {b_lines : Int32} {t_bytes : Nat → Int32} {t_held : Int32} {t_end : Int32} {t_at : Int32} {t_start : Int32} {t_faultKind : Int32} {t_faultPlace : Int32} {n1 : Int32} {o_b_last : Nat → Int32} {o_b_lines : Int32} {o_t_at : Int32} {o_t_start : Int32} {o_t_faultKind : Int32} {o_t_faultPlace : Int32} (h : f_X0_read b_last b_lines t_bytes t_end t_at t_start t_faultKind t_faultPlace n1 = some (o_b_last, o_b_lines, o_t_at, o_t_start, o_t_faultKind, o_t_faultPlace)) : Mt J yX0_read cX0_read 5 none rm_X0_read [.ref (a0 0), .ref (a1 0), .int n1] (cs_X0 J.2.2.1 a0 b_last b_lines ++ cs_X7 J.2.2.1 a1 t_bytes t_held t_end t_at t_start t_faultKind t_faultPlace) none (cs_X0 J.2.2.1 a0 o_b_last o_b_lines ++ cs_X7 J.2.2.1 a1 t_bytes t_held t_end o_t_at o_t_start o_t_faultKind o_t_faultPlace) := by
  refine Mt_of (own := RX0) (by decide) rfl (Nat.le_of_ble_eq_true rfl) rfl (fun Z C E => ?_)
  unfold f_X0_read at h
  show G J Z 0 0 (cs_X0 J.2.2.1 a0 b_last b_lines ++ cs_X7 J.2.2.1 a1 t_bytes t_held t_end t_at t_start t_faultKind t_faultPlace) 5 [(0, .ref (a0 0)), (1, .ref (a1 0)), (2, .int n1)] 0 []
  refine g_aload_n (pc := 0) C 0 rfl dX0_read_0 ?_
  obtain ⟨c20, c21, hc, h⟩ := b2_of h
  refine g_callV (pc := 1) C (w' := cs_X0 J.2.2.1 a0 c20 c21 ++ cs_X7 J.2.2.1 a1 t_bytes t_held t_end t_at t_start t_faultKind t_faultPlace) (As := []) (st := []) (ci := 0) (q0 := 0) rfl rfl (t_X0_clear (a0 := a0) hc) (Sub.gen [0, 1] [2, 3] [2, 3, 0, 1] rfl (by decide) rfl (by decide) (by decide) rfl (by decide)) kw_354 kw_355 kw_356 kw_94 hy_X0_clear kw_357 rfl (Nat.le_of_ble_eq_true rfl) (Nat.le_of_ble_eq_true rfl) (Nat.le_of_ble_eq_true rfl) (Nat.le_of_ble_eq_true rfl) (Nat.le_of_ble_eq_true rfl) dX0_read_1 ?_
  refine g_iconst (pc := 4) C dX0_read_4 ci_0 ?_
  refine g_istore_n (pc := 5) C [(3, .int 0), (0, .ref (a0 0)), (1, .ref (a1 0)), (2, .int n1)] dX0_read_5 rfl (by decide) rfl ?_
  refine g_lv [1, 2, 3, 0] rfl ?_
  exact j_X0_read_6 C E  FU 0 c20 c21 t_at t_start t_faultKind t_faultPlace h
noncomputable def f_X2_wordAt (p_words : Nat → Int32) (n1 : Int32) (n2 : Int32) : Option (Int32) := if n2 < 0 then some (-1) else if 8 ≤ n2 then some (-1) else if ixb ((n1 * 8) + n2) 48 then some (p_words ((n1 * 8) + n2).toNatClampNeg) else none
def rm_X2_wordAt : Room := { frames := 0, cells := 0, slots := 0, locals := 0 }
set_option maxRecDepth 100000 in
set_option maxHeartbeats 4000000 in
theorem t_X2_wordAt {J : Jt} {a0 : Nat → Nat} {p_beds : Int32} {p_letters : Int32} {p_readers : Int32} {p_far : Nat → Int32} {p_drain : Nat → Int32} {p_length : Nat → Int32} {p_words : Nat → Int32} {p_home : Nat → Int32} {n1 : Int32} {n2 : Int32} {r : Int32} (h : f_X2_wordAt p_words n1 n2 = some r) : Mt J yX2_wordAt cX2_wordAt 3 (some .int) rm_X2_wordAt [.ref (a0 0), .int n1, .int n2] (cs_X2 J.2.2.1 a0 p_beds p_letters p_readers p_far p_drain p_length p_words p_home) (some (.int r)) (cs_X2 J.2.2.1 a0 p_beds p_letters p_readers p_far p_drain p_length p_words p_home) := by
  refine Mt_of (own := RX2) (by decide) rfl (Nat.le_of_ble_eq_true rfl) rfl (fun Z C E => ?_)
  unfold f_X2_wordAt at h
  show G J Z 0 0 (cs_X2 J.2.2.1 a0 p_beds p_letters p_readers p_far p_drain p_length p_words p_home) 3 [(0, .ref (a0 0)), (1, .int n1), (2, .int n2)] 0 []
  refine g_iload_n (pc := 0) C 2 rfl dX2_wordAt_0 ?_
  refine g_if_lt (pc := 1) C (tgt := 24) dX2_wordAt_1 rfl h (fun h => ?_) (fun h => ?_)
  · refine g_iconst (pc := 24) C dX2_wordAt_24 ci_m1 ?_
    cases h
    exact g_iret C E dX2_wordAt_25
  · refine g_iload_n (pc := 4) C 2 rfl dX2_wordAt_4 ?_
    refine g_bipush (pc := 5) C dX2_wordAt_5 cb_8 ?_
    refine g_icmp_ge (pc := 7) C (tgt := 24) dX2_wordAt_7 rfl h (fun h => ?_) (fun h => ?_)
    · refine g_iconst (pc := 24) C dX2_wordAt_24 ci_m1 ?_
      cases h
      exact g_iret C E dX2_wordAt_25
    · refine g_aload_n (pc := 10) C 0 rfl dX2_wordAt_10 ?_
      refine g_get (pc := 11) C FOK_X2 0 rfl rfl 6 (by decide) kw_301 rfl dX2_wordAt_11 ?_
      refine g_iload_n (pc := 14) C 1 rfl dX2_wordAt_14 ?_
      refine g_bipush (pc := 15) C dX2_wordAt_15 cb_8 ?_
      refine g_imul (pc := 17) C dX2_wordAt_17 ?_
      refine g_iload_n (pc := 18) C 2 rfl dX2_wordAt_18 ?_
      refine g_iadd (pc := 19) C dX2_wordAt_19 ?_
      obtain ⟨hi, h⟩ := ix_of h
      refine g_iald (pc := 20) C 4 rfl hi dX2_wordAt_20 ?_
      refine g_goto (pc := 21) C (tgt := 25) dX2_wordAt_21 rfl ?_
      cases h
      exact g_iret C E dX2_wordAt_25
noncomputable def f_X4_leftOf (s_gone : Nat → Int32) (p_length : Nat → Int32) (n1 : Int32) : Option (Int32) := if ixb n1 6 then if ixb n1 6 then some ((p_length n1.toNatClampNeg) - (s_gone n1.toNatClampNeg)) else none else none
def rm_X4_leftOf : Room := { frames := 0, cells := 0, slots := 0, locals := 0 }
set_option maxRecDepth 100000 in
set_option maxHeartbeats 4000000 in
theorem t_X4_leftOf {J : Jt} {a0 : Nat → Nat} {a1 : Nat → Nat} {s_year : Int32} {s_wet : Int32} {s_lost : Int32} {s_eaten : Int32} {s_tied : Int32} {s_ripeMany : Int32} {s_gone : Nat → Int32} {s_place : Nat → Int32} {s_heard : Nat → Int32} {s_many : Nat → Int32} {s_lying : Nat → Int32} {s_ripe : Nat → Int32} {p_beds : Int32} {p_letters : Int32} {p_readers : Int32} {p_far : Nat → Int32} {p_drain : Nat → Int32} {p_length : Nat → Int32} {p_words : Nat → Int32} {p_home : Nat → Int32} {n1 : Int32} {r : Int32} (h : f_X4_leftOf s_gone p_length n1 = some r) : Mt J yX4_leftOf cX4_leftOf 3 (some .int) rm_X4_leftOf [.ref (a0 0), .ref (a1 0), .int n1] (cs_X4 J.2.2.1 a0 s_year s_wet s_lost s_eaten s_tied s_ripeMany s_gone s_place s_heard s_many s_lying s_ripe ++ cs_X2 J.2.2.1 a1 p_beds p_letters p_readers p_far p_drain p_length p_words p_home) (some (.int r)) (cs_X4 J.2.2.1 a0 s_year s_wet s_lost s_eaten s_tied s_ripeMany s_gone s_place s_heard s_many s_lying s_ripe ++ cs_X2 J.2.2.1 a1 p_beds p_letters p_readers p_far p_drain p_length p_words p_home) := by
  refine Mt_of (own := RX4) (by decide) rfl (Nat.le_of_ble_eq_true rfl) rfl (fun Z C E => ?_)
  unfold f_X4_leftOf at h
  show G J Z 0 0 (cs_X4 J.2.2.1 a0 s_year s_wet s_lost s_eaten s_tied s_ripeMany s_gone s_place s_heard s_many s_lying s_ripe ++ cs_X2 J.2.2.1 a1 p_beds p_letters p_readers p_far p_drain p_length p_words p_home) 3 [(0, .ref (a0 0)), (1, .ref (a1 0)), (2, .int n1)] 0 []
  refine g_aload_n (pc := 0) C 1 rfl dX4_leftOf_0 ?_
  refine g_get (pc := 1) C FOK_X2 7 rfl rfl 5 (by decide) kw_299 rfl dX4_leftOf_1 ?_
  refine g_iload_n (pc := 4) C 2 rfl dX4_leftOf_4 ?_
  obtain ⟨hi, h⟩ := ix_of h
  refine g_iald (pc := 5) C 10 rfl hi dX4_leftOf_5 ?_
  refine g_aload_n (pc := 6) C 0 rfl dX4_leftOf_6 ?_
  refine g_get (pc := 7) C FOK_X4 0 rfl rfl 6 (by decide) kw_167 rfl dX4_leftOf_7 ?_
  refine g_iload_n (pc := 10) C 2 rfl dX4_leftOf_10 ?_
  obtain ⟨hi, h⟩ := ix_of h
  refine g_iald (pc := 11) C 1 rfl hi dX4_leftOf_11 ?_
  refine g_isub (pc := 12) C dX4_leftOf_12 ?_
  cases h
  exact g_iret C E dX4_leftOf_13
noncomputable def f_X4_lyingAt (s_many : Nat → Int32) (s_lying : Nat → Int32) (n1 : Int32) (n2 : Int32) : Option (Int32) := if n2 < 0 then some (-1) else if ixb n1 6 then if (s_many n1.toNatClampNeg) ≤ n2 then some (-1) else if 12 ≤ n2 then some (-1) else if ixb ((n1 * 12) + n2) 72 then some (s_lying ((n1 * 12) + n2).toNatClampNeg) else none else none
def rm_X4_lyingAt : Room := { frames := 0, cells := 0, slots := 0, locals := 0 }
set_option maxRecDepth 100000 in
set_option maxHeartbeats 4000000 in
theorem t_X4_lyingAt {J : Jt} {a0 : Nat → Nat} {s_year : Int32} {s_wet : Int32} {s_lost : Int32} {s_eaten : Int32} {s_tied : Int32} {s_ripeMany : Int32} {s_gone : Nat → Int32} {s_place : Nat → Int32} {s_heard : Nat → Int32} {s_many : Nat → Int32} {s_lying : Nat → Int32} {s_ripe : Nat → Int32} {n1 : Int32} {n2 : Int32} {r : Int32} (h : f_X4_lyingAt s_many s_lying n1 n2 = some r) : Mt J yX4_lyingAt cX4_lyingAt 3 (some .int) rm_X4_lyingAt [.ref (a0 0), .int n1, .int n2] (cs_X4 J.2.2.1 a0 s_year s_wet s_lost s_eaten s_tied s_ripeMany s_gone s_place s_heard s_many s_lying s_ripe) (some (.int r)) (cs_X4 J.2.2.1 a0 s_year s_wet s_lost s_eaten s_tied s_ripeMany s_gone s_place s_heard s_many s_lying s_ripe) := by
  refine Mt_of (own := RX4) (by decide) rfl (Nat.le_of_ble_eq_true rfl) rfl (fun Z C E => ?_)
  unfold f_X4_lyingAt at h
  show G J Z 0 0 (cs_X4 J.2.2.1 a0 s_year s_wet s_lost s_eaten s_tied s_ripeMany s_gone s_place s_heard s_many s_lying s_ripe) 3 [(0, .ref (a0 0)), (1, .int n1), (2, .int n2)] 0 []
  refine g_iload_n (pc := 0) C 2 rfl dX4_lyingAt_0 ?_
  refine g_if_lt (pc := 1) C (tgt := 34) dX4_lyingAt_1 rfl h (fun h => ?_) (fun h => ?_)
  · refine g_iconst (pc := 34) C dX4_lyingAt_34 ci_m1 ?_
    cases h
    exact g_iret C E dX4_lyingAt_35
  · refine g_iload_n (pc := 4) C 2 rfl dX4_lyingAt_4 ?_
    refine g_aload_n (pc := 5) C 0 rfl dX4_lyingAt_5 ?_
    refine g_get (pc := 6) C FOK_X4 0 rfl rfl 9 (by decide) kw_172 rfl dX4_lyingAt_6 ?_
    refine g_iload_n (pc := 9) C 1 rfl dX4_lyingAt_9 ?_
    obtain ⟨hi, h⟩ := ix_of h
    refine g_iald (pc := 10) C 4 rfl hi dX4_lyingAt_10 ?_
    refine g_icmp_ge (pc := 11) C (tgt := 34) dX4_lyingAt_11 rfl h (fun h => ?_) (fun h => ?_)
    · refine g_iconst (pc := 34) C dX4_lyingAt_34 ci_m1 ?_
      cases h
      exact g_iret C E dX4_lyingAt_35
    · refine g_iload_n (pc := 14) C 2 rfl dX4_lyingAt_14 ?_
      refine g_bipush (pc := 15) C dX4_lyingAt_15 cb_12 ?_
      refine g_icmp_ge (pc := 17) C (tgt := 34) dX4_lyingAt_17 rfl h (fun h => ?_) (fun h => ?_)
      · refine g_iconst (pc := 34) C dX4_lyingAt_34 ci_m1 ?_
        cases h
        exact g_iret C E dX4_lyingAt_35
      · refine g_aload_n (pc := 20) C 0 rfl dX4_lyingAt_20 ?_
        refine g_get (pc := 21) C FOK_X4 0 rfl rfl 10 (by decide) kw_174 rfl dX4_lyingAt_21 ?_
        refine g_iload_n (pc := 24) C 1 rfl dX4_lyingAt_24 ?_
        refine g_bipush (pc := 25) C dX4_lyingAt_25 cb_12 ?_
        refine g_imul (pc := 27) C dX4_lyingAt_27 ?_
        refine g_iload_n (pc := 28) C 2 rfl dX4_lyingAt_28 ?_
        refine g_iadd (pc := 29) C dX4_lyingAt_29 ?_
        obtain ⟨hi, h⟩ := ix_of h
        refine g_iald (pc := 30) C 5 rfl hi dX4_lyingAt_30 ?_
        refine g_goto (pc := 31) C (tgt := 35) dX4_lyingAt_31 rfl ?_
        cases h
        exact g_iret C E dX4_lyingAt_35
noncomputable def f_X4_lastAfter_61 (s_gone : Nat → Int32) (s_many : Nat → Int32) (s_lying : Nat → Int32) (p_drain : Nat → Int32) (p_length : Nat → Int32) (p_words : Nat → Int32) (n1 : Int32) (n2 : Int32) (n3 : Int32)  : Option (Int32) := if ixb n1 6 then if (s_many n1.toNatClampNeg) ≤ 0 then some 16 else if ixb n1 6 then b1 (f_X4_lyingAt s_many s_lying n1 ((s_many n1.toNatClampNeg) - 1)) (fun v1 => some v1) else none else none
noncomputable def f_X4_lastAfter (s_gone : Nat → Int32) (s_many : Nat → Int32) (s_lying : Nat → Int32) (p_drain : Nat → Int32) (p_length : Nat → Int32) (p_words : Nat → Int32) (n1 : Int32) (n2 : Int32) (n3 : Int32) : Option (Int32) := if ixb n2 6 then if (p_drain n2.toNatClampNeg) = n1 then b1 (f_X4_leftOf s_gone p_length n2) (fun v2 => if ixb n1 6 then if (imin (imin n3 v2) (12 - (s_many n1.toNatClampNeg))) ≤ 0 then f_X4_lastAfter_61 s_gone s_many s_lying p_drain p_length p_words n1 n2 n3 else if ixb n2 6 then b1 (f_X2_wordAt p_words n2 (((s_gone n2.toNatClampNeg) + (imin (imin n3 v2) (12 - (s_many n1.toNatClampNeg)))) - 1)) (fun v3 => some v3) else none else none) else f_X4_lastAfter_61 s_gone s_many s_lying p_drain p_length p_words n1 n2 n3 else none
def rm_X4_lastAfter : Room := { frames := 1, cells := 0, slots := 0, locals := 40 }
set_option maxRecDepth 100000 in
set_option maxHeartbeats 4000000 in
theorem j_X4_lastAfter_61 {J : Jt} {Z : Zt} {a0 : Nat → Nat} {a1 : Nat → Nat} {s_year : Int32} {s_wet : Int32} {s_lost : Int32} {s_eaten : Int32} {s_tied : Int32} {s_ripeMany : Int32} {s_gone : Nat → Int32} {s_place : Nat → Int32} {s_heard : Nat → Int32} {s_many : Nat → Int32} {s_lying : Nat → Int32} {s_ripe : Nat → Int32} {p_beds : Int32} {p_letters : Int32} {p_readers : Int32} {p_far : Nat → Int32} {p_drain : Nat → Int32} {p_length : Nat → Int32} {p_words : Nat → Int32} {p_home : Nat → Int32} {n1 : Int32} {n2 : Int32} {n3 : Int32} {r : Int32} (C : Cx J Z cX4_lastAfter 7 RX4 (some .int) rm_X4_lastAfter) (E : Ez J Z 0 0 (some (.int r)) (cs_X4 J.2.2.1 a0 s_year s_wet s_lost s_eaten s_tied s_ripeMany s_gone s_place s_heard s_many s_lying s_ripe ++ cs_X2 J.2.2.1 a1 p_beds p_letters p_readers p_far p_drain p_length p_words p_home)) : f_X4_lastAfter_61 s_gone s_many s_lying p_drain p_length p_words n1 n2 n3 = some r → G J Z 0 0 (cs_X4 J.2.2.1 a0 s_year s_wet s_lost s_eaten s_tied s_ripeMany s_gone s_place s_heard s_many s_lying s_ripe ++ cs_X2 J.2.2.1 a1 p_beds p_letters p_readers p_far p_drain p_length p_words p_home) 7 [(0, .ref (a0 0)), (2, .int n1)] 61 [] := by
  intro  h
  unfold f_X4_lastAfter_61 at h
  refine g_aload_n (pc := 61) C 0 rfl dX4_lastAfter_61 ?_
  refine g_get (pc := 62) C FOK_X4 0 rfl rfl 9 (by decide) kw_172 rfl dX4_lastAfter_62 ?_
  refine g_iload_n (pc := 65) C 1 rfl dX4_lastAfter_65 ?_
  obtain ⟨hi, h⟩ := ix_of h
  refine g_iald (pc := 66) C 4 rfl hi dX4_lastAfter_66 ?_
  refine g_if_le (pc := 67) C (tgt := 86) dX4_lastAfter_67 rfl h (fun h => ?_) (fun h => ?_)
  · refine g_bipush (pc := 86) C dX4_lastAfter_86 cb_16 ?_
    cases h
    exact g_iret C E dX4_lastAfter_88
  · refine g_aload_n (pc := 70) C 0 rfl dX4_lastAfter_70 ?_
    refine g_iload_n (pc := 71) C 1 rfl dX4_lastAfter_71 ?_
    refine g_aload_n (pc := 72) C 0 rfl dX4_lastAfter_72 ?_
    refine g_get (pc := 73) C FOK_X4 0 rfl rfl 9 (by decide) kw_172 rfl dX4_lastAfter_73 ?_
    refine g_iload_n (pc := 76) C 1 rfl dX4_lastAfter_76 ?_
    obtain ⟨hi, h⟩ := ix_of h
    refine g_iald (pc := 77) C 4 rfl hi dX4_lastAfter_77 ?_
    refine g_iconst (pc := 78) C dX4_lastAfter_78 ci_1 ?_
    refine g_isub (pc := 79) C dX4_lastAfter_79 ?_
    obtain ⟨v1, hc, h⟩ := b1_of h
    refine g_callV (pc := 80) C (w' := cs_X4 J.2.2.1 a0 s_year s_wet s_lost s_eaten s_tied s_ripeMany s_gone s_place s_heard s_many s_lying s_ripe ++ cs_X2 J.2.2.1 a1 p_beds p_letters p_readers p_far p_drain p_length p_words p_home) (As := [.int n1, .int ((s_many n1.toNatClampNeg) - 1)]) (st := []) (ci := 4) (q0 := 0) rfl rfl (t_X4_lyingAt (a0 := a0) hc) (Sub.gen [0, 1, 2, 3, 4, 5, 6] [7, 8, 9, 10, 11, 12] [6, 7, 8, 9, 10, 11, 12, 0, 1, 2, 3, 4, 5] rfl (by decide) rfl (by decide) (by decide) rfl (by decide)) kw_873 kw_874 kw_875 kw_88 hy_X4_lyingAt kw_876 rfl (Nat.le_of_ble_eq_true rfl) (Nat.le_of_ble_eq_true rfl) (Nat.le_of_ble_eq_true rfl) (Nat.le_of_ble_eq_true rfl) (Nat.le_of_ble_eq_true rfl) dX4_lastAfter_80 ?_
    refine g_goto (pc := 83) C (tgt := 88) dX4_lastAfter_83 rfl ?_
    cases h
    exact g_iret C E dX4_lastAfter_88
set_option maxRecDepth 100000 in
set_option maxHeartbeats 4000000 in
theorem t_X4_lastAfter {J : Jt} {a0 : Nat → Nat} {a1 : Nat → Nat} {s_year : Int32} {s_wet : Int32} {s_lost : Int32} {s_eaten : Int32} {s_tied : Int32} {s_ripeMany : Int32} {s_gone : Nat → Int32} {s_place : Nat → Int32} {s_heard : Nat → Int32} {s_many : Nat → Int32} {s_lying : Nat → Int32} {s_ripe : Nat → Int32} {p_beds : Int32} {p_letters : Int32} {p_readers : Int32} {p_far : Nat → Int32} {p_drain : Nat → Int32} {p_length : Nat → Int32} {p_words : Nat → Int32} {p_home : Nat → Int32} {n1 : Int32} {n2 : Int32} {n3 : Int32} {r : Int32} (h : f_X4_lastAfter s_gone s_many s_lying p_drain p_length p_words n1 n2 n3 = some r) : Mt J yX4_lastAfter cX4_lastAfter 7 (some .int) rm_X4_lastAfter [.ref (a0 0), .ref (a1 0), .int n1, .int n2, .int n3] (cs_X4 J.2.2.1 a0 s_year s_wet s_lost s_eaten s_tied s_ripeMany s_gone s_place s_heard s_many s_lying s_ripe ++ cs_X2 J.2.2.1 a1 p_beds p_letters p_readers p_far p_drain p_length p_words p_home) (some (.int r)) (cs_X4 J.2.2.1 a0 s_year s_wet s_lost s_eaten s_tied s_ripeMany s_gone s_place s_heard s_many s_lying s_ripe ++ cs_X2 J.2.2.1 a1 p_beds p_letters p_readers p_far p_drain p_length p_words p_home) := by
  refine Mt_of (own := RX4) (by decide) rfl (Nat.le_of_ble_eq_true rfl) rfl (fun Z C E => ?_)
  unfold f_X4_lastAfter at h
  show G J Z 0 0 (cs_X4 J.2.2.1 a0 s_year s_wet s_lost s_eaten s_tied s_ripeMany s_gone s_place s_heard s_many s_lying s_ripe ++ cs_X2 J.2.2.1 a1 p_beds p_letters p_readers p_far p_drain p_length p_words p_home) 7 [(0, .ref (a0 0)), (1, .ref (a1 0)), (2, .int n1), (3, .int n2), (4, .int n3)] 0 []
  refine g_aload_n (pc := 0) C 1 rfl dX4_lastAfter_0 ?_
  refine g_get (pc := 1) C FOK_X2 7 rfl rfl 4 (by decide) kw_296 rfl dX4_lastAfter_1 ?_
  refine g_iload_n (pc := 4) C 3 rfl dX4_lastAfter_4 ?_
  obtain ⟨hi, h⟩ := ix_of h
  refine g_iald (pc := 5) C 9 rfl hi dX4_lastAfter_5 ?_
  refine g_iload_n (pc := 6) C 2 rfl dX4_lastAfter_6 ?_
  refine g_icmp_ne (pc := 7) C (tgt := 61) dX4_lastAfter_7 rfl h (fun h => ?_) (fun h => ?_)
  · refine g_lv [0, 2] rfl ?_
    exact j_X4_lastAfter_61 C E   h
  · refine g_iload (pc := 10) C 4 rfl dX4_lastAfter_10 ?_
    refine g_aload_n (pc := 12) C 0 rfl dX4_lastAfter_12 ?_
    refine g_aload_n (pc := 13) C 1 rfl dX4_lastAfter_13 ?_
    refine g_iload_n (pc := 14) C 3 rfl dX4_lastAfter_14 ?_
    obtain ⟨v2, hc, h⟩ := b1_of h
    refine g_callV (pc := 15) C (w' := cs_X4 J.2.2.1 a0 s_year s_wet s_lost s_eaten s_tied s_ripeMany s_gone s_place s_heard s_many s_lying s_ripe ++ cs_X2 J.2.2.1 a1 p_beds p_letters p_readers p_far p_drain p_length p_words p_home) (As := [.ref (a1 0), .int n2]) (st := [.int n3]) (ci := 4) (q0 := 0) rfl rfl (t_X4_leftOf (a0 := a0) (a1 := a1) hc) Sub.same kw_476 kw_465 kw_466 kw_88 hy_X4_leftOf kw_467 rfl (Nat.le_of_ble_eq_true rfl) (Nat.le_of_ble_eq_true rfl) (Nat.le_of_ble_eq_true rfl) (Nat.le_of_ble_eq_true rfl) (Nat.le_of_ble_eq_true rfl) dX4_lastAfter_15 ?_
    refine g_imin (pc := 18) C kw_889 kw_543 kw_96 kw_544 (Nat.le_of_ble_eq_true rfl) (Nat.le_of_ble_eq_true rfl) (Nat.le_of_ble_eq_true rfl) (Nat.le_of_ble_eq_true rfl) dX4_lastAfter_18 ?_
    refine g_istore (pc := 21) C [(5, .int (imin n3 v2)), (0, .ref (a0 0)), (1, .ref (a1 0)), (2, .int n1), (3, .int n2), (4, .int n3)] dX4_lastAfter_21 (by decide) rfl ?_
    refine g_iload (pc := 23) C 0 rfl dX4_lastAfter_23 ?_
    refine g_bipush (pc := 25) C dX4_lastAfter_25 cb_12 ?_
    refine g_aload_n (pc := 27) C 1 rfl dX4_lastAfter_27 ?_
    refine g_get (pc := 28) C FOK_X4 0 rfl rfl 9 (by decide) kw_172 rfl dX4_lastAfter_28 ?_
    refine g_iload_n (pc := 31) C 3 rfl dX4_lastAfter_31 ?_
    obtain ⟨hi, h⟩ := ix_of h
    refine g_iald (pc := 32) C 4 rfl hi dX4_lastAfter_32 ?_
    refine g_isub (pc := 33) C dX4_lastAfter_33 ?_
    refine g_imin (pc := 34) C kw_889 kw_543 kw_96 kw_544 (Nat.le_of_ble_eq_true rfl) (Nat.le_of_ble_eq_true rfl) (Nat.le_of_ble_eq_true rfl) (Nat.le_of_ble_eq_true rfl) dX4_lastAfter_34 ?_
    refine g_istore (pc := 37) C [(6, .int (imin (imin n3 v2) (12 - (s_many n1.toNatClampNeg)))), (5, .int (imin n3 v2)), (0, .ref (a0 0)), (1, .ref (a1 0)), (2, .int n1), (3, .int n2), (4, .int n3)] dX4_lastAfter_37 (by decide) rfl ?_
    refine g_iload (pc := 39) C 0 rfl dX4_lastAfter_39 ?_
    refine g_if_le (pc := 41) C (tgt := 61) dX4_lastAfter_41 rfl h (fun h => ?_) (fun h => ?_)
    · refine g_lv [2, 4] rfl ?_
      exact j_X4_lastAfter_61 C E   h
    · refine g_aload_n (pc := 44) C 3 rfl dX4_lastAfter_44 ?_
      refine g_iload_n (pc := 45) C 5 rfl dX4_lastAfter_45 ?_
      refine g_aload_n (pc := 46) C 2 rfl dX4_lastAfter_46 ?_
      refine g_get (pc := 47) C FOK_X4 0 rfl rfl 6 (by decide) kw_167 rfl dX4_lastAfter_47 ?_
      refine g_iload_n (pc := 50) C 5 rfl dX4_lastAfter_50 ?_
      obtain ⟨hi, h⟩ := ix_of h
      refine g_iald (pc := 51) C 1 rfl hi dX4_lastAfter_51 ?_
      refine g_iload (pc := 52) C 0 rfl dX4_lastAfter_52 ?_
      refine g_iadd (pc := 54) C dX4_lastAfter_54 ?_
      refine g_iconst (pc := 55) C dX4_lastAfter_55 ci_1 ?_
      refine g_isub (pc := 56) C dX4_lastAfter_56 ?_
      obtain ⟨v3, hc, h⟩ := b1_of h
      refine g_callV (pc := 57) C (w' := cs_X4 J.2.2.1 a0 s_year s_wet s_lost s_eaten s_tied s_ripeMany s_gone s_place s_heard s_many s_lying s_ripe ++ cs_X2 J.2.2.1 a1 p_beds p_letters p_readers p_far p_drain p_length p_words p_home) (As := [.int n2, .int (((s_gone n2.toNatClampNeg) + (imin (imin n3 v2) (12 - (s_many n1.toNatClampNeg)))) - 1)]) (st := []) (ci := 2) (q0 := 7) rfl rfl (t_X2_wordAt (a0 := a1) hc) (Sub.gen [7, 8, 9, 10, 11, 12] [0, 1, 2, 3, 4, 5, 6] [0, 1, 2, 3, 4, 5, 6, 7, 8, 9, 10, 11, 12] rfl (by decide) rfl (by decide) (by decide) rfl (by decide)) kw_477 kw_469 kw_470 kw_92 hy_X2_wordAt kw_471 rfl (Nat.le_of_ble_eq_true rfl) (Nat.le_of_ble_eq_true rfl) (Nat.le_of_ble_eq_true rfl) (Nat.le_of_ble_eq_true rfl) (Nat.le_of_ble_eq_true rfl) dX4_lastAfter_57 ?_
      cases h
      exact g_iret C E dX4_lastAfter_60
noncomputable def f_X0_isRight_3 (b_last : Nat → Int32) (s_gone : Nat → Int32) (s_many : Nat → Int32) (s_lying : Nat → Int32) (p_beds : Int32) (p_drain : Nat → Int32) (p_length : Nat → Int32) (p_words : Nat → Int32) (n1 : Int32) (n2 : Int32) : Nat → Int32 → Option (Int32)
  | 0, _ => none
  | n + 1, x5 => if p_beds ≤ x5 then some 1 else if ixb x5 6 then if (b_last x5.toNatClampNeg) = (-1) then f_X0_isRight_3 b_last s_gone s_many s_lying p_beds p_drain p_length p_words n1 n2 n (x5 + 1) else if ixb x5 6 then b1 (f_X4_lastAfter s_gone s_many s_lying p_drain p_length p_words x5 n1 n2) (fun v1 => if (b_last x5.toNatClampNeg) = v1 then f_X0_isRight_3 b_last s_gone s_many s_lying p_beds p_drain p_length p_words n1 n2 n (x5 + 1) else some 0) else none else none
noncomputable def f_X0_isRight (b_last : Nat → Int32) (s_gone : Nat → Int32) (s_many : Nat → Int32) (s_lying : Nat → Int32) (p_beds : Int32) (p_drain : Nat → Int32) (p_length : Nat → Int32) (p_words : Nat → Int32) (n1 : Int32) (n2 : Int32) : Option (Int32) := f_X0_isRight_3 b_last s_gone s_many s_lying p_beds p_drain p_length p_words n1 n2 FU 0
def rm_X0_isRight : Room := { frames := 2, cells := 0, slots := 0, locals := 66 }
set_option maxRecDepth 100000 in
set_option maxHeartbeats 4000000 in
theorem j_X0_isRight_3 {J : Jt} {Z : Zt} {a0 : Nat → Nat} {a1 : Nat → Nat} {a2 : Nat → Nat} {b_last : Nat → Int32} {b_lines : Int32} {s_year : Int32} {s_wet : Int32} {s_lost : Int32} {s_eaten : Int32} {s_tied : Int32} {s_ripeMany : Int32} {s_gone : Nat → Int32} {s_place : Nat → Int32} {s_heard : Nat → Int32} {s_many : Nat → Int32} {s_lying : Nat → Int32} {s_ripe : Nat → Int32} {p_beds : Int32} {p_letters : Int32} {p_readers : Int32} {p_far : Nat → Int32} {p_drain : Nat → Int32} {p_length : Nat → Int32} {p_words : Nat → Int32} {p_home : Nat → Int32} {n1 : Int32} {n2 : Int32} {r : Int32} (C : Cx J Z cX0_isRight 6 RX0 (some .boolean) rm_X0_isRight) (E : Ez J Z 0 0 (some (.int r)) (cs_X0 J.2.2.1 a0 b_last b_lines ++ cs_X4 J.2.2.1 a1 s_year s_wet s_lost s_eaten s_tied s_ripeMany s_gone s_place s_heard s_many s_lying s_ripe ++ cs_X2 J.2.2.1 a2 p_beds p_letters p_readers p_far p_drain p_length p_words p_home)) : ∀ (n : Nat) (x5 : Int32), f_X0_isRight_3 b_last s_gone s_many s_lying p_beds p_drain p_length p_words n1 n2 n x5 = some r → G J Z 0 0 (cs_X0 J.2.2.1 a0 b_last b_lines ++ cs_X4 J.2.2.1 a1 s_year s_wet s_lost s_eaten s_tied s_ripeMany s_gone s_place s_heard s_many s_lying s_ripe ++ cs_X2 J.2.2.1 a2 p_beds p_letters p_readers p_far p_drain p_length p_words p_home) 6 [(0, .ref (a0 0)), (1, .ref (a1 0)), (2, .ref (a2 0)), (3, .int n1), (4, .int n2), (5, .int x5)] 3 [] := by
  intro n
  induction n with
  | zero =>
    intro x5 h
    rw [f_X0_isRight_3] at h
    cases h
  | succ n ih =>
    intro x5 h
    rw [f_X0_isRight_3] at h
    refine g_iload (pc := 3) C 5 rfl dX0_isRight_3 ?_
    refine g_aload_n (pc := 5) C 2 rfl dX0_isRight_5 ?_
    refine g_get (pc := 6) C FOK_X2 9 rfl rfl 0 (by decide) kw_277 rfl dX0_isRight_6 ?_
    refine g_icmp_ge (pc := 9) C (tgt := 51) dX0_isRight_9 rfl h (fun h => ?_) (fun h => ?_)
    · refine g_iconst (pc := 51) C dX0_isRight_51 ci_1 ?_
      cases h
      exact g_zret C rfl E dX0_isRight_52
    · refine g_aload_n (pc := 12) C 0 rfl dX0_isRight_12 ?_
      refine g_get (pc := 13) C FOK_X0 0 rfl rfl 0 (by decide) kw_358 rfl dX0_isRight_13 ?_
      refine g_iload (pc := 16) C 5 rfl dX0_isRight_16 ?_
      obtain ⟨hi, h⟩ := ix_of h
      refine g_iald (pc := 18) C 1 rfl hi dX0_isRight_18 ?_
      refine g_iconst (pc := 19) C dX0_isRight_19 ci_m1 ?_
      refine g_icmp_eq (pc := 20) C (tgt := 45) dX0_isRight_20 rfl h (fun h => ?_) (fun h => ?_)
      · refine g_iinc (pc := 45) C (j := 5) [(5, .int (x5 + 1)), (0, .ref (a0 0)), (1, .ref (a1 0)), (2, .ref (a2 0)), (3, .int n1), (4, .int n2)] dX0_isRight_45 rfl (ii_1 _) (by decide) rfl ?_
        refine g_goto (pc := 48) C (tgt := 3) dX0_isRight_48 rfl ?_
        refine g_lv [1, 2, 3, 4, 5, 0] rfl ?_
        exact ih (x5 + 1) h
      · refine g_aload_n (pc := 23) C 0 rfl dX0_isRight_23 ?_
        refine g_get (pc := 24) C FOK_X0 0 rfl rfl 0 (by decide) kw_358 rfl dX0_isRight_24 ?_
        refine g_iload (pc := 27) C 5 rfl dX0_isRight_27 ?_
        obtain ⟨hi, h⟩ := ix_of h
        refine g_iald (pc := 29) C 1 rfl hi dX0_isRight_29 ?_
        refine g_aload_n (pc := 30) C 1 rfl dX0_isRight_30 ?_
        refine g_aload_n (pc := 31) C 2 rfl dX0_isRight_31 ?_
        refine g_iload (pc := 32) C 5 rfl dX0_isRight_32 ?_
        refine g_iload_n (pc := 34) C 3 rfl dX0_isRight_34 ?_
        refine g_iload (pc := 35) C 4 rfl dX0_isRight_35 ?_
        obtain ⟨v1, hc, h⟩ := b1_of h
        refine g_callV (pc := 37) C (w' := cs_X0 J.2.2.1 a0 b_last b_lines ++ cs_X4 J.2.2.1 a1 s_year s_wet s_lost s_eaten s_tied s_ripeMany s_gone s_place s_heard s_many s_lying s_ripe ++ cs_X2 J.2.2.1 a2 p_beds p_letters p_readers p_far p_drain p_length p_words p_home) (As := [.ref (a2 0), .int x5, .int n1, .int n2]) (st := [.int (b_last x5.toNatClampNeg)]) (ci := 4) (q0 := 2) rfl rfl (t_X4_lastAfter (a0 := a1) (a1 := a2) hc) (Sub.gen [2, 3, 4, 5, 6, 7, 8, 9, 10, 11, 12, 13, 14] [0, 1] [0, 1, 2, 3, 4, 5, 6, 7, 8, 9, 10, 11, 12, 13, 14] rfl (by decide) rfl (by decide) (by decide) rfl (by decide)) kw_1105 kw_1106 kw_1107 kw_88 hy_X4_lastAfter kw_1108 rfl (Nat.le_of_ble_eq_true rfl) (Nat.le_of_ble_eq_true rfl) (Nat.le_of_ble_eq_true rfl) (Nat.le_of_ble_eq_true rfl) (Nat.le_of_ble_eq_true rfl) dX0_isRight_37 ?_
        refine g_icmp_eq (pc := 40) C (tgt := 45) dX0_isRight_40 rfl h (fun h => ?_) (fun h => ?_)
        · refine g_iinc (pc := 45) C (j := 5) [(5, .int (x5 + 1)), (0, .ref (a0 0)), (1, .ref (a1 0)), (2, .ref (a2 0)), (3, .int n1), (4, .int n2)] dX0_isRight_45 rfl (ii_1 _) (by decide) rfl ?_
          refine g_goto (pc := 48) C (tgt := 3) dX0_isRight_48 rfl ?_
          refine g_lv [1, 2, 3, 4, 5, 0] rfl ?_
          exact ih (x5 + 1) h
        · refine g_iconst (pc := 43) C dX0_isRight_43 ci_0 ?_
          cases h
          exact g_zret C rfl E dX0_isRight_44
set_option maxRecDepth 100000 in
set_option maxHeartbeats 4000000 in
theorem t_X0_isRight {J : Jt} {a0 : Nat → Nat} {a1 : Nat → Nat} {a2 : Nat → Nat} {b_last : Nat → Int32} {b_lines : Int32} {s_year : Int32} {s_wet : Int32} {s_lost : Int32} {s_eaten : Int32} {s_tied : Int32} {s_ripeMany : Int32} {s_gone : Nat → Int32} {s_place : Nat → Int32} {s_heard : Nat → Int32} {s_many : Nat → Int32} {s_lying : Nat → Int32} {s_ripe : Nat → Int32} {p_beds : Int32} {p_letters : Int32} {p_readers : Int32} {p_far : Nat → Int32} {p_drain : Nat → Int32} {p_length : Nat → Int32} {p_words : Nat → Int32} {p_home : Nat → Int32} {n1 : Int32} {n2 : Int32} {r : Int32} (h : f_X0_isRight b_last s_gone s_many s_lying p_beds p_drain p_length p_words n1 n2 = some r) : Mt J yX0_isRight cX0_isRight 6 (some .boolean) rm_X0_isRight [.ref (a0 0), .ref (a1 0), .ref (a2 0), .int n1, .int n2] (cs_X0 J.2.2.1 a0 b_last b_lines ++ cs_X4 J.2.2.1 a1 s_year s_wet s_lost s_eaten s_tied s_ripeMany s_gone s_place s_heard s_many s_lying s_ripe ++ cs_X2 J.2.2.1 a2 p_beds p_letters p_readers p_far p_drain p_length p_words p_home) (some (.int r)) (cs_X0 J.2.2.1 a0 b_last b_lines ++ cs_X4 J.2.2.1 a1 s_year s_wet s_lost s_eaten s_tied s_ripeMany s_gone s_place s_heard s_many s_lying s_ripe ++ cs_X2 J.2.2.1 a2 p_beds p_letters p_readers p_far p_drain p_length p_words p_home) := by
  refine Mt_of (own := RX0) (by decide) rfl (Nat.le_of_ble_eq_true rfl) rfl (fun Z C E => ?_)
  unfold f_X0_isRight at h
  show G J Z 0 0 (cs_X0 J.2.2.1 a0 b_last b_lines ++ cs_X4 J.2.2.1 a1 s_year s_wet s_lost s_eaten s_tied s_ripeMany s_gone s_place s_heard s_many s_lying s_ripe ++ cs_X2 J.2.2.1 a2 p_beds p_letters p_readers p_far p_drain p_length p_words p_home) 6 [(0, .ref (a0 0)), (1, .ref (a1 0)), (2, .ref (a2 0)), (3, .int n1), (4, .int n2)] 0 []
  refine g_iconst (pc := 0) C dX0_isRight_0 ci_0 ?_
  refine g_istore (pc := 1) C [(5, .int 0), (0, .ref (a0 0)), (1, .ref (a1 0)), (2, .ref (a2 0)), (3, .int n1), (4, .int n2)] dX0_isRight_1 (by decide) rfl ?_
  refine g_lv [1, 2, 3, 4, 5, 0] rfl ?_
  exact j_X0_isRight_3 C E  FU 0 h
noncomputable def f_X1_add (l_code : Nat → Int32) (l_length : Int32) (n1 : Int32) : Option ((Nat → Int32) × Int32) := if 150 ≤ l_length then some (l_code, l_length) else if ixb l_length 150 then some (upd l_code l_length.toNatClampNeg n1, l_length + 1) else none
def rm_X1_add : Room := { frames := 0, cells := 0, slots := 0, locals := 0 }
set_option maxRecDepth 100000 in
set_option maxHeartbeats 4000000 in
theorem t_X1_add {J : Jt} {a0 : Nat → Nat} {l_code : Nat → Int32} {l_values : Nat → Int32} {l_stack : Nat → Int32} {l_length : Int32} {n1 : Int32} {o_l_code : Nat → Int32} {o_l_length : Int32} (h : f_X1_add l_code l_length n1 = some (o_l_code, o_l_length)) : Mt J yX1_add cX1_add 2 none rm_X1_add [.ref (a0 0), .int n1] (cs_X1 J.2.2.1 a0 l_code l_values l_stack l_length) none (cs_X1 J.2.2.1 a0 o_l_code l_values l_stack o_l_length) := by
  refine Mt_of (own := RX1) (by decide) rfl (Nat.le_of_ble_eq_true rfl) rfl (fun Z C E => ?_)
  unfold f_X1_add at h
  show G J Z 0 0 (cs_X1 J.2.2.1 a0 l_code l_values l_stack l_length) 2 [(0, .ref (a0 0)), (1, .int n1)] 0 []
  refine g_aload_n (pc := 0) C 0 rfl dX1_add_0 ?_
  refine g_get (pc := 1) C FOK_X1 0 rfl rfl 3 (by decide) kw_338 rfl dX1_add_1 ?_
  refine g_sipush (pc := 4) C dX1_add_4 cs_150 ?_
  refine g_icmp_ge (pc := 7) C (tgt := 30) dX1_add_7 rfl h (fun h => ?_) (fun h => ?_)
  · cases h
    exact g_vret C E dX1_add_30
  · refine g_aload_n (pc := 10) C 0 rfl dX1_add_10 ?_
    refine g_get (pc := 11) C FOK_X1 0 rfl rfl 0 (by decide) kw_335 rfl dX1_add_11 ?_
    refine g_aload_n (pc := 14) C 0 rfl dX1_add_14 ?_
    refine g_get (pc := 15) C FOK_X1 0 rfl rfl 3 (by decide) kw_338 rfl dX1_add_15 ?_
    refine g_iload_n (pc := 18) C 1 rfl dX1_add_18 ?_
    obtain ⟨hi, h⟩ := ix_of h
    refine g_iast (pc := 19) C (w' := cs_X1 J.2.2.1 a0 (upd l_code l_length.toNatClampNeg n1) l_values l_stack l_length) 1 rfl hi dX1_add_19 rfl ?_
    refine g_aload_n (pc := 20) C 0 rfl dX1_add_20 ?_
    refine g_dup (pc := 21) C dX1_add_21 rfl ?_
    refine g_get (pc := 22) C FOK_X1 0 rfl rfl 3 (by decide) kw_338 rfl dX1_add_22 ?_
    refine g_iconst (pc := 25) C dX1_add_25 ci_1 ?_
    refine g_iadd (pc := 26) C dX1_add_26 ?_
    refine g_put (pc := 27) C (w' := cs_X1 J.2.2.1 a0 (upd l_code l_length.toNatClampNeg n1) l_values l_stack (l_length + 1)) FOK_X1 0 rfl rfl 3 (by decide) kw_338 rfl rfl rfl (Nat.le_of_ble_eq_true rfl) dX1_add_27 rfl ?_
    cases h
    exact g_vret C E dX1_add_30
noncomputable def f_X1_makePlain (l_code : Nat → Int32) (l_length : Int32) : Option ((Nat → Int32) × Int32) := b2 (f_X1_add l_code 0 (-1)) (fun c1 c2 => b2 (f_X1_add c1 c2 4) (fun c3 c4 => b2 (f_X1_add c3 c4 (-11)) (fun c5 c6 => b2 (f_X1_add c5 c6 1) (fun c7 c8 => b2 (f_X1_add c7 c8 (-8)) (fun c9 c10 => some (c9, c10))))))
def rm_X1_makePlain : Room := { frames := 1, cells := 0, slots := 0, locals := 21 }
set_option maxRecDepth 100000 in
set_option maxHeartbeats 4000000 in
theorem t_X1_makePlain {J : Jt} {a0 : Nat → Nat} {l_code : Nat → Int32} {l_values : Nat → Int32} {l_stack : Nat → Int32} {l_length : Int32} {o_l_code : Nat → Int32} {o_l_length : Int32} (h : f_X1_makePlain l_code l_length = some (o_l_code, o_l_length)) : Mt J yX1_makePlain cX1_makePlain 1 none rm_X1_makePlain [.ref (a0 0)] (cs_X1 J.2.2.1 a0 l_code l_values l_stack l_length) none (cs_X1 J.2.2.1 a0 o_l_code l_values l_stack o_l_length) := by
  refine Mt_of (own := RX1) (by decide) rfl (Nat.le_of_ble_eq_true rfl) rfl (fun Z C E => ?_)
  unfold f_X1_makePlain at h
  show G J Z 0 0 (cs_X1 J.2.2.1 a0 l_code l_values l_stack l_length) 1 [(0, .ref (a0 0))] 0 []
  refine g_aload_n (pc := 0) C 0 rfl dX1_makePlain_0 ?_
  refine g_iconst (pc := 1) C dX1_makePlain_1 ci_0 ?_
  refine g_put (pc := 2) C (w' := cs_X1 J.2.2.1 a0 l_code l_values l_stack 0) FOK_X1 0 rfl rfl 3 (by decide) kw_338 rfl rfl rfl (Nat.le_of_ble_eq_true rfl) dX1_makePlain_2 rfl ?_
  refine g_aload_n (pc := 5) C 0 rfl dX1_makePlain_5 ?_
  refine g_iconst (pc := 6) C dX1_makePlain_6 ci_m1 ?_
  obtain ⟨c1, c2, hc, h⟩ := b2_of h
  refine g_callV (pc := 7) C (w' := cs_X1 J.2.2.1 a0 c1 l_values l_stack c2) (As := [.int (-1)]) (st := []) (ci := 1) (q0 := 0) rfl rfl (t_X1_add (a0 := a0) hc) Sub.same kw_331 kw_332 kw_333 kw_93 hy_X1_add kw_334 rfl (Nat.le_of_ble_eq_true rfl) (Nat.le_of_ble_eq_true rfl) (Nat.le_of_ble_eq_true rfl) (Nat.le_of_ble_eq_true rfl) (Nat.le_of_ble_eq_true rfl) dX1_makePlain_7 ?_
  refine g_aload_n (pc := 10) C 0 rfl dX1_makePlain_10 ?_
  refine g_iconst (pc := 11) C dX1_makePlain_11 ci_4 ?_
  obtain ⟨c3, c4, hc, h⟩ := b2_of h
  refine g_callV (pc := 12) C (w' := cs_X1 J.2.2.1 a0 c3 l_values l_stack c4) (As := [.int 4]) (st := []) (ci := 1) (q0 := 0) rfl rfl (t_X1_add (a0 := a0) hc) Sub.same kw_331 kw_332 kw_333 kw_93 hy_X1_add kw_334 rfl (Nat.le_of_ble_eq_true rfl) (Nat.le_of_ble_eq_true rfl) (Nat.le_of_ble_eq_true rfl) (Nat.le_of_ble_eq_true rfl) (Nat.le_of_ble_eq_true rfl) dX1_makePlain_12 ?_
  refine g_aload_n (pc := 15) C 0 rfl dX1_makePlain_15 ?_
  refine g_bipush (pc := 16) C dX1_makePlain_16 cb_m11 ?_
  obtain ⟨c5, c6, hc, h⟩ := b2_of h
  refine g_callV (pc := 18) C (w' := cs_X1 J.2.2.1 a0 c5 l_values l_stack c6) (As := [.int (-11)]) (st := []) (ci := 1) (q0 := 0) rfl rfl (t_X1_add (a0 := a0) hc) Sub.same kw_331 kw_332 kw_333 kw_93 hy_X1_add kw_334 rfl (Nat.le_of_ble_eq_true rfl) (Nat.le_of_ble_eq_true rfl) (Nat.le_of_ble_eq_true rfl) (Nat.le_of_ble_eq_true rfl) (Nat.le_of_ble_eq_true rfl) dX1_makePlain_18 ?_
  refine g_aload_n (pc := 21) C 0 rfl dX1_makePlain_21 ?_
  refine g_iconst (pc := 22) C dX1_makePlain_22 ci_1 ?_
  obtain ⟨c7, c8, hc, h⟩ := b2_of h
  refine g_callV (pc := 23) C (w' := cs_X1 J.2.2.1 a0 c7 l_values l_stack c8) (As := [.int 1]) (st := []) (ci := 1) (q0 := 0) rfl rfl (t_X1_add (a0 := a0) hc) Sub.same kw_331 kw_332 kw_333 kw_93 hy_X1_add kw_334 rfl (Nat.le_of_ble_eq_true rfl) (Nat.le_of_ble_eq_true rfl) (Nat.le_of_ble_eq_true rfl) (Nat.le_of_ble_eq_true rfl) (Nat.le_of_ble_eq_true rfl) dX1_makePlain_23 ?_
  refine g_aload_n (pc := 26) C 0 rfl dX1_makePlain_26 ?_
  refine g_bipush (pc := 27) C dX1_makePlain_27 cb_m8 ?_
  obtain ⟨c9, c10, hc, h⟩ := b2_of h
  refine g_callV (pc := 29) C (w' := cs_X1 J.2.2.1 a0 c9 l_values l_stack c10) (As := [.int (-8)]) (st := []) (ci := 1) (q0 := 0) rfl rfl (t_X1_add (a0 := a0) hc) Sub.same kw_331 kw_332 kw_333 kw_93 hy_X1_add kw_334 rfl (Nat.le_of_ble_eq_true rfl) (Nat.le_of_ble_eq_true rfl) (Nat.le_of_ble_eq_true rfl) (Nat.le_of_ble_eq_true rfl) (Nat.le_of_ble_eq_true rfl) dX1_makePlain_29 ?_
  cases h
  exact g_vret C E dX1_makePlain_32
noncomputable def f_X7_isSmallLetter  (n1 : Int32) : Option (Int32) := if n1 < 97 then some 0 else if 122 < n1 then some 0 else some 1
def rm_X7_isSmallLetter : Room := { frames := 0, cells := 0, slots := 0, locals := 0 }
set_option maxRecDepth 100000 in
set_option maxHeartbeats 4000000 in
theorem t_X7_isSmallLetter {J : Jt}  {n1 : Int32} {r : Int32} (h : f_X7_isSmallLetter n1 = some r) : Mt J yX7_isSmallLetter cX7_isSmallLetter 1 (some .boolean) rm_X7_isSmallLetter [.int n1] ([]) (some (.int r)) ([]) := by
  refine Mt_of (own := RX7) (by decide) rfl (Nat.le_of_ble_eq_true rfl) rfl (fun Z C E => ?_)
  unfold f_X7_isSmallLetter at h
  show G J Z 0 0 ([]) 1 [(0, .int n1)] 0 []
  refine g_iload_n (pc := 0) C 0 rfl dX7_isSmallLetter_0 ?_
  refine g_bipush (pc := 1) C dX7_isSmallLetter_1 cb_97 ?_
  refine g_icmp_lt (pc := 3) C (tgt := 16) dX7_isSmallLetter_3 rfl h (fun h => ?_) (fun h => ?_)
  · refine g_iconst (pc := 16) C dX7_isSmallLetter_16 ci_0 ?_
    cases h
    exact g_zret C rfl E dX7_isSmallLetter_17
  · refine g_iload_n (pc := 6) C 0 rfl dX7_isSmallLetter_6 ?_
    refine g_bipush (pc := 7) C dX7_isSmallLetter_7 cb_122 ?_
    refine g_icmp_gt (pc := 9) C (tgt := 16) dX7_isSmallLetter_9 rfl h (fun h => ?_) (fun h => ?_)
    · refine g_iconst (pc := 16) C dX7_isSmallLetter_16 ci_0 ?_
      cases h
      exact g_zret C rfl E dX7_isSmallLetter_17
    · refine g_iconst (pc := 12) C dX7_isSmallLetter_12 ci_1 ?_
      refine g_goto (pc := 13) C (tgt := 17) dX7_isSmallLetter_13 rfl ?_
      cases h
      exact g_zret C rfl E dX7_isSmallLetter_17
noncomputable def f_X7_isAtNumber (t_bytes : Nat → Int32) (t_end : Int32) (t_at : Int32) (t_start : Int32) (t_faultKind : Int32) : Option (Int32 × Int32 × Int32) := b3 (f_X7_peek t_bytes t_end t_at t_start t_faultKind) (fun v1 c2 c3 => b1 (f_X7_isDigit v1) (fun v4 => if zok v4 then some (v4, c2, c3) else none))
def rm_X7_isAtNumber : Room := { frames := 1, cells := 0, slots := 0, locals := 20 }
set_option maxRecDepth 100000 in
set_option maxHeartbeats 4000000 in
theorem t_X7_isAtNumber {J : Jt} {a0 : Nat → Nat} {t_bytes : Nat → Int32} {t_held : Int32} {t_end : Int32} {t_at : Int32} {t_start : Int32} {t_faultKind : Int32} {t_faultPlace : Int32} {r : Int32} {o_t_at : Int32} {o_t_start : Int32} (h : f_X7_isAtNumber t_bytes t_end t_at t_start t_faultKind = some (r, o_t_at, o_t_start)) : Mt J yX7_isAtNumber cX7_isAtNumber 1 (some .boolean) rm_X7_isAtNumber [.ref (a0 0)] (cs_X7 J.2.2.1 a0 t_bytes t_held t_end t_at t_start t_faultKind t_faultPlace) (some (.int r)) (cs_X7 J.2.2.1 a0 t_bytes t_held t_end o_t_at o_t_start t_faultKind t_faultPlace) := by
  refine Mt_of (own := RX7) (by decide) rfl (Nat.le_of_ble_eq_true rfl) rfl (fun Z C E => ?_)
  unfold f_X7_isAtNumber at h
  show G J Z 0 0 (cs_X7 J.2.2.1 a0 t_bytes t_held t_end t_at t_start t_faultKind t_faultPlace) 1 [(0, .ref (a0 0))] 0 []
  refine g_aload_n (pc := 0) C 0 rfl dX7_isAtNumber_0 ?_
  obtain ⟨v1, c2, c3, hc, h⟩ := b3_of h
  refine g_callV (pc := 1) C (w' := cs_X7 J.2.2.1 a0 t_bytes t_held t_end c2 c3 t_faultKind t_faultPlace) (As := []) (st := []) (ci := 7) (q0 := 0) rfl rfl (t_X7_peek (a0 := a0) hc) Sub.same kw_623 kw_624 kw_625 kw_87 hy_X7_peek kw_626 rfl (Nat.le_of_ble_eq_true rfl) (Nat.le_of_ble_eq_true rfl) (Nat.le_of_ble_eq_true rfl) (Nat.le_of_ble_eq_true rfl) (Nat.le_of_ble_eq_true rfl) dX7_isAtNumber_1 ?_
  obtain ⟨v4, hc, h⟩ := b1_of h
  refine g_callS (pc := 4) C (w' := cs_X7 J.2.2.1 a0 t_bytes t_held t_end c2 c3 t_faultKind t_faultPlace) (As := [.int v1]) (st := []) (t_X7_isDigit hc) Sub.nil kw_703 kw_704 kw_87 hy_X7_isDigit kw_705 rfl (Nat.le_of_ble_eq_true rfl) (Nat.le_of_ble_eq_true rfl) (Nat.le_of_ble_eq_true rfl) (Nat.le_of_ble_eq_true rfl) (Nat.le_of_ble_eq_true rfl) dX7_isAtNumber_4 ?_
  obtain ⟨hz, h⟩ := zok_of h
  cases h
  exact g_zret C hz E dX7_isAtNumber_7
noncomputable def f_X7_takes (t_bytes : Nat → Int32) (t_end : Int32) (t_at : Int32) (t_start : Int32) (t_faultKind : Int32) (n1 : Int32) : Option (Int32 × Int32 × Int32) := b3 (f_X7_peek t_bytes t_end t_at t_start t_faultKind) (fun v1 c2 c3 => if v1 = n1 then some (1, c2 + 1, c3) else some (0, c2, c3))
def rm_X7_takes : Room := { frames := 1, cells := 0, slots := 0, locals := 20 }
set_option maxRecDepth 100000 in
set_option maxHeartbeats 4000000 in
theorem t_X7_takes {J : Jt} {a0 : Nat → Nat} {t_bytes : Nat → Int32} {t_held : Int32} {t_end : Int32} {t_at : Int32} {t_start : Int32} {t_faultKind : Int32} {t_faultPlace : Int32} {n1 : Int32} {r : Int32} {o_t_at : Int32} {o_t_start : Int32} (h : f_X7_takes t_bytes t_end t_at t_start t_faultKind n1 = some (r, o_t_at, o_t_start)) : Mt J yX7_takes cX7_takes 2 (some .boolean) rm_X7_takes [.ref (a0 0), .int n1] (cs_X7 J.2.2.1 a0 t_bytes t_held t_end t_at t_start t_faultKind t_faultPlace) (some (.int r)) (cs_X7 J.2.2.1 a0 t_bytes t_held t_end o_t_at o_t_start t_faultKind t_faultPlace) := by
  refine Mt_of (own := RX7) (by decide) rfl (Nat.le_of_ble_eq_true rfl) rfl (fun Z C E => ?_)
  unfold f_X7_takes at h
  show G J Z 0 0 (cs_X7 J.2.2.1 a0 t_bytes t_held t_end t_at t_start t_faultKind t_faultPlace) 2 [(0, .ref (a0 0)), (1, .int n1)] 0 []
  refine g_aload_n (pc := 0) C 0 rfl dX7_takes_0 ?_
  obtain ⟨v1, c2, c3, hc, h⟩ := b3_of h
  refine g_callV (pc := 1) C (w' := cs_X7 J.2.2.1 a0 t_bytes t_held t_end c2 c3 t_faultKind t_faultPlace) (As := []) (st := []) (ci := 7) (q0 := 0) rfl rfl (t_X7_peek (a0 := a0) hc) Sub.same kw_623 kw_624 kw_625 kw_87 hy_X7_peek kw_626 rfl (Nat.le_of_ble_eq_true rfl) (Nat.le_of_ble_eq_true rfl) (Nat.le_of_ble_eq_true rfl) (Nat.le_of_ble_eq_true rfl) (Nat.le_of_ble_eq_true rfl) dX7_takes_1 ?_
  refine g_iload_n (pc := 4) C 1 rfl dX7_takes_4 ?_
  refine g_icmp_eq (pc := 5) C (tgt := 10) dX7_takes_5 rfl h (fun h => ?_) (fun h => ?_)
  · refine g_aload_n (pc := 10) C 0 rfl dX7_takes_10 ?_
    refine g_dup (pc := 11) C dX7_takes_11 rfl ?_
    refine g_get (pc := 12) C FOK_X7 0 rfl rfl 3 (by decide) kw_127 rfl dX7_takes_12 ?_
    refine g_iconst (pc := 15) C dX7_takes_15 ci_1 ?_
    refine g_iadd (pc := 16) C dX7_takes_16 ?_
    refine g_put (pc := 17) C (w' := cs_X7 J.2.2.1 a0 t_bytes t_held t_end (c2 + 1) c3 t_faultKind t_faultPlace) FOK_X7 0 rfl rfl 3 (by decide) kw_127 rfl rfl rfl (Nat.le_of_ble_eq_true rfl) dX7_takes_17 rfl ?_
    refine g_iconst (pc := 20) C dX7_takes_20 ci_1 ?_
    cases h
    exact g_zret C rfl E dX7_takes_21
  · refine g_iconst (pc := 8) C dX7_takes_8 ci_0 ?_
    cases h
    exact g_zret C rfl E dX7_takes_9
noncomputable def f_X7_needEnd (t_bytes : Nat → Int32) (t_end : Int32) (t_at : Int32) (t_start : Int32) (t_faultKind : Int32) (t_faultPlace : Int32) : Option (Int32 × Int32 × Int32 × Int32) := b3 (f_X7_isAtEnd t_bytes t_end t_at t_start t_faultKind) (fun v1 c2 c3 => if v1 = 0 then b2 (f_X7_blame c3 t_faultKind t_faultPlace 1) (fun c4 c5 => some (c2, c3, c4, c5)) else some (c2, c3, t_faultKind, t_faultPlace))
def rm_X7_needEnd : Room := { frames := 2, cells := 0, slots := 0, locals := 40 }
set_option maxRecDepth 100000 in
set_option maxHeartbeats 4000000 in
theorem t_X7_needEnd {J : Jt} {a0 : Nat → Nat} {t_bytes : Nat → Int32} {t_held : Int32} {t_end : Int32} {t_at : Int32} {t_start : Int32} {t_faultKind : Int32} {t_faultPlace : Int32} {o_t_at : Int32} {o_t_start : Int32} {o_t_faultKind : Int32} {o_t_faultPlace : Int32} (h : f_X7_needEnd t_bytes t_end t_at t_start t_faultKind t_faultPlace = some (o_t_at, o_t_start, o_t_faultKind, o_t_faultPlace)) : Mt J yX7_needEnd cX7_needEnd 1 none rm_X7_needEnd [.ref (a0 0)] (cs_X7 J.2.2.1 a0 t_bytes t_held t_end t_at t_start t_faultKind t_faultPlace) none (cs_X7 J.2.2.1 a0 t_bytes t_held t_end o_t_at o_t_start o_t_faultKind o_t_faultPlace) := by
  refine Mt_of (own := RX7) (by decide) rfl (Nat.le_of_ble_eq_true rfl) rfl (fun Z C E => ?_)
  unfold f_X7_needEnd at h
  show G J Z 0 0 (cs_X7 J.2.2.1 a0 t_bytes t_held t_end t_at t_start t_faultKind t_faultPlace) 1 [(0, .ref (a0 0))] 0 []
  refine g_aload_n (pc := 0) C 0 rfl dX7_needEnd_0 ?_
  obtain ⟨v1, c2, c3, hc, h⟩ := b3_of h
  refine g_callV (pc := 1) C (w' := cs_X7 J.2.2.1 a0 t_bytes t_held t_end c2 c3 t_faultKind t_faultPlace) (As := []) (st := []) (ci := 7) (q0 := 0) rfl rfl (t_X7_isAtEnd (a0 := a0) hc) Sub.same kw_801 kw_620 kw_621 kw_87 hy_X7_isAtEnd kw_622 rfl (Nat.le_of_ble_eq_true rfl) (Nat.le_of_ble_eq_true rfl) (Nat.le_of_ble_eq_true rfl) (Nat.le_of_ble_eq_true rfl) (Nat.le_of_ble_eq_true rfl) dX7_needEnd_1 ?_
  refine g_if_ne (pc := 4) C (tgt := 12) dX7_needEnd_4 rfl h (fun h => ?_) (fun h => ?_)
  · cases h
    exact g_vret C E dX7_needEnd_12
  · refine g_aload_n (pc := 7) C 0 rfl dX7_needEnd_7 ?_
    refine g_iconst (pc := 8) C dX7_needEnd_8 ci_1 ?_
    obtain ⟨c4, c5, hc, h⟩ := b2_of h
    refine g_callV (pc := 9) C (w' := cs_X7 J.2.2.1 a0 t_bytes t_held t_end c2 c3 c4 c5) (As := [.int 1]) (st := []) (ci := 7) (q0 := 0) rfl rfl (t_X7_blame (a0 := a0) hc) Sub.same kw_706 kw_696 kw_697 kw_87 hy_X7_blame kw_698 rfl (Nat.le_of_ble_eq_true rfl) (Nat.le_of_ble_eq_true rfl) (Nat.le_of_ble_eq_true rfl) (Nat.le_of_ble_eq_true rfl) (Nat.le_of_ble_eq_true rfl) dX7_needEnd_9 ?_
    cases h
    exact g_vret C E dX7_needEnd_12
noncomputable def f_X1_joined  (n1 : Int32) (n2 : Int32) (n3 : Int32) : Option (Int32) := if n1 = (-13) then if n3 ≤ n2 then some n3 else some n2 else if n1 = (-12) then if n3 = 0 then some 0 else if n3 = 0 then none else some (n2 - n2 / n3 * n3) else if n1 = (-11) then if n3 = 0 then some 0 else if n3 = 0 then none else some (n2 / n3) else if n1 = (-10) then some (n2 * n3) else if n1 = (-9) then some (n2 - n3) else if n1 = (-8) then some (n2 + n3) else if n2 ≤ n3 then some n3 else some n2
def rm_X1_joined : Room := { frames := 0, cells := 0, slots := 0, locals := 0 }
set_option maxRecDepth 100000 in
set_option maxHeartbeats 4000000 in
theorem t_X1_joined {J : Jt}  {n1 : Int32} {n2 : Int32} {n3 : Int32} {r : Int32} (h : f_X1_joined n1 n2 n3 = some r) : Mt J yX1_joined cX1_joined 3 (some .int) rm_X1_joined [.int n1, .int n2, .int n3] ([]) (some (.int r)) ([]) := by
  refine Mt_of (own := RX1) (by decide) rfl (Nat.le_of_ble_eq_true rfl) rfl (fun Z C E => ?_)
  unfold f_X1_joined at h
  show G J Z 0 0 ([]) 3 [(0, .int n1), (1, .int n2), (2, .int n3)] 0 []
  refine g_iload_n (pc := 0) C 0 rfl dX1_joined_0 ?_
  rcases ite_of h with ⟨hc, h⟩ | ⟨hnm13, h⟩
  · refine g_tsIn (pc := 1) C (tgt := 76) dX1_joined_1 (by rw [hc]; decide) (by rw [hc]; decide) (by rw [hc]; rfl) rfl ?_
    refine g_iload_n (pc := 76) C 1 rfl dX1_joined_76 ?_
    refine g_iload_n (pc := 77) C 2 rfl dX1_joined_77 ?_
    refine g_icmp_ge (pc := 78) C (tgt := 85) dX1_joined_78 rfl h (fun h => ?_) (fun h => ?_)
    · refine g_iload_n (pc := 85) C 2 rfl dX1_joined_85 ?_
      cases h
      exact g_iret C E dX1_joined_86
    · refine g_iload_n (pc := 81) C 1 rfl dX1_joined_81 ?_
      refine g_goto (pc := 82) C (tgt := 86) dX1_joined_82 rfl ?_
      cases h
      exact g_iret C E dX1_joined_86
  rcases ite_of h with ⟨hc, h⟩ | ⟨hnm12, h⟩
  · refine g_tsIn (pc := 1) C (tgt := 64) dX1_joined_1 (by rw [hc]; decide) (by rw [hc]; decide) (by rw [hc]; rfl) rfl ?_
    refine g_iload_n (pc := 64) C 2 rfl dX1_joined_64 ?_
    refine g_if_ne (pc := 65) C (tgt := 72) dX1_joined_65 rfl h (fun h => ?_) (fun h => ?_)
    · refine g_iload_n (pc := 72) C 1 rfl dX1_joined_72 ?_
      refine g_iload_n (pc := 73) C 2 rfl dX1_joined_73 ?_
      obtain ⟨hz, h⟩ := nz_of h
      refine g_irem (pc := 74) C dX1_joined_74 hz ?_
      cases h
      exact g_iret C E dX1_joined_75
    · refine g_iconst (pc := 68) C dX1_joined_68 ci_0 ?_
      refine g_goto (pc := 69) C (tgt := 75) dX1_joined_69 rfl ?_
      cases h
      exact g_iret C E dX1_joined_75
  rcases ite_of h with ⟨hc, h⟩ | ⟨hnm11, h⟩
  · refine g_tsIn (pc := 1) C (tgt := 52) dX1_joined_1 (by rw [hc]; decide) (by rw [hc]; decide) (by rw [hc]; rfl) rfl ?_
    refine g_iload_n (pc := 52) C 2 rfl dX1_joined_52 ?_
    refine g_if_ne (pc := 53) C (tgt := 60) dX1_joined_53 rfl h (fun h => ?_) (fun h => ?_)
    · refine g_iload_n (pc := 60) C 1 rfl dX1_joined_60 ?_
      refine g_iload_n (pc := 61) C 2 rfl dX1_joined_61 ?_
      obtain ⟨hz, h⟩ := nz_of h
      refine g_idiv (pc := 62) C dX1_joined_62 hz ?_
      cases h
      exact g_iret C E dX1_joined_63
    · refine g_iconst (pc := 56) C dX1_joined_56 ci_0 ?_
      refine g_goto (pc := 57) C (tgt := 63) dX1_joined_57 rfl ?_
      cases h
      exact g_iret C E dX1_joined_63
  rcases ite_of h with ⟨hc, h⟩ | ⟨hnm10, h⟩
  · refine g_tsIn (pc := 1) C (tgt := 48) dX1_joined_1 (by rw [hc]; decide) (by rw [hc]; decide) (by rw [hc]; rfl) rfl ?_
    refine g_iload_n (pc := 48) C 1 rfl dX1_joined_48 ?_
    refine g_iload_n (pc := 49) C 2 rfl dX1_joined_49 ?_
    refine g_imul (pc := 50) C dX1_joined_50 ?_
    cases h
    exact g_iret C E dX1_joined_51
  rcases ite_of h with ⟨hc, h⟩ | ⟨hnm9, h⟩
  · refine g_tsIn (pc := 1) C (tgt := 44) dX1_joined_1 (by rw [hc]; decide) (by rw [hc]; decide) (by rw [hc]; rfl) rfl ?_
    refine g_iload_n (pc := 44) C 1 rfl dX1_joined_44 ?_
    refine g_iload_n (pc := 45) C 2 rfl dX1_joined_45 ?_
    refine g_isub (pc := 46) C dX1_joined_46 ?_
    cases h
    exact g_iret C E dX1_joined_47
  rcases ite_of h with ⟨hc, h⟩ | ⟨hnm8, h⟩
  · refine g_tsIn (pc := 1) C (tgt := 40) dX1_joined_1 (by rw [hc]; decide) (by rw [hc]; decide) (by rw [hc]; rfl) rfl ?_
    refine g_iload_n (pc := 40) C 1 rfl dX1_joined_40 ?_
    refine g_iload_n (pc := 41) C 2 rfl dX1_joined_41 ?_
    refine g_iadd (pc := 42) C dX1_joined_42 ?_
    cases h
    exact g_iret C E dX1_joined_43
  have hqm13 := lv_neT hnm13 (a := -13) (by decide)
  have hqm12 := lv_neT hnm12 (a := -12) (by decide)
  have hqm11 := lv_neT hnm11 (a := -11) (by decide)
  have hqm10 := lv_neT hnm10 (a := -10) (by decide)
  have hqm9 := lv_neT hnm9 (a := -9) (by decide)
  have hqm8 := lv_neT hnm8 (a := -8) (by decide)
  refine g_tsOut (pc := 1) C (tgt := 87) dX1_joined_1 (by omega) rfl ?_
  refine g_iload_n (pc := 87) C 1 rfl dX1_joined_87 ?_
  refine g_iload_n (pc := 88) C 2 rfl dX1_joined_88 ?_
  refine g_icmp_le (pc := 89) C (tgt := 96) dX1_joined_89 rfl h (fun h => ?_) (fun h => ?_)
  · refine g_iload_n (pc := 96) C 2 rfl dX1_joined_96 ?_
    cases h
    exact g_iret C E dX1_joined_97
  · refine g_iload_n (pc := 92) C 1 rfl dX1_joined_92 ?_
    refine g_goto (pc := 93) C (tgt := 97) dX1_joined_93 rfl ?_
    cases h
    exact g_iret C E dX1_joined_97
noncomputable def f_X1_tells_177 (l_code : Nat → Int32) (l_length : Int32) (n1 : Int32) (n2 : Int32) (n3 : Int32) (n4 : Int32) (n5 : Int32) (n6 : Int32) (n7 : Int32) (l_values : Nat → Int32) (l_stack : Nat → Int32) : Option (Int32 × (Nat → Int32) × (Nat → Int32)) := if ixb 0 32 then if 0 ≤ (l_stack (0 : Int32).toNatClampNeg) then if ixb 0 32 then if (l_stack (0 : Int32).toNatClampNeg) ≤ 8 then if ixb 0 32 then some (l_stack (0 : Int32).toNatClampNeg, l_values, l_stack) else none else some (8, l_values, l_stack) else none else some (0, l_values, l_stack) else none
noncomputable def f_X1_tells_60 (l_code : Nat → Int32) (l_length : Int32) (n1 : Int32) (n2 : Int32) (n3 : Int32) (n4 : Int32) (n5 : Int32) (n6 : Int32) (n7 : Int32) : Nat → Int32 → Int32 → (Nat → Int32) → (Nat → Int32) → Option (Int32 × (Nat → Int32) × (Nat → Int32))
  | 0, _, _, _, _ => none
  | n + 1, x8, x9, l_values, l_stack => if l_length ≤ x9 then f_X1_tells_177 l_code l_length n1 n2 n3 n4 n5 n6 n7 l_values l_stack else if 150 ≤ x9 then f_X1_tells_177 l_code l_length n1 n2 n3 n4 n5 n6 n7 l_values l_stack else if ixb x9 150 then if (l_code x9.toNatClampNeg) < (-7) then if x8 < 2 then f_X1_tells_60 l_code l_length n1 n2 n3 n4 n5 n6 n7 n x8 (x9 + 1) l_values l_stack else if ixb ((x8 + (-1)) - 1) 32 then if ixb (x8 + (-1)) 32 then b1 (f_X1_joined (l_code x9.toNatClampNeg) (l_stack ((x8 + (-1)) - 1).toNatClampNeg) (l_stack (x8 + (-1)).toNatClampNeg)) (fun v1 => if ixb ((x8 + (-1)) - 1) 32 then f_X1_tells_60 l_code l_length n1 n2 n3 n4 n5 n6 n7 n (x8 + (-1)) (x9 + 1) l_values (upd l_stack ((x8 + (-1)) - 1).toNatClampNeg v1) else none) else none else none else if 32 ≤ x8 then f_X1_tells_60 l_code l_length n1 n2 n3 n4 n5 n6 n7 n x8 (x9 + 1) l_values l_stack else if (l_code x9.toNatClampNeg) < 0 then if ixb ((-1) - (l_code x9.toNatClampNeg)) 7 then if ixb x8 32 then f_X1_tells_60 l_code l_length n1 n2 n3 n4 n5 n6 n7 n (x8 + 1) (x9 + 1) l_values (upd l_stack x8.toNatClampNeg (l_values ((-1) - (l_code x9.toNatClampNeg)).toNatClampNeg)) else none else none else if ixb x8 32 then f_X1_tells_60 l_code l_length n1 n2 n3 n4 n5 n6 n7 n (x8 + 1) (x9 + 1) l_values (upd l_stack x8.toNatClampNeg (l_code x9.toNatClampNeg)) else none else none
noncomputable def f_X1_tells (l_code : Nat → Int32) (l_values : Nat → Int32) (l_stack : Nat → Int32) (l_length : Int32) (n1 : Int32) (n2 : Int32) (n3 : Int32) (n4 : Int32) (n5 : Int32) (n6 : Int32) (n7 : Int32) : Option (Int32 × (Nat → Int32) × (Nat → Int32)) := if ixb 0 7 then if ixb 1 7 then if ixb 2 7 then if ixb 3 7 then if ixb 4 7 then if ixb 5 7 then if ixb 6 7 then f_X1_tells_60 l_code l_length n1 n2 n3 n4 n5 n6 n7 FU 0 0 (upd (upd (upd (upd (upd (upd (upd l_values (0 : Int32).toNatClampNeg n1) (1 : Int32).toNatClampNeg n2) (2 : Int32).toNatClampNeg n3) (3 : Int32).toNatClampNeg n4) (4 : Int32).toNatClampNeg n5) (5 : Int32).toNatClampNeg n6) (6 : Int32).toNatClampNeg n7) l_stack else none else none else none else none else none else none else none
def rm_X1_tells : Room := { frames := 1, cells := 0, slots := 0, locals := 22 }
set_option maxRecDepth 100000 in
set_option maxHeartbeats 4000000 in
theorem j_X1_tells_177 {J : Jt} {Z : Zt} {a0 : Nat → Nat} {l_code : Nat → Int32} {l_length : Int32} {n1 : Int32} {n2 : Int32} {n3 : Int32} {n4 : Int32} {n5 : Int32} {n6 : Int32} {n7 : Int32} {r : Int32} {o_l_values : Nat → Int32} {o_l_stack : Nat → Int32} (C : Cx J Z cX1_tells 11 RX1 (some .int) rm_X1_tells) (E : Ez J Z 0 0 (some (.int r)) (cs_X1 J.2.2.1 a0 l_code o_l_values o_l_stack l_length)) : ∀ (l_values : Nat → Int32) (l_stack : Nat → Int32), f_X1_tells_177 l_code l_length n1 n2 n3 n4 n5 n6 n7 l_values l_stack = some (r, o_l_values, o_l_stack) → G J Z 0 0 (cs_X1 J.2.2.1 a0 l_code l_values l_stack l_length) 11 [(0, .ref (a0 0))] 177 [] := by
  intro l_values l_stack h
  unfold f_X1_tells_177 at h
  refine g_aload_n (pc := 177) C 0 rfl dX1_tells_177 ?_
  refine g_get (pc := 178) C FOK_X1 0 rfl rfl 2 (by decide) kw_337 rfl dX1_tells_178 ?_
  refine g_iconst (pc := 181) C dX1_tells_181 ci_0 ?_
  obtain ⟨hi, h⟩ := ix_of h
  refine g_iald (pc := 182) C 3 rfl hi dX1_tells_182 ?_
  refine g_if_ge (pc := 183) C (tgt := 190) dX1_tells_183 rfl h (fun h => ?_) (fun h => ?_)
  · refine g_aload_n (pc := 190) C 0 rfl dX1_tells_190 ?_
    refine g_get (pc := 191) C FOK_X1 0 rfl rfl 2 (by decide) kw_337 rfl dX1_tells_191 ?_
    refine g_iconst (pc := 194) C dX1_tells_194 ci_0 ?_
    obtain ⟨hi, h⟩ := ix_of h
    refine g_iald (pc := 195) C 3 rfl hi dX1_tells_195 ?_
    refine g_bipush (pc := 196) C dX1_tells_196 cb_8 ?_
    refine g_icmp_le (pc := 198) C (tgt := 206) dX1_tells_198 rfl h (fun h => ?_) (fun h => ?_)
    · refine g_aload_n (pc := 206) C 0 rfl dX1_tells_206 ?_
      refine g_get (pc := 207) C FOK_X1 0 rfl rfl 2 (by decide) kw_337 rfl dX1_tells_207 ?_
      refine g_iconst (pc := 210) C dX1_tells_210 ci_0 ?_
      obtain ⟨hi, h⟩ := ix_of h
      refine g_iald (pc := 211) C 3 rfl hi dX1_tells_211 ?_
      cases h
      exact g_iret C E dX1_tells_212
    · refine g_bipush (pc := 201) C dX1_tells_201 cb_8 ?_
      refine g_goto (pc := 203) C (tgt := 212) dX1_tells_203 rfl ?_
      cases h
      exact g_iret C E dX1_tells_212
  · refine g_iconst (pc := 186) C dX1_tells_186 ci_0 ?_
    refine g_goto (pc := 187) C (tgt := 212) dX1_tells_187 rfl ?_
    cases h
    exact g_iret C E dX1_tells_212
set_option maxRecDepth 100000 in
set_option maxHeartbeats 4000000 in
theorem j_X1_tells_60 {J : Jt} {Z : Zt} {a0 : Nat → Nat} {l_code : Nat → Int32} {l_length : Int32} {n1 : Int32} {n2 : Int32} {n3 : Int32} {n4 : Int32} {n5 : Int32} {n6 : Int32} {n7 : Int32} {r : Int32} {o_l_values : Nat → Int32} {o_l_stack : Nat → Int32} (C : Cx J Z cX1_tells 11 RX1 (some .int) rm_X1_tells) (E : Ez J Z 0 0 (some (.int r)) (cs_X1 J.2.2.1 a0 l_code o_l_values o_l_stack l_length)) : ∀ (n : Nat) (x8 : Int32) (x9 : Int32) (l_values : Nat → Int32) (l_stack : Nat → Int32), f_X1_tells_60 l_code l_length n1 n2 n3 n4 n5 n6 n7 n x8 x9 l_values l_stack = some (r, o_l_values, o_l_stack) → G J Z 0 0 (cs_X1 J.2.2.1 a0 l_code l_values l_stack l_length) 11 [(0, .ref (a0 0)), (8, .int x8), (9, .int x9)] 60 [] := by
  intro n
  induction n with
  | zero =>
    intro x8 x9 l_values l_stack h
    rw [f_X1_tells_60] at h
    cases h
  | succ n ih =>
    intro x8 x9 l_values l_stack h
    rw [f_X1_tells_60] at h
    refine g_iload (pc := 60) C 2 rfl dX1_tells_60 ?_
    refine g_aload_n (pc := 62) C 0 rfl dX1_tells_62 ?_
    refine g_get (pc := 63) C FOK_X1 0 rfl rfl 3 (by decide) kw_338 rfl dX1_tells_63 ?_
    refine g_icmp_ge (pc := 66) C (tgt := 177) dX1_tells_66 rfl h (fun h => ?_) (fun h => ?_)
    · refine g_lv [0] rfl ?_
      exact j_X1_tells_177 C E  l_values l_stack h
    · refine g_iload (pc := 69) C 2 rfl dX1_tells_69 ?_
      refine g_sipush (pc := 71) C dX1_tells_71 cs_150 ?_
      refine g_icmp_ge (pc := 74) C (tgt := 177) dX1_tells_74 rfl h (fun h => ?_) (fun h => ?_)
      · refine g_lv [0] rfl ?_
        exact j_X1_tells_177 C E  l_values l_stack h
      · refine g_aload_n (pc := 77) C 0 rfl dX1_tells_77 ?_
        refine g_get (pc := 78) C FOK_X1 0 rfl rfl 0 (by decide) kw_335 rfl dX1_tells_78 ?_
        refine g_iload (pc := 81) C 2 rfl dX1_tells_81 ?_
        obtain ⟨hi, h⟩ := ix_of h
        refine g_iald (pc := 83) C 1 rfl hi dX1_tells_83 ?_
        refine g_istore (pc := 84) C [(10, .int (l_code x9.toNatClampNeg)), (0, .ref (a0 0)), (8, .int x8), (9, .int x9)] dX1_tells_84 (by decide) rfl ?_
        refine g_iload (pc := 86) C 0 rfl dX1_tells_86 ?_
        refine g_bipush (pc := 88) C dX1_tells_88 cb_m7 ?_
        refine g_icmp_lt (pc := 90) C (tgt := 132) dX1_tells_90 rfl h (fun h => ?_) (fun h => ?_)
        · refine g_iload (pc := 132) C 2 rfl dX1_tells_132 ?_
          refine g_iconst (pc := 134) C dX1_tells_134 ci_2 ?_
          refine g_icmp_lt (pc := 135) C (tgt := 171) dX1_tells_135 rfl h (fun h => ?_) (fun h => ?_)
          · refine g_iinc (pc := 171) C (j := 3) [(9, .int (x9 + 1)), (10, .int (l_code x9.toNatClampNeg)), (0, .ref (a0 0)), (8, .int x8)] dX1_tells_171 rfl (ii_1 _) (by decide) rfl ?_
            refine g_goto (pc := 174) C (tgt := 60) dX1_tells_174 rfl ?_
            refine g_lv [2, 3, 0] rfl ?_
            exact ih x8 (x9 + 1) l_values l_stack h
          · refine g_iinc (pc := 138) C (j := 2) [(8, .int (x8 + (-1))), (10, .int (l_code x9.toNatClampNeg)), (0, .ref (a0 0)), (9, .int x9)] dX1_tells_138 rfl (ii_m1 _) (by decide) rfl ?_
            refine g_aload_n (pc := 141) C 2 rfl dX1_tells_141 ?_
            refine g_get (pc := 142) C FOK_X1 0 rfl rfl 2 (by decide) kw_337 rfl dX1_tells_142 ?_
            refine g_iload (pc := 145) C 0 rfl dX1_tells_145 ?_
            refine g_iconst (pc := 147) C dX1_tells_147 ci_1 ?_
            refine g_isub (pc := 148) C dX1_tells_148 ?_
            refine g_iload (pc := 149) C 1 rfl dX1_tells_149 ?_
            refine g_aload_n (pc := 151) C 2 rfl dX1_tells_151 ?_
            refine g_get (pc := 152) C FOK_X1 0 rfl rfl 2 (by decide) kw_337 rfl dX1_tells_152 ?_
            refine g_iload (pc := 155) C 0 rfl dX1_tells_155 ?_
            refine g_iconst (pc := 157) C dX1_tells_157 ci_1 ?_
            refine g_isub (pc := 158) C dX1_tells_158 ?_
            obtain ⟨hi, h⟩ := ix_of h
            refine g_iald (pc := 159) C 3 rfl hi dX1_tells_159 ?_
            refine g_aload_n (pc := 160) C 2 rfl dX1_tells_160 ?_
            refine g_get (pc := 161) C FOK_X1 0 rfl rfl 2 (by decide) kw_337 rfl dX1_tells_161 ?_
            refine g_iload (pc := 164) C 0 rfl dX1_tells_164 ?_
            obtain ⟨hi, h⟩ := ix_of h
            refine g_iald (pc := 166) C 3 rfl hi dX1_tells_166 ?_
            obtain ⟨v1, hc, h⟩ := b1_of h
            refine g_callS (pc := 167) C (w' := cs_X1 J.2.2.1 a0 l_code l_values l_stack l_length) (As := [.int (l_code x9.toNatClampNeg), .int (l_stack ((x8 + (-1)) - 1).toNatClampNeg), .int (l_stack (x8 + (-1)).toNatClampNeg)]) (st := [.int ((x8 + (-1)) - 1), .ref (a0 3)]) (t_X1_joined hc) Sub.nil kw_903 kw_904 kw_93 hy_X1_joined kw_905 rfl (Nat.le_of_ble_eq_true rfl) (Nat.le_of_ble_eq_true rfl) (Nat.le_of_ble_eq_true rfl) (Nat.le_of_ble_eq_true rfl) (Nat.le_of_ble_eq_true rfl) dX1_tells_167 ?_
            obtain ⟨hi, h⟩ := ix_of h
            refine g_iast (pc := 170) C (w' := cs_X1 J.2.2.1 a0 l_code l_values (upd l_stack ((x8 + (-1)) - 1).toNatClampNeg v1) l_length) 3 rfl hi dX1_tells_170 rfl ?_
            refine g_iinc (pc := 171) C (j := 3) [(9, .int (x9 + 1)), (8, .int (x8 + (-1))), (10, .int (l_code x9.toNatClampNeg)), (0, .ref (a0 0))] dX1_tells_171 rfl (ii_1 _) (by decide) rfl ?_
            refine g_goto (pc := 174) C (tgt := 60) dX1_tells_174 rfl ?_
            refine g_lv [3, 1, 0] rfl ?_
            exact ih (x8 + (-1)) (x9 + 1) l_values (upd l_stack ((x8 + (-1)) - 1).toNatClampNeg v1) h
        · refine g_iload (pc := 93) C 2 rfl dX1_tells_93 ?_
          refine g_bipush (pc := 95) C dX1_tells_95 cb_32 ?_
          refine g_icmp_ge (pc := 97) C (tgt := 171) dX1_tells_97 rfl h (fun h => ?_) (fun h => ?_)
          · refine g_iinc (pc := 171) C (j := 3) [(9, .int (x9 + 1)), (10, .int (l_code x9.toNatClampNeg)), (0, .ref (a0 0)), (8, .int x8)] dX1_tells_171 rfl (ii_1 _) (by decide) rfl ?_
            refine g_goto (pc := 174) C (tgt := 60) dX1_tells_174 rfl ?_
            refine g_lv [2, 3, 0] rfl ?_
            exact ih x8 (x9 + 1) l_values l_stack h
          · refine g_aload_n (pc := 100) C 1 rfl dX1_tells_100 ?_
            refine g_get (pc := 101) C FOK_X1 0 rfl rfl 2 (by decide) kw_337 rfl dX1_tells_101 ?_
            refine g_iload (pc := 104) C 2 rfl dX1_tells_104 ?_
            refine g_iload (pc := 106) C 0 rfl dX1_tells_106 ?_
            refine g_if_lt (pc := 108) C (tgt := 116) dX1_tells_108 rfl h (fun h => ?_) (fun h => ?_)
            · refine g_aload_n (pc := 116) C 1 rfl dX1_tells_116 ?_
              refine g_get (pc := 117) C FOK_X1 0 rfl rfl 1 (by decide) kw_336 rfl dX1_tells_117 ?_
              refine g_iconst (pc := 120) C dX1_tells_120 ci_m1 ?_
              refine g_iload (pc := 121) C 0 rfl dX1_tells_121 ?_
              refine g_isub (pc := 123) C dX1_tells_123 ?_
              obtain ⟨hi, h⟩ := ix_of h
              refine g_iald (pc := 124) C 2 rfl hi dX1_tells_124 ?_
              obtain ⟨hi, h⟩ := ix_of h
              refine g_iast (pc := 125) C (w' := cs_X1 J.2.2.1 a0 l_code l_values (upd l_stack x8.toNatClampNeg (l_values ((-1) - (l_code x9.toNatClampNeg)).toNatClampNeg)) l_length) 3 rfl hi dX1_tells_125 rfl ?_
              refine g_iinc (pc := 126) C (j := 2) [(8, .int (x8 + 1)), (10, .int (l_code x9.toNatClampNeg)), (0, .ref (a0 0)), (9, .int x9)] dX1_tells_126 rfl (ii_1 _) (by decide) rfl ?_
              refine g_goto (pc := 129) C (tgt := 171) dX1_tells_129 rfl ?_
              refine g_iinc (pc := 171) C (j := 3) [(9, .int (x9 + 1)), (8, .int (x8 + 1)), (10, .int (l_code x9.toNatClampNeg)), (0, .ref (a0 0))] dX1_tells_171 rfl (ii_1 _) (by decide) rfl ?_
              refine g_goto (pc := 174) C (tgt := 60) dX1_tells_174 rfl ?_
              refine g_lv [3, 1, 0] rfl ?_
              exact ih (x8 + 1) (x9 + 1) l_values (upd l_stack x8.toNatClampNeg (l_values ((-1) - (l_code x9.toNatClampNeg)).toNatClampNeg)) h
            · refine g_iload (pc := 111) C 0 rfl dX1_tells_111 ?_
              refine g_goto (pc := 113) C (tgt := 125) dX1_tells_113 rfl ?_
              obtain ⟨hi, h⟩ := ix_of h
              refine g_iast (pc := 125) C (w' := cs_X1 J.2.2.1 a0 l_code l_values (upd l_stack x8.toNatClampNeg (l_code x9.toNatClampNeg)) l_length) 3 rfl hi dX1_tells_125 rfl ?_
              refine g_iinc (pc := 126) C (j := 2) [(8, .int (x8 + 1)), (10, .int (l_code x9.toNatClampNeg)), (0, .ref (a0 0)), (9, .int x9)] dX1_tells_126 rfl (ii_1 _) (by decide) rfl ?_
              refine g_goto (pc := 129) C (tgt := 171) dX1_tells_129 rfl ?_
              refine g_iinc (pc := 171) C (j := 3) [(9, .int (x9 + 1)), (8, .int (x8 + 1)), (10, .int (l_code x9.toNatClampNeg)), (0, .ref (a0 0))] dX1_tells_171 rfl (ii_1 _) (by decide) rfl ?_
              refine g_goto (pc := 174) C (tgt := 60) dX1_tells_174 rfl ?_
              refine g_lv [3, 1, 0] rfl ?_
              exact ih (x8 + 1) (x9 + 1) l_values (upd l_stack x8.toNatClampNeg (l_code x9.toNatClampNeg)) h
set_option maxRecDepth 100000 in
set_option maxHeartbeats 4000000 in
theorem t_X1_tells {J : Jt} {a0 : Nat → Nat} {l_code : Nat → Int32} {l_values : Nat → Int32} {l_stack : Nat → Int32} {l_length : Int32} {n1 : Int32} {n2 : Int32} {n3 : Int32} {n4 : Int32} {n5 : Int32} {n6 : Int32} {n7 : Int32} {r : Int32} {o_l_values : Nat → Int32} {o_l_stack : Nat → Int32} (h : f_X1_tells l_code l_values l_stack l_length n1 n2 n3 n4 n5 n6 n7 = some (r, o_l_values, o_l_stack)) : Mt J yX1_tells cX1_tells 11 (some .int) rm_X1_tells [.ref (a0 0), .int n1, .int n2, .int n3, .int n4, .int n5, .int n6, .int n7] (cs_X1 J.2.2.1 a0 l_code l_values l_stack l_length) (some (.int r)) (cs_X1 J.2.2.1 a0 l_code o_l_values o_l_stack l_length) := by
  refine Mt_of (own := RX1) (by decide) rfl (Nat.le_of_ble_eq_true rfl) rfl (fun Z C E => ?_)
  unfold f_X1_tells at h
  show G J Z 0 0 (cs_X1 J.2.2.1 a0 l_code l_values l_stack l_length) 11 [(0, .ref (a0 0)), (1, .int n1), (2, .int n2), (3, .int n3), (4, .int n4), (5, .int n5), (6, .int n6), (7, .int n7)] 0 []
  refine g_aload_n (pc := 0) C 0 rfl dX1_tells_0 ?_
  refine g_get (pc := 1) C FOK_X1 0 rfl rfl 1 (by decide) kw_336 rfl dX1_tells_1 ?_
  refine g_iconst (pc := 4) C dX1_tells_4 ci_0 ?_
  refine g_iload_n (pc := 5) C 1 rfl dX1_tells_5 ?_
  obtain ⟨hi, h⟩ := ix_of h
  refine g_iast (pc := 6) C (w' := cs_X1 J.2.2.1 a0 l_code (upd l_values (0 : Int32).toNatClampNeg n1) l_stack l_length) 2 rfl hi dX1_tells_6 rfl ?_
  refine g_aload_n (pc := 7) C 0 rfl dX1_tells_7 ?_
  refine g_get (pc := 8) C FOK_X1 0 rfl rfl 1 (by decide) kw_336 rfl dX1_tells_8 ?_
  refine g_iconst (pc := 11) C dX1_tells_11 ci_1 ?_
  refine g_iload_n (pc := 12) C 2 rfl dX1_tells_12 ?_
  obtain ⟨hi, h⟩ := ix_of h
  refine g_iast (pc := 13) C (w' := cs_X1 J.2.2.1 a0 l_code (upd (upd l_values (0 : Int32).toNatClampNeg n1) (1 : Int32).toNatClampNeg n2) l_stack l_length) 2 rfl hi dX1_tells_13 rfl ?_
  refine g_aload_n (pc := 14) C 0 rfl dX1_tells_14 ?_
  refine g_get (pc := 15) C FOK_X1 0 rfl rfl 1 (by decide) kw_336 rfl dX1_tells_15 ?_
  refine g_iconst (pc := 18) C dX1_tells_18 ci_2 ?_
  refine g_iload_n (pc := 19) C 3 rfl dX1_tells_19 ?_
  obtain ⟨hi, h⟩ := ix_of h
  refine g_iast (pc := 20) C (w' := cs_X1 J.2.2.1 a0 l_code (upd (upd (upd l_values (0 : Int32).toNatClampNeg n1) (1 : Int32).toNatClampNeg n2) (2 : Int32).toNatClampNeg n3) l_stack l_length) 2 rfl hi dX1_tells_20 rfl ?_
  refine g_aload_n (pc := 21) C 0 rfl dX1_tells_21 ?_
  refine g_get (pc := 22) C FOK_X1 0 rfl rfl 1 (by decide) kw_336 rfl dX1_tells_22 ?_
  refine g_iconst (pc := 25) C dX1_tells_25 ci_3 ?_
  refine g_iload (pc := 26) C 4 rfl dX1_tells_26 ?_
  obtain ⟨hi, h⟩ := ix_of h
  refine g_iast (pc := 28) C (w' := cs_X1 J.2.2.1 a0 l_code (upd (upd (upd (upd l_values (0 : Int32).toNatClampNeg n1) (1 : Int32).toNatClampNeg n2) (2 : Int32).toNatClampNeg n3) (3 : Int32).toNatClampNeg n4) l_stack l_length) 2 rfl hi dX1_tells_28 rfl ?_
  refine g_aload_n (pc := 29) C 0 rfl dX1_tells_29 ?_
  refine g_get (pc := 30) C FOK_X1 0 rfl rfl 1 (by decide) kw_336 rfl dX1_tells_30 ?_
  refine g_iconst (pc := 33) C dX1_tells_33 ci_4 ?_
  refine g_iload (pc := 34) C 5 rfl dX1_tells_34 ?_
  obtain ⟨hi, h⟩ := ix_of h
  refine g_iast (pc := 36) C (w' := cs_X1 J.2.2.1 a0 l_code (upd (upd (upd (upd (upd l_values (0 : Int32).toNatClampNeg n1) (1 : Int32).toNatClampNeg n2) (2 : Int32).toNatClampNeg n3) (3 : Int32).toNatClampNeg n4) (4 : Int32).toNatClampNeg n5) l_stack l_length) 2 rfl hi dX1_tells_36 rfl ?_
  refine g_aload_n (pc := 37) C 0 rfl dX1_tells_37 ?_
  refine g_get (pc := 38) C FOK_X1 0 rfl rfl 1 (by decide) kw_336 rfl dX1_tells_38 ?_
  refine g_iconst (pc := 41) C dX1_tells_41 ci_5 ?_
  refine g_iload (pc := 42) C 6 rfl dX1_tells_42 ?_
  obtain ⟨hi, h⟩ := ix_of h
  refine g_iast (pc := 44) C (w' := cs_X1 J.2.2.1 a0 l_code (upd (upd (upd (upd (upd (upd l_values (0 : Int32).toNatClampNeg n1) (1 : Int32).toNatClampNeg n2) (2 : Int32).toNatClampNeg n3) (3 : Int32).toNatClampNeg n4) (4 : Int32).toNatClampNeg n5) (5 : Int32).toNatClampNeg n6) l_stack l_length) 2 rfl hi dX1_tells_44 rfl ?_
  refine g_aload_n (pc := 45) C 0 rfl dX1_tells_45 ?_
  refine g_get (pc := 46) C FOK_X1 0 rfl rfl 1 (by decide) kw_336 rfl dX1_tells_46 ?_
  refine g_bipush (pc := 49) C dX1_tells_49 cb_6 ?_
  refine g_iload (pc := 51) C 7 rfl dX1_tells_51 ?_
  obtain ⟨hi, h⟩ := ix_of h
  refine g_iast (pc := 53) C (w' := cs_X1 J.2.2.1 a0 l_code (upd (upd (upd (upd (upd (upd (upd l_values (0 : Int32).toNatClampNeg n1) (1 : Int32).toNatClampNeg n2) (2 : Int32).toNatClampNeg n3) (3 : Int32).toNatClampNeg n4) (4 : Int32).toNatClampNeg n5) (5 : Int32).toNatClampNeg n6) (6 : Int32).toNatClampNeg n7) l_stack l_length) 2 rfl hi dX1_tells_53 rfl ?_
  refine g_iconst (pc := 54) C dX1_tells_54 ci_0 ?_
  refine g_istore (pc := 55) C [(8, .int 0), (0, .ref (a0 0)), (1, .int n1), (2, .int n2), (3, .int n3), (4, .int n4), (5, .int n5), (6, .int n6), (7, .int n7)] dX1_tells_55 (by decide) rfl ?_
  refine g_iconst (pc := 57) C dX1_tells_57 ci_0 ?_
  refine g_istore (pc := 58) C [(9, .int 0), (8, .int 0), (0, .ref (a0 0)), (1, .int n1), (2, .int n2), (3, .int n3), (4, .int n4), (5, .int n5), (6, .int n6), (7, .int n7)] dX1_tells_58 (by decide) rfl ?_
  refine g_lv [2, 1, 0] rfl ?_
  exact j_X1_tells_60 C E  FU 0 0 (upd (upd (upd (upd (upd (upd (upd l_values (0 : Int32).toNatClampNeg n1) (1 : Int32).toNatClampNeg n2) (2 : Int32).toNatClampNeg n3) (3 : Int32).toNatClampNeg n4) (4 : Int32).toNatClampNeg n5) (5 : Int32).toNatClampNeg n6) (6 : Int32).toNatClampNeg n7) l_stack h
noncomputable def f_X2_readBed (p_beds : Int32) (p_far : Nat → Int32) (t_bytes : Nat → Int32) (t_end : Int32) (t_at : Int32) (t_start : Int32) (t_faultKind : Int32) (t_faultPlace : Int32) : Option (Int32 × (Nat → Int32) × Int32 × Int32 × Int32 × Int32) := if p_beds < 6 then b5 (f_X7_number t_bytes t_end t_at t_start t_faultKind t_faultPlace 0 30) (fun v1 c2 c3 c4 c5 => if ixb p_beds 6 then some (p_beds + 1, upd p_far p_beds.toNatClampNeg v1, c2, c3, c4, c5) else none) else b2 (f_X7_blame t_start t_faultKind t_faultPlace 3) (fun c6 c7 => some (p_beds, p_far, t_at, t_start, c6, c7))
def rm_X2_readBed : Room := { frames := 2, cells := 0, slots := 0, locals := 63 }
set_option maxRecDepth 100000 in
set_option maxHeartbeats 4000000 in
theorem t_X2_readBed {J : Jt} {a0 : Nat → Nat} {a1 : Nat → Nat} {p_beds : Int32} {p_letters : Int32} {p_readers : Int32} {p_far : Nat → Int32} {p_drain : Nat → Int32} {p_length : Nat → Int32} {p_words : Nat → Int32} {p_home : Nat → Int32} {t_bytes : Nat → Int32} {t_held : Int32} {t_end : Int32} {t_at : Int32} {t_start : Int32} {t_faultKind : Int32} {t_faultPlace : Int32} {o_p_beds : Int32} {o_p_far : Nat → Int32} {o_t_at : Int32} {o_t_start : Int32} {o_t_faultKind : Int32} {o_t_faultPlace : Int32} (h : f_X2_readBed p_beds p_far t_bytes t_end t_at t_start t_faultKind t_faultPlace = some (o_p_beds, o_p_far, o_t_at, o_t_start, o_t_faultKind, o_t_faultPlace)) : Mt J yX2_readBed cX2_readBed 2 none rm_X2_readBed [.ref (a0 0), .ref (a1 0)] (cs_X2 J.2.2.1 a0 p_beds p_letters p_readers p_far p_drain p_length p_words p_home ++ cs_X7 J.2.2.1 a1 t_bytes t_held t_end t_at t_start t_faultKind t_faultPlace) none (cs_X2 J.2.2.1 a0 o_p_beds p_letters p_readers o_p_far p_drain p_length p_words p_home ++ cs_X7 J.2.2.1 a1 t_bytes t_held t_end o_t_at o_t_start o_t_faultKind o_t_faultPlace) := by
  refine Mt_of (own := RX2) (by decide) rfl (Nat.le_of_ble_eq_true rfl) rfl (fun Z C E => ?_)
  unfold f_X2_readBed at h
  show G J Z 0 0 (cs_X2 J.2.2.1 a0 p_beds p_letters p_readers p_far p_drain p_length p_words p_home ++ cs_X7 J.2.2.1 a1 t_bytes t_held t_end t_at t_start t_faultKind t_faultPlace) 2 [(0, .ref (a0 0)), (1, .ref (a1 0))] 0 []
  refine g_aload_n (pc := 0) C 0 rfl dX2_readBed_0 ?_
  refine g_get (pc := 1) C FOK_X2 0 rfl rfl 0 (by decide) kw_275 rfl dX2_readBed_1 ?_
  refine g_bipush (pc := 4) C dX2_readBed_4 cb_6 ?_
  refine g_icmp_lt (pc := 6) C (tgt := 15) dX2_readBed_6 rfl h (fun h => ?_) (fun h => ?_)
  · refine g_aload_n (pc := 15) C 0 rfl dX2_readBed_15 ?_
    refine g_get (pc := 16) C FOK_X2 0 rfl rfl 3 (by decide) kw_291 rfl dX2_readBed_16 ?_
    refine g_aload_n (pc := 19) C 0 rfl dX2_readBed_19 ?_
    refine g_get (pc := 20) C FOK_X2 0 rfl rfl 0 (by decide) kw_275 rfl dX2_readBed_20 ?_
    refine g_aload_n (pc := 23) C 1 rfl dX2_readBed_23 ?_
    refine g_iconst (pc := 24) C dX2_readBed_24 ci_0 ?_
    refine g_bipush (pc := 25) C dX2_readBed_25 cb_30 ?_
    obtain ⟨v1, c2, c3, c4, c5, hc, h⟩ := b5_of h
    refine g_callV (pc := 27) C (w' := cs_X2 J.2.2.1 a0 p_beds p_letters p_readers p_far p_drain p_length p_words p_home ++ cs_X7 J.2.2.1 a1 t_bytes t_held t_end c2 c3 c4 c5) (As := [.int 0, .int 30]) (st := [.int p_beds, .ref (a0 1)]) (ci := 7) (q0 := 6) rfl rfl (t_X7_number (a0 := a1) hc) (Sub.gen [6, 7] [0, 1, 2, 3, 4, 5] [0, 1, 2, 3, 4, 5, 6, 7] rfl (by decide) rfl (by decide) (by decide) rfl (by decide)) kw_699 kw_700 kw_701 kw_87 hy_X7_number kw_702 rfl (Nat.le_of_ble_eq_true rfl) (Nat.le_of_ble_eq_true rfl) (Nat.le_of_ble_eq_true rfl) (Nat.le_of_ble_eq_true rfl) (Nat.le_of_ble_eq_true rfl) dX2_readBed_27 ?_
    obtain ⟨hi, h⟩ := ix_of h
    refine g_iast (pc := 30) C (w' := cs_X2 J.2.2.1 a0 p_beds p_letters p_readers (upd p_far p_beds.toNatClampNeg v1) p_drain p_length p_words p_home ++ cs_X7 J.2.2.1 a1 t_bytes t_held t_end c2 c3 c4 c5) 1 rfl hi dX2_readBed_30 rfl ?_
    refine g_aload_n (pc := 31) C 0 rfl dX2_readBed_31 ?_
    refine g_dup (pc := 32) C dX2_readBed_32 rfl ?_
    refine g_get (pc := 33) C FOK_X2 0 rfl rfl 0 (by decide) kw_275 rfl dX2_readBed_33 ?_
    refine g_iconst (pc := 36) C dX2_readBed_36 ci_1 ?_
    refine g_iadd (pc := 37) C dX2_readBed_37 ?_
    refine g_put (pc := 38) C (w' := cs_X2 J.2.2.1 a0 (p_beds + 1) p_letters p_readers (upd p_far p_beds.toNatClampNeg v1) p_drain p_length p_words p_home ++ cs_X7 J.2.2.1 a1 t_bytes t_held t_end c2 c3 c4 c5) FOK_X2 0 rfl rfl 0 (by decide) kw_275 rfl rfl rfl (Nat.le_of_ble_eq_true rfl) dX2_readBed_38 rfl ?_
    cases h
    exact g_vret C E dX2_readBed_41
  · refine g_aload_n (pc := 9) C 1 rfl dX2_readBed_9 ?_
    refine g_iconst (pc := 10) C dX2_readBed_10 ci_3 ?_
    obtain ⟨c6, c7, hc, h⟩ := b2_of h
    refine g_callV (pc := 11) C (w' := cs_X2 J.2.2.1 a0 p_beds p_letters p_readers p_far p_drain p_length p_words p_home ++ cs_X7 J.2.2.1 a1 t_bytes t_held t_end t_at t_start c6 c7) (As := [.int 3]) (st := []) (ci := 7) (q0 := 6) rfl rfl (t_X7_blame (a0 := a1) hc) (Sub.gen [6, 7] [0, 1, 2, 3, 4, 5] [0, 1, 2, 3, 4, 5, 6, 7] rfl (by decide) rfl (by decide) (by decide) rfl (by decide)) kw_695 kw_696 kw_697 kw_87 hy_X7_blame kw_698 rfl (Nat.le_of_ble_eq_true rfl) (Nat.le_of_ble_eq_true rfl) (Nat.le_of_ble_eq_true rfl) (Nat.le_of_ble_eq_true rfl) (Nat.le_of_ble_eq_true rfl) dX2_readBed_11 ?_
    cases h
    exact g_vret C E dX2_readBed_14
noncomputable def f_X2_readLetter_94 (p_beds : Int32) (t_bytes : Nat → Int32) (t_end : Int32) (x2 : Int32) (p_letters : Int32) (p_drain : Nat → Int32) (p_length : Nat → Int32) (p_words : Nat → Int32) (t_at : Int32) (t_start : Int32) (t_faultKind : Int32) (t_faultPlace : Int32) : Option (Int32 × (Nat → Int32) × (Nat → Int32) × (Nat → Int32) × Int32 × Int32 × Int32 × Int32) := if ixb p_letters 6 then some (p_letters + 1, p_drain, upd p_length p_letters.toNatClampNeg x2, p_words, t_at, t_start, t_faultKind, t_faultPlace) else none
noncomputable def f_X2_readLetter_74 (p_beds : Int32) (t_bytes : Nat → Int32) (t_end : Int32) (x2 : Int32) (p_letters : Int32) (p_drain : Nat → Int32) (p_length : Nat → Int32) (p_words : Nat → Int32) (t_at : Int32) (t_start : Int32) (t_faultKind : Int32) (t_faultPlace : Int32) : Option (Int32 × (Nat → Int32) × (Nat → Int32) × (Nat → Int32) × Int32 × Int32 × Int32 × Int32) := b3 (f_X7_isAtNumber t_bytes t_end t_at t_start t_faultKind) (fun v1 c2 c3 => if v1 = 0 then f_X2_readLetter_94 p_beds t_bytes t_end x2 p_letters p_drain p_length p_words c2 c3 t_faultKind t_faultPlace else b5 (f_X7_number t_bytes t_end c2 c3 t_faultKind t_faultPlace 0 15) (fun v4 c5 c6 c7 c8 => b2 (f_X7_blame c6 c7 c8 3) (fun c9 c10 => f_X2_readLetter_94 p_beds t_bytes t_end x2 p_letters p_drain p_length p_words c5 c6 c9 c10)))
noncomputable def f_X2_readLetter_37 (p_beds : Int32) (t_bytes : Nat → Int32) (t_end : Int32) : Nat → Int32 → Int32 → (Nat → Int32) → (Nat → Int32) → (Nat → Int32) → Int32 → Int32 → Int32 → Int32 → Option (Int32 × (Nat → Int32) × (Nat → Int32) × (Nat → Int32) × Int32 × Int32 × Int32 × Int32)
  | 0, _, _, _, _, _, _, _, _, _ => none
  | n + 1, x2, p_letters, p_drain, p_length, p_words, t_at, t_start, t_faultKind, t_faultPlace => b5 (f_X7_number t_bytes t_end t_at t_start t_faultKind t_faultPlace 0 15) (fun v11 c12 c13 c14 c15 => if ixb ((p_letters * 8) + x2) 48 then if 8 ≤ (x2 + 1) then f_X2_readLetter_74 p_beds t_bytes t_end (x2 + 1) p_letters p_drain p_length (upd p_words ((p_letters * 8) + x2).toNatClampNeg v11) c12 c13 c14 c15 else b3 (f_X7_isAtNumber t_bytes t_end c12 c13 c14) (fun v16 c17 c18 => if v16 = 0 then f_X2_readLetter_74 p_beds t_bytes t_end (x2 + 1) p_letters p_drain p_length (upd p_words ((p_letters * 8) + x2).toNatClampNeg v11) c17 c18 c14 c15 else f_X2_readLetter_37 p_beds t_bytes t_end n (x2 + 1) p_letters p_drain p_length (upd p_words ((p_letters * 8) + x2).toNatClampNeg v11) c17 c18 c14 c15) else none)
noncomputable def f_X2_readLetter (p_beds : Int32) (p_letters : Int32) (p_drain : Nat → Int32) (p_length : Nat → Int32) (p_words : Nat → Int32) (t_bytes : Nat → Int32) (t_end : Int32) (t_at : Int32) (t_start : Int32) (t_faultKind : Int32) (t_faultPlace : Int32) : Option (Int32 × (Nat → Int32) × (Nat → Int32) × (Nat → Int32) × Int32 × Int32 × Int32 × Int32) := if p_letters < 6 then b5 (f_X7_number t_bytes t_end t_at t_start t_faultKind t_faultPlace 0 (p_beds - 1)) (fun v19 c20 c21 c22 c23 => if ixb p_letters 6 then f_X2_readLetter_37 p_beds t_bytes t_end FU 0 p_letters (upd p_drain p_letters.toNatClampNeg v19) p_length p_words c20 c21 c22 c23 else none) else b2 (f_X7_blame t_start t_faultKind t_faultPlace 3) (fun c24 c25 => some (p_letters, p_drain, p_length, p_words, t_at, t_start, c24, c25))
def rm_X2_readLetter : Room := { frames := 2, cells := 0, slots := 0, locals := 63 }
set_option maxRecDepth 100000 in
set_option maxHeartbeats 4000000 in
theorem j_X2_readLetter_94 {J : Jt} {Z : Zt} {a0 : Nat → Nat} {a1 : Nat → Nat} {p_beds : Int32} {p_readers : Int32} {p_far : Nat → Int32} {p_home : Nat → Int32} {t_bytes : Nat → Int32} {t_held : Int32} {t_end : Int32} {o_p_letters : Int32} {o_p_drain : Nat → Int32} {o_p_length : Nat → Int32} {o_p_words : Nat → Int32} {o_t_at : Int32} {o_t_start : Int32} {o_t_faultKind : Int32} {o_t_faultPlace : Int32} (C : Cx J Z cX2_readLetter 3 RX2 none rm_X2_readLetter) (E : Ez J Z 0 0 none (cs_X2 J.2.2.1 a0 p_beds o_p_letters p_readers p_far o_p_drain o_p_length o_p_words p_home ++ cs_X7 J.2.2.1 a1 t_bytes t_held t_end o_t_at o_t_start o_t_faultKind o_t_faultPlace)) : ∀ (x2 : Int32) (p_letters : Int32) (p_drain : Nat → Int32) (p_length : Nat → Int32) (p_words : Nat → Int32) (t_at : Int32) (t_start : Int32) (t_faultKind : Int32) (t_faultPlace : Int32), f_X2_readLetter_94 p_beds t_bytes t_end x2 p_letters p_drain p_length p_words t_at t_start t_faultKind t_faultPlace = some (o_p_letters, o_p_drain, o_p_length, o_p_words, o_t_at, o_t_start, o_t_faultKind, o_t_faultPlace) → G J Z 0 0 (cs_X2 J.2.2.1 a0 p_beds p_letters p_readers p_far p_drain p_length p_words p_home ++ cs_X7 J.2.2.1 a1 t_bytes t_held t_end t_at t_start t_faultKind t_faultPlace) 3 [(0, .ref (a0 0)), (2, .int x2)] 94 [] := by
  intro x2 p_letters p_drain p_length p_words t_at t_start t_faultKind t_faultPlace h
  unfold f_X2_readLetter_94 at h
  refine g_aload_n (pc := 94) C 0 rfl dX2_readLetter_94 ?_
  refine g_get (pc := 95) C FOK_X2 0 rfl rfl 5 (by decide) kw_297 rfl dX2_readLetter_95 ?_
  refine g_aload_n (pc := 98) C 0 rfl dX2_readLetter_98 ?_
  refine g_get (pc := 99) C FOK_X2 0 rfl rfl 1 (by decide) kw_281 rfl dX2_readLetter_99 ?_
  refine g_iload_n (pc := 102) C 1 rfl dX2_readLetter_102 ?_
  obtain ⟨hi, h⟩ := ix_of h
  refine g_iast (pc := 103) C (w' := cs_X2 J.2.2.1 a0 p_beds p_letters p_readers p_far p_drain (upd p_length p_letters.toNatClampNeg x2) p_words p_home ++ cs_X7 J.2.2.1 a1 t_bytes t_held t_end t_at t_start t_faultKind t_faultPlace) 3 rfl hi dX2_readLetter_103 rfl ?_
  refine g_aload_n (pc := 104) C 0 rfl dX2_readLetter_104 ?_
  refine g_dup (pc := 105) C dX2_readLetter_105 rfl ?_
  refine g_get (pc := 106) C FOK_X2 0 rfl rfl 1 (by decide) kw_281 rfl dX2_readLetter_106 ?_
  refine g_iconst (pc := 109) C dX2_readLetter_109 ci_1 ?_
  refine g_iadd (pc := 110) C dX2_readLetter_110 ?_
  refine g_put (pc := 111) C (w' := cs_X2 J.2.2.1 a0 p_beds (p_letters + 1) p_readers p_far p_drain (upd p_length p_letters.toNatClampNeg x2) p_words p_home ++ cs_X7 J.2.2.1 a1 t_bytes t_held t_end t_at t_start t_faultKind t_faultPlace) FOK_X2 0 rfl rfl 1 (by decide) kw_281 rfl rfl rfl (Nat.le_of_ble_eq_true rfl) dX2_readLetter_111 rfl ?_
  cases h
  exact g_vret C E dX2_readLetter_114
set_option maxRecDepth 100000 in
set_option maxHeartbeats 4000000 in
theorem j_X2_readLetter_74 {J : Jt} {Z : Zt} {a0 : Nat → Nat} {a1 : Nat → Nat} {p_beds : Int32} {p_readers : Int32} {p_far : Nat → Int32} {p_home : Nat → Int32} {t_bytes : Nat → Int32} {t_held : Int32} {t_end : Int32} {o_p_letters : Int32} {o_p_drain : Nat → Int32} {o_p_length : Nat → Int32} {o_p_words : Nat → Int32} {o_t_at : Int32} {o_t_start : Int32} {o_t_faultKind : Int32} {o_t_faultPlace : Int32} (C : Cx J Z cX2_readLetter 3 RX2 none rm_X2_readLetter) (E : Ez J Z 0 0 none (cs_X2 J.2.2.1 a0 p_beds o_p_letters p_readers p_far o_p_drain o_p_length o_p_words p_home ++ cs_X7 J.2.2.1 a1 t_bytes t_held t_end o_t_at o_t_start o_t_faultKind o_t_faultPlace)) : ∀ (x2 : Int32) (p_letters : Int32) (p_drain : Nat → Int32) (p_length : Nat → Int32) (p_words : Nat → Int32) (t_at : Int32) (t_start : Int32) (t_faultKind : Int32) (t_faultPlace : Int32), f_X2_readLetter_74 p_beds t_bytes t_end x2 p_letters p_drain p_length p_words t_at t_start t_faultKind t_faultPlace = some (o_p_letters, o_p_drain, o_p_length, o_p_words, o_t_at, o_t_start, o_t_faultKind, o_t_faultPlace) → G J Z 0 0 (cs_X2 J.2.2.1 a0 p_beds p_letters p_readers p_far p_drain p_length p_words p_home ++ cs_X7 J.2.2.1 a1 t_bytes t_held t_end t_at t_start t_faultKind t_faultPlace) 3 [(0, .ref (a0 0)), (1, .ref (a1 0)), (2, .int x2)] 74 [] := by
  intro x2 p_letters p_drain p_length p_words t_at t_start t_faultKind t_faultPlace h
  unfold f_X2_readLetter_74 at h
  refine g_aload_n (pc := 74) C 1 rfl dX2_readLetter_74 ?_
  obtain ⟨v1, c2, c3, hc, h⟩ := b3_of h
  refine g_callV (pc := 75) C (w' := cs_X2 J.2.2.1 a0 p_beds p_letters p_readers p_far p_drain p_length p_words p_home ++ cs_X7 J.2.2.1 a1 t_bytes t_held t_end c2 c3 t_faultKind t_faultPlace) (As := []) (st := []) (ci := 7) (q0 := 6) rfl rfl (t_X7_isAtNumber (a0 := a1) hc) (Sub.gen [6, 7] [0, 1, 2, 3, 4, 5] [0, 1, 2, 3, 4, 5, 6, 7] rfl (by decide) rfl (by decide) (by decide) rfl (by decide)) kw_713 kw_714 kw_715 kw_87 hy_X7_isAtNumber kw_716 rfl (Nat.le_of_ble_eq_true rfl) (Nat.le_of_ble_eq_true rfl) (Nat.le_of_ble_eq_true rfl) (Nat.le_of_ble_eq_true rfl) (Nat.le_of_ble_eq_true rfl) dX2_readLetter_75 ?_
  refine g_if_eq (pc := 78) C (tgt := 94) dX2_readLetter_78 rfl h (fun h => ?_) (fun h => ?_)
  · refine g_lv [0, 2] rfl ?_
    exact j_X2_readLetter_94 C E  x2 p_letters p_drain p_length p_words c2 c3 t_faultKind t_faultPlace h
  · refine g_aload_n (pc := 81) C 1 rfl dX2_readLetter_81 ?_
    refine g_iconst (pc := 82) C dX2_readLetter_82 ci_0 ?_
    refine g_bipush (pc := 83) C dX2_readLetter_83 cb_15 ?_
    obtain ⟨v4, c5, c6, c7, c8, hc, h⟩ := b5_of h
    refine g_callV (pc := 85) C (w' := cs_X2 J.2.2.1 a0 p_beds p_letters p_readers p_far p_drain p_length p_words p_home ++ cs_X7 J.2.2.1 a1 t_bytes t_held t_end c5 c6 c7 c8) (As := [.int 0, .int 15]) (st := []) (ci := 7) (q0 := 6) rfl rfl (t_X7_number (a0 := a1) hc) (Sub.gen [6, 7] [0, 1, 2, 3, 4, 5] [0, 1, 2, 3, 4, 5, 6, 7] rfl (by decide) rfl (by decide) (by decide) rfl (by decide)) kw_699 kw_700 kw_701 kw_87 hy_X7_number kw_702 rfl (Nat.le_of_ble_eq_true rfl) (Nat.le_of_ble_eq_true rfl) (Nat.le_of_ble_eq_true rfl) (Nat.le_of_ble_eq_true rfl) (Nat.le_of_ble_eq_true rfl) dX2_readLetter_85 ?_
    refine g_pop (pc := 88) C dX2_readLetter_88 rfl ?_
    refine g_aload_n (pc := 89) C 1 rfl dX2_readLetter_89 ?_
    refine g_iconst (pc := 90) C dX2_readLetter_90 ci_3 ?_
    obtain ⟨c9, c10, hc, h⟩ := b2_of h
    refine g_callV (pc := 91) C (w' := cs_X2 J.2.2.1 a0 p_beds p_letters p_readers p_far p_drain p_length p_words p_home ++ cs_X7 J.2.2.1 a1 t_bytes t_held t_end c5 c6 c9 c10) (As := [.int 3]) (st := []) (ci := 7) (q0 := 6) rfl rfl (t_X7_blame (a0 := a1) hc) (Sub.gen [6, 7] [0, 1, 2, 3, 4, 5] [0, 1, 2, 3, 4, 5, 6, 7] rfl (by decide) rfl (by decide) (by decide) rfl (by decide)) kw_695 kw_696 kw_697 kw_87 hy_X7_blame kw_698 rfl (Nat.le_of_ble_eq_true rfl) (Nat.le_of_ble_eq_true rfl) (Nat.le_of_ble_eq_true rfl) (Nat.le_of_ble_eq_true rfl) (Nat.le_of_ble_eq_true rfl) dX2_readLetter_91 ?_
    refine g_lv [0, 2] rfl ?_
    exact j_X2_readLetter_94 C E  x2 p_letters p_drain p_length p_words c5 c6 c9 c10 h
set_option maxRecDepth 100000 in
set_option maxHeartbeats 4000000 in
theorem j_X2_readLetter_37 {J : Jt} {Z : Zt} {a0 : Nat → Nat} {a1 : Nat → Nat} {p_beds : Int32} {p_readers : Int32} {p_far : Nat → Int32} {p_home : Nat → Int32} {t_bytes : Nat → Int32} {t_held : Int32} {t_end : Int32} {o_p_letters : Int32} {o_p_drain : Nat → Int32} {o_p_length : Nat → Int32} {o_p_words : Nat → Int32} {o_t_at : Int32} {o_t_start : Int32} {o_t_faultKind : Int32} {o_t_faultPlace : Int32} (C : Cx J Z cX2_readLetter 3 RX2 none rm_X2_readLetter) (E : Ez J Z 0 0 none (cs_X2 J.2.2.1 a0 p_beds o_p_letters p_readers p_far o_p_drain o_p_length o_p_words p_home ++ cs_X7 J.2.2.1 a1 t_bytes t_held t_end o_t_at o_t_start o_t_faultKind o_t_faultPlace)) : ∀ (n : Nat) (x2 : Int32) (p_letters : Int32) (p_drain : Nat → Int32) (p_length : Nat → Int32) (p_words : Nat → Int32) (t_at : Int32) (t_start : Int32) (t_faultKind : Int32) (t_faultPlace : Int32), f_X2_readLetter_37 p_beds t_bytes t_end n x2 p_letters p_drain p_length p_words t_at t_start t_faultKind t_faultPlace = some (o_p_letters, o_p_drain, o_p_length, o_p_words, o_t_at, o_t_start, o_t_faultKind, o_t_faultPlace) → G J Z 0 0 (cs_X2 J.2.2.1 a0 p_beds p_letters p_readers p_far p_drain p_length p_words p_home ++ cs_X7 J.2.2.1 a1 t_bytes t_held t_end t_at t_start t_faultKind t_faultPlace) 3 [(0, .ref (a0 0)), (1, .ref (a1 0)), (2, .int x2)] 37 [] := by
  intro n
  induction n with
  | zero =>
    intro x2 p_letters p_drain p_length p_words t_at t_start t_faultKind t_faultPlace h
    rw [f_X2_readLetter_37] at h
    cases h
  | succ n ih =>
    intro x2 p_letters p_drain p_length p_words t_at t_start t_faultKind t_faultPlace h
    rw [f_X2_readLetter_37] at h
    refine g_aload_n (pc := 37) C 0 rfl dX2_readLetter_37 ?_
    refine g_get (pc := 38) C FOK_X2 0 rfl rfl 6 (by decide) kw_301 rfl dX2_readLetter_38 ?_
    refine g_aload_n (pc := 41) C 0 rfl dX2_readLetter_41 ?_
    refine g_get (pc := 42) C FOK_X2 0 rfl rfl 1 (by decide) kw_281 rfl dX2_readLetter_42 ?_
    refine g_bipush (pc := 45) C dX2_readLetter_45 cb_8 ?_
    refine g_imul (pc := 47) C dX2_readLetter_47 ?_
    refine g_iload_n (pc := 48) C 2 rfl dX2_readLetter_48 ?_
    refine g_iadd (pc := 49) C dX2_readLetter_49 ?_
    refine g_aload_n (pc := 50) C 1 rfl dX2_readLetter_50 ?_
    refine g_iconst (pc := 51) C dX2_readLetter_51 ci_0 ?_
    refine g_bipush (pc := 52) C dX2_readLetter_52 cb_15 ?_
    obtain ⟨v11, c12, c13, c14, c15, hc, h⟩ := b5_of h
    refine g_callV (pc := 54) C (w' := cs_X2 J.2.2.1 a0 p_beds p_letters p_readers p_far p_drain p_length p_words p_home ++ cs_X7 J.2.2.1 a1 t_bytes t_held t_end c12 c13 c14 c15) (As := [.int 0, .int 15]) (st := [.int ((p_letters * 8) + x2), .ref (a0 4)]) (ci := 7) (q0 := 6) rfl rfl (t_X7_number (a0 := a1) hc) (Sub.gen [6, 7] [0, 1, 2, 3, 4, 5] [0, 1, 2, 3, 4, 5, 6, 7] rfl (by decide) rfl (by decide) (by decide) rfl (by decide)) kw_699 kw_700 kw_701 kw_87 hy_X7_number kw_702 rfl (Nat.le_of_ble_eq_true rfl) (Nat.le_of_ble_eq_true rfl) (Nat.le_of_ble_eq_true rfl) (Nat.le_of_ble_eq_true rfl) (Nat.le_of_ble_eq_true rfl) dX2_readLetter_54 ?_
    obtain ⟨hi, h⟩ := ix_of h
    refine g_iast (pc := 57) C (w' := cs_X2 J.2.2.1 a0 p_beds p_letters p_readers p_far p_drain p_length (upd p_words ((p_letters * 8) + x2).toNatClampNeg v11) p_home ++ cs_X7 J.2.2.1 a1 t_bytes t_held t_end c12 c13 c14 c15) 4 rfl hi dX2_readLetter_57 rfl ?_
    refine g_iinc (pc := 58) C (j := 2) [(2, .int (x2 + 1)), (0, .ref (a0 0)), (1, .ref (a1 0))] dX2_readLetter_58 rfl (ii_1 _) (by decide) rfl ?_
    refine g_iload_n (pc := 61) C 0 rfl dX2_readLetter_61 ?_
    refine g_bipush (pc := 62) C dX2_readLetter_62 cb_8 ?_
    refine g_icmp_ge (pc := 64) C (tgt := 74) dX2_readLetter_64 rfl h (fun h => ?_) (fun h => ?_)
    · refine g_lv [1, 2, 0] rfl ?_
      exact j_X2_readLetter_74 C E  (x2 + 1) p_letters p_drain p_length (upd p_words ((p_letters * 8) + x2).toNatClampNeg v11) c12 c13 c14 c15 h
    · refine g_aload_n (pc := 67) C 2 rfl dX2_readLetter_67 ?_
      obtain ⟨v16, c17, c18, hc, h⟩ := b3_of h
      refine g_callV (pc := 68) C (w' := cs_X2 J.2.2.1 a0 p_beds p_letters p_readers p_far p_drain p_length (upd p_words ((p_letters * 8) + x2).toNatClampNeg v11) p_home ++ cs_X7 J.2.2.1 a1 t_bytes t_held t_end c17 c18 c14 c15) (As := []) (st := []) (ci := 7) (q0 := 6) rfl rfl (t_X7_isAtNumber (a0 := a1) hc) (Sub.gen [6, 7] [0, 1, 2, 3, 4, 5] [0, 1, 2, 3, 4, 5, 6, 7] rfl (by decide) rfl (by decide) (by decide) rfl (by decide)) kw_713 kw_714 kw_715 kw_87 hy_X7_isAtNumber kw_716 rfl (Nat.le_of_ble_eq_true rfl) (Nat.le_of_ble_eq_true rfl) (Nat.le_of_ble_eq_true rfl) (Nat.le_of_ble_eq_true rfl) (Nat.le_of_ble_eq_true rfl) dX2_readLetter_68 ?_
      refine g_if_ne (pc := 71) C (tgt := 37) dX2_readLetter_71 rfl h (fun h => ?_) (fun h => ?_)
      · refine g_lv [1, 2, 0] rfl ?_
        exact ih (x2 + 1) p_letters p_drain p_length (upd p_words ((p_letters * 8) + x2).toNatClampNeg v11) c17 c18 c14 c15 h
      · refine g_lv [1, 2, 0] rfl ?_
        exact j_X2_readLetter_74 C E  (x2 + 1) p_letters p_drain p_length (upd p_words ((p_letters * 8) + x2).toNatClampNeg v11) c17 c18 c14 c15 h
set_option maxRecDepth 100000 in
set_option maxHeartbeats 4000000 in
theorem t_X2_readLetter {J : Jt} {a0 : Nat → Nat} {a1 : Nat → Nat} {p_beds : Int32} {p_letters : Int32} {p_readers : Int32} {p_far : Nat → Int32} {p_drain : Nat → Int32} {p_length : Nat → Int32} {p_words : Nat → Int32} {p_home : Nat → Int32} {t_bytes : Nat → Int32} {t_held : Int32} {t_end : Int32} {t_at : Int32} {t_start : Int32} {t_faultKind : Int32} {t_faultPlace : Int32} {o_p_letters : Int32} {o_p_drain : Nat → Int32} {o_p_length : Nat → Int32} {o_p_words : Nat → Int32} {o_t_at : Int32} {o_t_start : Int32} {o_t_faultKind : Int32} {o_t_faultPlace : Int32} (h : f_X2_readLetter p_beds p_letters p_drain p_length p_words t_bytes t_end t_at t_start t_faultKind t_faultPlace = some (o_p_letters, o_p_drain, o_p_length, o_p_words, o_t_at, o_t_start, o_t_faultKind, o_t_faultPlace)) : Mt J yX2_readLetter cX2_readLetter 3 none rm_X2_readLetter [.ref (a0 0), .ref (a1 0)] (cs_X2 J.2.2.1 a0 p_beds p_letters p_readers p_far p_drain p_length p_words p_home ++ cs_X7 J.2.2.1 a1 t_bytes t_held t_end t_at t_start t_faultKind t_faultPlace) none (cs_X2 J.2.2.1 a0 p_beds o_p_letters p_readers p_far o_p_drain o_p_length o_p_words p_home ++ cs_X7 J.2.2.1 a1 t_bytes t_held t_end o_t_at o_t_start o_t_faultKind o_t_faultPlace) := by
  refine Mt_of (own := RX2) (by decide) rfl (Nat.le_of_ble_eq_true rfl) rfl (fun Z C E => ?_)
  unfold f_X2_readLetter at h
  show G J Z 0 0 (cs_X2 J.2.2.1 a0 p_beds p_letters p_readers p_far p_drain p_length p_words p_home ++ cs_X7 J.2.2.1 a1 t_bytes t_held t_end t_at t_start t_faultKind t_faultPlace) 3 [(0, .ref (a0 0)), (1, .ref (a1 0))] 0 []
  refine g_aload_n (pc := 0) C 0 rfl dX2_readLetter_0 ?_
  refine g_get (pc := 1) C FOK_X2 0 rfl rfl 1 (by decide) kw_281 rfl dX2_readLetter_1 ?_
  refine g_bipush (pc := 4) C dX2_readLetter_4 cb_6 ?_
  refine g_icmp_lt (pc := 6) C (tgt := 15) dX2_readLetter_6 rfl h (fun h => ?_) (fun h => ?_)
  · refine g_aload_n (pc := 15) C 0 rfl dX2_readLetter_15 ?_
    refine g_get (pc := 16) C FOK_X2 0 rfl rfl 4 (by decide) kw_294 rfl dX2_readLetter_16 ?_
    refine g_aload_n (pc := 19) C 0 rfl dX2_readLetter_19 ?_
    refine g_get (pc := 20) C FOK_X2 0 rfl rfl 1 (by decide) kw_281 rfl dX2_readLetter_20 ?_
    refine g_aload_n (pc := 23) C 1 rfl dX2_readLetter_23 ?_
    refine g_iconst (pc := 24) C dX2_readLetter_24 ci_0 ?_
    refine g_aload_n (pc := 25) C 0 rfl dX2_readLetter_25 ?_
    refine g_get (pc := 26) C FOK_X2 0 rfl rfl 0 (by decide) kw_275 rfl dX2_readLetter_26 ?_
    refine g_iconst (pc := 29) C dX2_readLetter_29 ci_1 ?_
    refine g_isub (pc := 30) C dX2_readLetter_30 ?_
    obtain ⟨v19, c20, c21, c22, c23, hc, h⟩ := b5_of h
    refine g_callV (pc := 31) C (w' := cs_X2 J.2.2.1 a0 p_beds p_letters p_readers p_far p_drain p_length p_words p_home ++ cs_X7 J.2.2.1 a1 t_bytes t_held t_end c20 c21 c22 c23) (As := [.int 0, .int (p_beds - 1)]) (st := [.int p_letters, .ref (a0 2)]) (ci := 7) (q0 := 6) rfl rfl (t_X7_number (a0 := a1) hc) (Sub.gen [6, 7] [0, 1, 2, 3, 4, 5] [0, 1, 2, 3, 4, 5, 6, 7] rfl (by decide) rfl (by decide) (by decide) rfl (by decide)) kw_699 kw_700 kw_701 kw_87 hy_X7_number kw_702 rfl (Nat.le_of_ble_eq_true rfl) (Nat.le_of_ble_eq_true rfl) (Nat.le_of_ble_eq_true rfl) (Nat.le_of_ble_eq_true rfl) (Nat.le_of_ble_eq_true rfl) dX2_readLetter_31 ?_
    obtain ⟨hi, h⟩ := ix_of h
    refine g_iast (pc := 34) C (w' := cs_X2 J.2.2.1 a0 p_beds p_letters p_readers p_far (upd p_drain p_letters.toNatClampNeg v19) p_length p_words p_home ++ cs_X7 J.2.2.1 a1 t_bytes t_held t_end c20 c21 c22 c23) 2 rfl hi dX2_readLetter_34 rfl ?_
    refine g_iconst (pc := 35) C dX2_readLetter_35 ci_0 ?_
    refine g_istore_n (pc := 36) C [(2, .int 0), (0, .ref (a0 0)), (1, .ref (a1 0))] dX2_readLetter_36 rfl (by decide) rfl ?_
    refine g_lv [1, 2, 0] rfl ?_
    exact j_X2_readLetter_37 C E  FU 0 p_letters (upd p_drain p_letters.toNatClampNeg v19) p_length p_words c20 c21 c22 c23 h
  · refine g_aload_n (pc := 9) C 1 rfl dX2_readLetter_9 ?_
    refine g_iconst (pc := 10) C dX2_readLetter_10 ci_3 ?_
    obtain ⟨c24, c25, hc, h⟩ := b2_of h
    refine g_callV (pc := 11) C (w' := cs_X2 J.2.2.1 a0 p_beds p_letters p_readers p_far p_drain p_length p_words p_home ++ cs_X7 J.2.2.1 a1 t_bytes t_held t_end t_at t_start c24 c25) (As := [.int 3]) (st := []) (ci := 7) (q0 := 6) rfl rfl (t_X7_blame (a0 := a1) hc) (Sub.gen [6, 7] [0, 1, 2, 3, 4, 5] [0, 1, 2, 3, 4, 5, 6, 7] rfl (by decide) rfl (by decide) (by decide) rfl (by decide)) kw_695 kw_696 kw_697 kw_87 hy_X7_blame kw_698 rfl (Nat.le_of_ble_eq_true rfl) (Nat.le_of_ble_eq_true rfl) (Nat.le_of_ble_eq_true rfl) (Nat.le_of_ble_eq_true rfl) (Nat.le_of_ble_eq_true rfl) dX2_readLetter_11 ?_
    cases h
    exact g_vret C E dX2_readLetter_14
noncomputable def f_X2_readReader (p_beds : Int32) (p_readers : Int32) (p_home : Nat → Int32) (t_bytes : Nat → Int32) (t_end : Int32) (t_at : Int32) (t_start : Int32) (t_faultKind : Int32) (t_faultPlace : Int32) : Option (Int32 × (Nat → Int32) × Int32 × Int32 × Int32 × Int32) := if p_readers < 5 then b5 (f_X7_number t_bytes t_end t_at t_start t_faultKind t_faultPlace 0 (p_beds - 1)) (fun v1 c2 c3 c4 c5 => if ixb p_readers 5 then some (p_readers + 1, upd p_home p_readers.toNatClampNeg v1, c2, c3, c4, c5) else none) else b2 (f_X7_blame t_start t_faultKind t_faultPlace 3) (fun c6 c7 => some (p_readers, p_home, t_at, t_start, c6, c7))
def rm_X2_readReader : Room := { frames := 2, cells := 0, slots := 0, locals := 63 }
set_option maxRecDepth 100000 in
set_option maxHeartbeats 4000000 in
theorem t_X2_readReader {J : Jt} {a0 : Nat → Nat} {a1 : Nat → Nat} {p_beds : Int32} {p_letters : Int32} {p_readers : Int32} {p_far : Nat → Int32} {p_drain : Nat → Int32} {p_length : Nat → Int32} {p_words : Nat → Int32} {p_home : Nat → Int32} {t_bytes : Nat → Int32} {t_held : Int32} {t_end : Int32} {t_at : Int32} {t_start : Int32} {t_faultKind : Int32} {t_faultPlace : Int32} {o_p_readers : Int32} {o_p_home : Nat → Int32} {o_t_at : Int32} {o_t_start : Int32} {o_t_faultKind : Int32} {o_t_faultPlace : Int32} (h : f_X2_readReader p_beds p_readers p_home t_bytes t_end t_at t_start t_faultKind t_faultPlace = some (o_p_readers, o_p_home, o_t_at, o_t_start, o_t_faultKind, o_t_faultPlace)) : Mt J yX2_readReader cX2_readReader 2 none rm_X2_readReader [.ref (a0 0), .ref (a1 0)] (cs_X2 J.2.2.1 a0 p_beds p_letters p_readers p_far p_drain p_length p_words p_home ++ cs_X7 J.2.2.1 a1 t_bytes t_held t_end t_at t_start t_faultKind t_faultPlace) none (cs_X2 J.2.2.1 a0 p_beds p_letters o_p_readers p_far p_drain p_length p_words o_p_home ++ cs_X7 J.2.2.1 a1 t_bytes t_held t_end o_t_at o_t_start o_t_faultKind o_t_faultPlace) := by
  refine Mt_of (own := RX2) (by decide) rfl (Nat.le_of_ble_eq_true rfl) rfl (fun Z C E => ?_)
  unfold f_X2_readReader at h
  show G J Z 0 0 (cs_X2 J.2.2.1 a0 p_beds p_letters p_readers p_far p_drain p_length p_words p_home ++ cs_X7 J.2.2.1 a1 t_bytes t_held t_end t_at t_start t_faultKind t_faultPlace) 2 [(0, .ref (a0 0)), (1, .ref (a1 0))] 0 []
  refine g_aload_n (pc := 0) C 0 rfl dX2_readReader_0 ?_
  refine g_get (pc := 1) C FOK_X2 0 rfl rfl 2 (by decide) kw_286 rfl dX2_readReader_1 ?_
  refine g_iconst (pc := 4) C dX2_readReader_4 ci_5 ?_
  refine g_icmp_lt (pc := 5) C (tgt := 14) dX2_readReader_5 rfl h (fun h => ?_) (fun h => ?_)
  · refine g_aload_n (pc := 14) C 0 rfl dX2_readReader_14 ?_
    refine g_get (pc := 15) C FOK_X2 0 rfl rfl 7 (by decide) kw_302 rfl dX2_readReader_15 ?_
    refine g_aload_n (pc := 18) C 0 rfl dX2_readReader_18 ?_
    refine g_get (pc := 19) C FOK_X2 0 rfl rfl 2 (by decide) kw_286 rfl dX2_readReader_19 ?_
    refine g_aload_n (pc := 22) C 1 rfl dX2_readReader_22 ?_
    refine g_iconst (pc := 23) C dX2_readReader_23 ci_0 ?_
    refine g_aload_n (pc := 24) C 0 rfl dX2_readReader_24 ?_
    refine g_get (pc := 25) C FOK_X2 0 rfl rfl 0 (by decide) kw_275 rfl dX2_readReader_25 ?_
    refine g_iconst (pc := 28) C dX2_readReader_28 ci_1 ?_
    refine g_isub (pc := 29) C dX2_readReader_29 ?_
    obtain ⟨v1, c2, c3, c4, c5, hc, h⟩ := b5_of h
    refine g_callV (pc := 30) C (w' := cs_X2 J.2.2.1 a0 p_beds p_letters p_readers p_far p_drain p_length p_words p_home ++ cs_X7 J.2.2.1 a1 t_bytes t_held t_end c2 c3 c4 c5) (As := [.int 0, .int (p_beds - 1)]) (st := [.int p_readers, .ref (a0 5)]) (ci := 7) (q0 := 6) rfl rfl (t_X7_number (a0 := a1) hc) (Sub.gen [6, 7] [0, 1, 2, 3, 4, 5] [0, 1, 2, 3, 4, 5, 6, 7] rfl (by decide) rfl (by decide) (by decide) rfl (by decide)) kw_699 kw_700 kw_701 kw_87 hy_X7_number kw_702 rfl (Nat.le_of_ble_eq_true rfl) (Nat.le_of_ble_eq_true rfl) (Nat.le_of_ble_eq_true rfl) (Nat.le_of_ble_eq_true rfl) (Nat.le_of_ble_eq_true rfl) dX2_readReader_30 ?_
    obtain ⟨hi, h⟩ := ix_of h
    refine g_iast (pc := 33) C (w' := cs_X2 J.2.2.1 a0 p_beds p_letters p_readers p_far p_drain p_length p_words (upd p_home p_readers.toNatClampNeg v1) ++ cs_X7 J.2.2.1 a1 t_bytes t_held t_end c2 c3 c4 c5) 5 rfl hi dX2_readReader_33 rfl ?_
    refine g_aload_n (pc := 34) C 0 rfl dX2_readReader_34 ?_
    refine g_dup (pc := 35) C dX2_readReader_35 rfl ?_
    refine g_get (pc := 36) C FOK_X2 0 rfl rfl 2 (by decide) kw_286 rfl dX2_readReader_36 ?_
    refine g_iconst (pc := 39) C dX2_readReader_39 ci_1 ?_
    refine g_iadd (pc := 40) C dX2_readReader_40 ?_
    refine g_put (pc := 41) C (w' := cs_X2 J.2.2.1 a0 p_beds p_letters (p_readers + 1) p_far p_drain p_length p_words (upd p_home p_readers.toNatClampNeg v1) ++ cs_X7 J.2.2.1 a1 t_bytes t_held t_end c2 c3 c4 c5) FOK_X2 0 rfl rfl 2 (by decide) kw_286 rfl rfl rfl (Nat.le_of_ble_eq_true rfl) dX2_readReader_41 rfl ?_
    cases h
    exact g_vret C E dX2_readReader_44
  · refine g_aload_n (pc := 8) C 1 rfl dX2_readReader_8 ?_
    refine g_iconst (pc := 9) C dX2_readReader_9 ci_3 ?_
    obtain ⟨c6, c7, hc, h⟩ := b2_of h
    refine g_callV (pc := 10) C (w' := cs_X2 J.2.2.1 a0 p_beds p_letters p_readers p_far p_drain p_length p_words p_home ++ cs_X7 J.2.2.1 a1 t_bytes t_held t_end t_at t_start c6 c7) (As := [.int 3]) (st := []) (ci := 7) (q0 := 6) rfl rfl (t_X7_blame (a0 := a1) hc) (Sub.gen [6, 7] [0, 1, 2, 3, 4, 5] [0, 1, 2, 3, 4, 5, 6, 7] rfl (by decide) rfl (by decide) (by decide) rfl (by decide)) kw_695 kw_696 kw_697 kw_87 hy_X7_blame kw_698 rfl (Nat.le_of_ble_eq_true rfl) (Nat.le_of_ble_eq_true rfl) (Nat.le_of_ble_eq_true rfl) (Nat.le_of_ble_eq_true rfl) (Nat.le_of_ble_eq_true rfl) dX2_readReader_10 ?_
    cases h
    exact g_vret C E dX2_readReader_13
noncomputable def f_X4_begin_85 (p_home : Nat → Int32) : Nat → Int32 → Int32 → Int32 → Int32 → Int32 → Int32 → Int32 → (Nat → Int32) → (Nat → Int32) → (Nat → Int32) → (Nat → Int32) → Option (Int32 × Int32 × Int32 × Int32 × Int32 × Int32 × (Nat → Int32) × (Nat → Int32) × (Nat → Int32) × (Nat → Int32))
  | 0, _, _, _, _, _, _, _, _, _, _, _ => none
  | n + 1, x2, s_year, s_wet, s_lost, s_eaten, s_tied, s_ripeMany, s_gone, s_place, s_heard, s_many => if 6 ≤ x2 then some (s_year, s_wet, s_lost, s_eaten, s_tied, s_ripeMany, s_gone, s_place, s_heard, s_many) else if ixb x2 6 then f_X4_begin_85 p_home n (x2 + 1) s_year s_wet s_lost s_eaten s_tied s_ripeMany s_gone s_place s_heard (upd s_many x2.toNatClampNeg 0) else none
noncomputable def f_X4_begin_53 (p_home : Nat → Int32) : Nat → Int32 → Int32 → Int32 → Int32 → Int32 → Int32 → Int32 → (Nat → Int32) → (Nat → Int32) → (Nat → Int32) → (Nat → Int32) → Option (Int32 × Int32 × Int32 × Int32 × Int32 × Int32 × (Nat → Int32) × (Nat → Int32) × (Nat → Int32) × (Nat → Int32))
  | 0, _, _, _, _, _, _, _, _, _, _, _ => none
  | n + 1, x2, s_year, s_wet, s_lost, s_eaten, s_tied, s_ripeMany, s_gone, s_place, s_heard, s_many => if 5 ≤ x2 then f_X4_begin_85 p_home FU 0 s_year s_wet s_lost s_eaten s_tied s_ripeMany s_gone s_place s_heard s_many else if ixb x2 5 then if ixb x2 5 then if ixb x2 5 then f_X4_begin_53 p_home n (x2 + 1) s_year s_wet s_lost s_eaten s_tied s_ripeMany s_gone (upd s_place x2.toNatClampNeg (p_home x2.toNatClampNeg)) (upd s_heard x2.toNatClampNeg 0) s_many else none else none else none
noncomputable def f_X4_begin_32 (p_home : Nat → Int32) : Nat → Int32 → Int32 → Int32 → Int32 → Int32 → Int32 → Int32 → (Nat → Int32) → (Nat → Int32) → (Nat → Int32) → (Nat → Int32) → Option (Int32 × Int32 × Int32 × Int32 × Int32 × Int32 × (Nat → Int32) × (Nat → Int32) × (Nat → Int32) × (Nat → Int32))
  | 0, _, _, _, _, _, _, _, _, _, _, _ => none
  | n + 1, x2, s_year, s_wet, s_lost, s_eaten, s_tied, s_ripeMany, s_gone, s_place, s_heard, s_many => if 6 ≤ x2 then f_X4_begin_53 p_home FU 0 s_year s_wet s_lost s_eaten s_tied s_ripeMany s_gone s_place s_heard s_many else if ixb x2 6 then f_X4_begin_32 p_home n (x2 + 1) s_year s_wet s_lost s_eaten s_tied s_ripeMany (upd s_gone x2.toNatClampNeg 0) s_place s_heard s_many else none
noncomputable def f_X4_begin (s_year : Int32) (s_wet : Int32) (s_lost : Int32) (s_eaten : Int32) (s_tied : Int32) (s_ripeMany : Int32) (s_gone : Nat → Int32) (s_place : Nat → Int32) (s_heard : Nat → Int32) (s_many : Nat → Int32) (p_home : Nat → Int32) : Option (Int32 × Int32 × Int32 × Int32 × Int32 × Int32 × (Nat → Int32) × (Nat → Int32) × (Nat → Int32) × (Nat → Int32)) := f_X4_begin_32 p_home FU 0 0 0 0 0 0 0 s_gone s_place s_heard s_many
def rm_X4_begin : Room := { frames := 0, cells := 0, slots := 0, locals := 0 }
set_option maxRecDepth 100000 in
set_option maxHeartbeats 4000000 in
theorem j_X4_begin_85 {J : Jt} {Z : Zt} {a0 : Nat → Nat} {a1 : Nat → Nat} {s_lying : Nat → Int32} {s_ripe : Nat → Int32} {p_beds : Int32} {p_letters : Int32} {p_readers : Int32} {p_far : Nat → Int32} {p_drain : Nat → Int32} {p_length : Nat → Int32} {p_words : Nat → Int32} {p_home : Nat → Int32} {o_s_year : Int32} {o_s_wet : Int32} {o_s_lost : Int32} {o_s_eaten : Int32} {o_s_tied : Int32} {o_s_ripeMany : Int32} {o_s_gone : Nat → Int32} {o_s_place : Nat → Int32} {o_s_heard : Nat → Int32} {o_s_many : Nat → Int32} (C : Cx J Z cX4_begin 3 RX4 none rm_X4_begin) (E : Ez J Z 0 0 none (cs_X4 J.2.2.1 a0 o_s_year o_s_wet o_s_lost o_s_eaten o_s_tied o_s_ripeMany o_s_gone o_s_place o_s_heard o_s_many s_lying s_ripe ++ cs_X2 J.2.2.1 a1 p_beds p_letters p_readers p_far p_drain p_length p_words p_home)) : ∀ (n : Nat) (x2 : Int32) (s_year : Int32) (s_wet : Int32) (s_lost : Int32) (s_eaten : Int32) (s_tied : Int32) (s_ripeMany : Int32) (s_gone : Nat → Int32) (s_place : Nat → Int32) (s_heard : Nat → Int32) (s_many : Nat → Int32), f_X4_begin_85 p_home n x2 s_year s_wet s_lost s_eaten s_tied s_ripeMany s_gone s_place s_heard s_many = some (o_s_year, o_s_wet, o_s_lost, o_s_eaten, o_s_tied, o_s_ripeMany, o_s_gone, o_s_place, o_s_heard, o_s_many) → G J Z 0 0 (cs_X4 J.2.2.1 a0 s_year s_wet s_lost s_eaten s_tied s_ripeMany s_gone s_place s_heard s_many s_lying s_ripe ++ cs_X2 J.2.2.1 a1 p_beds p_letters p_readers p_far p_drain p_length p_words p_home) 3 [(0, .ref (a0 0)), (2, .int x2)] 85 [] := by
  intro n
  induction n with
  | zero =>
    intro x2 s_year s_wet s_lost s_eaten s_tied s_ripeMany s_gone s_place s_heard s_many h
    rw [f_X4_begin_85] at h
    cases h
  | succ n ih =>
    intro x2 s_year s_wet s_lost s_eaten s_tied s_ripeMany s_gone s_place s_heard s_many h
    rw [f_X4_begin_85] at h
    refine g_iload_n (pc := 85) C 1 rfl dX4_begin_85 ?_
    refine g_bipush (pc := 86) C dX4_begin_86 cb_6 ?_
    refine g_icmp_ge (pc := 88) C (tgt := 104) dX4_begin_88 rfl h (fun h => ?_) (fun h => ?_)
    · cases h
      exact g_vret C E dX4_begin_104
    · refine g_aload_n (pc := 91) C 0 rfl dX4_begin_91 ?_
      refine g_get (pc := 92) C FOK_X4 0 rfl rfl 9 (by decide) kw_172 rfl dX4_begin_92 ?_
      refine g_iload_n (pc := 95) C 1 rfl dX4_begin_95 ?_
      refine g_iconst (pc := 96) C dX4_begin_96 ci_0 ?_
      obtain ⟨hi, h⟩ := ix_of h
      refine g_iast (pc := 97) C (w' := cs_X4 J.2.2.1 a0 s_year s_wet s_lost s_eaten s_tied s_ripeMany s_gone s_place s_heard (upd s_many x2.toNatClampNeg 0) s_lying s_ripe ++ cs_X2 J.2.2.1 a1 p_beds p_letters p_readers p_far p_drain p_length p_words p_home) 4 rfl hi dX4_begin_97 rfl ?_
      refine g_iinc (pc := 98) C (j := 1) [(2, .int (x2 + 1)), (0, .ref (a0 0))] dX4_begin_98 rfl (ii_1 _) (by decide) rfl ?_
      refine g_goto (pc := 101) C (tgt := 85) dX4_begin_101 rfl ?_
      refine g_lv [1, 0] rfl ?_
      exact ih (x2 + 1) s_year s_wet s_lost s_eaten s_tied s_ripeMany s_gone s_place s_heard (upd s_many x2.toNatClampNeg 0) h
set_option maxRecDepth 100000 in
set_option maxHeartbeats 4000000 in
theorem j_X4_begin_53 {J : Jt} {Z : Zt} {a0 : Nat → Nat} {a1 : Nat → Nat} {s_lying : Nat → Int32} {s_ripe : Nat → Int32} {p_beds : Int32} {p_letters : Int32} {p_readers : Int32} {p_far : Nat → Int32} {p_drain : Nat → Int32} {p_length : Nat → Int32} {p_words : Nat → Int32} {p_home : Nat → Int32} {o_s_year : Int32} {o_s_wet : Int32} {o_s_lost : Int32} {o_s_eaten : Int32} {o_s_tied : Int32} {o_s_ripeMany : Int32} {o_s_gone : Nat → Int32} {o_s_place : Nat → Int32} {o_s_heard : Nat → Int32} {o_s_many : Nat → Int32} (C : Cx J Z cX4_begin 3 RX4 none rm_X4_begin) (E : Ez J Z 0 0 none (cs_X4 J.2.2.1 a0 o_s_year o_s_wet o_s_lost o_s_eaten o_s_tied o_s_ripeMany o_s_gone o_s_place o_s_heard o_s_many s_lying s_ripe ++ cs_X2 J.2.2.1 a1 p_beds p_letters p_readers p_far p_drain p_length p_words p_home)) : ∀ (n : Nat) (x2 : Int32) (s_year : Int32) (s_wet : Int32) (s_lost : Int32) (s_eaten : Int32) (s_tied : Int32) (s_ripeMany : Int32) (s_gone : Nat → Int32) (s_place : Nat → Int32) (s_heard : Nat → Int32) (s_many : Nat → Int32), f_X4_begin_53 p_home n x2 s_year s_wet s_lost s_eaten s_tied s_ripeMany s_gone s_place s_heard s_many = some (o_s_year, o_s_wet, o_s_lost, o_s_eaten, o_s_tied, o_s_ripeMany, o_s_gone, o_s_place, o_s_heard, o_s_many) → G J Z 0 0 (cs_X4 J.2.2.1 a0 s_year s_wet s_lost s_eaten s_tied s_ripeMany s_gone s_place s_heard s_many s_lying s_ripe ++ cs_X2 J.2.2.1 a1 p_beds p_letters p_readers p_far p_drain p_length p_words p_home) 3 [(0, .ref (a0 0)), (1, .ref (a1 0)), (2, .int x2)] 53 [] := by
  intro n
  induction n with
  | zero =>
    intro x2 s_year s_wet s_lost s_eaten s_tied s_ripeMany s_gone s_place s_heard s_many h
    rw [f_X4_begin_53] at h
    cases h
  | succ n ih =>
    intro x2 s_year s_wet s_lost s_eaten s_tied s_ripeMany s_gone s_place s_heard s_many h
    rw [f_X4_begin_53] at h
    refine g_iload_n (pc := 53) C 2 rfl dX4_begin_53 ?_
    refine g_iconst (pc := 54) C dX4_begin_54 ci_5 ?_
    refine g_icmp_ge (pc := 55) C (tgt := 83) dX4_begin_55 rfl h (fun h => ?_) (fun h => ?_)
    · refine g_iconst (pc := 83) C dX4_begin_83 ci_0 ?_
      refine g_istore_n (pc := 84) C [(2, .int 0), (0, .ref (a0 0)), (1, .ref (a1 0))] dX4_begin_84 rfl (by decide) rfl ?_
      refine g_lv [1, 0] rfl ?_
      exact j_X4_begin_85 C E  FU 0 s_year s_wet s_lost s_eaten s_tied s_ripeMany s_gone s_place s_heard s_many h
    · refine g_aload_n (pc := 58) C 0 rfl dX4_begin_58 ?_
      refine g_get (pc := 59) C FOK_X4 0 rfl rfl 7 (by decide) kw_168 rfl dX4_begin_59 ?_
      refine g_iload_n (pc := 62) C 2 rfl dX4_begin_62 ?_
      refine g_aload_n (pc := 63) C 1 rfl dX4_begin_63 ?_
      refine g_get (pc := 64) C FOK_X2 7 rfl rfl 7 (by decide) kw_303 rfl dX4_begin_64 ?_
      refine g_iload_n (pc := 67) C 2 rfl dX4_begin_67 ?_
      obtain ⟨hi, h⟩ := ix_of h
      refine g_iald (pc := 68) C 12 rfl hi dX4_begin_68 ?_
      obtain ⟨hi, h⟩ := ix_of h
      refine g_iast (pc := 69) C (w' := cs_X4 J.2.2.1 a0 s_year s_wet s_lost s_eaten s_tied s_ripeMany s_gone (upd s_place x2.toNatClampNeg (p_home x2.toNatClampNeg)) s_heard s_many s_lying s_ripe ++ cs_X2 J.2.2.1 a1 p_beds p_letters p_readers p_far p_drain p_length p_words p_home) 2 rfl hi dX4_begin_69 rfl ?_
      refine g_aload_n (pc := 70) C 0 rfl dX4_begin_70 ?_
      refine g_get (pc := 71) C FOK_X4 0 rfl rfl 8 (by decide) kw_170 rfl dX4_begin_71 ?_
      refine g_iload_n (pc := 74) C 2 rfl dX4_begin_74 ?_
      refine g_iconst (pc := 75) C dX4_begin_75 ci_0 ?_
      obtain ⟨hi, h⟩ := ix_of h
      refine g_iast (pc := 76) C (w' := cs_X4 J.2.2.1 a0 s_year s_wet s_lost s_eaten s_tied s_ripeMany s_gone (upd s_place x2.toNatClampNeg (p_home x2.toNatClampNeg)) (upd s_heard x2.toNatClampNeg 0) s_many s_lying s_ripe ++ cs_X2 J.2.2.1 a1 p_beds p_letters p_readers p_far p_drain p_length p_words p_home) 3 rfl hi dX4_begin_76 rfl ?_
      refine g_iinc (pc := 77) C (j := 2) [(2, .int (x2 + 1)), (0, .ref (a0 0)), (1, .ref (a1 0))] dX4_begin_77 rfl (ii_1 _) (by decide) rfl ?_
      refine g_goto (pc := 80) C (tgt := 53) dX4_begin_80 rfl ?_
      refine g_lv [1, 2, 0] rfl ?_
      exact ih (x2 + 1) s_year s_wet s_lost s_eaten s_tied s_ripeMany s_gone (upd s_place x2.toNatClampNeg (p_home x2.toNatClampNeg)) (upd s_heard x2.toNatClampNeg 0) s_many h
set_option maxRecDepth 100000 in
set_option maxHeartbeats 4000000 in
theorem j_X4_begin_32 {J : Jt} {Z : Zt} {a0 : Nat → Nat} {a1 : Nat → Nat} {s_lying : Nat → Int32} {s_ripe : Nat → Int32} {p_beds : Int32} {p_letters : Int32} {p_readers : Int32} {p_far : Nat → Int32} {p_drain : Nat → Int32} {p_length : Nat → Int32} {p_words : Nat → Int32} {p_home : Nat → Int32} {o_s_year : Int32} {o_s_wet : Int32} {o_s_lost : Int32} {o_s_eaten : Int32} {o_s_tied : Int32} {o_s_ripeMany : Int32} {o_s_gone : Nat → Int32} {o_s_place : Nat → Int32} {o_s_heard : Nat → Int32} {o_s_many : Nat → Int32} (C : Cx J Z cX4_begin 3 RX4 none rm_X4_begin) (E : Ez J Z 0 0 none (cs_X4 J.2.2.1 a0 o_s_year o_s_wet o_s_lost o_s_eaten o_s_tied o_s_ripeMany o_s_gone o_s_place o_s_heard o_s_many s_lying s_ripe ++ cs_X2 J.2.2.1 a1 p_beds p_letters p_readers p_far p_drain p_length p_words p_home)) : ∀ (n : Nat) (x2 : Int32) (s_year : Int32) (s_wet : Int32) (s_lost : Int32) (s_eaten : Int32) (s_tied : Int32) (s_ripeMany : Int32) (s_gone : Nat → Int32) (s_place : Nat → Int32) (s_heard : Nat → Int32) (s_many : Nat → Int32), f_X4_begin_32 p_home n x2 s_year s_wet s_lost s_eaten s_tied s_ripeMany s_gone s_place s_heard s_many = some (o_s_year, o_s_wet, o_s_lost, o_s_eaten, o_s_tied, o_s_ripeMany, o_s_gone, o_s_place, o_s_heard, o_s_many) → G J Z 0 0 (cs_X4 J.2.2.1 a0 s_year s_wet s_lost s_eaten s_tied s_ripeMany s_gone s_place s_heard s_many s_lying s_ripe ++ cs_X2 J.2.2.1 a1 p_beds p_letters p_readers p_far p_drain p_length p_words p_home) 3 [(0, .ref (a0 0)), (1, .ref (a1 0)), (2, .int x2)] 32 [] := by
  intro n
  induction n with
  | zero =>
    intro x2 s_year s_wet s_lost s_eaten s_tied s_ripeMany s_gone s_place s_heard s_many h
    rw [f_X4_begin_32] at h
    cases h
  | succ n ih =>
    intro x2 s_year s_wet s_lost s_eaten s_tied s_ripeMany s_gone s_place s_heard s_many h
    rw [f_X4_begin_32] at h
    refine g_iload_n (pc := 32) C 2 rfl dX4_begin_32 ?_
    refine g_bipush (pc := 33) C dX4_begin_33 cb_6 ?_
    refine g_icmp_ge (pc := 35) C (tgt := 51) dX4_begin_35 rfl h (fun h => ?_) (fun h => ?_)
    · refine g_iconst (pc := 51) C dX4_begin_51 ci_0 ?_
      refine g_istore_n (pc := 52) C [(2, .int 0), (0, .ref (a0 0)), (1, .ref (a1 0))] dX4_begin_52 rfl (by decide) rfl ?_
      refine g_lv [1, 2, 0] rfl ?_
      exact j_X4_begin_53 C E  FU 0 s_year s_wet s_lost s_eaten s_tied s_ripeMany s_gone s_place s_heard s_many h
    · refine g_aload_n (pc := 38) C 0 rfl dX4_begin_38 ?_
      refine g_get (pc := 39) C FOK_X4 0 rfl rfl 6 (by decide) kw_167 rfl dX4_begin_39 ?_
      refine g_iload_n (pc := 42) C 2 rfl dX4_begin_42 ?_
      refine g_iconst (pc := 43) C dX4_begin_43 ci_0 ?_
      obtain ⟨hi, h⟩ := ix_of h
      refine g_iast (pc := 44) C (w' := cs_X4 J.2.2.1 a0 s_year s_wet s_lost s_eaten s_tied s_ripeMany (upd s_gone x2.toNatClampNeg 0) s_place s_heard s_many s_lying s_ripe ++ cs_X2 J.2.2.1 a1 p_beds p_letters p_readers p_far p_drain p_length p_words p_home) 1 rfl hi dX4_begin_44 rfl ?_
      refine g_iinc (pc := 45) C (j := 2) [(2, .int (x2 + 1)), (0, .ref (a0 0)), (1, .ref (a1 0))] dX4_begin_45 rfl (ii_1 _) (by decide) rfl ?_
      refine g_goto (pc := 48) C (tgt := 32) dX4_begin_48 rfl ?_
      refine g_lv [1, 2, 0] rfl ?_
      exact ih (x2 + 1) s_year s_wet s_lost s_eaten s_tied s_ripeMany (upd s_gone x2.toNatClampNeg 0) s_place s_heard s_many h
set_option maxRecDepth 100000 in
set_option maxHeartbeats 4000000 in
theorem t_X4_begin {J : Jt} {a0 : Nat → Nat} {a1 : Nat → Nat} {s_year : Int32} {s_wet : Int32} {s_lost : Int32} {s_eaten : Int32} {s_tied : Int32} {s_ripeMany : Int32} {s_gone : Nat → Int32} {s_place : Nat → Int32} {s_heard : Nat → Int32} {s_many : Nat → Int32} {s_lying : Nat → Int32} {s_ripe : Nat → Int32} {p_beds : Int32} {p_letters : Int32} {p_readers : Int32} {p_far : Nat → Int32} {p_drain : Nat → Int32} {p_length : Nat → Int32} {p_words : Nat → Int32} {p_home : Nat → Int32} {o_s_year : Int32} {o_s_wet : Int32} {o_s_lost : Int32} {o_s_eaten : Int32} {o_s_tied : Int32} {o_s_ripeMany : Int32} {o_s_gone : Nat → Int32} {o_s_place : Nat → Int32} {o_s_heard : Nat → Int32} {o_s_many : Nat → Int32} (h : f_X4_begin s_year s_wet s_lost s_eaten s_tied s_ripeMany s_gone s_place s_heard s_many p_home = some (o_s_year, o_s_wet, o_s_lost, o_s_eaten, o_s_tied, o_s_ripeMany, o_s_gone, o_s_place, o_s_heard, o_s_many)) : Mt J yX4_begin cX4_begin 3 none rm_X4_begin [.ref (a0 0), .ref (a1 0)] (cs_X4 J.2.2.1 a0 s_year s_wet s_lost s_eaten s_tied s_ripeMany s_gone s_place s_heard s_many s_lying s_ripe ++ cs_X2 J.2.2.1 a1 p_beds p_letters p_readers p_far p_drain p_length p_words p_home) none (cs_X4 J.2.2.1 a0 o_s_year o_s_wet o_s_lost o_s_eaten o_s_tied o_s_ripeMany o_s_gone o_s_place o_s_heard o_s_many s_lying s_ripe ++ cs_X2 J.2.2.1 a1 p_beds p_letters p_readers p_far p_drain p_length p_words p_home) := by
  refine Mt_of (own := RX4) (by decide) rfl (Nat.le_of_ble_eq_true rfl) rfl (fun Z C E => ?_)
  unfold f_X4_begin at h
  show G J Z 0 0 (cs_X4 J.2.2.1 a0 s_year s_wet s_lost s_eaten s_tied s_ripeMany s_gone s_place s_heard s_many s_lying s_ripe ++ cs_X2 J.2.2.1 a1 p_beds p_letters p_readers p_far p_drain p_length p_words p_home) 3 [(0, .ref (a0 0)), (1, .ref (a1 0))] 0 []
  refine g_aload_n (pc := 0) C 0 rfl dX4_begin_0 ?_
  refine g_iconst (pc := 1) C dX4_begin_1 ci_0 ?_
  refine g_put (pc := 2) C (w' := cs_X4 J.2.2.1 a0 0 s_wet s_lost s_eaten s_tied s_ripeMany s_gone s_place s_heard s_many s_lying s_ripe ++ cs_X2 J.2.2.1 a1 p_beds p_letters p_readers p_far p_drain p_length p_words p_home) FOK_X4 0 rfl rfl 0 (by decide) kw_154 rfl rfl rfl (Nat.le_of_ble_eq_true rfl) dX4_begin_2 rfl ?_
  refine g_aload_n (pc := 5) C 0 rfl dX4_begin_5 ?_
  refine g_iconst (pc := 6) C dX4_begin_6 ci_0 ?_
  refine g_put (pc := 7) C (w' := cs_X4 J.2.2.1 a0 0 0 s_lost s_eaten s_tied s_ripeMany s_gone s_place s_heard s_many s_lying s_ripe ++ cs_X2 J.2.2.1 a1 p_beds p_letters p_readers p_far p_drain p_length p_words p_home) FOK_X4 0 rfl rfl 1 (by decide) kw_157 rfl rfl rfl (Nat.le_of_ble_eq_true rfl) dX4_begin_7 rfl ?_
  refine g_aload_n (pc := 10) C 0 rfl dX4_begin_10 ?_
  refine g_iconst (pc := 11) C dX4_begin_11 ci_0 ?_
  refine g_put (pc := 12) C (w' := cs_X4 J.2.2.1 a0 0 0 0 s_eaten s_tied s_ripeMany s_gone s_place s_heard s_many s_lying s_ripe ++ cs_X2 J.2.2.1 a1 p_beds p_letters p_readers p_far p_drain p_length p_words p_home) FOK_X4 0 rfl rfl 2 (by decide) kw_159 rfl rfl rfl (Nat.le_of_ble_eq_true rfl) dX4_begin_12 rfl ?_
  refine g_aload_n (pc := 15) C 0 rfl dX4_begin_15 ?_
  refine g_iconst (pc := 16) C dX4_begin_16 ci_0 ?_
  refine g_put (pc := 17) C (w' := cs_X4 J.2.2.1 a0 0 0 0 0 s_tied s_ripeMany s_gone s_place s_heard s_many s_lying s_ripe ++ cs_X2 J.2.2.1 a1 p_beds p_letters p_readers p_far p_drain p_length p_words p_home) FOK_X4 0 rfl rfl 3 (by decide) kw_161 rfl rfl rfl (Nat.le_of_ble_eq_true rfl) dX4_begin_17 rfl ?_
  refine g_aload_n (pc := 20) C 0 rfl dX4_begin_20 ?_
  refine g_iconst (pc := 21) C dX4_begin_21 ci_0 ?_
  refine g_put (pc := 22) C (w' := cs_X4 J.2.2.1 a0 0 0 0 0 0 s_ripeMany s_gone s_place s_heard s_many s_lying s_ripe ++ cs_X2 J.2.2.1 a1 p_beds p_letters p_readers p_far p_drain p_length p_words p_home) FOK_X4 0 rfl rfl 4 (by decide) kw_163 rfl rfl rfl (Nat.le_of_ble_eq_true rfl) dX4_begin_22 rfl ?_
  refine g_aload_n (pc := 25) C 0 rfl dX4_begin_25 ?_
  refine g_iconst (pc := 26) C dX4_begin_26 ci_0 ?_
  refine g_put (pc := 27) C (w' := cs_X4 J.2.2.1 a0 0 0 0 0 0 0 s_gone s_place s_heard s_many s_lying s_ripe ++ cs_X2 J.2.2.1 a1 p_beds p_letters p_readers p_far p_drain p_length p_words p_home) FOK_X4 0 rfl rfl 5 (by decide) kw_165 rfl rfl rfl (Nat.le_of_ble_eq_true rfl) dX4_begin_27 rfl ?_
  refine g_iconst (pc := 30) C dX4_begin_30 ci_0 ?_
  refine g_istore_n (pc := 31) C [(2, .int 0), (0, .ref (a0 0)), (1, .ref (a1 0))] dX4_begin_31 rfl (by decide) rfl ?_
  refine g_lv [1, 2, 0] rfl ?_
  exact j_X4_begin_32 C E  FU 0 0 0 0 0 0 0 s_gone s_place s_heard s_many h
noncomputable def f_X4_copy (s_year : Int32) (s_wet : Int32) (s_lost : Int32) (s_eaten : Int32) (s_tied : Int32) (s_ripeMany : Int32) (s_gone : Nat → Int32) (s_place : Nat → Int32) (s_heard : Nat → Int32) (s_many : Nat → Int32) (s_lying : Nat → Int32) (s_ripe : Nat → Int32) (s2_year : Int32) (s2_wet : Int32) (s2_lost : Int32) (s2_eaten : Int32) (s2_tied : Int32) (s2_ripeMany : Int32) (s2_gone : Nat → Int32) (s2_place : Nat → Int32) (s2_heard : Nat → Int32) (s2_many : Nat → Int32) (s2_lying : Nat → Int32) (s2_ripe : Nat → Int32) : Option (Int32 × Int32 × Int32 × Int32 × Int32 × Int32 × (Nat → Int32) × (Nat → Int32) × (Nat → Int32) × (Nat → Int32) × (Nat → Int32) × (Nat → Int32)) := if cpb 0 0 6 6 6 then if cpb 0 0 5 5 5 then if cpb 0 0 5 5 5 then if cpb 0 0 6 6 6 then if cpb 0 0 72 72 72 then if cpb 0 0 60 60 60 then some (s2_year, s2_wet, s2_lost, s2_eaten, s2_tied, s2_ripeMany, va_cpy s2_gone s_gone (0 : Int32).toNatClampNeg (0 : Int32).toNatClampNeg (6 : Int32).toNatClampNeg, va_cpy s2_place s_place (0 : Int32).toNatClampNeg (0 : Int32).toNatClampNeg (5 : Int32).toNatClampNeg, va_cpy s2_heard s_heard (0 : Int32).toNatClampNeg (0 : Int32).toNatClampNeg (5 : Int32).toNatClampNeg, va_cpy s2_many s_many (0 : Int32).toNatClampNeg (0 : Int32).toNatClampNeg (6 : Int32).toNatClampNeg, va_cpy s2_lying s_lying (0 : Int32).toNatClampNeg (0 : Int32).toNatClampNeg (72 : Int32).toNatClampNeg, va_cpy s2_ripe s_ripe (0 : Int32).toNatClampNeg (0 : Int32).toNatClampNeg (60 : Int32).toNatClampNeg) else none else none else none else none else none else none
def rm_X4_copy : Room := { frames := 1, cells := 0, slots := 0, locals := 80 }
set_option maxRecDepth 100000 in
set_option maxHeartbeats 4000000 in
theorem t_X4_copy {J : Jt} {a0 : Nat → Nat} {a1 : Nat → Nat} {s_year : Int32} {s_wet : Int32} {s_lost : Int32} {s_eaten : Int32} {s_tied : Int32} {s_ripeMany : Int32} {s_gone : Nat → Int32} {s_place : Nat → Int32} {s_heard : Nat → Int32} {s_many : Nat → Int32} {s_lying : Nat → Int32} {s_ripe : Nat → Int32} {s2_year : Int32} {s2_wet : Int32} {s2_lost : Int32} {s2_eaten : Int32} {s2_tied : Int32} {s2_ripeMany : Int32} {s2_gone : Nat → Int32} {s2_place : Nat → Int32} {s2_heard : Nat → Int32} {s2_many : Nat → Int32} {s2_lying : Nat → Int32} {s2_ripe : Nat → Int32} {o_s_year : Int32} {o_s_wet : Int32} {o_s_lost : Int32} {o_s_eaten : Int32} {o_s_tied : Int32} {o_s_ripeMany : Int32} {o_s_gone : Nat → Int32} {o_s_place : Nat → Int32} {o_s_heard : Nat → Int32} {o_s_many : Nat → Int32} {o_s_lying : Nat → Int32} {o_s_ripe : Nat → Int32} (h : f_X4_copy s_year s_wet s_lost s_eaten s_tied s_ripeMany s_gone s_place s_heard s_many s_lying s_ripe s2_year s2_wet s2_lost s2_eaten s2_tied s2_ripeMany s2_gone s2_place s2_heard s2_many s2_lying s2_ripe = some (o_s_year, o_s_wet, o_s_lost, o_s_eaten, o_s_tied, o_s_ripeMany, o_s_gone, o_s_place, o_s_heard, o_s_many, o_s_lying, o_s_ripe)) : Mt J yX4_copy cX4_copy 2 none rm_X4_copy [.ref (a0 0), .ref (a1 0)] (cs_X4 J.2.2.1 a0 s_year s_wet s_lost s_eaten s_tied s_ripeMany s_gone s_place s_heard s_many s_lying s_ripe ++ cs_X4 J.2.2.1 a1 s2_year s2_wet s2_lost s2_eaten s2_tied s2_ripeMany s2_gone s2_place s2_heard s2_many s2_lying s2_ripe) none (cs_X4 J.2.2.1 a0 o_s_year o_s_wet o_s_lost o_s_eaten o_s_tied o_s_ripeMany o_s_gone o_s_place o_s_heard o_s_many o_s_lying o_s_ripe ++ cs_X4 J.2.2.1 a1 s2_year s2_wet s2_lost s2_eaten s2_tied s2_ripeMany s2_gone s2_place s2_heard s2_many s2_lying s2_ripe) := by
  refine Mt_of (own := RX4) (by decide) rfl (Nat.le_of_ble_eq_true rfl) rfl (fun Z C E => ?_)
  unfold f_X4_copy at h
  show G J Z 0 0 (cs_X4 J.2.2.1 a0 s_year s_wet s_lost s_eaten s_tied s_ripeMany s_gone s_place s_heard s_many s_lying s_ripe ++ cs_X4 J.2.2.1 a1 s2_year s2_wet s2_lost s2_eaten s2_tied s2_ripeMany s2_gone s2_place s2_heard s2_many s2_lying s2_ripe) 2 [(0, .ref (a0 0)), (1, .ref (a1 0))] 0 []
  refine g_aload_n (pc := 0) C 0 rfl dX4_copy_0 ?_
  refine g_aload_n (pc := 1) C 1 rfl dX4_copy_1 ?_
  refine g_get (pc := 2) C FOK_X4 7 rfl rfl 0 (by decide) kw_154 rfl dX4_copy_2 ?_
  refine g_put (pc := 5) C (w' := cs_X4 J.2.2.1 a0 s2_year s_wet s_lost s_eaten s_tied s_ripeMany s_gone s_place s_heard s_many s_lying s_ripe ++ cs_X4 J.2.2.1 a1 s2_year s2_wet s2_lost s2_eaten s2_tied s2_ripeMany s2_gone s2_place s2_heard s2_many s2_lying s2_ripe) FOK_X4 0 rfl rfl 0 (by decide) kw_154 rfl rfl rfl (Nat.le_of_ble_eq_true rfl) dX4_copy_5 rfl ?_
  refine g_aload_n (pc := 8) C 0 rfl dX4_copy_8 ?_
  refine g_aload_n (pc := 9) C 1 rfl dX4_copy_9 ?_
  refine g_get (pc := 10) C FOK_X4 7 rfl rfl 1 (by decide) kw_157 rfl dX4_copy_10 ?_
  refine g_put (pc := 13) C (w' := cs_X4 J.2.2.1 a0 s2_year s2_wet s_lost s_eaten s_tied s_ripeMany s_gone s_place s_heard s_many s_lying s_ripe ++ cs_X4 J.2.2.1 a1 s2_year s2_wet s2_lost s2_eaten s2_tied s2_ripeMany s2_gone s2_place s2_heard s2_many s2_lying s2_ripe) FOK_X4 0 rfl rfl 1 (by decide) kw_157 rfl rfl rfl (Nat.le_of_ble_eq_true rfl) dX4_copy_13 rfl ?_
  refine g_aload_n (pc := 16) C 0 rfl dX4_copy_16 ?_
  refine g_aload_n (pc := 17) C 1 rfl dX4_copy_17 ?_
  refine g_get (pc := 18) C FOK_X4 7 rfl rfl 2 (by decide) kw_159 rfl dX4_copy_18 ?_
  refine g_put (pc := 21) C (w' := cs_X4 J.2.2.1 a0 s2_year s2_wet s2_lost s_eaten s_tied s_ripeMany s_gone s_place s_heard s_many s_lying s_ripe ++ cs_X4 J.2.2.1 a1 s2_year s2_wet s2_lost s2_eaten s2_tied s2_ripeMany s2_gone s2_place s2_heard s2_many s2_lying s2_ripe) FOK_X4 0 rfl rfl 2 (by decide) kw_159 rfl rfl rfl (Nat.le_of_ble_eq_true rfl) dX4_copy_21 rfl ?_
  refine g_aload_n (pc := 24) C 0 rfl dX4_copy_24 ?_
  refine g_aload_n (pc := 25) C 1 rfl dX4_copy_25 ?_
  refine g_get (pc := 26) C FOK_X4 7 rfl rfl 3 (by decide) kw_161 rfl dX4_copy_26 ?_
  refine g_put (pc := 29) C (w' := cs_X4 J.2.2.1 a0 s2_year s2_wet s2_lost s2_eaten s_tied s_ripeMany s_gone s_place s_heard s_many s_lying s_ripe ++ cs_X4 J.2.2.1 a1 s2_year s2_wet s2_lost s2_eaten s2_tied s2_ripeMany s2_gone s2_place s2_heard s2_many s2_lying s2_ripe) FOK_X4 0 rfl rfl 3 (by decide) kw_161 rfl rfl rfl (Nat.le_of_ble_eq_true rfl) dX4_copy_29 rfl ?_
  refine g_aload_n (pc := 32) C 0 rfl dX4_copy_32 ?_
  refine g_aload_n (pc := 33) C 1 rfl dX4_copy_33 ?_
  refine g_get (pc := 34) C FOK_X4 7 rfl rfl 4 (by decide) kw_163 rfl dX4_copy_34 ?_
  refine g_put (pc := 37) C (w' := cs_X4 J.2.2.1 a0 s2_year s2_wet s2_lost s2_eaten s2_tied s_ripeMany s_gone s_place s_heard s_many s_lying s_ripe ++ cs_X4 J.2.2.1 a1 s2_year s2_wet s2_lost s2_eaten s2_tied s2_ripeMany s2_gone s2_place s2_heard s2_many s2_lying s2_ripe) FOK_X4 0 rfl rfl 4 (by decide) kw_163 rfl rfl rfl (Nat.le_of_ble_eq_true rfl) dX4_copy_37 rfl ?_
  refine g_aload_n (pc := 40) C 0 rfl dX4_copy_40 ?_
  refine g_aload_n (pc := 41) C 1 rfl dX4_copy_41 ?_
  refine g_get (pc := 42) C FOK_X4 7 rfl rfl 5 (by decide) kw_165 rfl dX4_copy_42 ?_
  refine g_put (pc := 45) C (w' := cs_X4 J.2.2.1 a0 s2_year s2_wet s2_lost s2_eaten s2_tied s2_ripeMany s_gone s_place s_heard s_many s_lying s_ripe ++ cs_X4 J.2.2.1 a1 s2_year s2_wet s2_lost s2_eaten s2_tied s2_ripeMany s2_gone s2_place s2_heard s2_many s2_lying s2_ripe) FOK_X4 0 rfl rfl 5 (by decide) kw_165 rfl rfl rfl (Nat.le_of_ble_eq_true rfl) dX4_copy_45 rfl ?_
  refine g_aload_n (pc := 48) C 1 rfl dX4_copy_48 ?_
  refine g_get (pc := 49) C FOK_X4 7 rfl rfl 6 (by decide) kw_167 rfl dX4_copy_49 ?_
  refine g_iconst (pc := 52) C dX4_copy_52 ci_0 ?_
  refine g_aload_n (pc := 53) C 0 rfl dX4_copy_53 ?_
  refine g_get (pc := 54) C FOK_X4 0 rfl rfl 6 (by decide) kw_167 rfl dX4_copy_54 ?_
  refine g_iconst (pc := 57) C dX4_copy_57 ci_0 ?_
  refine g_bipush (pc := 58) C dX4_copy_58 cb_6 ?_
  obtain ⟨hi, h⟩ := cp_of h
  refine g_copyi (pc := 60) C (w' := cs_X4 J.2.2.1 a0 s2_year s2_wet s2_lost s2_eaten s2_tied s2_ripeMany (va_cpy s2_gone s_gone (0 : Int32).toNatClampNeg (0 : Int32).toNatClampNeg (6 : Int32).toNatClampNeg) s_place s_heard s_many s_lying s_ripe ++ cs_X4 J.2.2.1 a1 s2_year s2_wet s2_lost s2_eaten s2_tied s2_ripeMany s2_gone s2_place s2_heard s2_many s2_lying s2_ripe) kw_449 kw_451 kw_450 kw_106 8 1 rfl rfl hi (Nat.le_of_ble_eq_true rfl) (Nat.le_of_ble_eq_true rfl) dX4_copy_60 rfl ?_
  refine g_aload_n (pc := 63) C 1 rfl dX4_copy_63 ?_
  refine g_get (pc := 64) C FOK_X4 7 rfl rfl 7 (by decide) kw_168 rfl dX4_copy_64 ?_
  refine g_iconst (pc := 67) C dX4_copy_67 ci_0 ?_
  refine g_aload_n (pc := 68) C 0 rfl dX4_copy_68 ?_
  refine g_get (pc := 69) C FOK_X4 0 rfl rfl 7 (by decide) kw_168 rfl dX4_copy_69 ?_
  refine g_iconst (pc := 72) C dX4_copy_72 ci_0 ?_
  refine g_iconst (pc := 73) C dX4_copy_73 ci_5 ?_
  obtain ⟨hi, h⟩ := cp_of h
  refine g_copyi (pc := 74) C (w' := cs_X4 J.2.2.1 a0 s2_year s2_wet s2_lost s2_eaten s2_tied s2_ripeMany (va_cpy s2_gone s_gone (0 : Int32).toNatClampNeg (0 : Int32).toNatClampNeg (6 : Int32).toNatClampNeg) (va_cpy s2_place s_place (0 : Int32).toNatClampNeg (0 : Int32).toNatClampNeg (5 : Int32).toNatClampNeg) s_heard s_many s_lying s_ripe ++ cs_X4 J.2.2.1 a1 s2_year s2_wet s2_lost s2_eaten s2_tied s2_ripeMany s2_gone s2_place s2_heard s2_many s2_lying s2_ripe) kw_449 kw_451 kw_450 kw_106 9 2 rfl rfl hi (Nat.le_of_ble_eq_true rfl) (Nat.le_of_ble_eq_true rfl) dX4_copy_74 rfl ?_
  refine g_aload_n (pc := 77) C 1 rfl dX4_copy_77 ?_
  refine g_get (pc := 78) C FOK_X4 7 rfl rfl 8 (by decide) kw_170 rfl dX4_copy_78 ?_
  refine g_iconst (pc := 81) C dX4_copy_81 ci_0 ?_
  refine g_aload_n (pc := 82) C 0 rfl dX4_copy_82 ?_
  refine g_get (pc := 83) C FOK_X4 0 rfl rfl 8 (by decide) kw_170 rfl dX4_copy_83 ?_
  refine g_iconst (pc := 86) C dX4_copy_86 ci_0 ?_
  refine g_iconst (pc := 87) C dX4_copy_87 ci_5 ?_
  obtain ⟨hi, h⟩ := cp_of h
  refine g_copyi (pc := 88) C (w' := cs_X4 J.2.2.1 a0 s2_year s2_wet s2_lost s2_eaten s2_tied s2_ripeMany (va_cpy s2_gone s_gone (0 : Int32).toNatClampNeg (0 : Int32).toNatClampNeg (6 : Int32).toNatClampNeg) (va_cpy s2_place s_place (0 : Int32).toNatClampNeg (0 : Int32).toNatClampNeg (5 : Int32).toNatClampNeg) (va_cpy s2_heard s_heard (0 : Int32).toNatClampNeg (0 : Int32).toNatClampNeg (5 : Int32).toNatClampNeg) s_many s_lying s_ripe ++ cs_X4 J.2.2.1 a1 s2_year s2_wet s2_lost s2_eaten s2_tied s2_ripeMany s2_gone s2_place s2_heard s2_many s2_lying s2_ripe) kw_449 kw_451 kw_450 kw_106 10 3 rfl rfl hi (Nat.le_of_ble_eq_true rfl) (Nat.le_of_ble_eq_true rfl) dX4_copy_88 rfl ?_
  refine g_aload_n (pc := 91) C 1 rfl dX4_copy_91 ?_
  refine g_get (pc := 92) C FOK_X4 7 rfl rfl 9 (by decide) kw_172 rfl dX4_copy_92 ?_
  refine g_iconst (pc := 95) C dX4_copy_95 ci_0 ?_
  refine g_aload_n (pc := 96) C 0 rfl dX4_copy_96 ?_
  refine g_get (pc := 97) C FOK_X4 0 rfl rfl 9 (by decide) kw_172 rfl dX4_copy_97 ?_
  refine g_iconst (pc := 100) C dX4_copy_100 ci_0 ?_
  refine g_bipush (pc := 101) C dX4_copy_101 cb_6 ?_
  obtain ⟨hi, h⟩ := cp_of h
  refine g_copyi (pc := 103) C (w' := cs_X4 J.2.2.1 a0 s2_year s2_wet s2_lost s2_eaten s2_tied s2_ripeMany (va_cpy s2_gone s_gone (0 : Int32).toNatClampNeg (0 : Int32).toNatClampNeg (6 : Int32).toNatClampNeg) (va_cpy s2_place s_place (0 : Int32).toNatClampNeg (0 : Int32).toNatClampNeg (5 : Int32).toNatClampNeg) (va_cpy s2_heard s_heard (0 : Int32).toNatClampNeg (0 : Int32).toNatClampNeg (5 : Int32).toNatClampNeg) (va_cpy s2_many s_many (0 : Int32).toNatClampNeg (0 : Int32).toNatClampNeg (6 : Int32).toNatClampNeg) s_lying s_ripe ++ cs_X4 J.2.2.1 a1 s2_year s2_wet s2_lost s2_eaten s2_tied s2_ripeMany s2_gone s2_place s2_heard s2_many s2_lying s2_ripe) kw_449 kw_451 kw_450 kw_106 11 4 rfl rfl hi (Nat.le_of_ble_eq_true rfl) (Nat.le_of_ble_eq_true rfl) dX4_copy_103 rfl ?_
  refine g_aload_n (pc := 106) C 1 rfl dX4_copy_106 ?_
  refine g_get (pc := 107) C FOK_X4 7 rfl rfl 10 (by decide) kw_174 rfl dX4_copy_107 ?_
  refine g_iconst (pc := 110) C dX4_copy_110 ci_0 ?_
  refine g_aload_n (pc := 111) C 0 rfl dX4_copy_111 ?_
  refine g_get (pc := 112) C FOK_X4 0 rfl rfl 10 (by decide) kw_174 rfl dX4_copy_112 ?_
  refine g_iconst (pc := 115) C dX4_copy_115 ci_0 ?_
  refine g_bipush (pc := 116) C dX4_copy_116 cb_72 ?_
  obtain ⟨hi, h⟩ := cp_of h
  refine g_copyi (pc := 118) C (w' := cs_X4 J.2.2.1 a0 s2_year s2_wet s2_lost s2_eaten s2_tied s2_ripeMany (va_cpy s2_gone s_gone (0 : Int32).toNatClampNeg (0 : Int32).toNatClampNeg (6 : Int32).toNatClampNeg) (va_cpy s2_place s_place (0 : Int32).toNatClampNeg (0 : Int32).toNatClampNeg (5 : Int32).toNatClampNeg) (va_cpy s2_heard s_heard (0 : Int32).toNatClampNeg (0 : Int32).toNatClampNeg (5 : Int32).toNatClampNeg) (va_cpy s2_many s_many (0 : Int32).toNatClampNeg (0 : Int32).toNatClampNeg (6 : Int32).toNatClampNeg) (va_cpy s2_lying s_lying (0 : Int32).toNatClampNeg (0 : Int32).toNatClampNeg (72 : Int32).toNatClampNeg) s_ripe ++ cs_X4 J.2.2.1 a1 s2_year s2_wet s2_lost s2_eaten s2_tied s2_ripeMany s2_gone s2_place s2_heard s2_many s2_lying s2_ripe) kw_449 kw_451 kw_450 kw_106 12 5 rfl rfl hi (Nat.le_of_ble_eq_true rfl) (Nat.le_of_ble_eq_true rfl) dX4_copy_118 rfl ?_
  refine g_aload_n (pc := 121) C 1 rfl dX4_copy_121 ?_
  refine g_get (pc := 122) C FOK_X4 7 rfl rfl 11 (by decide) kw_175 rfl dX4_copy_122 ?_
  refine g_iconst (pc := 125) C dX4_copy_125 ci_0 ?_
  refine g_aload_n (pc := 126) C 0 rfl dX4_copy_126 ?_
  refine g_get (pc := 127) C FOK_X4 0 rfl rfl 11 (by decide) kw_175 rfl dX4_copy_127 ?_
  refine g_iconst (pc := 130) C dX4_copy_130 ci_0 ?_
  refine g_bipush (pc := 131) C dX4_copy_131 cb_60 ?_
  obtain ⟨hi, h⟩ := cp_of h
  refine g_copyi (pc := 133) C (w' := cs_X4 J.2.2.1 a0 s2_year s2_wet s2_lost s2_eaten s2_tied s2_ripeMany (va_cpy s2_gone s_gone (0 : Int32).toNatClampNeg (0 : Int32).toNatClampNeg (6 : Int32).toNatClampNeg) (va_cpy s2_place s_place (0 : Int32).toNatClampNeg (0 : Int32).toNatClampNeg (5 : Int32).toNatClampNeg) (va_cpy s2_heard s_heard (0 : Int32).toNatClampNeg (0 : Int32).toNatClampNeg (5 : Int32).toNatClampNeg) (va_cpy s2_many s_many (0 : Int32).toNatClampNeg (0 : Int32).toNatClampNeg (6 : Int32).toNatClampNeg) (va_cpy s2_lying s_lying (0 : Int32).toNatClampNeg (0 : Int32).toNatClampNeg (72 : Int32).toNatClampNeg) (va_cpy s2_ripe s_ripe (0 : Int32).toNatClampNeg (0 : Int32).toNatClampNeg (60 : Int32).toNatClampNeg) ++ cs_X4 J.2.2.1 a1 s2_year s2_wet s2_lost s2_eaten s2_tied s2_ripeMany s2_gone s2_place s2_heard s2_many s2_lying s2_ripe) kw_449 kw_451 kw_450 kw_106 13 6 rfl rfl hi (Nat.le_of_ble_eq_true rfl) (Nat.le_of_ble_eq_true rfl) dX4_copy_133 rfl ?_
  cases h
  exact g_vret C E dX4_copy_136
noncomputable def f_X9_has  (n1 : Int32) (n2 : Int32) : Option (Int32) := if ((n1 >>> (n2 &&& 31)) &&& 1) = 1 then some 1 else some 0
def rm_X9_has : Room := { frames := 0, cells := 0, slots := 0, locals := 0 }
set_option maxRecDepth 100000 in
set_option maxHeartbeats 4000000 in
theorem t_X9_has {J : Jt}  {n1 : Int32} {n2 : Int32} {r : Int32} (h : f_X9_has n1 n2 = some r) : Mt J yX9_has cX9_has 2 (some .boolean) rm_X9_has [.int n1, .int n2] ([]) (some (.int r)) ([]) := by
  refine Mt_of (own := RX9) (by decide) rfl (Nat.le_of_ble_eq_true rfl) rfl (fun Z C E => ?_)
  unfold f_X9_has at h
  show G J Z 0 0 ([]) 2 [(0, .int n1), (1, .int n2)] 0 []
  refine g_iload_n (pc := 0) C 0 rfl dX9_has_0 ?_
  refine g_iload_n (pc := 1) C 1 rfl dX9_has_1 ?_
  refine g_ishr (pc := 2) C dX9_has_2 ?_
  refine g_iconst (pc := 3) C dX9_has_3 ci_1 ?_
  refine g_iand (pc := 4) C dX9_has_4 ?_
  refine g_iconst (pc := 5) C dX9_has_5 ci_1 ?_
  refine g_icmp_ne (pc := 6) C (tgt := 13) dX9_has_6 rfl h (fun h => ?_) (fun h => ?_)
  · refine g_iconst (pc := 13) C dX9_has_13 ci_0 ?_
    cases h
    exact g_zret C rfl E dX9_has_14
  · refine g_iconst (pc := 9) C dX9_has_9 ci_1 ?_
    refine g_goto (pc := 10) C (tgt := 14) dX9_has_10 rfl ?_
    cases h
    exact g_zret C rfl E dX9_has_14
noncomputable def f_X4_isTied (s_tied : Int32) (n1 : Int32) : Option (Int32) := b1 (f_X9_has s_tied n1) (fun v1 => if zok v1 then some v1 else none)
def rm_X4_isTied : Room := { frames := 1, cells := 0, slots := 0, locals := 21 }
set_option maxRecDepth 100000 in
set_option maxHeartbeats 4000000 in
theorem t_X4_isTied {J : Jt} {a0 : Nat → Nat} {s_year : Int32} {s_wet : Int32} {s_lost : Int32} {s_eaten : Int32} {s_tied : Int32} {s_ripeMany : Int32} {s_gone : Nat → Int32} {s_place : Nat → Int32} {s_heard : Nat → Int32} {s_many : Nat → Int32} {s_lying : Nat → Int32} {s_ripe : Nat → Int32} {n1 : Int32} {r : Int32} (h : f_X4_isTied s_tied n1 = some r) : Mt J yX4_isTied cX4_isTied 2 (some .boolean) rm_X4_isTied [.ref (a0 0), .int n1] (cs_X4 J.2.2.1 a0 s_year s_wet s_lost s_eaten s_tied s_ripeMany s_gone s_place s_heard s_many s_lying s_ripe) (some (.int r)) (cs_X4 J.2.2.1 a0 s_year s_wet s_lost s_eaten s_tied s_ripeMany s_gone s_place s_heard s_many s_lying s_ripe) := by
  refine Mt_of (own := RX4) (by decide) rfl (Nat.le_of_ble_eq_true rfl) rfl (fun Z C E => ?_)
  unfold f_X4_isTied at h
  show G J Z 0 0 (cs_X4 J.2.2.1 a0 s_year s_wet s_lost s_eaten s_tied s_ripeMany s_gone s_place s_heard s_many s_lying s_ripe) 2 [(0, .ref (a0 0)), (1, .int n1)] 0 []
  refine g_aload_n (pc := 0) C 0 rfl dX4_isTied_0 ?_
  refine g_get (pc := 1) C FOK_X4 0 rfl rfl 4 (by decide) kw_163 rfl dX4_isTied_1 ?_
  refine g_iload_n (pc := 4) C 1 rfl dX4_isTied_4 ?_
  obtain ⟨v1, hc, h⟩ := b1_of h
  refine g_callSN (pc := 5) C (w' := cs_X4 J.2.2.1 a0 s_year s_wet s_lost s_eaten s_tied s_ripeMany s_gone s_place s_heard s_many s_lying s_ripe) (As := [.int s_tied, .int n1]) (st := []) (t_X9_has hc) Sub.nil (by decide) kw_483 kw_86 hn_X9_has kw_484 rfl (Nat.le_of_ble_eq_true rfl) (Nat.le_of_ble_eq_true rfl) (Nat.le_of_ble_eq_true rfl) (Nat.le_of_ble_eq_true rfl) (Nat.le_of_ble_eq_true rfl) dX4_isTied_5 ?_
  obtain ⟨hz, h⟩ := zok_of h
  cases h
  exact g_zret C hz E dX4_isTied_8
noncomputable def f_X4_leftOfAll_4 (s_gone : Nat → Int32) (p_letters : Int32) (p_length : Nat → Int32) : Nat → Int32 → Int32 → Option (Int32)
  | 0, _, _ => none
  | n + 1, x2, x3 => if p_letters ≤ x3 then some x2 else b1 (f_X4_leftOf s_gone p_length x3) (fun v1 => f_X4_leftOfAll_4 s_gone p_letters p_length n (x2 + v1) (x3 + 1))
noncomputable def f_X4_leftOfAll (s_gone : Nat → Int32) (p_letters : Int32) (p_length : Nat → Int32) : Option (Int32) := f_X4_leftOfAll_4 s_gone p_letters p_length FU 0 0
def rm_X4_leftOfAll : Room := { frames := 1, cells := 0, slots := 0, locals := 22 }
set_option maxRecDepth 100000 in
set_option maxHeartbeats 4000000 in
theorem j_X4_leftOfAll_4 {J : Jt} {Z : Zt} {a0 : Nat → Nat} {a1 : Nat → Nat} {s_year : Int32} {s_wet : Int32} {s_lost : Int32} {s_eaten : Int32} {s_tied : Int32} {s_ripeMany : Int32} {s_gone : Nat → Int32} {s_place : Nat → Int32} {s_heard : Nat → Int32} {s_many : Nat → Int32} {s_lying : Nat → Int32} {s_ripe : Nat → Int32} {p_beds : Int32} {p_letters : Int32} {p_readers : Int32} {p_far : Nat → Int32} {p_drain : Nat → Int32} {p_length : Nat → Int32} {p_words : Nat → Int32} {p_home : Nat → Int32} {r : Int32} (C : Cx J Z cX4_leftOfAll 4 RX4 (some .int) rm_X4_leftOfAll) (E : Ez J Z 0 0 (some (.int r)) (cs_X4 J.2.2.1 a0 s_year s_wet s_lost s_eaten s_tied s_ripeMany s_gone s_place s_heard s_many s_lying s_ripe ++ cs_X2 J.2.2.1 a1 p_beds p_letters p_readers p_far p_drain p_length p_words p_home)) : ∀ (n : Nat) (x2 : Int32) (x3 : Int32), f_X4_leftOfAll_4 s_gone p_letters p_length n x2 x3 = some r → G J Z 0 0 (cs_X4 J.2.2.1 a0 s_year s_wet s_lost s_eaten s_tied s_ripeMany s_gone s_place s_heard s_many s_lying s_ripe ++ cs_X2 J.2.2.1 a1 p_beds p_letters p_readers p_far p_drain p_length p_words p_home) 4 [(0, .ref (a0 0)), (1, .ref (a1 0)), (2, .int x2), (3, .int x3)] 4 [] := by
  intro n
  induction n with
  | zero =>
    intro x2 x3 h
    rw [f_X4_leftOfAll_4] at h
    cases h
  | succ n ih =>
    intro x2 x3 h
    rw [f_X4_leftOfAll_4] at h
    refine g_iload_n (pc := 4) C 3 rfl dX4_leftOfAll_4 ?_
    refine g_aload_n (pc := 5) C 1 rfl dX4_leftOfAll_5 ?_
    refine g_get (pc := 6) C FOK_X2 7 rfl rfl 1 (by decide) kw_285 rfl dX4_leftOfAll_6 ?_
    refine g_icmp_ge (pc := 9) C (tgt := 27) dX4_leftOfAll_9 rfl h (fun h => ?_) (fun h => ?_)
    · refine g_iload_n (pc := 27) C 2 rfl dX4_leftOfAll_27 ?_
      cases h
      exact g_iret C E dX4_leftOfAll_28
    · refine g_iload_n (pc := 12) C 2 rfl dX4_leftOfAll_12 ?_
      refine g_aload_n (pc := 13) C 0 rfl dX4_leftOfAll_13 ?_
      refine g_aload_n (pc := 14) C 1 rfl dX4_leftOfAll_14 ?_
      refine g_iload_n (pc := 15) C 3 rfl dX4_leftOfAll_15 ?_
      obtain ⟨v1, hc, h⟩ := b1_of h
      refine g_callV (pc := 16) C (w' := cs_X4 J.2.2.1 a0 s_year s_wet s_lost s_eaten s_tied s_ripeMany s_gone s_place s_heard s_many s_lying s_ripe ++ cs_X2 J.2.2.1 a1 p_beds p_letters p_readers p_far p_drain p_length p_words p_home) (As := [.ref (a1 0), .int x3]) (st := [.int x2]) (ci := 4) (q0 := 0) rfl rfl (t_X4_leftOf (a0 := a0) (a1 := a1) hc) Sub.same kw_476 kw_465 kw_466 kw_88 hy_X4_leftOf kw_467 rfl (Nat.le_of_ble_eq_true rfl) (Nat.le_of_ble_eq_true rfl) (Nat.le_of_ble_eq_true rfl) (Nat.le_of_ble_eq_true rfl) (Nat.le_of_ble_eq_true rfl) dX4_leftOfAll_16 ?_
      refine g_iadd (pc := 19) C dX4_leftOfAll_19 ?_
      refine g_istore_n (pc := 20) C [(2, .int (x2 + v1)), (0, .ref (a0 0)), (1, .ref (a1 0)), (3, .int x3)] dX4_leftOfAll_20 rfl (by decide) rfl ?_
      refine g_iinc (pc := 21) C (j := 3) [(3, .int (x3 + 1)), (2, .int (x2 + v1)), (0, .ref (a0 0)), (1, .ref (a1 0))] dX4_leftOfAll_21 rfl (ii_1 _) (by decide) rfl ?_
      refine g_goto (pc := 24) C (tgt := 4) dX4_leftOfAll_24 rfl ?_
      refine g_lv [2, 3, 1, 0] rfl ?_
      exact ih (x2 + v1) (x3 + 1) h
set_option maxRecDepth 100000 in
set_option maxHeartbeats 4000000 in
theorem t_X4_leftOfAll {J : Jt} {a0 : Nat → Nat} {a1 : Nat → Nat} {s_year : Int32} {s_wet : Int32} {s_lost : Int32} {s_eaten : Int32} {s_tied : Int32} {s_ripeMany : Int32} {s_gone : Nat → Int32} {s_place : Nat → Int32} {s_heard : Nat → Int32} {s_many : Nat → Int32} {s_lying : Nat → Int32} {s_ripe : Nat → Int32} {p_beds : Int32} {p_letters : Int32} {p_readers : Int32} {p_far : Nat → Int32} {p_drain : Nat → Int32} {p_length : Nat → Int32} {p_words : Nat → Int32} {p_home : Nat → Int32} {r : Int32} (h : f_X4_leftOfAll s_gone p_letters p_length = some r) : Mt J yX4_leftOfAll cX4_leftOfAll 4 (some .int) rm_X4_leftOfAll [.ref (a0 0), .ref (a1 0)] (cs_X4 J.2.2.1 a0 s_year s_wet s_lost s_eaten s_tied s_ripeMany s_gone s_place s_heard s_many s_lying s_ripe ++ cs_X2 J.2.2.1 a1 p_beds p_letters p_readers p_far p_drain p_length p_words p_home) (some (.int r)) (cs_X4 J.2.2.1 a0 s_year s_wet s_lost s_eaten s_tied s_ripeMany s_gone s_place s_heard s_many s_lying s_ripe ++ cs_X2 J.2.2.1 a1 p_beds p_letters p_readers p_far p_drain p_length p_words p_home) := by
  refine Mt_of (own := RX4) (by decide) rfl (Nat.le_of_ble_eq_true rfl) rfl (fun Z C E => ?_)
  unfold f_X4_leftOfAll at h
  show G J Z 0 0 (cs_X4 J.2.2.1 a0 s_year s_wet s_lost s_eaten s_tied s_ripeMany s_gone s_place s_heard s_many s_lying s_ripe ++ cs_X2 J.2.2.1 a1 p_beds p_letters p_readers p_far p_drain p_length p_words p_home) 4 [(0, .ref (a0 0)), (1, .ref (a1 0))] 0 []
  refine g_iconst (pc := 0) C dX4_leftOfAll_0 ci_0 ?_
  refine g_istore_n (pc := 1) C [(2, .int 0), (0, .ref (a0 0)), (1, .ref (a1 0))] dX4_leftOfAll_1 rfl (by decide) rfl ?_
  refine g_iconst (pc := 2) C dX4_leftOfAll_2 ci_0 ?_
  refine g_istore_n (pc := 3) C [(3, .int 0), (2, .int 0), (0, .ref (a0 0)), (1, .ref (a1 0))] dX4_leftOfAll_3 rfl (by decide) rfl ?_
  refine g_lv [2, 3, 1, 0] rfl ?_
  exact j_X4_leftOfAll_4 C E  FU 0 0 h
noncomputable def f_X4_nextOf (s_gone : Nat → Int32) (p_length : Nat → Int32) (p_words : Nat → Int32) (n1 : Int32) : Option (Int32) := b1 (f_X4_leftOf s_gone p_length n1) (fun v1 => if v1 ≤ 0 then some (-1) else if ixb n1 6 then b1 (f_X2_wordAt p_words n1 (s_gone n1.toNatClampNeg)) (fun v2 => some v2) else none)
def rm_X4_nextOf : Room := { frames := 1, cells := 0, slots := 0, locals := 22 }
set_option maxRecDepth 100000 in
set_option maxHeartbeats 4000000 in
theorem t_X4_nextOf {J : Jt} {a0 : Nat → Nat} {a1 : Nat → Nat} {s_year : Int32} {s_wet : Int32} {s_lost : Int32} {s_eaten : Int32} {s_tied : Int32} {s_ripeMany : Int32} {s_gone : Nat → Int32} {s_place : Nat → Int32} {s_heard : Nat → Int32} {s_many : Nat → Int32} {s_lying : Nat → Int32} {s_ripe : Nat → Int32} {p_beds : Int32} {p_letters : Int32} {p_readers : Int32} {p_far : Nat → Int32} {p_drain : Nat → Int32} {p_length : Nat → Int32} {p_words : Nat → Int32} {p_home : Nat → Int32} {n1 : Int32} {r : Int32} (h : f_X4_nextOf s_gone p_length p_words n1 = some r) : Mt J yX4_nextOf cX4_nextOf 3 (some .int) rm_X4_nextOf [.ref (a0 0), .ref (a1 0), .int n1] (cs_X4 J.2.2.1 a0 s_year s_wet s_lost s_eaten s_tied s_ripeMany s_gone s_place s_heard s_many s_lying s_ripe ++ cs_X2 J.2.2.1 a1 p_beds p_letters p_readers p_far p_drain p_length p_words p_home) (some (.int r)) (cs_X4 J.2.2.1 a0 s_year s_wet s_lost s_eaten s_tied s_ripeMany s_gone s_place s_heard s_many s_lying s_ripe ++ cs_X2 J.2.2.1 a1 p_beds p_letters p_readers p_far p_drain p_length p_words p_home) := by
  refine Mt_of (own := RX4) (by decide) rfl (Nat.le_of_ble_eq_true rfl) rfl (fun Z C E => ?_)
  unfold f_X4_nextOf at h
  show G J Z 0 0 (cs_X4 J.2.2.1 a0 s_year s_wet s_lost s_eaten s_tied s_ripeMany s_gone s_place s_heard s_many s_lying s_ripe ++ cs_X2 J.2.2.1 a1 p_beds p_letters p_readers p_far p_drain p_length p_words p_home) 3 [(0, .ref (a0 0)), (1, .ref (a1 0)), (2, .int n1)] 0 []
  refine g_aload_n (pc := 0) C 0 rfl dX4_nextOf_0 ?_
  refine g_aload_n (pc := 1) C 1 rfl dX4_nextOf_1 ?_
  refine g_iload_n (pc := 2) C 2 rfl dX4_nextOf_2 ?_
  obtain ⟨v1, hc, h⟩ := b1_of h
  refine g_callV (pc := 3) C (w' := cs_X4 J.2.2.1 a0 s_year s_wet s_lost s_eaten s_tied s_ripeMany s_gone s_place s_heard s_many s_lying s_ripe ++ cs_X2 J.2.2.1 a1 p_beds p_letters p_readers p_far p_drain p_length p_words p_home) (As := [.ref (a1 0), .int n1]) (st := []) (ci := 4) (q0 := 0) rfl rfl (t_X4_leftOf (a0 := a0) (a1 := a1) hc) Sub.same kw_476 kw_465 kw_466 kw_88 hy_X4_leftOf kw_467 rfl (Nat.le_of_ble_eq_true rfl) (Nat.le_of_ble_eq_true rfl) (Nat.le_of_ble_eq_true rfl) (Nat.le_of_ble_eq_true rfl) (Nat.le_of_ble_eq_true rfl) dX4_nextOf_3 ?_
  refine g_if_le (pc := 6) C (tgt := 23) dX4_nextOf_6 rfl h (fun h => ?_) (fun h => ?_)
  · refine g_iconst (pc := 23) C dX4_nextOf_23 ci_m1 ?_
    cases h
    exact g_iret C E dX4_nextOf_24
  · refine g_aload_n (pc := 9) C 1 rfl dX4_nextOf_9 ?_
    refine g_iload_n (pc := 10) C 2 rfl dX4_nextOf_10 ?_
    refine g_aload_n (pc := 11) C 0 rfl dX4_nextOf_11 ?_
    refine g_get (pc := 12) C FOK_X4 0 rfl rfl 6 (by decide) kw_167 rfl dX4_nextOf_12 ?_
    refine g_iload_n (pc := 15) C 2 rfl dX4_nextOf_15 ?_
    obtain ⟨hi, h⟩ := ix_of h
    refine g_iald (pc := 16) C 1 rfl hi dX4_nextOf_16 ?_
    obtain ⟨v2, hc, h⟩ := b1_of h
    refine g_callV (pc := 17) C (w' := cs_X4 J.2.2.1 a0 s_year s_wet s_lost s_eaten s_tied s_ripeMany s_gone s_place s_heard s_many s_lying s_ripe ++ cs_X2 J.2.2.1 a1 p_beds p_letters p_readers p_far p_drain p_length p_words p_home) (As := [.int n1, .int (s_gone n1.toNatClampNeg)]) (st := []) (ci := 2) (q0 := 7) rfl rfl (t_X2_wordAt (a0 := a1) hc) (Sub.gen [7, 8, 9, 10, 11, 12] [0, 1, 2, 3, 4, 5, 6] [0, 1, 2, 3, 4, 5, 6, 7, 8, 9, 10, 11, 12] rfl (by decide) rfl (by decide) (by decide) rfl (by decide)) kw_477 kw_469 kw_470 kw_92 hy_X2_wordAt kw_471 rfl (Nat.le_of_ble_eq_true rfl) (Nat.le_of_ble_eq_true rfl) (Nat.le_of_ble_eq_true rfl) (Nat.le_of_ble_eq_true rfl) (Nat.le_of_ble_eq_true rfl) dX4_nextOf_17 ?_
    refine g_goto (pc := 20) C (tgt := 24) dX4_nextOf_20 rfl ?_
    cases h
    exact g_iret C E dX4_nextOf_24
noncomputable def f_X4_lyingInAll_4 (s_many : Nat → Int32) : Nat → Int32 → Int32 → Option (Int32)
  | 0, _, _ => none
  | n + 1, x1, x2 => if 6 ≤ x2 then some x1 else if ixb x2 6 then f_X4_lyingInAll_4 s_many n (x1 + (s_many x2.toNatClampNeg)) (x2 + 1) else none
noncomputable def f_X4_lyingInAll (s_many : Nat → Int32) : Option (Int32) := f_X4_lyingInAll_4 s_many FU 0 0
def rm_X4_lyingInAll : Room := { frames := 0, cells := 0, slots := 0, locals := 0 }
set_option maxRecDepth 100000 in
set_option maxHeartbeats 4000000 in
theorem j_X4_lyingInAll_4 {J : Jt} {Z : Zt} {a0 : Nat → Nat} {s_year : Int32} {s_wet : Int32} {s_lost : Int32} {s_eaten : Int32} {s_tied : Int32} {s_ripeMany : Int32} {s_gone : Nat → Int32} {s_place : Nat → Int32} {s_heard : Nat → Int32} {s_many : Nat → Int32} {s_lying : Nat → Int32} {s_ripe : Nat → Int32} {r : Int32} (C : Cx J Z cX4_lyingInAll 3 RX4 (some .int) rm_X4_lyingInAll) (E : Ez J Z 0 0 (some (.int r)) (cs_X4 J.2.2.1 a0 s_year s_wet s_lost s_eaten s_tied s_ripeMany s_gone s_place s_heard s_many s_lying s_ripe)) : ∀ (n : Nat) (x1 : Int32) (x2 : Int32), f_X4_lyingInAll_4 s_many n x1 x2 = some r → G J Z 0 0 (cs_X4 J.2.2.1 a0 s_year s_wet s_lost s_eaten s_tied s_ripeMany s_gone s_place s_heard s_many s_lying s_ripe) 3 [(0, .ref (a0 0)), (1, .int x1), (2, .int x2)] 4 [] := by
  intro n
  induction n with
  | zero =>
    intro x1 x2 h
    rw [f_X4_lyingInAll_4] at h
    cases h
  | succ n ih =>
    intro x1 x2 h
    rw [f_X4_lyingInAll_4] at h
    refine g_iload_n (pc := 4) C 2 rfl dX4_lyingInAll_4 ?_
    refine g_bipush (pc := 5) C dX4_lyingInAll_5 cb_6 ?_
    refine g_icmp_ge (pc := 7) C (tgt := 25) dX4_lyingInAll_7 rfl h (fun h => ?_) (fun h => ?_)
    · refine g_iload_n (pc := 25) C 1 rfl dX4_lyingInAll_25 ?_
      cases h
      exact g_iret C E dX4_lyingInAll_26
    · refine g_iload_n (pc := 10) C 1 rfl dX4_lyingInAll_10 ?_
      refine g_aload_n (pc := 11) C 0 rfl dX4_lyingInAll_11 ?_
      refine g_get (pc := 12) C FOK_X4 0 rfl rfl 9 (by decide) kw_172 rfl dX4_lyingInAll_12 ?_
      refine g_iload_n (pc := 15) C 2 rfl dX4_lyingInAll_15 ?_
      obtain ⟨hi, h⟩ := ix_of h
      refine g_iald (pc := 16) C 4 rfl hi dX4_lyingInAll_16 ?_
      refine g_iadd (pc := 17) C dX4_lyingInAll_17 ?_
      refine g_istore_n (pc := 18) C [(1, .int (x1 + (s_many x2.toNatClampNeg))), (0, .ref (a0 0)), (2, .int x2)] dX4_lyingInAll_18 rfl (by decide) rfl ?_
      refine g_iinc (pc := 19) C (j := 2) [(2, .int (x2 + 1)), (1, .int (x1 + (s_many x2.toNatClampNeg))), (0, .ref (a0 0))] dX4_lyingInAll_19 rfl (ii_1 _) (by decide) rfl ?_
      refine g_goto (pc := 22) C (tgt := 4) dX4_lyingInAll_22 rfl ?_
      refine g_lv [2, 1, 0] rfl ?_
      exact ih (x1 + (s_many x2.toNatClampNeg)) (x2 + 1) h
set_option maxRecDepth 100000 in
set_option maxHeartbeats 4000000 in
theorem t_X4_lyingInAll {J : Jt} {a0 : Nat → Nat} {s_year : Int32} {s_wet : Int32} {s_lost : Int32} {s_eaten : Int32} {s_tied : Int32} {s_ripeMany : Int32} {s_gone : Nat → Int32} {s_place : Nat → Int32} {s_heard : Nat → Int32} {s_many : Nat → Int32} {s_lying : Nat → Int32} {s_ripe : Nat → Int32} {r : Int32} (h : f_X4_lyingInAll s_many = some r) : Mt J yX4_lyingInAll cX4_lyingInAll 3 (some .int) rm_X4_lyingInAll [.ref (a0 0)] (cs_X4 J.2.2.1 a0 s_year s_wet s_lost s_eaten s_tied s_ripeMany s_gone s_place s_heard s_many s_lying s_ripe) (some (.int r)) (cs_X4 J.2.2.1 a0 s_year s_wet s_lost s_eaten s_tied s_ripeMany s_gone s_place s_heard s_many s_lying s_ripe) := by
  refine Mt_of (own := RX4) (by decide) rfl (Nat.le_of_ble_eq_true rfl) rfl (fun Z C E => ?_)
  unfold f_X4_lyingInAll at h
  show G J Z 0 0 (cs_X4 J.2.2.1 a0 s_year s_wet s_lost s_eaten s_tied s_ripeMany s_gone s_place s_heard s_many s_lying s_ripe) 3 [(0, .ref (a0 0))] 0 []
  refine g_iconst (pc := 0) C dX4_lyingInAll_0 ci_0 ?_
  refine g_istore_n (pc := 1) C [(1, .int 0), (0, .ref (a0 0))] dX4_lyingInAll_1 rfl (by decide) rfl ?_
  refine g_iconst (pc := 2) C dX4_lyingInAll_2 ci_0 ?_
  refine g_istore_n (pc := 3) C [(2, .int 0), (1, .int 0), (0, .ref (a0 0))] dX4_lyingInAll_3 rfl (by decide) rfl ?_
  refine g_lv [2, 1, 0] rfl ?_
  exact j_X4_lyingInAll_4 C E  FU 0 0 h
noncomputable def f_X4_wordsIn_4 (s_many : Nat → Int32) (s_lying : Nat → Int32) (n1 : Int32) : Nat → Int32 → Int32 → Option (Int32)
  | 0, _, _ => none
  | n + 1, x2, x3 => if ixb n1 6 then if (s_many n1.toNatClampNeg) ≤ x3 then some x2 else b1 (f_X4_lyingAt s_many s_lying n1 x3) (fun v1 => f_X4_wordsIn_4 s_many s_lying n1 n (x2 ||| ((1 : Int32) <<< (v1 &&& 31))) (x3 + 1)) else none
noncomputable def f_X4_wordsIn (s_many : Nat → Int32) (s_lying : Nat → Int32) (n1 : Int32) : Option (Int32) := f_X4_wordsIn_4 s_many s_lying n1 FU 0 0
def rm_X4_wordsIn : Room := { frames := 1, cells := 0, slots := 0, locals := 22 }
set_option maxRecDepth 100000 in
set_option maxHeartbeats 4000000 in
theorem j_X4_wordsIn_4 {J : Jt} {Z : Zt} {a0 : Nat → Nat} {s_year : Int32} {s_wet : Int32} {s_lost : Int32} {s_eaten : Int32} {s_tied : Int32} {s_ripeMany : Int32} {s_gone : Nat → Int32} {s_place : Nat → Int32} {s_heard : Nat → Int32} {s_many : Nat → Int32} {s_lying : Nat → Int32} {s_ripe : Nat → Int32} {n1 : Int32} {r : Int32} (C : Cx J Z cX4_wordsIn 4 RX4 (some .int) rm_X4_wordsIn) (E : Ez J Z 0 0 (some (.int r)) (cs_X4 J.2.2.1 a0 s_year s_wet s_lost s_eaten s_tied s_ripeMany s_gone s_place s_heard s_many s_lying s_ripe)) : ∀ (n : Nat) (x2 : Int32) (x3 : Int32), f_X4_wordsIn_4 s_many s_lying n1 n x2 x3 = some r → G J Z 0 0 (cs_X4 J.2.2.1 a0 s_year s_wet s_lost s_eaten s_tied s_ripeMany s_gone s_place s_heard s_many s_lying s_ripe) 4 [(0, .ref (a0 0)), (1, .int n1), (2, .int x2), (3, .int x3)] 4 [] := by
  intro n
  induction n with
  | zero =>
    intro x2 x3 h
    rw [f_X4_wordsIn_4] at h
    cases h
  | succ n ih =>
    intro x2 x3 h
    rw [f_X4_wordsIn_4] at h
    refine g_iload_n (pc := 4) C 3 rfl dX4_wordsIn_4 ?_
    refine g_aload_n (pc := 5) C 0 rfl dX4_wordsIn_5 ?_
    refine g_get (pc := 6) C FOK_X4 0 rfl rfl 9 (by decide) kw_172 rfl dX4_wordsIn_6 ?_
    refine g_iload_n (pc := 9) C 1 rfl dX4_wordsIn_9 ?_
    obtain ⟨hi, h⟩ := ix_of h
    refine g_iald (pc := 10) C 4 rfl hi dX4_wordsIn_10 ?_
    refine g_icmp_ge (pc := 11) C (tgt := 31) dX4_wordsIn_11 rfl h (fun h => ?_) (fun h => ?_)
    · refine g_iload_n (pc := 31) C 2 rfl dX4_wordsIn_31 ?_
      cases h
      exact g_iret C E dX4_wordsIn_32
    · refine g_iload_n (pc := 14) C 2 rfl dX4_wordsIn_14 ?_
      refine g_iconst (pc := 15) C dX4_wordsIn_15 ci_1 ?_
      refine g_aload_n (pc := 16) C 0 rfl dX4_wordsIn_16 ?_
      refine g_iload_n (pc := 17) C 1 rfl dX4_wordsIn_17 ?_
      refine g_iload_n (pc := 18) C 3 rfl dX4_wordsIn_18 ?_
      obtain ⟨v1, hc, h⟩ := b1_of h
      refine g_callV (pc := 19) C (w' := cs_X4 J.2.2.1 a0 s_year s_wet s_lost s_eaten s_tied s_ripeMany s_gone s_place s_heard s_many s_lying s_ripe) (As := [.int n1, .int x3]) (st := [.int 1, .int x2]) (ci := 4) (q0 := 0) rfl rfl (t_X4_lyingAt (a0 := a0) hc) Sub.same kw_873 kw_874 kw_875 kw_88 hy_X4_lyingAt kw_876 rfl (Nat.le_of_ble_eq_true rfl) (Nat.le_of_ble_eq_true rfl) (Nat.le_of_ble_eq_true rfl) (Nat.le_of_ble_eq_true rfl) (Nat.le_of_ble_eq_true rfl) dX4_wordsIn_19 ?_
      refine g_ishl (pc := 22) C dX4_wordsIn_22 ?_
      refine g_ior (pc := 23) C dX4_wordsIn_23 ?_
      refine g_istore_n (pc := 24) C [(2, .int (x2 ||| ((1 : Int32) <<< (v1 &&& 31)))), (0, .ref (a0 0)), (1, .int n1), (3, .int x3)] dX4_wordsIn_24 rfl (by decide) rfl ?_
      refine g_iinc (pc := 25) C (j := 3) [(3, .int (x3 + 1)), (2, .int (x2 ||| ((1 : Int32) <<< (v1 &&& 31)))), (0, .ref (a0 0)), (1, .int n1)] dX4_wordsIn_25 rfl (ii_1 _) (by decide) rfl ?_
      refine g_goto (pc := 28) C (tgt := 4) dX4_wordsIn_28 rfl ?_
      refine g_lv [2, 3, 1, 0] rfl ?_
      exact ih (x2 ||| ((1 : Int32) <<< (v1 &&& 31))) (x3 + 1) h
set_option maxRecDepth 100000 in
set_option maxHeartbeats 4000000 in
theorem t_X4_wordsIn {J : Jt} {a0 : Nat → Nat} {s_year : Int32} {s_wet : Int32} {s_lost : Int32} {s_eaten : Int32} {s_tied : Int32} {s_ripeMany : Int32} {s_gone : Nat → Int32} {s_place : Nat → Int32} {s_heard : Nat → Int32} {s_many : Nat → Int32} {s_lying : Nat → Int32} {s_ripe : Nat → Int32} {n1 : Int32} {r : Int32} (h : f_X4_wordsIn s_many s_lying n1 = some r) : Mt J yX4_wordsIn cX4_wordsIn 4 (some .int) rm_X4_wordsIn [.ref (a0 0), .int n1] (cs_X4 J.2.2.1 a0 s_year s_wet s_lost s_eaten s_tied s_ripeMany s_gone s_place s_heard s_many s_lying s_ripe) (some (.int r)) (cs_X4 J.2.2.1 a0 s_year s_wet s_lost s_eaten s_tied s_ripeMany s_gone s_place s_heard s_many s_lying s_ripe) := by
  refine Mt_of (own := RX4) (by decide) rfl (Nat.le_of_ble_eq_true rfl) rfl (fun Z C E => ?_)
  unfold f_X4_wordsIn at h
  show G J Z 0 0 (cs_X4 J.2.2.1 a0 s_year s_wet s_lost s_eaten s_tied s_ripeMany s_gone s_place s_heard s_many s_lying s_ripe) 4 [(0, .ref (a0 0)), (1, .int n1)] 0 []
  refine g_iconst (pc := 0) C dX4_wordsIn_0 ci_0 ?_
  refine g_istore_n (pc := 1) C [(2, .int 0), (0, .ref (a0 0)), (1, .int n1)] dX4_wordsIn_1 rfl (by decide) rfl ?_
  refine g_iconst (pc := 2) C dX4_wordsIn_2 ci_0 ?_
  refine g_istore_n (pc := 3) C [(3, .int 0), (2, .int 0), (0, .ref (a0 0)), (1, .int n1)] dX4_wordsIn_3 rfl (by decide) rfl ?_
  refine g_lv [2, 3, 1, 0] rfl ?_
  exact j_X4_wordsIn_4 C E  FU 0 0 h
noncomputable def f_X4_wordsInAll_4 (s_many : Nat → Int32) (s_lying : Nat → Int32) (p_beds : Int32) : Nat → Int32 → Int32 → Option (Int32)
  | 0, _, _ => none
  | n + 1, x2, x3 => if p_beds ≤ x3 then some x2 else b1 (f_X4_wordsIn s_many s_lying x3) (fun v1 => f_X4_wordsInAll_4 s_many s_lying p_beds n (x2 ||| v1) (x3 + 1))
noncomputable def f_X4_wordsInAll (s_many : Nat → Int32) (s_lying : Nat → Int32) (p_beds : Int32) : Option (Int32) := f_X4_wordsInAll_4 s_many s_lying p_beds FU 0 0
def rm_X4_wordsInAll : Room := { frames := 2, cells := 0, slots := 0, locals := 45 }
set_option maxRecDepth 100000 in
set_option maxHeartbeats 4000000 in
theorem j_X4_wordsInAll_4 {J : Jt} {Z : Zt} {a0 : Nat → Nat} {a1 : Nat → Nat} {s_year : Int32} {s_wet : Int32} {s_lost : Int32} {s_eaten : Int32} {s_tied : Int32} {s_ripeMany : Int32} {s_gone : Nat → Int32} {s_place : Nat → Int32} {s_heard : Nat → Int32} {s_many : Nat → Int32} {s_lying : Nat → Int32} {s_ripe : Nat → Int32} {p_beds : Int32} {p_letters : Int32} {p_readers : Int32} {p_far : Nat → Int32} {p_drain : Nat → Int32} {p_length : Nat → Int32} {p_words : Nat → Int32} {p_home : Nat → Int32} {r : Int32} (C : Cx J Z cX4_wordsInAll 4 RX4 (some .int) rm_X4_wordsInAll) (E : Ez J Z 0 0 (some (.int r)) (cs_X4 J.2.2.1 a0 s_year s_wet s_lost s_eaten s_tied s_ripeMany s_gone s_place s_heard s_many s_lying s_ripe ++ cs_X2 J.2.2.1 a1 p_beds p_letters p_readers p_far p_drain p_length p_words p_home)) : ∀ (n : Nat) (x2 : Int32) (x3 : Int32), f_X4_wordsInAll_4 s_many s_lying p_beds n x2 x3 = some r → G J Z 0 0 (cs_X4 J.2.2.1 a0 s_year s_wet s_lost s_eaten s_tied s_ripeMany s_gone s_place s_heard s_many s_lying s_ripe ++ cs_X2 J.2.2.1 a1 p_beds p_letters p_readers p_far p_drain p_length p_words p_home) 4 [(0, .ref (a0 0)), (1, .ref (a1 0)), (2, .int x2), (3, .int x3)] 4 [] := by
  intro n
  induction n with
  | zero =>
    intro x2 x3 h
    rw [f_X4_wordsInAll_4] at h
    cases h
  | succ n ih =>
    intro x2 x3 h
    rw [f_X4_wordsInAll_4] at h
    refine g_iload_n (pc := 4) C 3 rfl dX4_wordsInAll_4 ?_
    refine g_aload_n (pc := 5) C 1 rfl dX4_wordsInAll_5 ?_
    refine g_get (pc := 6) C FOK_X2 7 rfl rfl 0 (by decide) kw_280 rfl dX4_wordsInAll_6 ?_
    refine g_icmp_ge (pc := 9) C (tgt := 26) dX4_wordsInAll_9 rfl h (fun h => ?_) (fun h => ?_)
    · refine g_iload_n (pc := 26) C 2 rfl dX4_wordsInAll_26 ?_
      cases h
      exact g_iret C E dX4_wordsInAll_27
    · refine g_iload_n (pc := 12) C 2 rfl dX4_wordsInAll_12 ?_
      refine g_aload_n (pc := 13) C 0 rfl dX4_wordsInAll_13 ?_
      refine g_iload_n (pc := 14) C 3 rfl dX4_wordsInAll_14 ?_
      obtain ⟨v1, hc, h⟩ := b1_of h
      refine g_callV (pc := 15) C (w' := cs_X4 J.2.2.1 a0 s_year s_wet s_lost s_eaten s_tied s_ripeMany s_gone s_place s_heard s_many s_lying s_ripe ++ cs_X2 J.2.2.1 a1 p_beds p_letters p_readers p_far p_drain p_length p_words p_home) (As := [.int x3]) (st := [.int x2]) (ci := 4) (q0 := 0) rfl rfl (t_X4_wordsIn (a0 := a0) hc) (Sub.gen [0, 1, 2, 3, 4, 5, 6] [7, 8, 9, 10, 11, 12] [6, 7, 8, 9, 10, 11, 12, 0, 1, 2, 3, 4, 5] rfl (by decide) rfl (by decide) (by decide) rfl (by decide)) kw_869 kw_870 kw_871 kw_88 hy_X4_wordsIn kw_872 rfl (Nat.le_of_ble_eq_true rfl) (Nat.le_of_ble_eq_true rfl) (Nat.le_of_ble_eq_true rfl) (Nat.le_of_ble_eq_true rfl) (Nat.le_of_ble_eq_true rfl) dX4_wordsInAll_15 ?_
      refine g_ior (pc := 18) C dX4_wordsInAll_18 ?_
      refine g_istore_n (pc := 19) C [(2, .int (x2 ||| v1)), (0, .ref (a0 0)), (1, .ref (a1 0)), (3, .int x3)] dX4_wordsInAll_19 rfl (by decide) rfl ?_
      refine g_iinc (pc := 20) C (j := 3) [(3, .int (x3 + 1)), (2, .int (x2 ||| v1)), (0, .ref (a0 0)), (1, .ref (a1 0))] dX4_wordsInAll_20 rfl (ii_1 _) (by decide) rfl ?_
      refine g_goto (pc := 23) C (tgt := 4) dX4_wordsInAll_23 rfl ?_
      refine g_lv [2, 3, 1, 0] rfl ?_
      exact ih (x2 ||| v1) (x3 + 1) h
set_option maxRecDepth 100000 in
set_option maxHeartbeats 4000000 in
theorem t_X4_wordsInAll {J : Jt} {a0 : Nat → Nat} {a1 : Nat → Nat} {s_year : Int32} {s_wet : Int32} {s_lost : Int32} {s_eaten : Int32} {s_tied : Int32} {s_ripeMany : Int32} {s_gone : Nat → Int32} {s_place : Nat → Int32} {s_heard : Nat → Int32} {s_many : Nat → Int32} {s_lying : Nat → Int32} {s_ripe : Nat → Int32} {p_beds : Int32} {p_letters : Int32} {p_readers : Int32} {p_far : Nat → Int32} {p_drain : Nat → Int32} {p_length : Nat → Int32} {p_words : Nat → Int32} {p_home : Nat → Int32} {r : Int32} (h : f_X4_wordsInAll s_many s_lying p_beds = some r) : Mt J yX4_wordsInAll cX4_wordsInAll 4 (some .int) rm_X4_wordsInAll [.ref (a0 0), .ref (a1 0)] (cs_X4 J.2.2.1 a0 s_year s_wet s_lost s_eaten s_tied s_ripeMany s_gone s_place s_heard s_many s_lying s_ripe ++ cs_X2 J.2.2.1 a1 p_beds p_letters p_readers p_far p_drain p_length p_words p_home) (some (.int r)) (cs_X4 J.2.2.1 a0 s_year s_wet s_lost s_eaten s_tied s_ripeMany s_gone s_place s_heard s_many s_lying s_ripe ++ cs_X2 J.2.2.1 a1 p_beds p_letters p_readers p_far p_drain p_length p_words p_home) := by
  refine Mt_of (own := RX4) (by decide) rfl (Nat.le_of_ble_eq_true rfl) rfl (fun Z C E => ?_)
  unfold f_X4_wordsInAll at h
  show G J Z 0 0 (cs_X4 J.2.2.1 a0 s_year s_wet s_lost s_eaten s_tied s_ripeMany s_gone s_place s_heard s_many s_lying s_ripe ++ cs_X2 J.2.2.1 a1 p_beds p_letters p_readers p_far p_drain p_length p_words p_home) 4 [(0, .ref (a0 0)), (1, .ref (a1 0))] 0 []
  refine g_iconst (pc := 0) C dX4_wordsInAll_0 ci_0 ?_
  refine g_istore_n (pc := 1) C [(2, .int 0), (0, .ref (a0 0)), (1, .ref (a1 0))] dX4_wordsInAll_1 rfl (by decide) rfl ?_
  refine g_iconst (pc := 2) C dX4_wordsInAll_2 ci_0 ?_
  refine g_istore_n (pc := 3) C [(3, .int 0), (2, .int 0), (0, .ref (a0 0)), (1, .ref (a1 0))] dX4_wordsInAll_3 rfl (by decide) rfl ?_
  refine g_lv [2, 3, 1, 0] rfl ?_
  exact j_X4_wordsInAll_4 C E  FU 0 0 h
noncomputable def f_X4_timesOf_17 (s_many : Nat → Int32) (s_lying : Nat → Int32) (p_beds : Int32) (n1 : Int32) (k5 : Int32 → Int32 → Option (Int32)) : Nat → Int32 → Int32 → Int32 → Option (Int32)
  | 0, _, _, _ => none
  | n + 1, x3, x4, x5 => if ixb x4 6 then if (s_many x4.toNatClampNeg) ≤ x5 then k5 x3 (x4 + 1) else b1 (f_X4_lyingAt s_many s_lying x4 x5) (fun v1 => if v1 = n1 then f_X4_timesOf_17 s_many s_lying p_beds n1 k5 n (x3 + 1) x4 (x5 + 1) else f_X4_timesOf_17 s_many s_lying p_beds n1 k5 n (x3 + 0) x4 (x5 + 1)) else none
noncomputable def f_X4_timesOf_5 (s_many : Nat → Int32) (s_lying : Nat → Int32) (p_beds : Int32) (n1 : Int32) : Nat → Int32 → Int32 → Option (Int32)
  | 0, _, _ => none
  | n + 1, x3, x4 => if p_beds ≤ x4 then some x3 else f_X4_timesOf_17 s_many s_lying p_beds n1 (f_X4_timesOf_5 s_many s_lying p_beds n1 n) FU x3 x4 0
noncomputable def f_X4_timesOf (s_many : Nat → Int32) (s_lying : Nat → Int32) (p_beds : Int32) (n1 : Int32) : Option (Int32) := f_X4_timesOf_5 s_many s_lying p_beds n1 FU 0 0
def rm_X4_timesOf : Room := { frames := 1, cells := 0, slots := 0, locals := 22 }
set_option maxRecDepth 100000 in
set_option maxHeartbeats 4000000 in
theorem j_X4_timesOf_17 {J : Jt} {Z : Zt} {a0 : Nat → Nat} {a1 : Nat → Nat} {s_year : Int32} {s_wet : Int32} {s_lost : Int32} {s_eaten : Int32} {s_tied : Int32} {s_ripeMany : Int32} {s_gone : Nat → Int32} {s_place : Nat → Int32} {s_heard : Nat → Int32} {s_many : Nat → Int32} {s_lying : Nat → Int32} {s_ripe : Nat → Int32} {p_beds : Int32} {p_letters : Int32} {p_readers : Int32} {p_far : Nat → Int32} {p_drain : Nat → Int32} {p_length : Nat → Int32} {p_words : Nat → Int32} {p_home : Nat → Int32} {n1 : Int32} {r : Int32} {k5 : Int32 → Int32 → Option (Int32)} (C : Cx J Z cX4_timesOf 6 RX4 (some .int) rm_X4_timesOf) (E : Ez J Z 0 0 (some (.int r)) (cs_X4 J.2.2.1 a0 s_year s_wet s_lost s_eaten s_tied s_ripeMany s_gone s_place s_heard s_many s_lying s_ripe ++ cs_X2 J.2.2.1 a1 p_beds p_letters p_readers p_far p_drain p_length p_words p_home)) (hk5 : ∀ (x3 : Int32) (x4 : Int32), k5 x3 x4 = some r → G J Z 0 0 (cs_X4 J.2.2.1 a0 s_year s_wet s_lost s_eaten s_tied s_ripeMany s_gone s_place s_heard s_many s_lying s_ripe ++ cs_X2 J.2.2.1 a1 p_beds p_letters p_readers p_far p_drain p_length p_words p_home) 6 [(0, .ref (a0 0)), (1, .ref (a1 0)), (2, .int n1), (3, .int x3), (4, .int x4)] 5 []) : ∀ (n : Nat) (x3 : Int32) (x4 : Int32) (x5 : Int32), f_X4_timesOf_17 s_many s_lying p_beds n1 k5 n x3 x4 x5 = some r → G J Z 0 0 (cs_X4 J.2.2.1 a0 s_year s_wet s_lost s_eaten s_tied s_ripeMany s_gone s_place s_heard s_many s_lying s_ripe ++ cs_X2 J.2.2.1 a1 p_beds p_letters p_readers p_far p_drain p_length p_words p_home) 6 [(0, .ref (a0 0)), (1, .ref (a1 0)), (2, .int n1), (3, .int x3), (4, .int x4), (5, .int x5)] 17 [] := by
  intro n
  induction n with
  | zero =>
    intro x3 x4 x5 h
    rw [f_X4_timesOf_17] at h
    cases h
  | succ n ih =>
    intro x3 x4 x5 h
    rw [f_X4_timesOf_17] at h
    refine g_iload (pc := 17) C 5 rfl dX4_timesOf_17 ?_
    refine g_aload_n (pc := 19) C 0 rfl dX4_timesOf_19 ?_
    refine g_get (pc := 20) C FOK_X4 0 rfl rfl 9 (by decide) kw_172 rfl dX4_timesOf_20 ?_
    refine g_iload (pc := 23) C 4 rfl dX4_timesOf_23 ?_
    obtain ⟨hi, h⟩ := ix_of h
    refine g_iald (pc := 25) C 4 rfl hi dX4_timesOf_25 ?_
    refine g_icmp_ge (pc := 26) C (tgt := 55) dX4_timesOf_26 rfl h (fun h => ?_) (fun h => ?_)
    · refine g_iinc (pc := 55) C (j := 4) [(4, .int (x4 + 1)), (0, .ref (a0 0)), (1, .ref (a1 0)), (2, .int n1), (3, .int x3), (5, .int x5)] dX4_timesOf_55 rfl (ii_1 _) (by decide) rfl ?_
      refine g_goto (pc := 58) C (tgt := 5) dX4_timesOf_58 rfl ?_
      refine g_lv [1, 2, 3, 4, 0] rfl ?_
      exact hk5 x3 (x4 + 1) h
    · refine g_iload_n (pc := 29) C 3 rfl dX4_timesOf_29 ?_
      refine g_aload_n (pc := 30) C 0 rfl dX4_timesOf_30 ?_
      refine g_iload (pc := 31) C 4 rfl dX4_timesOf_31 ?_
      refine g_iload (pc := 33) C 5 rfl dX4_timesOf_33 ?_
      obtain ⟨v1, hc, h⟩ := b1_of h
      refine g_callV (pc := 35) C (w' := cs_X4 J.2.2.1 a0 s_year s_wet s_lost s_eaten s_tied s_ripeMany s_gone s_place s_heard s_many s_lying s_ripe ++ cs_X2 J.2.2.1 a1 p_beds p_letters p_readers p_far p_drain p_length p_words p_home) (As := [.int x4, .int x5]) (st := [.int x3]) (ci := 4) (q0 := 0) rfl rfl (t_X4_lyingAt (a0 := a0) hc) (Sub.gen [0, 1, 2, 3, 4, 5, 6] [7, 8, 9, 10, 11, 12] [6, 7, 8, 9, 10, 11, 12, 0, 1, 2, 3, 4, 5] rfl (by decide) rfl (by decide) (by decide) rfl (by decide)) kw_873 kw_874 kw_875 kw_88 hy_X4_lyingAt kw_876 rfl (Nat.le_of_ble_eq_true rfl) (Nat.le_of_ble_eq_true rfl) (Nat.le_of_ble_eq_true rfl) (Nat.le_of_ble_eq_true rfl) (Nat.le_of_ble_eq_true rfl) dX4_timesOf_35 ?_
      refine g_iload_n (pc := 38) C 2 rfl dX4_timesOf_38 ?_
      refine g_icmp_ne (pc := 39) C (tgt := 46) dX4_timesOf_39 rfl h (fun h => ?_) (fun h => ?_)
      · refine g_iconst (pc := 46) C dX4_timesOf_46 ci_0 ?_
        refine g_iadd (pc := 47) C dX4_timesOf_47 ?_
        refine g_istore_n (pc := 48) C [(3, .int (x3 + 0)), (0, .ref (a0 0)), (1, .ref (a1 0)), (2, .int n1), (4, .int x4), (5, .int x5)] dX4_timesOf_48 rfl (by decide) rfl ?_
        refine g_iinc (pc := 49) C (j := 5) [(5, .int (x5 + 1)), (3, .int (x3 + 0)), (0, .ref (a0 0)), (1, .ref (a1 0)), (2, .int n1), (4, .int x4)] dX4_timesOf_49 rfl (ii_1 _) (by decide) rfl ?_
        refine g_goto (pc := 52) C (tgt := 17) dX4_timesOf_52 rfl ?_
        refine g_lv [2, 3, 4, 1, 5, 0] rfl ?_
        exact ih (x3 + 0) x4 (x5 + 1) h
      · refine g_iconst (pc := 42) C dX4_timesOf_42 ci_1 ?_
        refine g_goto (pc := 43) C (tgt := 47) dX4_timesOf_43 rfl ?_
        refine g_iadd (pc := 47) C dX4_timesOf_47 ?_
        refine g_istore_n (pc := 48) C [(3, .int (x3 + 1)), (0, .ref (a0 0)), (1, .ref (a1 0)), (2, .int n1), (4, .int x4), (5, .int x5)] dX4_timesOf_48 rfl (by decide) rfl ?_
        refine g_iinc (pc := 49) C (j := 5) [(5, .int (x5 + 1)), (3, .int (x3 + 1)), (0, .ref (a0 0)), (1, .ref (a1 0)), (2, .int n1), (4, .int x4)] dX4_timesOf_49 rfl (ii_1 _) (by decide) rfl ?_
        refine g_goto (pc := 52) C (tgt := 17) dX4_timesOf_52 rfl ?_
        refine g_lv [2, 3, 4, 1, 5, 0] rfl ?_
        exact ih (x3 + 1) x4 (x5 + 1) h
set_option maxRecDepth 100000 in
set_option maxHeartbeats 4000000 in
theorem j_X4_timesOf_5 {J : Jt} {Z : Zt} {a0 : Nat → Nat} {a1 : Nat → Nat} {s_year : Int32} {s_wet : Int32} {s_lost : Int32} {s_eaten : Int32} {s_tied : Int32} {s_ripeMany : Int32} {s_gone : Nat → Int32} {s_place : Nat → Int32} {s_heard : Nat → Int32} {s_many : Nat → Int32} {s_lying : Nat → Int32} {s_ripe : Nat → Int32} {p_beds : Int32} {p_letters : Int32} {p_readers : Int32} {p_far : Nat → Int32} {p_drain : Nat → Int32} {p_length : Nat → Int32} {p_words : Nat → Int32} {p_home : Nat → Int32} {n1 : Int32} {r : Int32} (C : Cx J Z cX4_timesOf 6 RX4 (some .int) rm_X4_timesOf) (E : Ez J Z 0 0 (some (.int r)) (cs_X4 J.2.2.1 a0 s_year s_wet s_lost s_eaten s_tied s_ripeMany s_gone s_place s_heard s_many s_lying s_ripe ++ cs_X2 J.2.2.1 a1 p_beds p_letters p_readers p_far p_drain p_length p_words p_home)) : ∀ (n : Nat) (x3 : Int32) (x4 : Int32), f_X4_timesOf_5 s_many s_lying p_beds n1 n x3 x4 = some r → G J Z 0 0 (cs_X4 J.2.2.1 a0 s_year s_wet s_lost s_eaten s_tied s_ripeMany s_gone s_place s_heard s_many s_lying s_ripe ++ cs_X2 J.2.2.1 a1 p_beds p_letters p_readers p_far p_drain p_length p_words p_home) 6 [(0, .ref (a0 0)), (1, .ref (a1 0)), (2, .int n1), (3, .int x3), (4, .int x4)] 5 [] := by
  intro n
  induction n with
  | zero =>
    intro x3 x4 h
    rw [f_X4_timesOf_5] at h
    cases h
  | succ n ih =>
    intro x3 x4 h
    rw [f_X4_timesOf_5] at h
    refine g_iload (pc := 5) C 4 rfl dX4_timesOf_5 ?_
    refine g_aload_n (pc := 7) C 1 rfl dX4_timesOf_7 ?_
    refine g_get (pc := 8) C FOK_X2 7 rfl rfl 0 (by decide) kw_280 rfl dX4_timesOf_8 ?_
    refine g_icmp_ge (pc := 11) C (tgt := 61) dX4_timesOf_11 rfl h (fun h => ?_) (fun h => ?_)
    · refine g_iload_n (pc := 61) C 3 rfl dX4_timesOf_61 ?_
      cases h
      exact g_iret C E dX4_timesOf_62
    · refine g_iconst (pc := 14) C dX4_timesOf_14 ci_0 ?_
      refine g_istore (pc := 15) C [(5, .int 0), (0, .ref (a0 0)), (1, .ref (a1 0)), (2, .int n1), (3, .int x3), (4, .int x4)] dX4_timesOf_15 (by decide) rfl ?_
      refine g_lv [1, 2, 3, 4, 5, 0] rfl ?_
      exact j_X4_timesOf_17 C E ih FU x3 x4 0 h
set_option maxRecDepth 100000 in
set_option maxHeartbeats 4000000 in
theorem t_X4_timesOf {J : Jt} {a0 : Nat → Nat} {a1 : Nat → Nat} {s_year : Int32} {s_wet : Int32} {s_lost : Int32} {s_eaten : Int32} {s_tied : Int32} {s_ripeMany : Int32} {s_gone : Nat → Int32} {s_place : Nat → Int32} {s_heard : Nat → Int32} {s_many : Nat → Int32} {s_lying : Nat → Int32} {s_ripe : Nat → Int32} {p_beds : Int32} {p_letters : Int32} {p_readers : Int32} {p_far : Nat → Int32} {p_drain : Nat → Int32} {p_length : Nat → Int32} {p_words : Nat → Int32} {p_home : Nat → Int32} {n1 : Int32} {r : Int32} (h : f_X4_timesOf s_many s_lying p_beds n1 = some r) : Mt J yX4_timesOf cX4_timesOf 6 (some .int) rm_X4_timesOf [.ref (a0 0), .ref (a1 0), .int n1] (cs_X4 J.2.2.1 a0 s_year s_wet s_lost s_eaten s_tied s_ripeMany s_gone s_place s_heard s_many s_lying s_ripe ++ cs_X2 J.2.2.1 a1 p_beds p_letters p_readers p_far p_drain p_length p_words p_home) (some (.int r)) (cs_X4 J.2.2.1 a0 s_year s_wet s_lost s_eaten s_tied s_ripeMany s_gone s_place s_heard s_many s_lying s_ripe ++ cs_X2 J.2.2.1 a1 p_beds p_letters p_readers p_far p_drain p_length p_words p_home) := by
  refine Mt_of (own := RX4) (by decide) rfl (Nat.le_of_ble_eq_true rfl) rfl (fun Z C E => ?_)
  unfold f_X4_timesOf at h
  show G J Z 0 0 (cs_X4 J.2.2.1 a0 s_year s_wet s_lost s_eaten s_tied s_ripeMany s_gone s_place s_heard s_many s_lying s_ripe ++ cs_X2 J.2.2.1 a1 p_beds p_letters p_readers p_far p_drain p_length p_words p_home) 6 [(0, .ref (a0 0)), (1, .ref (a1 0)), (2, .int n1)] 0 []
  refine g_iconst (pc := 0) C dX4_timesOf_0 ci_0 ?_
  refine g_istore_n (pc := 1) C [(3, .int 0), (0, .ref (a0 0)), (1, .ref (a1 0)), (2, .int n1)] dX4_timesOf_1 rfl (by decide) rfl ?_
  refine g_iconst (pc := 2) C dX4_timesOf_2 ci_0 ?_
  refine g_istore (pc := 3) C [(4, .int 0), (3, .int 0), (0, .ref (a0 0)), (1, .ref (a1 0)), (2, .int n1)] dX4_timesOf_3 (by decide) rfl ?_
  refine g_lv [2, 3, 4, 1, 0] rfl ?_
  exact j_X4_timesOf_5 C E  FU 0 0 h
noncomputable def f_X4_readersAt_5 (s_place : Nat → Int32) (p_readers : Int32) (n1 : Int32) : Nat → Int32 → Int32 → Option (Int32)
  | 0, _, _ => none
  | n + 1, x3, x4 => if p_readers ≤ x4 then some x3 else if ixb x4 5 then if (s_place x4.toNatClampNeg) = n1 then f_X4_readersAt_5 s_place p_readers n1 n (x3 ||| ((1 : Int32) <<< (x4 &&& 31))) (x4 + 1) else f_X4_readersAt_5 s_place p_readers n1 n (x3 ||| 0) (x4 + 1) else none
noncomputable def f_X4_readersAt (s_place : Nat → Int32) (p_readers : Int32) (n1 : Int32) : Option (Int32) := f_X4_readersAt_5 s_place p_readers n1 FU 0 0
def rm_X4_readersAt : Room := { frames := 0, cells := 0, slots := 0, locals := 0 }
set_option maxRecDepth 100000 in
set_option maxHeartbeats 4000000 in
theorem j_X4_readersAt_5 {J : Jt} {Z : Zt} {a0 : Nat → Nat} {a1 : Nat → Nat} {s_year : Int32} {s_wet : Int32} {s_lost : Int32} {s_eaten : Int32} {s_tied : Int32} {s_ripeMany : Int32} {s_gone : Nat → Int32} {s_place : Nat → Int32} {s_heard : Nat → Int32} {s_many : Nat → Int32} {s_lying : Nat → Int32} {s_ripe : Nat → Int32} {p_beds : Int32} {p_letters : Int32} {p_readers : Int32} {p_far : Nat → Int32} {p_drain : Nat → Int32} {p_length : Nat → Int32} {p_words : Nat → Int32} {p_home : Nat → Int32} {n1 : Int32} {r : Int32} (C : Cx J Z cX4_readersAt 5 RX4 (some .int) rm_X4_readersAt) (E : Ez J Z 0 0 (some (.int r)) (cs_X4 J.2.2.1 a0 s_year s_wet s_lost s_eaten s_tied s_ripeMany s_gone s_place s_heard s_many s_lying s_ripe ++ cs_X2 J.2.2.1 a1 p_beds p_letters p_readers p_far p_drain p_length p_words p_home)) : ∀ (n : Nat) (x3 : Int32) (x4 : Int32), f_X4_readersAt_5 s_place p_readers n1 n x3 x4 = some r → G J Z 0 0 (cs_X4 J.2.2.1 a0 s_year s_wet s_lost s_eaten s_tied s_ripeMany s_gone s_place s_heard s_many s_lying s_ripe ++ cs_X2 J.2.2.1 a1 p_beds p_letters p_readers p_far p_drain p_length p_words p_home) 5 [(0, .ref (a0 0)), (1, .ref (a1 0)), (2, .int n1), (3, .int x3), (4, .int x4)] 5 [] := by
  intro n
  induction n with
  | zero =>
    intro x3 x4 h
    rw [f_X4_readersAt_5] at h
    cases h
  | succ n ih =>
    intro x3 x4 h
    rw [f_X4_readersAt_5] at h
    refine g_iload (pc := 5) C 4 rfl dX4_readersAt_5 ?_
    refine g_aload_n (pc := 7) C 1 rfl dX4_readersAt_7 ?_
    refine g_get (pc := 8) C FOK_X2 7 rfl rfl 2 (by decide) kw_290 rfl dX4_readersAt_8 ?_
    refine g_icmp_ge (pc := 11) C (tgt := 42) dX4_readersAt_11 rfl h (fun h => ?_) (fun h => ?_)
    · refine g_iload_n (pc := 42) C 3 rfl dX4_readersAt_42 ?_
      cases h
      exact g_iret C E dX4_readersAt_43
    · refine g_iload_n (pc := 14) C 3 rfl dX4_readersAt_14 ?_
      refine g_aload_n (pc := 15) C 0 rfl dX4_readersAt_15 ?_
      refine g_get (pc := 16) C FOK_X4 0 rfl rfl 7 (by decide) kw_168 rfl dX4_readersAt_16 ?_
      refine g_iload (pc := 19) C 4 rfl dX4_readersAt_19 ?_
      obtain ⟨hi, h⟩ := ix_of h
      refine g_iald (pc := 21) C 2 rfl hi dX4_readersAt_21 ?_
      refine g_iload_n (pc := 22) C 2 rfl dX4_readersAt_22 ?_
      refine g_icmp_ne (pc := 23) C (tgt := 33) dX4_readersAt_23 rfl h (fun h => ?_) (fun h => ?_)
      · refine g_iconst (pc := 33) C dX4_readersAt_33 ci_0 ?_
        refine g_ior (pc := 34) C dX4_readersAt_34 ?_
        refine g_istore_n (pc := 35) C [(3, .int (x3 ||| 0)), (0, .ref (a0 0)), (1, .ref (a1 0)), (2, .int n1), (4, .int x4)] dX4_readersAt_35 rfl (by decide) rfl ?_
        refine g_iinc (pc := 36) C (j := 4) [(4, .int (x4 + 1)), (3, .int (x3 ||| 0)), (0, .ref (a0 0)), (1, .ref (a1 0)), (2, .int n1)] dX4_readersAt_36 rfl (ii_1 _) (by decide) rfl ?_
        refine g_goto (pc := 39) C (tgt := 5) dX4_readersAt_39 rfl ?_
        refine g_lv [2, 3, 4, 1, 0] rfl ?_
        exact ih (x3 ||| 0) (x4 + 1) h
      · refine g_iconst (pc := 26) C dX4_readersAt_26 ci_1 ?_
        refine g_iload (pc := 27) C 4 rfl dX4_readersAt_27 ?_
        refine g_ishl (pc := 29) C dX4_readersAt_29 ?_
        refine g_goto (pc := 30) C (tgt := 34) dX4_readersAt_30 rfl ?_
        refine g_ior (pc := 34) C dX4_readersAt_34 ?_
        refine g_istore_n (pc := 35) C [(3, .int (x3 ||| ((1 : Int32) <<< (x4 &&& 31)))), (0, .ref (a0 0)), (1, .ref (a1 0)), (2, .int n1), (4, .int x4)] dX4_readersAt_35 rfl (by decide) rfl ?_
        refine g_iinc (pc := 36) C (j := 4) [(4, .int (x4 + 1)), (3, .int (x3 ||| ((1 : Int32) <<< (x4 &&& 31)))), (0, .ref (a0 0)), (1, .ref (a1 0)), (2, .int n1)] dX4_readersAt_36 rfl (ii_1 _) (by decide) rfl ?_
        refine g_goto (pc := 39) C (tgt := 5) dX4_readersAt_39 rfl ?_
        refine g_lv [2, 3, 4, 1, 0] rfl ?_
        exact ih (x3 ||| ((1 : Int32) <<< (x4 &&& 31))) (x4 + 1) h
set_option maxRecDepth 100000 in
set_option maxHeartbeats 4000000 in
theorem t_X4_readersAt {J : Jt} {a0 : Nat → Nat} {a1 : Nat → Nat} {s_year : Int32} {s_wet : Int32} {s_lost : Int32} {s_eaten : Int32} {s_tied : Int32} {s_ripeMany : Int32} {s_gone : Nat → Int32} {s_place : Nat → Int32} {s_heard : Nat → Int32} {s_many : Nat → Int32} {s_lying : Nat → Int32} {s_ripe : Nat → Int32} {p_beds : Int32} {p_letters : Int32} {p_readers : Int32} {p_far : Nat → Int32} {p_drain : Nat → Int32} {p_length : Nat → Int32} {p_words : Nat → Int32} {p_home : Nat → Int32} {n1 : Int32} {r : Int32} (h : f_X4_readersAt s_place p_readers n1 = some r) : Mt J yX4_readersAt cX4_readersAt 5 (some .int) rm_X4_readersAt [.ref (a0 0), .ref (a1 0), .int n1] (cs_X4 J.2.2.1 a0 s_year s_wet s_lost s_eaten s_tied s_ripeMany s_gone s_place s_heard s_many s_lying s_ripe ++ cs_X2 J.2.2.1 a1 p_beds p_letters p_readers p_far p_drain p_length p_words p_home) (some (.int r)) (cs_X4 J.2.2.1 a0 s_year s_wet s_lost s_eaten s_tied s_ripeMany s_gone s_place s_heard s_many s_lying s_ripe ++ cs_X2 J.2.2.1 a1 p_beds p_letters p_readers p_far p_drain p_length p_words p_home) := by
  refine Mt_of (own := RX4) (by decide) rfl (Nat.le_of_ble_eq_true rfl) rfl (fun Z C E => ?_)
  unfold f_X4_readersAt at h
  show G J Z 0 0 (cs_X4 J.2.2.1 a0 s_year s_wet s_lost s_eaten s_tied s_ripeMany s_gone s_place s_heard s_many s_lying s_ripe ++ cs_X2 J.2.2.1 a1 p_beds p_letters p_readers p_far p_drain p_length p_words p_home) 5 [(0, .ref (a0 0)), (1, .ref (a1 0)), (2, .int n1)] 0 []
  refine g_iconst (pc := 0) C dX4_readersAt_0 ci_0 ?_
  refine g_istore_n (pc := 1) C [(3, .int 0), (0, .ref (a0 0)), (1, .ref (a1 0)), (2, .int n1)] dX4_readersAt_1 rfl (by decide) rfl ?_
  refine g_iconst (pc := 2) C dX4_readersAt_2 ci_0 ?_
  refine g_istore (pc := 3) C [(4, .int 0), (3, .int 0), (0, .ref (a0 0)), (1, .ref (a1 0)), (2, .int n1)] dX4_readersAt_3 (by decide) rfl ?_
  refine g_lv [2, 3, 4, 1, 0] rfl ?_
  exact j_X4_readersAt_5 C E  FU 0 0 h
noncomputable def f_X4_heardByAny_4 (s_heard : Nat → Int32) (p_readers : Int32) : Nat → Int32 → Int32 → Option (Int32)
  | 0, _, _ => none
  | n + 1, x2, x3 => if p_readers ≤ x3 then some x2 else if ixb x3 5 then f_X4_heardByAny_4 s_heard p_readers n (x2 ||| (s_heard x3.toNatClampNeg)) (x3 + 1) else none
noncomputable def f_X4_heardByAny (s_heard : Nat → Int32) (p_readers : Int32) : Option (Int32) := f_X4_heardByAny_4 s_heard p_readers FU 0 0
def rm_X4_heardByAny : Room := { frames := 0, cells := 0, slots := 0, locals := 0 }
set_option maxRecDepth 100000 in
set_option maxHeartbeats 4000000 in
theorem j_X4_heardByAny_4 {J : Jt} {Z : Zt} {a0 : Nat → Nat} {a1 : Nat → Nat} {s_year : Int32} {s_wet : Int32} {s_lost : Int32} {s_eaten : Int32} {s_tied : Int32} {s_ripeMany : Int32} {s_gone : Nat → Int32} {s_place : Nat → Int32} {s_heard : Nat → Int32} {s_many : Nat → Int32} {s_lying : Nat → Int32} {s_ripe : Nat → Int32} {p_beds : Int32} {p_letters : Int32} {p_readers : Int32} {p_far : Nat → Int32} {p_drain : Nat → Int32} {p_length : Nat → Int32} {p_words : Nat → Int32} {p_home : Nat → Int32} {r : Int32} (C : Cx J Z cX4_heardByAny 4 RX4 (some .int) rm_X4_heardByAny) (E : Ez J Z 0 0 (some (.int r)) (cs_X4 J.2.2.1 a0 s_year s_wet s_lost s_eaten s_tied s_ripeMany s_gone s_place s_heard s_many s_lying s_ripe ++ cs_X2 J.2.2.1 a1 p_beds p_letters p_readers p_far p_drain p_length p_words p_home)) : ∀ (n : Nat) (x2 : Int32) (x3 : Int32), f_X4_heardByAny_4 s_heard p_readers n x2 x3 = some r → G J Z 0 0 (cs_X4 J.2.2.1 a0 s_year s_wet s_lost s_eaten s_tied s_ripeMany s_gone s_place s_heard s_many s_lying s_ripe ++ cs_X2 J.2.2.1 a1 p_beds p_letters p_readers p_far p_drain p_length p_words p_home) 4 [(0, .ref (a0 0)), (1, .ref (a1 0)), (2, .int x2), (3, .int x3)] 4 [] := by
  intro n
  induction n with
  | zero =>
    intro x2 x3 h
    rw [f_X4_heardByAny_4] at h
    cases h
  | succ n ih =>
    intro x2 x3 h
    rw [f_X4_heardByAny_4] at h
    refine g_iload_n (pc := 4) C 3 rfl dX4_heardByAny_4 ?_
    refine g_aload_n (pc := 5) C 1 rfl dX4_heardByAny_5 ?_
    refine g_get (pc := 6) C FOK_X2 7 rfl rfl 2 (by decide) kw_290 rfl dX4_heardByAny_6 ?_
    refine g_icmp_ge (pc := 9) C (tgt := 27) dX4_heardByAny_9 rfl h (fun h => ?_) (fun h => ?_)
    · refine g_iload_n (pc := 27) C 2 rfl dX4_heardByAny_27 ?_
      cases h
      exact g_iret C E dX4_heardByAny_28
    · refine g_iload_n (pc := 12) C 2 rfl dX4_heardByAny_12 ?_
      refine g_aload_n (pc := 13) C 0 rfl dX4_heardByAny_13 ?_
      refine g_get (pc := 14) C FOK_X4 0 rfl rfl 8 (by decide) kw_170 rfl dX4_heardByAny_14 ?_
      refine g_iload_n (pc := 17) C 3 rfl dX4_heardByAny_17 ?_
      obtain ⟨hi, h⟩ := ix_of h
      refine g_iald (pc := 18) C 3 rfl hi dX4_heardByAny_18 ?_
      refine g_ior (pc := 19) C dX4_heardByAny_19 ?_
      refine g_istore_n (pc := 20) C [(2, .int (x2 ||| (s_heard x3.toNatClampNeg))), (0, .ref (a0 0)), (1, .ref (a1 0)), (3, .int x3)] dX4_heardByAny_20 rfl (by decide) rfl ?_
      refine g_iinc (pc := 21) C (j := 3) [(3, .int (x3 + 1)), (2, .int (x2 ||| (s_heard x3.toNatClampNeg))), (0, .ref (a0 0)), (1, .ref (a1 0))] dX4_heardByAny_21 rfl (ii_1 _) (by decide) rfl ?_
      refine g_goto (pc := 24) C (tgt := 4) dX4_heardByAny_24 rfl ?_
      refine g_lv [2, 3, 1, 0] rfl ?_
      exact ih (x2 ||| (s_heard x3.toNatClampNeg)) (x3 + 1) h
set_option maxRecDepth 100000 in
set_option maxHeartbeats 4000000 in
theorem t_X4_heardByAny {J : Jt} {a0 : Nat → Nat} {a1 : Nat → Nat} {s_year : Int32} {s_wet : Int32} {s_lost : Int32} {s_eaten : Int32} {s_tied : Int32} {s_ripeMany : Int32} {s_gone : Nat → Int32} {s_place : Nat → Int32} {s_heard : Nat → Int32} {s_many : Nat → Int32} {s_lying : Nat → Int32} {s_ripe : Nat → Int32} {p_beds : Int32} {p_letters : Int32} {p_readers : Int32} {p_far : Nat → Int32} {p_drain : Nat → Int32} {p_length : Nat → Int32} {p_words : Nat → Int32} {p_home : Nat → Int32} {r : Int32} (h : f_X4_heardByAny s_heard p_readers = some r) : Mt J yX4_heardByAny cX4_heardByAny 4 (some .int) rm_X4_heardByAny [.ref (a0 0), .ref (a1 0)] (cs_X4 J.2.2.1 a0 s_year s_wet s_lost s_eaten s_tied s_ripeMany s_gone s_place s_heard s_many s_lying s_ripe ++ cs_X2 J.2.2.1 a1 p_beds p_letters p_readers p_far p_drain p_length p_words p_home) (some (.int r)) (cs_X4 J.2.2.1 a0 s_year s_wet s_lost s_eaten s_tied s_ripeMany s_gone s_place s_heard s_many s_lying s_ripe ++ cs_X2 J.2.2.1 a1 p_beds p_letters p_readers p_far p_drain p_length p_words p_home) := by
  refine Mt_of (own := RX4) (by decide) rfl (Nat.le_of_ble_eq_true rfl) rfl (fun Z C E => ?_)
  unfold f_X4_heardByAny at h
  show G J Z 0 0 (cs_X4 J.2.2.1 a0 s_year s_wet s_lost s_eaten s_tied s_ripeMany s_gone s_place s_heard s_many s_lying s_ripe ++ cs_X2 J.2.2.1 a1 p_beds p_letters p_readers p_far p_drain p_length p_words p_home) 4 [(0, .ref (a0 0)), (1, .ref (a1 0))] 0 []
  refine g_iconst (pc := 0) C dX4_heardByAny_0 ci_0 ?_
  refine g_istore_n (pc := 1) C [(2, .int 0), (0, .ref (a0 0)), (1, .ref (a1 0))] dX4_heardByAny_1 rfl (by decide) rfl ?_
  refine g_iconst (pc := 2) C dX4_heardByAny_2 ci_0 ?_
  refine g_istore_n (pc := 3) C [(3, .int 0), (2, .int 0), (0, .ref (a0 0)), (1, .ref (a1 0))] dX4_heardByAny_3 rfl (by decide) rfl ?_
  refine g_lv [2, 3, 1, 0] rfl ?_
  exact j_X4_heardByAny_4 C E  FU 0 0 h
noncomputable def f_X4_wetBy (s_wet : Int32) (n1 : Int32) : Option (Int32) := some (imin 99 (s_wet + n1))
def rm_X4_wetBy : Room := { frames := 1, cells := 0, slots := 0, locals := 40 }
set_option maxRecDepth 100000 in
set_option maxHeartbeats 4000000 in
theorem t_X4_wetBy {J : Jt} {a0 : Nat → Nat} {s_year : Int32} {s_wet : Int32} {s_lost : Int32} {s_eaten : Int32} {s_tied : Int32} {s_ripeMany : Int32} {s_gone : Nat → Int32} {s_place : Nat → Int32} {s_heard : Nat → Int32} {s_many : Nat → Int32} {s_lying : Nat → Int32} {s_ripe : Nat → Int32} {n1 : Int32} {r : Int32} (h : f_X4_wetBy s_wet n1 = some r) : Mt J yX4_wetBy cX4_wetBy 2 (some .int) rm_X4_wetBy [.ref (a0 0), .int n1] (cs_X4 J.2.2.1 a0 s_year s_wet s_lost s_eaten s_tied s_ripeMany s_gone s_place s_heard s_many s_lying s_ripe) (some (.int r)) (cs_X4 J.2.2.1 a0 s_year s_wet s_lost s_eaten s_tied s_ripeMany s_gone s_place s_heard s_many s_lying s_ripe) := by
  refine Mt_of (own := RX4) (by decide) rfl (Nat.le_of_ble_eq_true rfl) rfl (fun Z C E => ?_)
  unfold f_X4_wetBy at h
  show G J Z 0 0 (cs_X4 J.2.2.1 a0 s_year s_wet s_lost s_eaten s_tied s_ripeMany s_gone s_place s_heard s_many s_lying s_ripe) 2 [(0, .ref (a0 0)), (1, .int n1)] 0 []
  refine g_bipush (pc := 0) C dX4_wetBy_0 cb_99 ?_
  refine g_aload_n (pc := 2) C 0 rfl dX4_wetBy_2 ?_
  refine g_get (pc := 3) C FOK_X4 0 rfl rfl 1 (by decide) kw_157 rfl dX4_wetBy_3 ?_
  refine g_iload_n (pc := 6) C 1 rfl dX4_wetBy_6 ?_
  refine g_iadd (pc := 7) C dX4_wetBy_7 ?_
  refine g_imin (pc := 8) C kw_889 kw_543 kw_96 kw_544 (Nat.le_of_ble_eq_true rfl) (Nat.le_of_ble_eq_true rfl) (Nat.le_of_ble_eq_true rfl) (Nat.le_of_ble_eq_true rfl) dX4_wetBy_8 ?_
  cases h
  exact g_iret C E dX4_wetBy_11
noncomputable def f_X4_runOf (s_year : Int32) (s_gone : Nat → Int32) (s_many : Nat → Int32) (p_far : Nat → Int32) (p_drain : Nat → Int32) (p_length : Nat → Int32) (l_code : Nat → Int32) (l_values : Nat → Int32) (l_stack : Nat → Int32) (l_length : Int32) (n1 : Int32) (n2 : Int32) (n3 : Int32) : Option (Int32 × (Nat → Int32) × (Nat → Int32)) := b1 (f_X4_leftOf s_gone p_length n1) (fun v1 => if ixb n1 6 then if ixb (p_drain n1.toNatClampNeg) 6 then if ixb (p_drain n1.toNatClampNeg) 6 then b3 (f_X1_tells l_code l_values l_stack l_length n2 n3 v1 (p_far (p_drain n1.toNatClampNeg).toNatClampNeg) (s_many (p_drain n1.toNatClampNeg).toNatClampNeg) s_year n1) (fun v2 c3 c4 => some (imin v1 v2, c3, c4)) else none else none else none)
def rm_X4_runOf : Room := { frames := 2, cells := 0, slots := 0, locals := 52 }
set_option maxRecDepth 100000 in
set_option maxHeartbeats 4000000 in
theorem t_X4_runOf {J : Jt} {a0 : Nat → Nat} {a1 : Nat → Nat} {a2 : Nat → Nat} {s_year : Int32} {s_wet : Int32} {s_lost : Int32} {s_eaten : Int32} {s_tied : Int32} {s_ripeMany : Int32} {s_gone : Nat → Int32} {s_place : Nat → Int32} {s_heard : Nat → Int32} {s_many : Nat → Int32} {s_lying : Nat → Int32} {s_ripe : Nat → Int32} {p_beds : Int32} {p_letters : Int32} {p_readers : Int32} {p_far : Nat → Int32} {p_drain : Nat → Int32} {p_length : Nat → Int32} {p_words : Nat → Int32} {p_home : Nat → Int32} {l_code : Nat → Int32} {l_values : Nat → Int32} {l_stack : Nat → Int32} {l_length : Int32} {n1 : Int32} {n2 : Int32} {n3 : Int32} {r : Int32} {o_l_values : Nat → Int32} {o_l_stack : Nat → Int32} (h : f_X4_runOf s_year s_gone s_many p_far p_drain p_length l_code l_values l_stack l_length n1 n2 n3 = some (r, o_l_values, o_l_stack)) : Mt J yX4_runOf cX4_runOf 9 (some .int) rm_X4_runOf [.ref (a0 0), .ref (a1 0), .ref (a2 0), .int n1, .int n2, .int n3] (cs_X4 J.2.2.1 a0 s_year s_wet s_lost s_eaten s_tied s_ripeMany s_gone s_place s_heard s_many s_lying s_ripe ++ cs_X2 J.2.2.1 a1 p_beds p_letters p_readers p_far p_drain p_length p_words p_home ++ cs_X1 J.2.2.1 a2 l_code l_values l_stack l_length) (some (.int r)) (cs_X4 J.2.2.1 a0 s_year s_wet s_lost s_eaten s_tied s_ripeMany s_gone s_place s_heard s_many s_lying s_ripe ++ cs_X2 J.2.2.1 a1 p_beds p_letters p_readers p_far p_drain p_length p_words p_home ++ cs_X1 J.2.2.1 a2 l_code o_l_values o_l_stack l_length) := by
  refine Mt_of (own := RX4) (by decide) rfl (Nat.le_of_ble_eq_true rfl) rfl (fun Z C E => ?_)
  unfold f_X4_runOf at h
  show G J Z 0 0 (cs_X4 J.2.2.1 a0 s_year s_wet s_lost s_eaten s_tied s_ripeMany s_gone s_place s_heard s_many s_lying s_ripe ++ cs_X2 J.2.2.1 a1 p_beds p_letters p_readers p_far p_drain p_length p_words p_home ++ cs_X1 J.2.2.1 a2 l_code l_values l_stack l_length) 9 [(0, .ref (a0 0)), (1, .ref (a1 0)), (2, .ref (a2 0)), (3, .int n1), (4, .int n2), (5, .int n3)] 0 []
  refine g_aload_n (pc := 0) C 0 rfl dX4_runOf_0 ?_
  refine g_aload_n (pc := 1) C 1 rfl dX4_runOf_1 ?_
  refine g_iload_n (pc := 2) C 3 rfl dX4_runOf_2 ?_
  obtain ⟨v1, hc, h⟩ := b1_of h
  refine g_callV (pc := 3) C (w' := cs_X4 J.2.2.1 a0 s_year s_wet s_lost s_eaten s_tied s_ripeMany s_gone s_place s_heard s_many s_lying s_ripe ++ cs_X2 J.2.2.1 a1 p_beds p_letters p_readers p_far p_drain p_length p_words p_home ++ cs_X1 J.2.2.1 a2 l_code l_values l_stack l_length) (As := [.ref (a1 0), .int n1]) (st := []) (ci := 4) (q0 := 0) rfl rfl (t_X4_leftOf (a0 := a0) (a1 := a1) hc) (Sub.gen [0, 1, 2, 3, 4, 5, 6, 7, 8, 9, 10, 11, 12] [13, 14, 15, 16] [4, 5, 6, 7, 8, 9, 10, 11, 12, 13, 14, 15, 16, 0, 1, 2, 3] rfl (by decide) rfl (by decide) (by decide) rfl (by decide)) kw_476 kw_465 kw_466 kw_88 hy_X4_leftOf kw_467 rfl (Nat.le_of_ble_eq_true rfl) (Nat.le_of_ble_eq_true rfl) (Nat.le_of_ble_eq_true rfl) (Nat.le_of_ble_eq_true rfl) (Nat.le_of_ble_eq_true rfl) dX4_runOf_3 ?_
  refine g_istore (pc := 6) C [(6, .int v1), (0, .ref (a0 0)), (1, .ref (a1 0)), (2, .ref (a2 0)), (3, .int n1), (4, .int n2), (5, .int n3)] dX4_runOf_6 (by decide) rfl ?_
  refine g_aload_n (pc := 8) C 2 rfl dX4_runOf_8 ?_
  refine g_get (pc := 9) C FOK_X2 7 rfl rfl 4 (by decide) kw_296 rfl dX4_runOf_9 ?_
  refine g_iload_n (pc := 12) C 4 rfl dX4_runOf_12 ?_
  obtain ⟨hi, h⟩ := ix_of h
  refine g_iald (pc := 13) C 9 rfl hi dX4_runOf_13 ?_
  refine g_istore (pc := 14) C [(7, .int (p_drain n1.toNatClampNeg)), (6, .int v1), (0, .ref (a0 0)), (1, .ref (a1 0)), (2, .ref (a2 0)), (3, .int n1), (4, .int n2), (5, .int n3)] dX4_runOf_14 (by decide) rfl ?_
  refine g_aload_n (pc := 16) C 4 rfl dX4_runOf_16 ?_
  refine g_iload (pc := 17) C 6 rfl dX4_runOf_17 ?_
  refine g_iload (pc := 19) C 7 rfl dX4_runOf_19 ?_
  refine g_iload (pc := 21) C 1 rfl dX4_runOf_21 ?_
  refine g_aload_n (pc := 23) C 3 rfl dX4_runOf_23 ?_
  refine g_get (pc := 24) C FOK_X2 7 rfl rfl 3 (by decide) kw_293 rfl dX4_runOf_24 ?_
  refine g_iload (pc := 27) C 0 rfl dX4_runOf_27 ?_
  obtain ⟨hi, h⟩ := ix_of h
  refine g_iald (pc := 29) C 8 rfl hi dX4_runOf_29 ?_
  refine g_aload_n (pc := 30) C 2 rfl dX4_runOf_30 ?_
  refine g_get (pc := 31) C FOK_X4 0 rfl rfl 9 (by decide) kw_172 rfl dX4_runOf_31 ?_
  refine g_iload (pc := 34) C 0 rfl dX4_runOf_34 ?_
  obtain ⟨hi, h⟩ := ix_of h
  refine g_iald (pc := 36) C 4 rfl hi dX4_runOf_36 ?_
  refine g_aload_n (pc := 37) C 2 rfl dX4_runOf_37 ?_
  refine g_get (pc := 38) C FOK_X4 0 rfl rfl 0 (by decide) kw_154 rfl dX4_runOf_38 ?_
  refine g_iload_n (pc := 41) C 5 rfl dX4_runOf_41 ?_
  obtain ⟨v2, c3, c4, hc, h⟩ := b3_of h
  refine g_callV (pc := 42) C (w' := cs_X4 J.2.2.1 a0 s_year s_wet s_lost s_eaten s_tied s_ripeMany s_gone s_place s_heard s_many s_lying s_ripe ++ cs_X2 J.2.2.1 a1 p_beds p_letters p_readers p_far p_drain p_length p_words p_home ++ cs_X1 J.2.2.1 a2 l_code c3 c4 l_length) (As := [.int n2, .int n3, .int v1, .int (p_far (p_drain n1.toNatClampNeg).toNatClampNeg), .int (s_many (p_drain n1.toNatClampNeg).toNatClampNeg), .int s_year, .int n1]) (st := []) (ci := 1) (q0 := 13) rfl rfl (t_X1_tells (a0 := a2) hc) (Sub.gen [13, 14, 15, 16] [0, 1, 2, 3, 4, 5, 6, 7, 8, 9, 10, 11, 12] [0, 1, 2, 3, 4, 5, 6, 7, 8, 9, 10, 11, 12, 13, 14, 15, 16] rfl (by decide) rfl (by decide) (by decide) rfl (by decide)) kw_899 kw_900 kw_901 kw_93 hy_X1_tells kw_902 rfl (Nat.le_of_ble_eq_true rfl) (Nat.le_of_ble_eq_true rfl) (Nat.le_of_ble_eq_true rfl) (Nat.le_of_ble_eq_true rfl) (Nat.le_of_ble_eq_true rfl) dX4_runOf_42 ?_
  refine g_istore (pc := 45) C [(8, .int v2), (7, .int (p_drain n1.toNatClampNeg)), (6, .int v1), (0, .ref (a0 0)), (1, .ref (a1 0)), (2, .ref (a2 0)), (3, .int n1), (4, .int n2), (5, .int n3)] dX4_runOf_45 (by decide) rfl ?_
  refine g_iload (pc := 47) C 2 rfl dX4_runOf_47 ?_
  refine g_iload (pc := 49) C 0 rfl dX4_runOf_49 ?_
  refine g_imin (pc := 51) C kw_889 kw_543 kw_96 kw_544 (Nat.le_of_ble_eq_true rfl) (Nat.le_of_ble_eq_true rfl) (Nat.le_of_ble_eq_true rfl) (Nat.le_of_ble_eq_true rfl) dX4_runOf_51 ?_
  cases h
  exact g_iret C E dX4_runOf_54
