noncomputable def f_X0_clear_7  : Nat → Int32 → (Nat → Int32) → Int32 → Option ((Nat → Int32) × Int32)
  | 0, _, _, _ => none
  | n + 1, x1, b_last, b_lines => if 6 ≤ x1 then some (b_last, b_lines) else if ixb x1 6 then f_X0_clear_7 n (x1 + 1) (upd b_last x1.toNatClampNeg (-1)) b_lines else none
noncomputable def f_X0_clear (b_last : Nat → Int32) (b_lines : Int32) : Option ((Nat → Int32) × Int32) := f_X0_clear_7 FU 0 b_last 0
def rm_X0_clear : Room := { frames := 0, cells := 0, slots := 0, locals := 0 }
set_option maxRecDepth 100000 in
set_option maxHeartbeats 4000000 in
theorem j_X0_clear_7 {J : Jt} {Z : Zt} {a0 : Nat → Nat} {o_b_last : Nat → Int32} {o_b_lines : Int32} (C : Cx J Z cX0_clear 2 RX0 none rm_X0_clear) (E : Ez J Z 0 0 none (cs_X0 J.2.2.1 a0 o_b_last o_b_lines)) : ∀ (n : Nat) (x1 : Int32) (b_last : Nat → Int32) (b_lines : Int32), f_X0_clear_7 n x1 b_last b_lines = some (o_b_last, o_b_lines) → G J Z 0 0 (cs_X0 J.2.2.1 a0 b_last b_lines) 2 [(0, .ref (a0 0)), (1, .int x1)] 7 [] := by
  intro n
  induction n with
  | zero =>
    intro x1 b_last b_lines h
    rw [f_X0_clear_7] at h
    cases h
  | succ n ih =>
    intro x1 b_last b_lines h
    rw [f_X0_clear_7] at h
    refine g_iload_n (pc := 7) C 1 rfl dX0_clear_7 ?_
    refine g_bipush (pc := 8) C dX0_clear_8 cb_6 ?_
    refine g_icmp_ge (pc := 10) C (tgt := 26) dX0_clear_10 rfl h (fun h => ?_) (fun h => ?_)
    · cases h
      exact g_vret C E dX0_clear_26
    · refine g_aload_n (pc := 13) C 0 rfl dX0_clear_13 ?_
      refine g_get (pc := 14) C FOK_X0 0 rfl rfl 0 (by decide) kw_358 rfl dX0_clear_14 ?_
      refine g_iload_n (pc := 17) C 1 rfl dX0_clear_17 ?_
      refine g_iconst (pc := 18) C dX0_clear_18 ci_m1 ?_
      obtain ⟨hi, h⟩ := ix_of h
      refine g_iast (pc := 19) C (w' := cs_X0 J.2.2.1 a0 (upd b_last x1.toNatClampNeg (-1)) b_lines) 1 rfl hi dX0_clear_19 rfl ?_
      refine g_iinc (pc := 20) C (j := 1) [(1, .int (x1 + 1)), (0, .ref (a0 0))] dX0_clear_20 rfl (ii_1 _) (by decide) rfl ?_
      refine g_goto (pc := 23) C (tgt := 7) dX0_clear_23 rfl ?_
      refine g_lv [1, 0] rfl ?_
      exact ih (x1 + 1) (upd b_last x1.toNatClampNeg (-1)) b_lines h
set_option maxRecDepth 100000 in
set_option maxHeartbeats 4000000 in
theorem t_X0_clear {J : Jt} {a0 : Nat → Nat} {b_last : Nat → Int32} {b_lines : Int32} {o_b_last : Nat → Int32} {o_b_lines : Int32} (h : f_X0_clear b_last b_lines = some (o_b_last, o_b_lines)) : Mt J yX0_clear cX0_clear 2 none rm_X0_clear [.ref (a0 0)] (cs_X0 J.2.2.1 a0 b_last b_lines) none (cs_X0 J.2.2.1 a0 o_b_last o_b_lines) := by
  refine Mt_of (own := RX0) (by decide) rfl (Nat.le_of_ble_eq_true rfl) rfl (fun Z C E => ?_)
  unfold f_X0_clear at h
  show G J Z 0 0 (cs_X0 J.2.2.1 a0 b_last b_lines) 2 [(0, .ref (a0 0))] 0 []
  refine g_aload_n (pc := 0) C 0 rfl dX0_clear_0 ?_
  refine g_iconst (pc := 1) C dX0_clear_1 ci_0 ?_
  refine g_put (pc := 2) C (w' := cs_X0 J.2.2.1 a0 b_last 0) FOK_X0 0 rfl rfl 1 (by decide) kw_360 rfl rfl rfl (Nat.le_of_ble_eq_true rfl) dX0_clear_2 rfl ?_
  refine g_iconst (pc := 5) C dX0_clear_5 ci_0 ?_
  refine g_istore_n (pc := 6) C [(1, .int 0), (0, .ref (a0 0))] dX0_clear_6 rfl (by decide) rfl ?_
  refine g_lv [1, 0] rfl ?_
  exact j_X0_clear_7 C E  FU 0 b_last 0 h
noncomputable def f_X7_blame (t_start : Int32) (t_faultKind : Int32) (t_faultPlace : Int32) (n1 : Int32) : Option (Int32 × Int32) := if t_faultKind = 0 then some (n1, t_start) else some (t_faultKind, t_faultPlace)
def rm_X7_blame : Room := { frames := 0, cells := 0, slots := 0, locals := 0 }
set_option maxRecDepth 100000 in
set_option maxHeartbeats 4000000 in
theorem t_X7_blame {J : Jt} {a0 : Nat → Nat} {t_bytes : Nat → Int32} {t_held : Int32} {t_end : Int32} {t_at : Int32} {t_start : Int32} {t_faultKind : Int32} {t_faultPlace : Int32} {n1 : Int32} {o_t_faultKind : Int32} {o_t_faultPlace : Int32} (h : f_X7_blame t_start t_faultKind t_faultPlace n1 = some (o_t_faultKind, o_t_faultPlace)) : Mt J yX7_blame cX7_blame 2 none rm_X7_blame [.ref (a0 0), .int n1] (cs_X7 J.2.2.1 a0 t_bytes t_held t_end t_at t_start t_faultKind t_faultPlace) none (cs_X7 J.2.2.1 a0 t_bytes t_held t_end t_at t_start o_t_faultKind o_t_faultPlace) := by
  refine Mt_of (own := RX7) (by decide) rfl (Nat.le_of_ble_eq_true rfl) rfl (fun Z C E => ?_)
  unfold f_X7_blame at h
  show G J Z 0 0 (cs_X7 J.2.2.1 a0 t_bytes t_held t_end t_at t_start t_faultKind t_faultPlace) 2 [(0, .ref (a0 0)), (1, .int n1)] 0 []
  refine g_aload_n (pc := 0) C 0 rfl dX7_blame_0 ?_
  refine g_get (pc := 1) C FOK_X7 0 rfl rfl 5 (by decide) kw_129 rfl dX7_blame_1 ?_
  refine g_if_ne (pc := 4) C (tgt := 20) dX7_blame_4 rfl h (fun h => ?_) (fun h => ?_)
  · cases h
    exact g_vret C E dX7_blame_20
  · refine g_aload_n (pc := 7) C 0 rfl dX7_blame_7 ?_
    refine g_iload_n (pc := 8) C 1 rfl dX7_blame_8 ?_
    refine g_put (pc := 9) C (w' := cs_X7 J.2.2.1 a0 t_bytes t_held t_end t_at t_start n1 t_faultPlace) FOK_X7 0 rfl rfl 5 (by decide) kw_129 rfl rfl rfl (Nat.le_of_ble_eq_true rfl) dX7_blame_9 rfl ?_
    refine g_aload_n (pc := 12) C 0 rfl dX7_blame_12 ?_
    refine g_aload_n (pc := 13) C 0 rfl dX7_blame_13 ?_
    refine g_get (pc := 14) C FOK_X7 0 rfl rfl 4 (by decide) kw_128 rfl dX7_blame_14 ?_
    refine g_put (pc := 17) C (w' := cs_X7 J.2.2.1 a0 t_bytes t_held t_end t_at t_start n1 t_start) FOK_X7 0 rfl rfl 6 (by decide) kw_130 rfl rfl rfl (Nat.le_of_ble_eq_true rfl) dX7_blame_17 rfl ?_
    cases h
    exact g_vret C E dX7_blame_20
noncomputable def f_X7_peek_57 (t_bytes : Nat → Int32) (t_end : Int32) (t_faultKind : Int32) (t_at : Int32) (t_start : Int32) : Option (Int32 × Int32 × Int32) := if t_end ≤ t_at then some ((-1), t_at, t_at) else if 600 ≤ t_at then some ((-1), t_at, t_at) else if ixb t_at 600 then some ((t_bytes t_at.toNatClampNeg) &&& 255, t_at, t_at) else none
noncomputable def f_X7_peek_9 (t_bytes : Nat → Int32) (t_end : Int32) (t_faultKind : Int32) : Nat → Int32 → Int32 → Option (Int32 × Int32 × Int32)
  | 0, _, _ => none
  | n + 1, t_at, t_start => if t_end ≤ t_at then f_X7_peek_57 t_bytes t_end t_faultKind t_at t_start else if 600 ≤ t_at then f_X7_peek_57 t_bytes t_end t_faultKind t_at t_start else if ixb t_at 600 then if (t_bytes t_at.toNatClampNeg) = 32 then f_X7_peek_9 t_bytes t_end t_faultKind n (t_at + 1) t_start else f_X7_peek_57 t_bytes t_end t_faultKind t_at t_start else none
noncomputable def f_X7_peek (t_bytes : Nat → Int32) (t_end : Int32) (t_at : Int32) (t_start : Int32) (t_faultKind : Int32) : Option (Int32 × Int32 × Int32) := if t_faultKind = 0 then f_X7_peek_9 t_bytes t_end t_faultKind FU t_at t_start else some ((-1), t_at, t_start)
def rm_X7_peek : Room := { frames := 0, cells := 0, slots := 0, locals := 0 }
set_option maxRecDepth 100000 in
set_option maxHeartbeats 4000000 in
theorem j_X7_peek_57 {J : Jt} {Z : Zt} {a0 : Nat → Nat} {t_bytes : Nat → Int32} {t_held : Int32} {t_end : Int32} {t_faultKind : Int32} {t_faultPlace : Int32} {r : Int32} {o_t_at : Int32} {o_t_start : Int32} (C : Cx J Z cX7_peek 1 RX7 (some .int) rm_X7_peek) (E : Ez J Z 0 0 (some (.int r)) (cs_X7 J.2.2.1 a0 t_bytes t_held t_end o_t_at o_t_start t_faultKind t_faultPlace)) : ∀ (t_at : Int32) (t_start : Int32), f_X7_peek_57 t_bytes t_end t_faultKind t_at t_start = some (r, o_t_at, o_t_start) → G J Z 0 0 (cs_X7 J.2.2.1 a0 t_bytes t_held t_end t_at t_start t_faultKind t_faultPlace) 1 [(0, .ref (a0 0))] 57 [] := by
  intro t_at t_start h
  unfold f_X7_peek_57 at h
  refine g_aload_n (pc := 57) C 0 rfl dX7_peek_57 ?_
  refine g_aload_n (pc := 58) C 0 rfl dX7_peek_58 ?_
  refine g_get (pc := 59) C FOK_X7 0 rfl rfl 3 (by decide) kw_127 rfl dX7_peek_59 ?_
  refine g_put (pc := 62) C (w' := cs_X7 J.2.2.1 a0 t_bytes t_held t_end t_at t_at t_faultKind t_faultPlace) FOK_X7 0 rfl rfl 4 (by decide) kw_128 rfl rfl rfl (Nat.le_of_ble_eq_true rfl) dX7_peek_62 rfl ?_
  refine g_aload_n (pc := 65) C 0 rfl dX7_peek_65 ?_
  refine g_get (pc := 66) C FOK_X7 0 rfl rfl 3 (by decide) kw_127 rfl dX7_peek_66 ?_
  refine g_aload_n (pc := 69) C 0 rfl dX7_peek_69 ?_
  refine g_get (pc := 70) C FOK_X7 0 rfl rfl 2 (by decide) kw_126 rfl dX7_peek_70 ?_
  refine g_icmp_ge (pc := 73) C (tgt := 102) dX7_peek_73 rfl h (fun h => ?_) (fun h => ?_)
  · refine g_iconst (pc := 102) C dX7_peek_102 ci_m1 ?_
    cases h
    exact g_iret C E dX7_peek_103
  · refine g_aload_n (pc := 76) C 0 rfl dX7_peek_76 ?_
    refine g_get (pc := 77) C FOK_X7 0 rfl rfl 3 (by decide) kw_127 rfl dX7_peek_77 ?_
    refine g_sipush (pc := 80) C dX7_peek_80 cs_600 ?_
    refine g_icmp_ge (pc := 83) C (tgt := 102) dX7_peek_83 rfl h (fun h => ?_) (fun h => ?_)
    · refine g_iconst (pc := 102) C dX7_peek_102 ci_m1 ?_
      cases h
      exact g_iret C E dX7_peek_103
    · refine g_aload_n (pc := 86) C 0 rfl dX7_peek_86 ?_
      refine g_get (pc := 87) C FOK_X7 0 rfl rfl 0 (by decide) kw_123 rfl dX7_peek_87 ?_
      refine g_aload_n (pc := 90) C 0 rfl dX7_peek_90 ?_
      refine g_get (pc := 91) C FOK_X7 0 rfl rfl 3 (by decide) kw_127 rfl dX7_peek_91 ?_
      obtain ⟨hi, h⟩ := ix_of h
      refine g_bald (pc := 94) C 1 rfl hi dX7_peek_94 ?_
      refine g_sipush (pc := 95) C dX7_peek_95 cs_255 ?_
      refine g_iand (pc := 98) C dX7_peek_98 ?_
      refine g_goto (pc := 99) C (tgt := 103) dX7_peek_99 rfl ?_
      cases h
      exact g_iret C E dX7_peek_103
set_option maxRecDepth 100000 in
set_option maxHeartbeats 4000000 in
theorem j_X7_peek_9 {J : Jt} {Z : Zt} {a0 : Nat → Nat} {t_bytes : Nat → Int32} {t_held : Int32} {t_end : Int32} {t_faultKind : Int32} {t_faultPlace : Int32} {r : Int32} {o_t_at : Int32} {o_t_start : Int32} (C : Cx J Z cX7_peek 1 RX7 (some .int) rm_X7_peek) (E : Ez J Z 0 0 (some (.int r)) (cs_X7 J.2.2.1 a0 t_bytes t_held t_end o_t_at o_t_start t_faultKind t_faultPlace)) : ∀ (n : Nat) (t_at : Int32) (t_start : Int32), f_X7_peek_9 t_bytes t_end t_faultKind n t_at t_start = some (r, o_t_at, o_t_start) → G J Z 0 0 (cs_X7 J.2.2.1 a0 t_bytes t_held t_end t_at t_start t_faultKind t_faultPlace) 1 [(0, .ref (a0 0))] 9 [] := by
  intro n
  induction n with
  | zero =>
    intro t_at t_start h
    rw [f_X7_peek_9] at h
    cases h
  | succ n ih =>
    intro t_at t_start h
    rw [f_X7_peek_9] at h
    refine g_aload_n (pc := 9) C 0 rfl dX7_peek_9 ?_
    refine g_get (pc := 10) C FOK_X7 0 rfl rfl 3 (by decide) kw_127 rfl dX7_peek_10 ?_
    refine g_aload_n (pc := 13) C 0 rfl dX7_peek_13 ?_
    refine g_get (pc := 14) C FOK_X7 0 rfl rfl 2 (by decide) kw_126 rfl dX7_peek_14 ?_
    refine g_icmp_ge (pc := 17) C (tgt := 57) dX7_peek_17 rfl h (fun h => ?_) (fun h => ?_)
    · exact j_X7_peek_57 C E  t_at t_start h
    · refine g_aload_n (pc := 20) C 0 rfl dX7_peek_20 ?_
      refine g_get (pc := 21) C FOK_X7 0 rfl rfl 3 (by decide) kw_127 rfl dX7_peek_21 ?_
      refine g_sipush (pc := 24) C dX7_peek_24 cs_600 ?_
      refine g_icmp_ge (pc := 27) C (tgt := 57) dX7_peek_27 rfl h (fun h => ?_) (fun h => ?_)
      · exact j_X7_peek_57 C E  t_at t_start h
      · refine g_aload_n (pc := 30) C 0 rfl dX7_peek_30 ?_
        refine g_get (pc := 31) C FOK_X7 0 rfl rfl 0 (by decide) kw_123 rfl dX7_peek_31 ?_
        refine g_aload_n (pc := 34) C 0 rfl dX7_peek_34 ?_
        refine g_get (pc := 35) C FOK_X7 0 rfl rfl 3 (by decide) kw_127 rfl dX7_peek_35 ?_
        obtain ⟨hi, h⟩ := ix_of h
        refine g_bald (pc := 38) C 1 rfl hi dX7_peek_38 ?_
        refine g_bipush (pc := 39) C dX7_peek_39 cb_32 ?_
        refine g_icmp_ne (pc := 41) C (tgt := 57) dX7_peek_41 rfl h (fun h => ?_) (fun h => ?_)
        · exact j_X7_peek_57 C E  t_at t_start h
        · refine g_aload_n (pc := 44) C 0 rfl dX7_peek_44 ?_
          refine g_dup (pc := 45) C dX7_peek_45 rfl ?_
          refine g_get (pc := 46) C FOK_X7 0 rfl rfl 3 (by decide) kw_127 rfl dX7_peek_46 ?_
          refine g_iconst (pc := 49) C dX7_peek_49 ci_1 ?_
          refine g_iadd (pc := 50) C dX7_peek_50 ?_
          refine g_put (pc := 51) C (w' := cs_X7 J.2.2.1 a0 t_bytes t_held t_end (t_at + 1) t_start t_faultKind t_faultPlace) FOK_X7 0 rfl rfl 3 (by decide) kw_127 rfl rfl rfl (Nat.le_of_ble_eq_true rfl) dX7_peek_51 rfl ?_
          refine g_goto (pc := 54) C (tgt := 9) dX7_peek_54 rfl ?_
          exact ih (t_at + 1) t_start h
set_option maxRecDepth 100000 in
set_option maxHeartbeats 4000000 in
theorem t_X7_peek {J : Jt} {a0 : Nat → Nat} {t_bytes : Nat → Int32} {t_held : Int32} {t_end : Int32} {t_at : Int32} {t_start : Int32} {t_faultKind : Int32} {t_faultPlace : Int32} {r : Int32} {o_t_at : Int32} {o_t_start : Int32} (h : f_X7_peek t_bytes t_end t_at t_start t_faultKind = some (r, o_t_at, o_t_start)) : Mt J yX7_peek cX7_peek 1 (some .int) rm_X7_peek [.ref (a0 0)] (cs_X7 J.2.2.1 a0 t_bytes t_held t_end t_at t_start t_faultKind t_faultPlace) (some (.int r)) (cs_X7 J.2.2.1 a0 t_bytes t_held t_end o_t_at o_t_start t_faultKind t_faultPlace) := by
  refine Mt_of (own := RX7) (by decide) rfl (Nat.le_of_ble_eq_true rfl) rfl (fun Z C E => ?_)
  unfold f_X7_peek at h
  show G J Z 0 0 (cs_X7 J.2.2.1 a0 t_bytes t_held t_end t_at t_start t_faultKind t_faultPlace) 1 [(0, .ref (a0 0))] 0 []
  refine g_aload_n (pc := 0) C 0 rfl dX7_peek_0 ?_
  refine g_get (pc := 1) C FOK_X7 0 rfl rfl 5 (by decide) kw_129 rfl dX7_peek_1 ?_
  refine g_if_eq (pc := 4) C (tgt := 9) dX7_peek_4 rfl h (fun h => ?_) (fun h => ?_)
  · exact j_X7_peek_9 C E  FU t_at t_start h
  · refine g_iconst (pc := 7) C dX7_peek_7 ci_m1 ?_
    cases h
    exact g_iret C E dX7_peek_8
noncomputable def f_X7_isAtEnd (t_bytes : Nat → Int32) (t_end : Int32) (t_at : Int32) (t_start : Int32) (t_faultKind : Int32) : Option (Int32 × Int32 × Int32) := b3 (f_X7_peek t_bytes t_end t_at t_start t_faultKind) (fun v1 c2 c3 => if v1 = (-1) then some (1, c2, c3) else some (0, c2, c3))
def rm_X7_isAtEnd : Room := { frames := 1, cells := 0, slots := 0, locals := 20 }
set_option maxRecDepth 100000 in
set_option maxHeartbeats 4000000 in
theorem t_X7_isAtEnd {J : Jt} {a0 : Nat → Nat} {t_bytes : Nat → Int32} {t_held : Int32} {t_end : Int32} {t_at : Int32} {t_start : Int32} {t_faultKind : Int32} {t_faultPlace : Int32} {r : Int32} {o_t_at : Int32} {o_t_start : Int32} (h : f_X7_isAtEnd t_bytes t_end t_at t_start t_faultKind = some (r, o_t_at, o_t_start)) : Mt J yX7_isAtEnd cX7_isAtEnd 1 (some .boolean) rm_X7_isAtEnd [.ref (a0 0)] (cs_X7 J.2.2.1 a0 t_bytes t_held t_end t_at t_start t_faultKind t_faultPlace) (some (.int r)) (cs_X7 J.2.2.1 a0 t_bytes t_held t_end o_t_at o_t_start t_faultKind t_faultPlace) := by
  refine Mt_of (own := RX7) (by decide) rfl (Nat.le_of_ble_eq_true rfl) rfl (fun Z C E => ?_)
  unfold f_X7_isAtEnd at h
  show G J Z 0 0 (cs_X7 J.2.2.1 a0 t_bytes t_held t_end t_at t_start t_faultKind t_faultPlace) 1 [(0, .ref (a0 0))] 0 []
  refine g_aload_n (pc := 0) C 0 rfl dX7_isAtEnd_0 ?_
  obtain ⟨v1, c2, c3, hc, h⟩ := b3_of h
  refine g_callV (pc := 1) C (w' := cs_X7 J.2.2.1 a0 t_bytes t_held t_end c2 c3 t_faultKind t_faultPlace) (As := []) (st := []) (ci := 7) (q0 := 0) rfl rfl (t_X7_peek hc) Sub.same kw_623 kw_624 kw_625 kw_87 hy_X7_peek kw_626 rfl (Nat.le_of_ble_eq_true rfl) (Nat.le_of_ble_eq_true rfl) (Nat.le_of_ble_eq_true rfl) (Nat.le_of_ble_eq_true rfl) (Nat.le_of_ble_eq_true rfl) dX7_isAtEnd_1 ?_
  refine g_iconst (pc := 4) C dX7_isAtEnd_4 ci_m1 ?_
  refine g_icmp_ne (pc := 5) C (tgt := 12) dX7_isAtEnd_5 rfl h (fun h => ?_) (fun h => ?_)
  · refine g_iconst (pc := 12) C dX7_isAtEnd_12 ci_0 ?_
    cases h
    exact g_zret C rfl E dX7_isAtEnd_13
  · refine g_iconst (pc := 8) C dX7_isAtEnd_8 ci_1 ?_
    refine g_goto (pc := 9) C (tgt := 13) dX7_isAtEnd_9 rfl ?_
    cases h
    exact g_zret C rfl E dX7_isAtEnd_13
noncomputable def f_X7_need (t_bytes : Nat → Int32) (t_end : Int32) (t_at : Int32) (t_start : Int32) (t_faultKind : Int32) (t_faultPlace : Int32) (n1 : Int32) : Option (Int32 × Int32 × Int32 × Int32) := b3 (f_X7_peek t_bytes t_end t_at t_start t_faultKind) (fun v1 c2 c3 => if v1 = n1 then some (c2 + 1, c3, t_faultKind, t_faultPlace) else b2 (f_X7_blame c3 t_faultKind t_faultPlace 1) (fun c4 c5 => some (c2, c3, c4, c5)))
def rm_X7_need : Room := { frames := 1, cells := 0, slots := 0, locals := 21 }
set_option maxRecDepth 100000 in
set_option maxHeartbeats 4000000 in
theorem t_X7_need {J : Jt} {a0 : Nat → Nat} {t_bytes : Nat → Int32} {t_held : Int32} {t_end : Int32} {t_at : Int32} {t_start : Int32} {t_faultKind : Int32} {t_faultPlace : Int32} {n1 : Int32} {o_t_at : Int32} {o_t_start : Int32} {o_t_faultKind : Int32} {o_t_faultPlace : Int32} (h : f_X7_need t_bytes t_end t_at t_start t_faultKind t_faultPlace n1 = some (o_t_at, o_t_start, o_t_faultKind, o_t_faultPlace)) : Mt J yX7_need cX7_need 2 none rm_X7_need [.ref (a0 0), .int n1] (cs_X7 J.2.2.1 a0 t_bytes t_held t_end t_at t_start t_faultKind t_faultPlace) none (cs_X7 J.2.2.1 a0 t_bytes t_held t_end o_t_at o_t_start o_t_faultKind o_t_faultPlace) := by
  refine Mt_of (own := RX7) (by decide) rfl (Nat.le_of_ble_eq_true rfl) rfl (fun Z C E => ?_)
  unfold f_X7_need at h
  show G J Z 0 0 (cs_X7 J.2.2.1 a0 t_bytes t_held t_end t_at t_start t_faultKind t_faultPlace) 2 [(0, .ref (a0 0)), (1, .int n1)] 0 []
  refine g_aload_n (pc := 0) C 0 rfl dX7_need_0 ?_
  obtain ⟨v1, c2, c3, hc, h⟩ := b3_of h
  refine g_callV (pc := 1) C (w' := cs_X7 J.2.2.1 a0 t_bytes t_held t_end c2 c3 t_faultKind t_faultPlace) (As := []) (st := []) (ci := 7) (q0 := 0) rfl rfl (t_X7_peek hc) Sub.same kw_623 kw_624 kw_625 kw_87 hy_X7_peek kw_626 rfl (Nat.le_of_ble_eq_true rfl) (Nat.le_of_ble_eq_true rfl) (Nat.le_of_ble_eq_true rfl) (Nat.le_of_ble_eq_true rfl) (Nat.le_of_ble_eq_true rfl) dX7_need_1 ?_
  refine g_iload_n (pc := 4) C 1 rfl dX7_need_4 ?_
  refine g_icmp_ne (pc := 5) C (tgt := 21) dX7_need_5 rfl h (fun h => ?_) (fun h => ?_)
  · refine g_aload_n (pc := 21) C 0 rfl dX7_need_21 ?_
    refine g_iconst (pc := 22) C dX7_need_22 ci_1 ?_
    obtain ⟨c4, c5, hc, h⟩ := b2_of h
    refine g_callV (pc := 23) C (w' := cs_X7 J.2.2.1 a0 t_bytes t_held t_end c2 c3 c4 c5) (As := [.int 1]) (st := []) (ci := 7) (q0 := 0) rfl rfl (t_X7_blame hc) Sub.same kw_706 kw_696 kw_697 kw_87 hy_X7_blame kw_698 rfl (Nat.le_of_ble_eq_true rfl) (Nat.le_of_ble_eq_true rfl) (Nat.le_of_ble_eq_true rfl) (Nat.le_of_ble_eq_true rfl) (Nat.le_of_ble_eq_true rfl) dX7_need_23 ?_
    cases h
    exact g_vret C E dX7_need_26
  · refine g_aload_n (pc := 8) C 0 rfl dX7_need_8 ?_
    refine g_dup (pc := 9) C dX7_need_9 rfl ?_
    refine g_get (pc := 10) C FOK_X7 0 rfl rfl 3 (by decide) kw_127 rfl dX7_need_10 ?_
    refine g_iconst (pc := 13) C dX7_need_13 ci_1 ?_
    refine g_iadd (pc := 14) C dX7_need_14 ?_
    refine g_put (pc := 15) C (w' := cs_X7 J.2.2.1 a0 t_bytes t_held t_end (c2 + 1) c3 t_faultKind t_faultPlace) FOK_X7 0 rfl rfl 3 (by decide) kw_127 rfl rfl rfl (Nat.le_of_ble_eq_true rfl) dX7_need_15 rfl ?_
    refine g_goto (pc := 18) C (tgt := 26) dX7_need_18 rfl ?_
    cases h
    exact g_vret C E dX7_need_26
noncomputable def f_X7_byteAt (t_bytes : Nat → Int32) (t_end : Int32) (n1 : Int32) : Option (Int32) := if n1 < 0 then some (-1) else if t_end ≤ n1 then some (-1) else if 600 ≤ n1 then some (-1) else if ixb n1 600 then some ((t_bytes n1.toNatClampNeg) &&& 255) else none
def rm_X7_byteAt : Room := { frames := 0, cells := 0, slots := 0, locals := 0 }
set_option maxRecDepth 100000 in
set_option maxHeartbeats 4000000 in
theorem t_X7_byteAt {J : Jt} {a0 : Nat → Nat} {t_bytes : Nat → Int32} {t_held : Int32} {t_end : Int32} {t_at : Int32} {t_start : Int32} {t_faultKind : Int32} {t_faultPlace : Int32} {n1 : Int32} {r : Int32} (h : f_X7_byteAt t_bytes t_end n1 = some r) : Mt J yX7_byteAt cX7_byteAt 2 (some .int) rm_X7_byteAt [.ref (a0 0), .int n1] (cs_X7 J.2.2.1 a0 t_bytes t_held t_end t_at t_start t_faultKind t_faultPlace) (some (.int r)) (cs_X7 J.2.2.1 a0 t_bytes t_held t_end t_at t_start t_faultKind t_faultPlace) := by
  refine Mt_of (own := RX7) (by decide) rfl (Nat.le_of_ble_eq_true rfl) rfl (fun Z C E => ?_)
  unfold f_X7_byteAt at h
  show G J Z 0 0 (cs_X7 J.2.2.1 a0 t_bytes t_held t_end t_at t_start t_faultKind t_faultPlace) 2 [(0, .ref (a0 0)), (1, .int n1)] 0 []
  refine g_iload_n (pc := 0) C 1 rfl dX7_byteAt_0 ?_
  refine g_if_lt (pc := 1) C (tgt := 32) dX7_byteAt_1 rfl h (fun h => ?_) (fun h => ?_)
  · refine g_iconst (pc := 32) C dX7_byteAt_32 ci_m1 ?_
    cases h
    exact g_iret C E dX7_byteAt_33
  · refine g_iload_n (pc := 4) C 1 rfl dX7_byteAt_4 ?_
    refine g_aload_n (pc := 5) C 0 rfl dX7_byteAt_5 ?_
    refine g_get (pc := 6) C FOK_X7 0 rfl rfl 2 (by decide) kw_126 rfl dX7_byteAt_6 ?_
    refine g_icmp_ge (pc := 9) C (tgt := 32) dX7_byteAt_9 rfl h (fun h => ?_) (fun h => ?_)
    · refine g_iconst (pc := 32) C dX7_byteAt_32 ci_m1 ?_
      cases h
      exact g_iret C E dX7_byteAt_33
    · refine g_iload_n (pc := 12) C 1 rfl dX7_byteAt_12 ?_
      refine g_sipush (pc := 13) C dX7_byteAt_13 cs_600 ?_
      refine g_icmp_ge (pc := 16) C (tgt := 32) dX7_byteAt_16 rfl h (fun h => ?_) (fun h => ?_)
      · refine g_iconst (pc := 32) C dX7_byteAt_32 ci_m1 ?_
        cases h
        exact g_iret C E dX7_byteAt_33
      · refine g_aload_n (pc := 19) C 0 rfl dX7_byteAt_19 ?_
        refine g_get (pc := 20) C FOK_X7 0 rfl rfl 0 (by decide) kw_123 rfl dX7_byteAt_20 ?_
        refine g_iload_n (pc := 23) C 1 rfl dX7_byteAt_23 ?_
        obtain ⟨hi, h⟩ := ix_of h
        refine g_bald (pc := 24) C 1 rfl hi dX7_byteAt_24 ?_
        refine g_sipush (pc := 25) C dX7_byteAt_25 cs_255 ?_
        refine g_iand (pc := 28) C dX7_byteAt_28 ?_
        refine g_goto (pc := 29) C (tgt := 33) dX7_byteAt_29 rfl ?_
        cases h
        exact g_iret C E dX7_byteAt_33
noncomputable def f_X7_isDigit  (n1 : Int32) : Option (Int32) := if n1 < 48 then some 0 else if 57 < n1 then some 0 else some 1
def rm_X7_isDigit : Room := { frames := 0, cells := 0, slots := 0, locals := 0 }
set_option maxRecDepth 100000 in
set_option maxHeartbeats 4000000 in
theorem t_X7_isDigit {J : Jt}  {n1 : Int32} {r : Int32} (h : f_X7_isDigit n1 = some r) : Mt J yX7_isDigit cX7_isDigit 1 (some .boolean) rm_X7_isDigit [.int n1] ([]) (some (.int r)) ([]) := by
  refine Mt_of (own := RX7) (by decide) rfl (Nat.le_of_ble_eq_true rfl) rfl (fun Z C E => ?_)
  unfold f_X7_isDigit at h
  show G J Z 0 0 ([]) 1 [(0, .int n1)] 0 []
  refine g_iload_n (pc := 0) C 0 rfl dX7_isDigit_0 ?_
  refine g_bipush (pc := 1) C dX7_isDigit_1 cb_48 ?_
  refine g_icmp_lt (pc := 3) C (tgt := 16) dX7_isDigit_3 rfl h (fun h => ?_) (fun h => ?_)
  · refine g_iconst (pc := 16) C dX7_isDigit_16 ci_0 ?_
    cases h
    exact g_zret C rfl E dX7_isDigit_17
  · refine g_iload_n (pc := 6) C 0 rfl dX7_isDigit_6 ?_
    refine g_bipush (pc := 7) C dX7_isDigit_7 cb_57 ?_
    refine g_icmp_gt (pc := 9) C (tgt := 16) dX7_isDigit_9 rfl h (fun h => ?_) (fun h => ?_)
    · refine g_iconst (pc := 16) C dX7_isDigit_16 ci_0 ?_
      cases h
      exact g_zret C rfl E dX7_isDigit_17
    · refine g_iconst (pc := 12) C dX7_isDigit_12 ci_1 ?_
      refine g_goto (pc := 13) C (tgt := 17) dX7_isDigit_13 rfl ?_
      cases h
      exact g_zret C rfl E dX7_isDigit_17
noncomputable def f_X7_number_90 (t_bytes : Nat → Int32) (t_end : Int32) (n1 : Int32) (n2 : Int32) (t_at : Int32) (t_start : Int32) (t_faultKind : Int32) (t_faultPlace : Int32) : Option (Int32 × Int32 × Int32 × Int32 × Int32) := b2 (f_X7_blame t_start t_faultKind t_faultPlace 2) (fun c1 c2 => some (0, t_at, t_start, c1, c2))
noncomputable def f_X7_number_80 (t_bytes : Nat → Int32) (t_end : Int32) (n1 : Int32) (n2 : Int32) (x3 : Int32) (t_at : Int32) (t_start : Int32) (t_faultKind : Int32) (t_faultPlace : Int32) : Option (Int32 × Int32 × Int32 × Int32 × Int32) := if x3 < n1 then f_X7_number_90 t_bytes t_end n1 n2 t_at t_start t_faultKind t_faultPlace else if x3 ≤ n2 then some (x3, t_at, t_start, t_faultKind, t_faultPlace) else f_X7_number_90 t_bytes t_end n1 n2 t_at t_start t_faultKind t_faultPlace
noncomputable def f_X7_number_19 (t_bytes : Nat → Int32) (t_end : Int32) (n1 : Int32) (n2 : Int32) : Nat → Int32 → Int32 → Int32 → Int32 → Int32 → Option (Int32 × Int32 × Int32 × Int32 × Int32)
  | 0, _, _, _, _, _ => none
  | n + 1, x3, t_at, t_start, t_faultKind, t_faultPlace => if t_end ≤ t_at then f_X7_number_80 t_bytes t_end n1 n2 x3 t_at t_start t_faultKind t_faultPlace else b1 (f_X7_byteAt t_bytes t_end t_at) (fun v3 => b1 (f_X7_isDigit v3) (fun v4 => if v4 = 0 then f_X7_number_80 t_bytes t_end n1 n2 x3 t_at t_start t_faultKind t_faultPlace else b1 (f_X7_byteAt t_bytes t_end t_at) (fun v5 => f_X7_number_19 t_bytes t_end n1 n2 n (imin (((x3 * 10) + v5) - 48) 1000) (t_at + 1) t_start t_faultKind t_faultPlace)))
noncomputable def f_X7_number (t_bytes : Nat → Int32) (t_end : Int32) (t_at : Int32) (t_start : Int32) (t_faultKind : Int32) (t_faultPlace : Int32) (n1 : Int32) (n2 : Int32) : Option (Int32 × Int32 × Int32 × Int32 × Int32) := b3 (f_X7_peek t_bytes t_end t_at t_start t_faultKind) (fun v6 c7 c8 => b1 (f_X7_isDigit v6) (fun v9 => if v9 = 0 then b2 (f_X7_blame c8 t_faultKind t_faultPlace 1) (fun c10 c11 => some (0, c7, c8, c10, c11)) else f_X7_number_19 t_bytes t_end n1 n2 FU 0 c7 c8 t_faultKind t_faultPlace))
def rm_X7_number : Room := { frames := 1, cells := 0, slots := 0, locals := 40 }
set_option maxRecDepth 100000 in
set_option maxHeartbeats 4000000 in
theorem j_X7_number_90 {J : Jt} {Z : Zt} {a0 : Nat → Nat} {t_bytes : Nat → Int32} {t_held : Int32} {t_end : Int32} {n1 : Int32} {n2 : Int32} {r : Int32} {o_t_at : Int32} {o_t_start : Int32} {o_t_faultKind : Int32} {o_t_faultPlace : Int32} (C : Cx J Z cX7_number 4 RX7 (some .int) rm_X7_number) (E : Ez J Z 0 0 (some (.int r)) (cs_X7 J.2.2.1 a0 t_bytes t_held t_end o_t_at o_t_start o_t_faultKind o_t_faultPlace)) : ∀ (t_at : Int32) (t_start : Int32) (t_faultKind : Int32) (t_faultPlace : Int32), f_X7_number_90 t_bytes t_end n1 n2 t_at t_start t_faultKind t_faultPlace = some (r, o_t_at, o_t_start, o_t_faultKind, o_t_faultPlace) → G J Z 0 0 (cs_X7 J.2.2.1 a0 t_bytes t_held t_end t_at t_start t_faultKind t_faultPlace) 4 [(0, .ref (a0 0))] 90 [] := by
  intro t_at t_start t_faultKind t_faultPlace h
  unfold f_X7_number_90 at h
  refine g_aload_n (pc := 90) C 0 rfl dX7_number_90 ?_
  refine g_iconst (pc := 91) C dX7_number_91 ci_2 ?_
  obtain ⟨c1, c2, hc, h⟩ := b2_of h
  refine g_callV (pc := 92) C (w' := cs_X7 J.2.2.1 a0 t_bytes t_held t_end t_at t_start c1 c2) (As := [.int 2]) (st := []) (ci := 7) (q0 := 0) rfl rfl (t_X7_blame hc) Sub.same kw_706 kw_696 kw_697 kw_87 hy_X7_blame kw_698 rfl (Nat.le_of_ble_eq_true rfl) (Nat.le_of_ble_eq_true rfl) (Nat.le_of_ble_eq_true rfl) (Nat.le_of_ble_eq_true rfl) (Nat.le_of_ble_eq_true rfl) dX7_number_92 ?_
  refine g_iconst (pc := 95) C dX7_number_95 ci_0 ?_
  cases h
  exact g_iret C E dX7_number_96
set_option maxRecDepth 100000 in
set_option maxHeartbeats 4000000 in
theorem j_X7_number_80 {J : Jt} {Z : Zt} {a0 : Nat → Nat} {t_bytes : Nat → Int32} {t_held : Int32} {t_end : Int32} {n1 : Int32} {n2 : Int32} {r : Int32} {o_t_at : Int32} {o_t_start : Int32} {o_t_faultKind : Int32} {o_t_faultPlace : Int32} (C : Cx J Z cX7_number 4 RX7 (some .int) rm_X7_number) (E : Ez J Z 0 0 (some (.int r)) (cs_X7 J.2.2.1 a0 t_bytes t_held t_end o_t_at o_t_start o_t_faultKind o_t_faultPlace)) : ∀ (x3 : Int32) (t_at : Int32) (t_start : Int32) (t_faultKind : Int32) (t_faultPlace : Int32), f_X7_number_80 t_bytes t_end n1 n2 x3 t_at t_start t_faultKind t_faultPlace = some (r, o_t_at, o_t_start, o_t_faultKind, o_t_faultPlace) → G J Z 0 0 (cs_X7 J.2.2.1 a0 t_bytes t_held t_end t_at t_start t_faultKind t_faultPlace) 4 [(0, .ref (a0 0)), (1, .int n1), (2, .int n2), (3, .int x3)] 80 [] := by
  intro x3 t_at t_start t_faultKind t_faultPlace h
  unfold f_X7_number_80 at h
  refine g_iload_n (pc := 80) C 3 rfl dX7_number_80 ?_
  refine g_iload_n (pc := 81) C 1 rfl dX7_number_81 ?_
  refine g_icmp_lt (pc := 82) C (tgt := 90) dX7_number_82 rfl h (fun h => ?_) (fun h => ?_)
  · refine g_lv [0] rfl ?_
    exact j_X7_number_90 C E  t_at t_start t_faultKind t_faultPlace h
  · refine g_iload_n (pc := 85) C 3 rfl dX7_number_85 ?_
    refine g_iload_n (pc := 86) C 2 rfl dX7_number_86 ?_
    refine g_icmp_le (pc := 87) C (tgt := 97) dX7_number_87 rfl h (fun h => ?_) (fun h => ?_)
    · refine g_iload_n (pc := 97) C 3 rfl dX7_number_97 ?_
      cases h
      exact g_iret C E dX7_number_98
    · refine g_lv [0] rfl ?_
      exact j_X7_number_90 C E  t_at t_start t_faultKind t_faultPlace h
set_option maxRecDepth 100000 in
set_option maxHeartbeats 4000000 in
theorem j_X7_number_19 {J : Jt} {Z : Zt} {a0 : Nat → Nat} {t_bytes : Nat → Int32} {t_held : Int32} {t_end : Int32} {n1 : Int32} {n2 : Int32} {r : Int32} {o_t_at : Int32} {o_t_start : Int32} {o_t_faultKind : Int32} {o_t_faultPlace : Int32} (C : Cx J Z cX7_number 4 RX7 (some .int) rm_X7_number) (E : Ez J Z 0 0 (some (.int r)) (cs_X7 J.2.2.1 a0 t_bytes t_held t_end o_t_at o_t_start o_t_faultKind o_t_faultPlace)) : ∀ (n : Nat) (x3 : Int32) (t_at : Int32) (t_start : Int32) (t_faultKind : Int32) (t_faultPlace : Int32), f_X7_number_19 t_bytes t_end n1 n2 n x3 t_at t_start t_faultKind t_faultPlace = some (r, o_t_at, o_t_start, o_t_faultKind, o_t_faultPlace) → G J Z 0 0 (cs_X7 J.2.2.1 a0 t_bytes t_held t_end t_at t_start t_faultKind t_faultPlace) 4 [(0, .ref (a0 0)), (1, .int n1), (2, .int n2), (3, .int x3)] 19 [] := by
  intro n
  induction n with
  | zero =>
    intro x3 t_at t_start t_faultKind t_faultPlace h
    rw [f_X7_number_19] at h
    cases h
  | succ n ih =>
    intro x3 t_at t_start t_faultKind t_faultPlace h
    rw [f_X7_number_19] at h
    refine g_aload_n (pc := 19) C 0 rfl dX7_number_19 ?_
    refine g_get (pc := 20) C FOK_X7 0 rfl rfl 3 (by decide) kw_127 rfl dX7_number_20 ?_
    refine g_aload_n (pc := 23) C 0 rfl dX7_number_23 ?_
    refine g_get (pc := 24) C FOK_X7 0 rfl rfl 2 (by decide) kw_126 rfl dX7_number_24 ?_
    refine g_icmp_ge (pc := 27) C (tgt := 80) dX7_number_27 rfl h (fun h => ?_) (fun h => ?_)
    · exact j_X7_number_80 C E  x3 t_at t_start t_faultKind t_faultPlace h
    · refine g_aload_n (pc := 30) C 0 rfl dX7_number_30 ?_
      refine g_aload_n (pc := 31) C 0 rfl dX7_number_31 ?_
      refine g_get (pc := 32) C FOK_X7 0 rfl rfl 3 (by decide) kw_127 rfl dX7_number_32 ?_
      obtain ⟨v3, hc, h⟩ := b1_of h
      refine g_callV (pc := 35) C (w' := cs_X7 J.2.2.1 a0 t_bytes t_held t_end t_at t_start t_faultKind t_faultPlace) (As := [.int t_at]) (st := []) (ci := 7) (q0 := 0) rfl rfl (t_X7_byteAt hc) Sub.same kw_646 kw_647 kw_648 kw_87 hy_X7_byteAt kw_649 rfl (Nat.le_of_ble_eq_true rfl) (Nat.le_of_ble_eq_true rfl) (Nat.le_of_ble_eq_true rfl) (Nat.le_of_ble_eq_true rfl) (Nat.le_of_ble_eq_true rfl) dX7_number_35 ?_
      obtain ⟨v4, hc, h⟩ := b1_of h
      refine g_callS (pc := 38) C (w' := cs_X7 J.2.2.1 a0 t_bytes t_held t_end t_at t_start t_faultKind t_faultPlace) (As := [.int v3]) (st := []) (t_X7_isDigit hc) Sub.nil kw_703 kw_704 kw_87 hs_X7_isDigit kw_705 rfl (Nat.le_of_ble_eq_true rfl) (Nat.le_of_ble_eq_true rfl) (Nat.le_of_ble_eq_true rfl) (Nat.le_of_ble_eq_true rfl) (Nat.le_of_ble_eq_true rfl) dX7_number_38 ?_
      refine g_if_eq (pc := 41) C (tgt := 80) dX7_number_41 rfl h (fun h => ?_) (fun h => ?_)
      · exact j_X7_number_80 C E  x3 t_at t_start t_faultKind t_faultPlace h
      · refine g_iload_n (pc := 44) C 3 rfl dX7_number_44 ?_
        refine g_bipush (pc := 45) C dX7_number_45 cb_10 ?_
        refine g_imul (pc := 47) C dX7_number_47 ?_
        refine g_aload_n (pc := 48) C 0 rfl dX7_number_48 ?_
        refine g_aload_n (pc := 49) C 0 rfl dX7_number_49 ?_
        refine g_get (pc := 50) C FOK_X7 0 rfl rfl 3 (by decide) kw_127 rfl dX7_number_50 ?_
        obtain ⟨v5, hc, h⟩ := b1_of h
        refine g_callV (pc := 53) C (w' := cs_X7 J.2.2.1 a0 t_bytes t_held t_end t_at t_start t_faultKind t_faultPlace) (As := [.int t_at]) (st := [.int (x3 * 10)]) (ci := 7) (q0 := 0) rfl rfl (t_X7_byteAt hc) Sub.same kw_646 kw_647 kw_648 kw_87 hy_X7_byteAt kw_649 rfl (Nat.le_of_ble_eq_true rfl) (Nat.le_of_ble_eq_true rfl) (Nat.le_of_ble_eq_true rfl) (Nat.le_of_ble_eq_true rfl) (Nat.le_of_ble_eq_true rfl) dX7_number_53 ?_
        refine g_iadd (pc := 56) C dX7_number_56 ?_
        refine g_bipush (pc := 57) C dX7_number_57 cb_48 ?_
        refine g_isub (pc := 59) C dX7_number_59 ?_
        refine g_sipush (pc := 60) C dX7_number_60 cs_1000 ?_
        refine g_imin (pc := 63) C kw_707 kw_543 kw_96 kw_544 (Nat.le_of_ble_eq_true rfl) (Nat.le_of_ble_eq_true rfl) (Nat.le_of_ble_eq_true rfl) (Nat.le_of_ble_eq_true rfl) dX7_number_63 ?_
        refine g_istore_n (pc := 66) C [(3, .int (imin (((x3 * 10) + v5) - 48) 1000)), (0, .ref (a0 0)), (1, .int n1), (2, .int n2)] dX7_number_66 rfl (by decide) rfl ?_
        refine g_aload_n (pc := 67) C 1 rfl dX7_number_67 ?_
        refine g_dup (pc := 68) C dX7_number_68 rfl ?_
        refine g_get (pc := 69) C FOK_X7 0 rfl rfl 3 (by decide) kw_127 rfl dX7_number_69 ?_
        refine g_iconst (pc := 72) C dX7_number_72 ci_1 ?_
        refine g_iadd (pc := 73) C dX7_number_73 ?_
        refine g_put (pc := 74) C (w' := cs_X7 J.2.2.1 a0 t_bytes t_held t_end (t_at + 1) t_start t_faultKind t_faultPlace) FOK_X7 0 rfl rfl 3 (by decide) kw_127 rfl rfl rfl (Nat.le_of_ble_eq_true rfl) dX7_number_74 rfl ?_
        refine g_goto (pc := 77) C (tgt := 19) dX7_number_77 rfl ?_
        refine g_lv [1, 2, 3, 0] rfl ?_
        exact ih (imin (((x3 * 10) + v5) - 48) 1000) (t_at + 1) t_start t_faultKind t_faultPlace h
set_option maxRecDepth 100000 in
set_option maxHeartbeats 4000000 in
theorem t_X7_number {J : Jt} {a0 : Nat → Nat} {t_bytes : Nat → Int32} {t_held : Int32} {t_end : Int32} {t_at : Int32} {t_start : Int32} {t_faultKind : Int32} {t_faultPlace : Int32} {n1 : Int32} {n2 : Int32} {r : Int32} {o_t_at : Int32} {o_t_start : Int32} {o_t_faultKind : Int32} {o_t_faultPlace : Int32} (h : f_X7_number t_bytes t_end t_at t_start t_faultKind t_faultPlace n1 n2 = some (r, o_t_at, o_t_start, o_t_faultKind, o_t_faultPlace)) : Mt J yX7_number cX7_number 4 (some .int) rm_X7_number [.ref (a0 0), .int n1, .int n2] (cs_X7 J.2.2.1 a0 t_bytes t_held t_end t_at t_start t_faultKind t_faultPlace) (some (.int r)) (cs_X7 J.2.2.1 a0 t_bytes t_held t_end o_t_at o_t_start o_t_faultKind o_t_faultPlace) := by
  refine Mt_of (own := RX7) (by decide) rfl (Nat.le_of_ble_eq_true rfl) rfl (fun Z C E => ?_)
  unfold f_X7_number at h
  show G J Z 0 0 (cs_X7 J.2.2.1 a0 t_bytes t_held t_end t_at t_start t_faultKind t_faultPlace) 4 [(0, .ref (a0 0)), (1, .int n1), (2, .int n2)] 0 []
  refine g_aload_n (pc := 0) C 0 rfl dX7_number_0 ?_
  obtain ⟨v6, c7, c8, hc, h⟩ := b3_of h
  refine g_callV (pc := 1) C (w' := cs_X7 J.2.2.1 a0 t_bytes t_held t_end c7 c8 t_faultKind t_faultPlace) (As := []) (st := []) (ci := 7) (q0 := 0) rfl rfl (t_X7_peek hc) Sub.same kw_623 kw_624 kw_625 kw_87 hy_X7_peek kw_626 rfl (Nat.le_of_ble_eq_true rfl) (Nat.le_of_ble_eq_true rfl) (Nat.le_of_ble_eq_true rfl) (Nat.le_of_ble_eq_true rfl) (Nat.le_of_ble_eq_true rfl) dX7_number_1 ?_
  obtain ⟨v9, hc, h⟩ := b1_of h
  refine g_callS (pc := 4) C (w' := cs_X7 J.2.2.1 a0 t_bytes t_held t_end c7 c8 t_faultKind t_faultPlace) (As := [.int v6]) (st := []) (t_X7_isDigit hc) Sub.nil kw_703 kw_704 kw_87 hs_X7_isDigit kw_705 rfl (Nat.le_of_ble_eq_true rfl) (Nat.le_of_ble_eq_true rfl) (Nat.le_of_ble_eq_true rfl) (Nat.le_of_ble_eq_true rfl) (Nat.le_of_ble_eq_true rfl) dX7_number_4 ?_
  refine g_if_ne (pc := 7) C (tgt := 17) dX7_number_7 rfl h (fun h => ?_) (fun h => ?_)
  · refine g_iconst (pc := 17) C dX7_number_17 ci_0 ?_
    refine g_istore_n (pc := 18) C [(3, .int 0), (0, .ref (a0 0)), (1, .int n1), (2, .int n2)] dX7_number_18 rfl (by decide) rfl ?_
    refine g_lv [1, 2, 3, 0] rfl ?_
    exact j_X7_number_19 C E  FU 0 c7 c8 t_faultKind t_faultPlace h
  · refine g_aload_n (pc := 10) C 0 rfl dX7_number_10 ?_
    refine g_iconst (pc := 11) C dX7_number_11 ci_1 ?_
    obtain ⟨c10, c11, hc, h⟩ := b2_of h
    refine g_callV (pc := 12) C (w' := cs_X7 J.2.2.1 a0 t_bytes t_held t_end c7 c8 c10 c11) (As := [.int 1]) (st := []) (ci := 7) (q0 := 0) rfl rfl (t_X7_blame hc) Sub.same kw_706 kw_696 kw_697 kw_87 hy_X7_blame kw_698 rfl (Nat.le_of_ble_eq_true rfl) (Nat.le_of_ble_eq_true rfl) (Nat.le_of_ble_eq_true rfl) (Nat.le_of_ble_eq_true rfl) (Nat.le_of_ble_eq_true rfl) dX7_number_12 ?_
    refine g_iconst (pc := 15) C dX7_number_15 ci_0 ?_
    cases h
    exact g_iret C E dX7_number_16
noncomputable def f_X0_read_52 (t_bytes : Nat → Int32) (t_end : Int32) (n1 : Int32) (b_last : Nat → Int32) (b_lines : Int32) (t_at : Int32) (t_start : Int32) (t_faultKind : Int32) (t_faultPlace : Int32) : Option ((Nat → Int32) × Int32 × Int32 × Int32 × Int32 × Int32) := b2 (f_X7_blame t_start t_faultKind t_faultPlace 2) (fun c1 c2 => some (b_last, b_lines, t_at, t_start, c1, c2))
noncomputable def f_X0_read_6 (t_bytes : Nat → Int32) (t_end : Int32) (n1 : Int32) : Nat → Int32 → (Nat → Int32) → Int32 → Int32 → Int32 → Int32 → Int32 → Option ((Nat → Int32) × Int32 × Int32 × Int32 × Int32 × Int32)
  | 0, _, _, _, _, _, _, _ => none
  | n + 1, x3, b_last, b_lines, t_at, t_start, t_faultKind, t_faultPlace => if 60 ≤ x3 then some (b_last, b_lines, t_at, t_start, t_faultKind, t_faultPlace) else b3 (f_X7_isAtEnd t_bytes t_end t_at t_start t_faultKind) (fun v3 c4 c5 => if v3 = 0 then b5 (f_X7_number t_bytes t_end c4 c5 t_faultKind t_faultPlace 0 (n1 - 1)) (fun v6 c7 c8 c9 c10 => if v6 < 0 then f_X0_read_52 t_bytes t_end n1 b_last b_lines c7 c8 c9 c10 else if 6 ≤ v6 then f_X0_read_52 t_bytes t_end n1 b_last b_lines c7 c8 c9 c10 else if ixb v6 6 then if (b_last v6.toNatClampNeg) = (-1) then b5 (f_X7_number t_bytes t_end c7 c8 c9 c10 0 16) (fun v11 c12 c13 c14 c15 => if ixb v6 6 then b4 (f_X7_need t_bytes t_end c12 c13 c14 c15 59) (fun c16 c17 c18 c19 => f_X0_read_6 t_bytes t_end n1 n (x3 + 1) (upd b_last v6.toNatClampNeg v11) (b_lines + 1) c16 c17 c18 c19) else none) else f_X0_read_52 t_bytes t_end n1 b_last b_lines c7 c8 c9 c10 else none) else some (b_last, b_lines, c4, c5, t_faultKind, t_faultPlace))
noncomputable def f_X0_read (b_last : Nat → Int32) (b_lines : Int32) (t_bytes : Nat → Int32) (t_end : Int32) (t_at : Int32) (t_start : Int32) (t_faultKind : Int32) (t_faultPlace : Int32) (n1 : Int32) : Option ((Nat → Int32) × Int32 × Int32 × Int32 × Int32 × Int32) := b2 (f_X0_clear b_last b_lines) (fun c20 c21 => f_X0_read_6 t_bytes t_end n1 FU 0 c20 c21 t_at t_start t_faultKind t_faultPlace)
def rm_X0_read : Room := { frames := 2, cells := 0, slots := 0, locals := 63 }
set_option maxRecDepth 100000 in
set_option maxHeartbeats 4000000 in
theorem j_X0_read_52 {J : Jt} {Z : Zt} {a0 : Nat → Nat} {a1 : Nat → Nat} {t_bytes : Nat → Int32} {t_held : Int32} {t_end : Int32} {n1 : Int32} {o_b_last : Nat → Int32} {o_b_lines : Int32} {o_t_at : Int32} {o_t_start : Int32} {o_t_faultKind : Int32} {o_t_faultPlace : Int32} (C : Cx J Z cX0_read 5 RX0 none rm_X0_read) (E : Ez J Z 0 0 none (cs_X0 J.2.2.1 a0 o_b_last o_b_lines ++ cs_X7 J.2.2.1 a1 t_bytes t_held t_end o_t_at o_t_start o_t_faultKind o_t_faultPlace)) : ∀ (b_last : Nat → Int32) (b_lines : Int32) (t_at : Int32) (t_start : Int32) (t_faultKind : Int32) (t_faultPlace : Int32), f_X0_read_52 t_bytes t_end n1 b_last b_lines t_at t_start t_faultKind t_faultPlace = some (o_b_last, o_b_lines, o_t_at, o_t_start, o_t_faultKind, o_t_faultPlace) → G J Z 0 0 (cs_X0 J.2.2.1 a0 b_last b_lines ++ cs_X7 J.2.2.1 a1 t_bytes t_held t_end t_at t_start t_faultKind t_faultPlace) 5 [(1, .ref (a1 0))] 52 [] := by
  intro b_last b_lines t_at t_start t_faultKind t_faultPlace h
  unfold f_X0_read_52 at h
  refine g_aload_n (pc := 52) C 0 rfl dX0_read_52 ?_
  refine g_iconst (pc := 53) C dX0_read_53 ci_2 ?_
  obtain ⟨c1, c2, hc, h⟩ := b2_of h
  refine g_callV (pc := 54) C (w' := cs_X0 J.2.2.1 a0 b_last b_lines ++ cs_X7 J.2.2.1 a1 t_bytes t_held t_end t_at t_start c1 c2) (As := [.int 2]) (st := []) (ci := 7) (q0 := 2) rfl rfl (t_X7_blame hc) (Sub.gen [2, 3] [0, 1] [0, 1, 2, 3] rfl (by decide) rfl (by decide) (by decide) rfl (by decide)) kw_931 kw_696 kw_697 kw_87 hy_X7_blame kw_698 rfl (Nat.le_of_ble_eq_true rfl) (Nat.le_of_ble_eq_true rfl) (Nat.le_of_ble_eq_true rfl) (Nat.le_of_ble_eq_true rfl) (Nat.le_of_ble_eq_true rfl) dX0_read_54 ?_
  cases h
  exact g_vret C E dX0_read_57
set_option maxRecDepth 100000 in
set_option maxHeartbeats 4000000 in
theorem j_X0_read_6 {J : Jt} {Z : Zt} {a0 : Nat → Nat} {a1 : Nat → Nat} {t_bytes : Nat → Int32} {t_held : Int32} {t_end : Int32} {n1 : Int32} {o_b_last : Nat → Int32} {o_b_lines : Int32} {o_t_at : Int32} {o_t_start : Int32} {o_t_faultKind : Int32} {o_t_faultPlace : Int32} (C : Cx J Z cX0_read 5 RX0 none rm_X0_read) (E : Ez J Z 0 0 none (cs_X0 J.2.2.1 a0 o_b_last o_b_lines ++ cs_X7 J.2.2.1 a1 t_bytes t_held t_end o_t_at o_t_start o_t_faultKind o_t_faultPlace)) : ∀ (n : Nat) (x3 : Int32) (b_last : Nat → Int32) (b_lines : Int32) (t_at : Int32) (t_start : Int32) (t_faultKind : Int32) (t_faultPlace : Int32), f_X0_read_6 t_bytes t_end n1 n x3 b_last b_lines t_at t_start t_faultKind t_faultPlace = some (o_b_last, o_b_lines, o_t_at, o_t_start, o_t_faultKind, o_t_faultPlace) → G J Z 0 0 (cs_X0 J.2.2.1 a0 b_last b_lines ++ cs_X7 J.2.2.1 a1 t_bytes t_held t_end t_at t_start t_faultKind t_faultPlace) 5 [(0, .ref (a0 0)), (1, .ref (a1 0)), (2, .int n1), (3, .int x3)] 6 [] := by
  intro n
  induction n with
  | zero =>
    intro x3 b_last b_lines t_at t_start t_faultKind t_faultPlace h
    rw [f_X0_read_6] at h
    cases h
  | succ n ih =>
    intro x3 b_last b_lines t_at t_start t_faultKind t_faultPlace h
    rw [f_X0_read_6] at h
    refine g_iload_n (pc := 6) C 3 rfl dX0_read_6 ?_
    refine g_bipush (pc := 7) C dX0_read_7 cb_60 ?_
    refine g_icmp_ge (pc := 9) C (tgt := 94) dX0_read_9 rfl h (fun h => ?_) (fun h => ?_)
    · cases h
      exact g_vret C E dX0_read_94
    · refine g_aload_n (pc := 12) C 1 rfl dX0_read_12 ?_
      obtain ⟨v3, c4, c5, hc, h⟩ := b3_of h
      refine g_callV (pc := 13) C (w' := cs_X0 J.2.2.1 a0 b_last b_lines ++ cs_X7 J.2.2.1 a1 t_bytes t_held t_end c4 c5 t_faultKind t_faultPlace) (As := []) (st := []) (ci := 7) (q0 := 2) rfl rfl (t_X7_isAtEnd hc) (Sub.gen [2, 3] [0, 1] [0, 1, 2, 3] rfl (by decide) rfl (by decide) (by decide) rfl (by decide)) kw_929 kw_620 kw_621 kw_87 hy_X7_isAtEnd kw_622 rfl (Nat.le_of_ble_eq_true rfl) (Nat.le_of_ble_eq_true rfl) (Nat.le_of_ble_eq_true rfl) (Nat.le_of_ble_eq_true rfl) (Nat.le_of_ble_eq_true rfl) dX0_read_13 ?_
      refine g_if_ne (pc := 16) C (tgt := 94) dX0_read_16 rfl h (fun h => ?_) (fun h => ?_)
      · cases h
        exact g_vret C E dX0_read_94
      · refine g_aload_n (pc := 19) C 1 rfl dX0_read_19 ?_
        refine g_iconst (pc := 20) C dX0_read_20 ci_0 ?_
        refine g_iload_n (pc := 21) C 2 rfl dX0_read_21 ?_
        refine g_iconst (pc := 22) C dX0_read_22 ci_1 ?_
        refine g_isub (pc := 23) C dX0_read_23 ?_
        obtain ⟨v6, c7, c8, c9, c10, hc, h⟩ := b5_of h
        refine g_callV (pc := 24) C (w' := cs_X0 J.2.2.1 a0 b_last b_lines ++ cs_X7 J.2.2.1 a1 t_bytes t_held t_end c7 c8 c9 c10) (As := [.int 0, .int (n1 - 1)]) (st := []) (ci := 7) (q0 := 2) rfl rfl (t_X7_number hc) (Sub.gen [2, 3] [0, 1] [0, 1, 2, 3] rfl (by decide) rfl (by decide) (by decide) rfl (by decide)) kw_930 kw_700 kw_701 kw_87 hy_X7_number kw_702 rfl (Nat.le_of_ble_eq_true rfl) (Nat.le_of_ble_eq_true rfl) (Nat.le_of_ble_eq_true rfl) (Nat.le_of_ble_eq_true rfl) (Nat.le_of_ble_eq_true rfl) dX0_read_24 ?_
        refine g_istore (pc := 27) C [(4, .int v6), (0, .ref (a0 0)), (1, .ref (a1 0)), (2, .int n1), (3, .int x3)] dX0_read_27 (by decide) rfl ?_
        refine g_iload (pc := 29) C 0 rfl dX0_read_29 ?_
        refine g_if_lt (pc := 31) C (tgt := 52) dX0_read_31 rfl h (fun h => ?_) (fun h => ?_)
        · refine g_lv [2] rfl ?_
          exact j_X0_read_52 C E  b_last b_lines c7 c8 c9 c10 h
        · refine g_iload (pc := 34) C 0 rfl dX0_read_34 ?_
          refine g_bipush (pc := 36) C dX0_read_36 cb_6 ?_
          refine g_icmp_ge (pc := 38) C (tgt := 52) dX0_read_38 rfl h (fun h => ?_) (fun h => ?_)
          · refine g_lv [2] rfl ?_
            exact j_X0_read_52 C E  b_last b_lines c7 c8 c9 c10 h
          · refine g_aload_n (pc := 41) C 1 rfl dX0_read_41 ?_
            refine g_get (pc := 42) C FOK_X0 0 rfl rfl 0 (by decide) kw_358 rfl dX0_read_42 ?_
            refine g_iload (pc := 45) C 0 rfl dX0_read_45 ?_
            obtain ⟨hi, h⟩ := ix_of h
            refine g_iald (pc := 47) C 1 rfl hi dX0_read_47 ?_
            refine g_iconst (pc := 48) C dX0_read_48 ci_m1 ?_
            refine g_icmp_eq (pc := 49) C (tgt := 58) dX0_read_49 rfl h (fun h => ?_) (fun h => ?_)
            · refine g_aload_n (pc := 58) C 1 rfl dX0_read_58 ?_
              refine g_get (pc := 59) C FOK_X0 0 rfl rfl 0 (by decide) kw_358 rfl dX0_read_59 ?_
              refine g_iload (pc := 62) C 0 rfl dX0_read_62 ?_
              refine g_aload_n (pc := 64) C 2 rfl dX0_read_64 ?_
              refine g_iconst (pc := 65) C dX0_read_65 ci_0 ?_
              refine g_bipush (pc := 66) C dX0_read_66 cb_16 ?_
              obtain ⟨v11, c12, c13, c14, c15, hc, h⟩ := b5_of h
              refine g_callV (pc := 68) C (w' := cs_X0 J.2.2.1 a0 b_last b_lines ++ cs_X7 J.2.2.1 a1 t_bytes t_held t_end c12 c13 c14 c15) (As := [.int 0, .int 16]) (st := [.int v6, .ref (a0 1)]) (ci := 7) (q0 := 2) rfl rfl (t_X7_number hc) (Sub.gen [2, 3] [0, 1] [0, 1, 2, 3] rfl (by decide) rfl (by decide) (by decide) rfl (by decide)) kw_930 kw_700 kw_701 kw_87 hy_X7_number kw_702 rfl (Nat.le_of_ble_eq_true rfl) (Nat.le_of_ble_eq_true rfl) (Nat.le_of_ble_eq_true rfl) (Nat.le_of_ble_eq_true rfl) (Nat.le_of_ble_eq_true rfl) dX0_read_68 ?_
              obtain ⟨hi, h⟩ := ix_of h
              refine g_iast (pc := 71) C (w' := cs_X0 J.2.2.1 a0 (upd b_last v6.toNatClampNeg v11) b_lines ++ cs_X7 J.2.2.1 a1 t_bytes t_held t_end c12 c13 c14 c15) 1 rfl hi dX0_read_71 rfl ?_
              refine g_aload_n (pc := 72) C 1 rfl dX0_read_72 ?_
              refine g_dup (pc := 73) C dX0_read_73 rfl ?_
              refine g_get (pc := 74) C FOK_X0 0 rfl rfl 1 (by decide) kw_360 rfl dX0_read_74 ?_
              refine g_iconst (pc := 77) C dX0_read_77 ci_1 ?_
              refine g_iadd (pc := 78) C dX0_read_78 ?_
              refine g_put (pc := 79) C (w' := cs_X0 J.2.2.1 a0 (upd b_last v6.toNatClampNeg v11) (b_lines + 1) ++ cs_X7 J.2.2.1 a1 t_bytes t_held t_end c12 c13 c14 c15) FOK_X0 0 rfl rfl 1 (by decide) kw_360 rfl rfl rfl (Nat.le_of_ble_eq_true rfl) dX0_read_79 rfl ?_
              refine g_aload_n (pc := 82) C 2 rfl dX0_read_82 ?_
              refine g_bipush (pc := 83) C dX0_read_83 cb_59 ?_
              obtain ⟨c16, c17, c18, c19, hc, h⟩ := b4_of h
              refine g_callV (pc := 85) C (w' := cs_X0 J.2.2.1 a0 (upd b_last v6.toNatClampNeg v11) (b_lines + 1) ++ cs_X7 J.2.2.1 a1 t_bytes t_held t_end c16 c17 c18 c19) (As := [.int 59]) (st := []) (ci := 7) (q0 := 2) rfl rfl (t_X7_need hc) (Sub.gen [2, 3] [0, 1] [0, 1, 2, 3] rfl (by decide) rfl (by decide) (by decide) rfl (by decide)) kw_932 kw_723 kw_724 kw_87 hy_X7_need kw_725 rfl (Nat.le_of_ble_eq_true rfl) (Nat.le_of_ble_eq_true rfl) (Nat.le_of_ble_eq_true rfl) (Nat.le_of_ble_eq_true rfl) (Nat.le_of_ble_eq_true rfl) dX0_read_85 ?_
              refine g_iinc (pc := 88) C (j := 4) [(3, .int (x3 + 1)), (4, .int v6), (0, .ref (a0 0)), (1, .ref (a1 0)), (2, .int n1)] dX0_read_88 rfl (ii_1 _) (by decide) rfl ?_
              refine g_goto (pc := 91) C (tgt := 6) dX0_read_91 rfl ?_
              refine g_lv [2, 3, 4, 0] rfl ?_
              exact ih (x3 + 1) (upd b_last v6.toNatClampNeg v11) (b_lines + 1) c16 c17 c18 c19 h
            · refine g_lv [2] rfl ?_
              exact j_X0_read_52 C E  b_last b_lines c7 c8 c9 c10 h
set_option maxRecDepth 100000 in
set_option maxHeartbeats 4000000 in
theorem t_X0_read {J : Jt} {a0 : Nat → Nat} {a1 : Nat → Nat} {b_last : Nat → Int32} {b_lines : Int32} {t_bytes : Nat → Int32} {t_held : Int32} {t_end : Int32} {t_at : Int32} {t_start : Int32} {t_faultKind : Int32} {t_faultPlace : Int32} {n1 : Int32} {o_b_last : Nat → Int32} {o_b_lines : Int32} {o_t_at : Int32} {o_t_start : Int32} {o_t_faultKind : Int32} {o_t_faultPlace : Int32} (h : f_X0_read b_last b_lines t_bytes t_end t_at t_start t_faultKind t_faultPlace n1 = some (o_b_last, o_b_lines, o_t_at, o_t_start, o_t_faultKind, o_t_faultPlace)) : Mt J yX0_read cX0_read 5 none rm_X0_read [.ref (a0 0), .ref (a1 0), .int n1] (cs_X0 J.2.2.1 a0 b_last b_lines ++ cs_X7 J.2.2.1 a1 t_bytes t_held t_end t_at t_start t_faultKind t_faultPlace) none (cs_X0 J.2.2.1 a0 o_b_last o_b_lines ++ cs_X7 J.2.2.1 a1 t_bytes t_held t_end o_t_at o_t_start o_t_faultKind o_t_faultPlace) := by
  refine Mt_of (own := RX0) (by decide) rfl (Nat.le_of_ble_eq_true rfl) rfl (fun Z C E => ?_)
  unfold f_X0_read at h
  show G J Z 0 0 (cs_X0 J.2.2.1 a0 b_last b_lines ++ cs_X7 J.2.2.1 a1 t_bytes t_held t_end t_at t_start t_faultKind t_faultPlace) 5 [(0, .ref (a0 0)), (1, .ref (a1 0)), (2, .int n1)] 0 []
  refine g_aload_n (pc := 0) C 0 rfl dX0_read_0 ?_
  obtain ⟨c20, c21, hc, h⟩ := b2_of h
  refine g_callV (pc := 1) C (w' := cs_X0 J.2.2.1 a0 c20 c21 ++ cs_X7 J.2.2.1 a1 t_bytes t_held t_end t_at t_start t_faultKind t_faultPlace) (As := []) (st := []) (ci := 0) (q0 := 0) rfl rfl (t_X0_clear hc) (Sub.gen [0, 1] [2, 3] [2, 3, 0, 1] rfl (by decide) rfl (by decide) (by decide) rfl (by decide)) kw_354 kw_355 kw_356 kw_94 hy_X0_clear kw_357 rfl (Nat.le_of_ble_eq_true rfl) (Nat.le_of_ble_eq_true rfl) (Nat.le_of_ble_eq_true rfl) (Nat.le_of_ble_eq_true rfl) (Nat.le_of_ble_eq_true rfl) dX0_read_1 ?_
  refine g_iconst (pc := 4) C dX0_read_4 ci_0 ?_
  refine g_istore_n (pc := 5) C [(3, .int 0), (0, .ref (a0 0)), (1, .ref (a1 0)), (2, .int n1)] dX0_read_5 rfl (by decide) rfl ?_
  refine g_lv [1, 2, 3, 0] rfl ?_
  exact j_X0_read_6 C E  FU 0 c20 c21 t_at t_start t_faultKind t_faultPlace h
noncomputable def f_X2_wordAt (p_words : Nat → Int32) (n1 : Int32) (n2 : Int32) : Option (Int32) := if n2 < 0 then some (-1) else if 8 ≤ n2 then some (-1) else if ixb ((n1 * 8) + n2) 48 then some (p_words ((n1 * 8) + n2).toNatClampNeg) else none
def rm_X2_wordAt : Room := { frames := 0, cells := 0, slots := 0, locals := 0 }
set_option maxRecDepth 100000 in
set_option maxHeartbeats 4000000 in
theorem t_X2_wordAt {J : Jt} {a0 : Nat → Nat} {p_beds : Int32} {p_letters : Int32} {p_readers : Int32} {p_far : Nat → Int32} {p_drain : Nat → Int32} {p_length : Nat → Int32} {p_words : Nat → Int32} {p_home : Nat → Int32} {n1 : Int32} {n2 : Int32} {r : Int32} (h : f_X2_wordAt p_words n1 n2 = some r) : Mt J yX2_wordAt cX2_wordAt 3 (some .int) rm_X2_wordAt [.ref (a0 0), .int n1, .int n2] (cs_X2 J.2.2.1 a0 p_beds p_letters p_readers p_far p_drain p_length p_words p_home) (some (.int r)) (cs_X2 J.2.2.1 a0 p_beds p_letters p_readers p_far p_drain p_length p_words p_home) := by
  refine Mt_of (own := RX2) (by decide) rfl (Nat.le_of_ble_eq_true rfl) rfl (fun Z C E => ?_)
  unfold f_X2_wordAt at h
  show G J Z 0 0 (cs_X2 J.2.2.1 a0 p_beds p_letters p_readers p_far p_drain p_length p_words p_home) 3 [(0, .ref (a0 0)), (1, .int n1), (2, .int n2)] 0 []
  refine g_iload_n (pc := 0) C 2 rfl dX2_wordAt_0 ?_
  refine g_if_lt (pc := 1) C (tgt := 24) dX2_wordAt_1 rfl h (fun h => ?_) (fun h => ?_)
  · refine g_iconst (pc := 24) C dX2_wordAt_24 ci_m1 ?_
    cases h
    exact g_iret C E dX2_wordAt_25
  · refine g_iload_n (pc := 4) C 2 rfl dX2_wordAt_4 ?_
    refine g_bipush (pc := 5) C dX2_wordAt_5 cb_8 ?_
    refine g_icmp_ge (pc := 7) C (tgt := 24) dX2_wordAt_7 rfl h (fun h => ?_) (fun h => ?_)
    · refine g_iconst (pc := 24) C dX2_wordAt_24 ci_m1 ?_
      cases h
      exact g_iret C E dX2_wordAt_25
    · refine g_aload_n (pc := 10) C 0 rfl dX2_wordAt_10 ?_
      refine g_get (pc := 11) C FOK_X2 0 rfl rfl 6 (by decide) kw_301 rfl dX2_wordAt_11 ?_
      refine g_iload_n (pc := 14) C 1 rfl dX2_wordAt_14 ?_
      refine g_bipush (pc := 15) C dX2_wordAt_15 cb_8 ?_
      refine g_imul (pc := 17) C dX2_wordAt_17 ?_
      refine g_iload_n (pc := 18) C 2 rfl dX2_wordAt_18 ?_
      refine g_iadd (pc := 19) C dX2_wordAt_19 ?_
      obtain ⟨hi, h⟩ := ix_of h
      refine g_iald (pc := 20) C 4 rfl hi dX2_wordAt_20 ?_
      refine g_goto (pc := 21) C (tgt := 25) dX2_wordAt_21 rfl ?_
      cases h
      exact g_iret C E dX2_wordAt_25
noncomputable def f_X4_leftOf (s_gone : Nat → Int32) (p_length : Nat → Int32) (n1 : Int32) : Option (Int32) := if ixb n1 6 then if ixb n1 6 then some ((p_length n1.toNatClampNeg) - (s_gone n1.toNatClampNeg)) else none else none
def rm_X4_leftOf : Room := { frames := 0, cells := 0, slots := 0, locals := 0 }
set_option maxRecDepth 100000 in
set_option maxHeartbeats 4000000 in
theorem t_X4_leftOf {J : Jt} {a0 : Nat → Nat} {a1 : Nat → Nat} {s_year : Int32} {s_wet : Int32} {s_lost : Int32} {s_eaten : Int32} {s_tied : Int32} {s_ripeMany : Int32} {s_gone : Nat → Int32} {s_place : Nat → Int32} {s_heard : Nat → Int32} {s_many : Nat → Int32} {s_lying : Nat → Int32} {s_ripe : Nat → Int32} {p_beds : Int32} {p_letters : Int32} {p_readers : Int32} {p_far : Nat → Int32} {p_drain : Nat → Int32} {p_length : Nat → Int32} {p_words : Nat → Int32} {p_home : Nat → Int32} {n1 : Int32} {r : Int32} (h : f_X4_leftOf s_gone p_length n1 = some r) : Mt J yX4_leftOf cX4_leftOf 3 (some .int) rm_X4_leftOf [.ref (a0 0), .ref (a1 0), .int n1] (cs_X4 J.2.2.1 a0 s_year s_wet s_lost s_eaten s_tied s_ripeMany s_gone s_place s_heard s_many s_lying s_ripe ++ cs_X2 J.2.2.1 a1 p_beds p_letters p_readers p_far p_drain p_length p_words p_home) (some (.int r)) (cs_X4 J.2.2.1 a0 s_year s_wet s_lost s_eaten s_tied s_ripeMany s_gone s_place s_heard s_many s_lying s_ripe ++ cs_X2 J.2.2.1 a1 p_beds p_letters p_readers p_far p_drain p_length p_words p_home) := by
  refine Mt_of (own := RX4) (by decide) rfl (Nat.le_of_ble_eq_true rfl) rfl (fun Z C E => ?_)
  unfold f_X4_leftOf at h
  show G J Z 0 0 (cs_X4 J.2.2.1 a0 s_year s_wet s_lost s_eaten s_tied s_ripeMany s_gone s_place s_heard s_many s_lying s_ripe ++ cs_X2 J.2.2.1 a1 p_beds p_letters p_readers p_far p_drain p_length p_words p_home) 3 [(0, .ref (a0 0)), (1, .ref (a1 0)), (2, .int n1)] 0 []
  refine g_aload_n (pc := 0) C 1 rfl dX4_leftOf_0 ?_
  refine g_get (pc := 1) C FOK_X2 7 rfl rfl 5 (by decide) kw_299 rfl dX4_leftOf_1 ?_
  refine g_iload_n (pc := 4) C 2 rfl dX4_leftOf_4 ?_
  obtain ⟨hi, h⟩ := ix_of h
  refine g_iald (pc := 5) C 10 rfl hi dX4_leftOf_5 ?_
  refine g_aload_n (pc := 6) C 0 rfl dX4_leftOf_6 ?_
  refine g_get (pc := 7) C FOK_X4 0 rfl rfl 6 (by decide) kw_167 rfl dX4_leftOf_7 ?_
  refine g_iload_n (pc := 10) C 2 rfl dX4_leftOf_10 ?_
  obtain ⟨hi, h⟩ := ix_of h
  refine g_iald (pc := 11) C 1 rfl hi dX4_leftOf_11 ?_
  refine g_isub (pc := 12) C dX4_leftOf_12 ?_
  cases h
  exact g_iret C E dX4_leftOf_13
noncomputable def f_X4_lyingAt (s_many : Nat → Int32) (s_lying : Nat → Int32) (n1 : Int32) (n2 : Int32) : Option (Int32) := if n2 < 0 then some (-1) else if ixb n1 6 then if (s_many n1.toNatClampNeg) ≤ n2 then some (-1) else if 12 ≤ n2 then some (-1) else if ixb ((n1 * 12) + n2) 72 then some (s_lying ((n1 * 12) + n2).toNatClampNeg) else none else none
def rm_X4_lyingAt : Room := { frames := 0, cells := 0, slots := 0, locals := 0 }
set_option maxRecDepth 100000 in
set_option maxHeartbeats 4000000 in
theorem t_X4_lyingAt {J : Jt} {a0 : Nat → Nat} {s_year : Int32} {s_wet : Int32} {s_lost : Int32} {s_eaten : Int32} {s_tied : Int32} {s_ripeMany : Int32} {s_gone : Nat → Int32} {s_place : Nat → Int32} {s_heard : Nat → Int32} {s_many : Nat → Int32} {s_lying : Nat → Int32} {s_ripe : Nat → Int32} {n1 : Int32} {n2 : Int32} {r : Int32} (h : f_X4_lyingAt s_many s_lying n1 n2 = some r) : Mt J yX4_lyingAt cX4_lyingAt 3 (some .int) rm_X4_lyingAt [.ref (a0 0), .int n1, .int n2] (cs_X4 J.2.2.1 a0 s_year s_wet s_lost s_eaten s_tied s_ripeMany s_gone s_place s_heard s_many s_lying s_ripe) (some (.int r)) (cs_X4 J.2.2.1 a0 s_year s_wet s_lost s_eaten s_tied s_ripeMany s_gone s_place s_heard s_many s_lying s_ripe) := by
  refine Mt_of (own := RX4) (by decide) rfl (Nat.le_of_ble_eq_true rfl) rfl (fun Z C E => ?_)
  unfold f_X4_lyingAt at h
  show G J Z 0 0 (cs_X4 J.2.2.1 a0 s_year s_wet s_lost s_eaten s_tied s_ripeMany s_gone s_place s_heard s_many s_lying s_ripe) 3 [(0, .ref (a0 0)), (1, .int n1), (2, .int n2)] 0 []
  refine g_iload_n (pc := 0) C 2 rfl dX4_lyingAt_0 ?_
  refine g_if_lt (pc := 1) C (tgt := 34) dX4_lyingAt_1 rfl h (fun h => ?_) (fun h => ?_)
  · refine g_iconst (pc := 34) C dX4_lyingAt_34 ci_m1 ?_
    cases h
    exact g_iret C E dX4_lyingAt_35
  · refine g_iload_n (pc := 4) C 2 rfl dX4_lyingAt_4 ?_
    refine g_aload_n (pc := 5) C 0 rfl dX4_lyingAt_5 ?_
    refine g_get (pc := 6) C FOK_X4 0 rfl rfl 9 (by decide) kw_172 rfl dX4_lyingAt_6 ?_
    refine g_iload_n (pc := 9) C 1 rfl dX4_lyingAt_9 ?_
    obtain ⟨hi, h⟩ := ix_of h
    refine g_iald (pc := 10) C 4 rfl hi dX4_lyingAt_10 ?_
    refine g_icmp_ge (pc := 11) C (tgt := 34) dX4_lyingAt_11 rfl h (fun h => ?_) (fun h => ?_)
    · refine g_iconst (pc := 34) C dX4_lyingAt_34 ci_m1 ?_
      cases h
      exact g_iret C E dX4_lyingAt_35
    · refine g_iload_n (pc := 14) C 2 rfl dX4_lyingAt_14 ?_
      refine g_bipush (pc := 15) C dX4_lyingAt_15 cb_12 ?_
      refine g_icmp_ge (pc := 17) C (tgt := 34) dX4_lyingAt_17 rfl h (fun h => ?_) (fun h => ?_)
      · refine g_iconst (pc := 34) C dX4_lyingAt_34 ci_m1 ?_
        cases h
        exact g_iret C E dX4_lyingAt_35
      · refine g_aload_n (pc := 20) C 0 rfl dX4_lyingAt_20 ?_
        refine g_get (pc := 21) C FOK_X4 0 rfl rfl 10 (by decide) kw_174 rfl dX4_lyingAt_21 ?_
        refine g_iload_n (pc := 24) C 1 rfl dX4_lyingAt_24 ?_
        refine g_bipush (pc := 25) C dX4_lyingAt_25 cb_12 ?_
        refine g_imul (pc := 27) C dX4_lyingAt_27 ?_
        refine g_iload_n (pc := 28) C 2 rfl dX4_lyingAt_28 ?_
        refine g_iadd (pc := 29) C dX4_lyingAt_29 ?_
        obtain ⟨hi, h⟩ := ix_of h
        refine g_iald (pc := 30) C 5 rfl hi dX4_lyingAt_30 ?_
        refine g_goto (pc := 31) C (tgt := 35) dX4_lyingAt_31 rfl ?_
        cases h
        exact g_iret C E dX4_lyingAt_35
noncomputable def f_X4_lastAfter_61 (s_gone : Nat → Int32) (s_many : Nat → Int32) (s_lying : Nat → Int32) (p_drain : Nat → Int32) (p_length : Nat → Int32) (p_words : Nat → Int32) (n1 : Int32) (n2 : Int32) (n3 : Int32)  : Option (Int32) := if ixb n1 6 then if (s_many n1.toNatClampNeg) ≤ 0 then some 16 else if ixb n1 6 then b1 (f_X4_lyingAt s_many s_lying n1 ((s_many n1.toNatClampNeg) - 1)) (fun v1 => some v1) else none else none
noncomputable def f_X4_lastAfter (s_gone : Nat → Int32) (s_many : Nat → Int32) (s_lying : Nat → Int32) (p_drain : Nat → Int32) (p_length : Nat → Int32) (p_words : Nat → Int32) (n1 : Int32) (n2 : Int32) (n3 : Int32) : Option (Int32) := if ixb n2 6 then if (p_drain n2.toNatClampNeg) = n1 then b1 (f_X4_leftOf s_gone p_length n2) (fun v2 => if ixb n1 6 then if (imin (imin n3 v2) (12 - (s_many n1.toNatClampNeg))) ≤ 0 then f_X4_lastAfter_61 s_gone s_many s_lying p_drain p_length p_words n1 n2 n3 else if ixb n2 6 then b1 (f_X2_wordAt p_words n2 (((s_gone n2.toNatClampNeg) + (imin (imin n3 v2) (12 - (s_many n1.toNatClampNeg)))) - 1)) (fun v3 => some v3) else none else none) else f_X4_lastAfter_61 s_gone s_many s_lying p_drain p_length p_words n1 n2 n3 else none
def rm_X4_lastAfter : Room := { frames := 1, cells := 0, slots := 0, locals := 40 }
set_option maxRecDepth 100000 in
set_option maxHeartbeats 4000000 in
theorem j_X4_lastAfter_61 {J : Jt} {Z : Zt} {a0 : Nat → Nat} {a1 : Nat → Nat} {s_year : Int32} {s_wet : Int32} {s_lost : Int32} {s_eaten : Int32} {s_tied : Int32} {s_ripeMany : Int32} {s_gone : Nat → Int32} {s_place : Nat → Int32} {s_heard : Nat → Int32} {s_many : Nat → Int32} {s_lying : Nat → Int32} {s_ripe : Nat → Int32} {p_beds : Int32} {p_letters : Int32} {p_readers : Int32} {p_far : Nat → Int32} {p_drain : Nat → Int32} {p_length : Nat → Int32} {p_words : Nat → Int32} {p_home : Nat → Int32} {n1 : Int32} {n2 : Int32} {n3 : Int32} {r : Int32} (C : Cx J Z cX4_lastAfter 7 RX4 (some .int) rm_X4_lastAfter) (E : Ez J Z 0 0 (some (.int r)) (cs_X4 J.2.2.1 a0 s_year s_wet s_lost s_eaten s_tied s_ripeMany s_gone s_place s_heard s_many s_lying s_ripe ++ cs_X2 J.2.2.1 a1 p_beds p_letters p_readers p_far p_drain p_length p_words p_home)) : f_X4_lastAfter_61 s_gone s_many s_lying p_drain p_length p_words n1 n2 n3 = some r → G J Z 0 0 (cs_X4 J.2.2.1 a0 s_year s_wet s_lost s_eaten s_tied s_ripeMany s_gone s_place s_heard s_many s_lying s_ripe ++ cs_X2 J.2.2.1 a1 p_beds p_letters p_readers p_far p_drain p_length p_words p_home) 7 [(0, .ref (a0 0)), (2, .int n1)] 61 [] := by
  intro  h
  unfold f_X4_lastAfter_61 at h
  refine g_aload_n (pc := 61) C 0 rfl dX4_lastAfter_61 ?_
  refine g_get (pc := 62) C FOK_X4 0 rfl rfl 9 (by decide) kw_172 rfl dX4_lastAfter_62 ?_
  refine g_iload_n (pc := 65) C 1 rfl dX4_lastAfter_65 ?_
  obtain ⟨hi, h⟩ := ix_of h
  refine g_iald (pc := 66) C 4 rfl hi dX4_lastAfter_66 ?_
  refine g_if_le (pc := 67) C (tgt := 86) dX4_lastAfter_67 rfl h (fun h => ?_) (fun h => ?_)
  · refine g_bipush (pc := 86) C dX4_lastAfter_86 cb_16 ?_
    cases h
    exact g_iret C E dX4_lastAfter_88
  · refine g_aload_n (pc := 70) C 0 rfl dX4_lastAfter_70 ?_
    refine g_iload_n (pc := 71) C 1 rfl dX4_lastAfter_71 ?_
    refine g_aload_n (pc := 72) C 0 rfl dX4_lastAfter_72 ?_
    refine g_get (pc := 73) C FOK_X4 0 rfl rfl 9 (by decide) kw_172 rfl dX4_lastAfter_73 ?_
    refine g_iload_n (pc := 76) C 1 rfl dX4_lastAfter_76 ?_
    obtain ⟨hi, h⟩ := ix_of h
    refine g_iald (pc := 77) C 4 rfl hi dX4_lastAfter_77 ?_
    refine g_iconst (pc := 78) C dX4_lastAfter_78 ci_1 ?_
    refine g_isub (pc := 79) C dX4_lastAfter_79 ?_
    obtain ⟨v1, hc, h⟩ := b1_of h
    refine g_callV (pc := 80) C (w' := cs_X4 J.2.2.1 a0 s_year s_wet s_lost s_eaten s_tied s_ripeMany s_gone s_place s_heard s_many s_lying s_ripe ++ cs_X2 J.2.2.1 a1 p_beds p_letters p_readers p_far p_drain p_length p_words p_home) (As := [.int n1, .int ((s_many n1.toNatClampNeg) - 1)]) (st := []) (ci := 4) (q0 := 0) rfl rfl (t_X4_lyingAt hc) (Sub.gen [0, 1, 2, 3, 4, 5, 6] [7, 8, 9, 10, 11, 12] [6, 7, 8, 9, 10, 11, 12, 0, 1, 2, 3, 4, 5] rfl (by decide) rfl (by decide) (by decide) rfl (by decide)) kw_873 kw_874 kw_875 kw_88 hy_X4_lyingAt kw_876 rfl (Nat.le_of_ble_eq_true rfl) (Nat.le_of_ble_eq_true rfl) (Nat.le_of_ble_eq_true rfl) (Nat.le_of_ble_eq_true rfl) (Nat.le_of_ble_eq_true rfl) dX4_lastAfter_80 ?_
    refine g_goto (pc := 83) C (tgt := 88) dX4_lastAfter_83 rfl ?_
    cases h
    exact g_iret C E dX4_lastAfter_88
set_option maxRecDepth 100000 in
set_option maxHeartbeats 4000000 in
theorem t_X4_lastAfter {J : Jt} {a0 : Nat → Nat} {a1 : Nat → Nat} {s_year : Int32} {s_wet : Int32} {s_lost : Int32} {s_eaten : Int32} {s_tied : Int32} {s_ripeMany : Int32} {s_gone : Nat → Int32} {s_place : Nat → Int32} {s_heard : Nat → Int32} {s_many : Nat → Int32} {s_lying : Nat → Int32} {s_ripe : Nat → Int32} {p_beds : Int32} {p_letters : Int32} {p_readers : Int32} {p_far : Nat → Int32} {p_drain : Nat → Int32} {p_length : Nat → Int32} {p_words : Nat → Int32} {p_home : Nat → Int32} {n1 : Int32} {n2 : Int32} {n3 : Int32} {r : Int32} (h : f_X4_lastAfter s_gone s_many s_lying p_drain p_length p_words n1 n2 n3 = some r) : Mt J yX4_lastAfter cX4_lastAfter 7 (some .int) rm_X4_lastAfter [.ref (a0 0), .ref (a1 0), .int n1, .int n2, .int n3] (cs_X4 J.2.2.1 a0 s_year s_wet s_lost s_eaten s_tied s_ripeMany s_gone s_place s_heard s_many s_lying s_ripe ++ cs_X2 J.2.2.1 a1 p_beds p_letters p_readers p_far p_drain p_length p_words p_home) (some (.int r)) (cs_X4 J.2.2.1 a0 s_year s_wet s_lost s_eaten s_tied s_ripeMany s_gone s_place s_heard s_many s_lying s_ripe ++ cs_X2 J.2.2.1 a1 p_beds p_letters p_readers p_far p_drain p_length p_words p_home) := by
  refine Mt_of (own := RX4) (by decide) rfl (Nat.le_of_ble_eq_true rfl) rfl (fun Z C E => ?_)
  unfold f_X4_lastAfter at h
  show G J Z 0 0 (cs_X4 J.2.2.1 a0 s_year s_wet s_lost s_eaten s_tied s_ripeMany s_gone s_place s_heard s_many s_lying s_ripe ++ cs_X2 J.2.2.1 a1 p_beds p_letters p_readers p_far p_drain p_length p_words p_home) 7 [(0, .ref (a0 0)), (1, .ref (a1 0)), (2, .int n1), (3, .int n2), (4, .int n3)] 0 []
  refine g_aload_n (pc := 0) C 1 rfl dX4_lastAfter_0 ?_
  refine g_get (pc := 1) C FOK_X2 7 rfl rfl 4 (by decide) kw_296 rfl dX4_lastAfter_1 ?_
  refine g_iload_n (pc := 4) C 3 rfl dX4_lastAfter_4 ?_
  obtain ⟨hi, h⟩ := ix_of h
  refine g_iald (pc := 5) C 9 rfl hi dX4_lastAfter_5 ?_
  refine g_iload_n (pc := 6) C 2 rfl dX4_lastAfter_6 ?_
  refine g_icmp_ne (pc := 7) C (tgt := 61) dX4_lastAfter_7 rfl h (fun h => ?_) (fun h => ?_)
  · refine g_lv [0, 2] rfl ?_
    exact j_X4_lastAfter_61 C E   h
  · refine g_iload (pc := 10) C 4 rfl dX4_lastAfter_10 ?_
    refine g_aload_n (pc := 12) C 0 rfl dX4_lastAfter_12 ?_
    refine g_aload_n (pc := 13) C 1 rfl dX4_lastAfter_13 ?_
    refine g_iload_n (pc := 14) C 3 rfl dX4_lastAfter_14 ?_
    obtain ⟨v2, hc, h⟩ := b1_of h
    refine g_callV (pc := 15) C (w' := cs_X4 J.2.2.1 a0 s_year s_wet s_lost s_eaten s_tied s_ripeMany s_gone s_place s_heard s_many s_lying s_ripe ++ cs_X2 J.2.2.1 a1 p_beds p_letters p_readers p_far p_drain p_length p_words p_home) (As := [.ref (a1 0), .int n2]) (st := [.int n3]) (ci := 4) (q0 := 0) rfl rfl (t_X4_leftOf hc) Sub.same kw_476 kw_465 kw_466 kw_88 hy_X4_leftOf kw_467 rfl (Nat.le_of_ble_eq_true rfl) (Nat.le_of_ble_eq_true rfl) (Nat.le_of_ble_eq_true rfl) (Nat.le_of_ble_eq_true rfl) (Nat.le_of_ble_eq_true rfl) dX4_lastAfter_15 ?_
    refine g_imin (pc := 18) C kw_889 kw_543 kw_96 kw_544 (Nat.le_of_ble_eq_true rfl) (Nat.le_of_ble_eq_true rfl) (Nat.le_of_ble_eq_true rfl) (Nat.le_of_ble_eq_true rfl) dX4_lastAfter_18 ?_
    refine g_istore (pc := 21) C [(5, .int (imin n3 v2)), (0, .ref (a0 0)), (1, .ref (a1 0)), (2, .int n1), (3, .int n2), (4, .int n3)] dX4_lastAfter_21 (by decide) rfl ?_
    refine g_iload (pc := 23) C 0 rfl dX4_lastAfter_23 ?_
    refine g_bipush (pc := 25) C dX4_lastAfter_25 cb_12 ?_
    refine g_aload_n (pc := 27) C 1 rfl dX4_lastAfter_27 ?_
    refine g_get (pc := 28) C FOK_X4 0 rfl rfl 9 (by decide) kw_172 rfl dX4_lastAfter_28 ?_
    refine g_iload_n (pc := 31) C 3 rfl dX4_lastAfter_31 ?_
    obtain ⟨hi, h⟩ := ix_of h
    refine g_iald (pc := 32) C 4 rfl hi dX4_lastAfter_32 ?_
    refine g_isub (pc := 33) C dX4_lastAfter_33 ?_
    refine g_imin (pc := 34) C kw_889 kw_543 kw_96 kw_544 (Nat.le_of_ble_eq_true rfl) (Nat.le_of_ble_eq_true rfl) (Nat.le_of_ble_eq_true rfl) (Nat.le_of_ble_eq_true rfl) dX4_lastAfter_34 ?_
    refine g_istore (pc := 37) C [(6, .int (imin (imin n3 v2) (12 - (s_many n1.toNatClampNeg)))), (5, .int (imin n3 v2)), (0, .ref (a0 0)), (1, .ref (a1 0)), (2, .int n1), (3, .int n2), (4, .int n3)] dX4_lastAfter_37 (by decide) rfl ?_
    refine g_iload (pc := 39) C 0 rfl dX4_lastAfter_39 ?_
    refine g_if_le (pc := 41) C (tgt := 61) dX4_lastAfter_41 rfl h (fun h => ?_) (fun h => ?_)
    · refine g_lv [2, 4] rfl ?_
      exact j_X4_lastAfter_61 C E   h
    · refine g_aload_n (pc := 44) C 3 rfl dX4_lastAfter_44 ?_
      refine g_iload_n (pc := 45) C 5 rfl dX4_lastAfter_45 ?_
      refine g_aload_n (pc := 46) C 2 rfl dX4_lastAfter_46 ?_
      refine g_get (pc := 47) C FOK_X4 0 rfl rfl 6 (by decide) kw_167 rfl dX4_lastAfter_47 ?_
      refine g_iload_n (pc := 50) C 5 rfl dX4_lastAfter_50 ?_
      obtain ⟨hi, h⟩ := ix_of h
      refine g_iald (pc := 51) C 1 rfl hi dX4_lastAfter_51 ?_
      refine g_iload (pc := 52) C 0 rfl dX4_lastAfter_52 ?_
      refine g_iadd (pc := 54) C dX4_lastAfter_54 ?_
      refine g_iconst (pc := 55) C dX4_lastAfter_55 ci_1 ?_
      refine g_isub (pc := 56) C dX4_lastAfter_56 ?_
      obtain ⟨v3, hc, h⟩ := b1_of h
      refine g_callV (pc := 57) C (w' := cs_X4 J.2.2.1 a0 s_year s_wet s_lost s_eaten s_tied s_ripeMany s_gone s_place s_heard s_many s_lying s_ripe ++ cs_X2 J.2.2.1 a1 p_beds p_letters p_readers p_far p_drain p_length p_words p_home) (As := [.int n2, .int (((s_gone n2.toNatClampNeg) + (imin (imin n3 v2) (12 - (s_many n1.toNatClampNeg)))) - 1)]) (st := []) (ci := 2) (q0 := 7) rfl rfl (t_X2_wordAt hc) (Sub.gen [7, 8, 9, 10, 11, 12] [0, 1, 2, 3, 4, 5, 6] [0, 1, 2, 3, 4, 5, 6, 7, 8, 9, 10, 11, 12] rfl (by decide) rfl (by decide) (by decide) rfl (by decide)) kw_477 kw_469 kw_470 kw_92 hy_X2_wordAt kw_471 rfl (Nat.le_of_ble_eq_true rfl) (Nat.le_of_ble_eq_true rfl) (Nat.le_of_ble_eq_true rfl) (Nat.le_of_ble_eq_true rfl) (Nat.le_of_ble_eq_true rfl) dX4_lastAfter_57 ?_
      cases h
      exact g_iret C E dX4_lastAfter_60
noncomputable def f_X0_isRight_3 (b_last : Nat → Int32) (s_gone : Nat → Int32) (s_many : Nat → Int32) (s_lying : Nat → Int32) (p_beds : Int32) (p_drain : Nat → Int32) (p_length : Nat → Int32) (p_words : Nat → Int32) (n1 : Int32) (n2 : Int32) : Nat → Int32 → Option (Int32)
  | 0, _ => none
  | n + 1, x5 => if p_beds ≤ x5 then some 1 else if ixb x5 6 then if (b_last x5.toNatClampNeg) = (-1) then f_X0_isRight_3 b_last s_gone s_many s_lying p_beds p_drain p_length p_words n1 n2 n (x5 + 1) else if ixb x5 6 then b1 (f_X4_lastAfter s_gone s_many s_lying p_drain p_length p_words x5 n1 n2) (fun v1 => if (b_last x5.toNatClampNeg) = v1 then f_X0_isRight_3 b_last s_gone s_many s_lying p_beds p_drain p_length p_words n1 n2 n (x5 + 1) else some 0) else none else none
noncomputable def f_X0_isRight (b_last : Nat → Int32) (s_gone : Nat → Int32) (s_many : Nat → Int32) (s_lying : Nat → Int32) (p_beds : Int32) (p_drain : Nat → Int32) (p_length : Nat → Int32) (p_words : Nat → Int32) (n1 : Int32) (n2 : Int32) : Option (Int32) := f_X0_isRight_3 b_last s_gone s_many s_lying p_beds p_drain p_length p_words n1 n2 FU 0
def rm_X0_isRight : Room := { frames := 2, cells := 0, slots := 0, locals := 66 }
set_option maxRecDepth 100000 in
set_option maxHeartbeats 4000000 in
theorem j_X0_isRight_3 {J : Jt} {Z : Zt} {a0 : Nat → Nat} {a1 : Nat → Nat} {a2 : Nat → Nat} {b_last : Nat → Int32} {b_lines : Int32} {s_year : Int32} {s_wet : Int32} {s_lost : Int32} {s_eaten : Int32} {s_tied : Int32} {s_ripeMany : Int32} {s_gone : Nat → Int32} {s_place : Nat → Int32} {s_heard : Nat → Int32} {s_many : Nat → Int32} {s_lying : Nat → Int32} {s_ripe : Nat → Int32} {p_beds : Int32} {p_letters : Int32} {p_readers : Int32} {p_far : Nat → Int32} {p_drain : Nat → Int32} {p_length : Nat → Int32} {p_words : Nat → Int32} {p_home : Nat → Int32} {n1 : Int32} {n2 : Int32} {r : Int32} (C : Cx J Z cX0_isRight 6 RX0 (some .boolean) rm_X0_isRight) (E : Ez J Z 0 0 (some (.int r)) (cs_X0 J.2.2.1 a0 b_last b_lines ++ cs_X4 J.2.2.1 a1 s_year s_wet s_lost s_eaten s_tied s_ripeMany s_gone s_place s_heard s_many s_lying s_ripe ++ cs_X2 J.2.2.1 a2 p_beds p_letters p_readers p_far p_drain p_length p_words p_home)) : ∀ (n : Nat) (x5 : Int32), f_X0_isRight_3 b_last s_gone s_many s_lying p_beds p_drain p_length p_words n1 n2 n x5 = some r → G J Z 0 0 (cs_X0 J.2.2.1 a0 b_last b_lines ++ cs_X4 J.2.2.1 a1 s_year s_wet s_lost s_eaten s_tied s_ripeMany s_gone s_place s_heard s_many s_lying s_ripe ++ cs_X2 J.2.2.1 a2 p_beds p_letters p_readers p_far p_drain p_length p_words p_home) 6 [(0, .ref (a0 0)), (1, .ref (a1 0)), (2, .ref (a2 0)), (3, .int n1), (4, .int n2), (5, .int x5)] 3 [] := by
  intro n
  induction n with
  | zero =>
    intro x5 h
    rw [f_X0_isRight_3] at h
    cases h
  | succ n ih =>
    intro x5 h
    rw [f_X0_isRight_3] at h
    refine g_iload (pc := 3) C 5 rfl dX0_isRight_3 ?_
    refine g_aload_n (pc := 5) C 2 rfl dX0_isRight_5 ?_
    refine g_get (pc := 6) C FOK_X2 9 rfl rfl 0 (by decide) kw_277 rfl dX0_isRight_6 ?_
    refine g_icmp_ge (pc := 9) C (tgt := 51) dX0_isRight_9 rfl h (fun h => ?_) (fun h => ?_)
    · refine g_iconst (pc := 51) C dX0_isRight_51 ci_1 ?_
      cases h
      exact g_zret C rfl E dX0_isRight_52
    · refine g_aload_n (pc := 12) C 0 rfl dX0_isRight_12 ?_
      refine g_get (pc := 13) C FOK_X0 0 rfl rfl 0 (by decide) kw_358 rfl dX0_isRight_13 ?_
      refine g_iload (pc := 16) C 5 rfl dX0_isRight_16 ?_
      obtain ⟨hi, h⟩ := ix_of h
      refine g_iald (pc := 18) C 1 rfl hi dX0_isRight_18 ?_
      refine g_iconst (pc := 19) C dX0_isRight_19 ci_m1 ?_
      refine g_icmp_eq (pc := 20) C (tgt := 45) dX0_isRight_20 rfl h (fun h => ?_) (fun h => ?_)
      · refine g_iinc (pc := 45) C (j := 5) [(5, .int (x5 + 1)), (0, .ref (a0 0)), (1, .ref (a1 0)), (2, .ref (a2 0)), (3, .int n1), (4, .int n2)] dX0_isRight_45 rfl (ii_1 _) (by decide) rfl ?_
        refine g_goto (pc := 48) C (tgt := 3) dX0_isRight_48 rfl ?_
        refine g_lv [1, 2, 3, 4, 5, 0] rfl ?_
        exact ih (x5 + 1) h
      · refine g_aload_n (pc := 23) C 0 rfl dX0_isRight_23 ?_
        refine g_get (pc := 24) C FOK_X0 0 rfl rfl 0 (by decide) kw_358 rfl dX0_isRight_24 ?_
        refine g_iload (pc := 27) C 5 rfl dX0_isRight_27 ?_
        obtain ⟨hi, h⟩ := ix_of h
        refine g_iald (pc := 29) C 1 rfl hi dX0_isRight_29 ?_
        refine g_aload_n (pc := 30) C 1 rfl dX0_isRight_30 ?_
        refine g_aload_n (pc := 31) C 2 rfl dX0_isRight_31 ?_
        refine g_iload (pc := 32) C 5 rfl dX0_isRight_32 ?_
        refine g_iload_n (pc := 34) C 3 rfl dX0_isRight_34 ?_
        refine g_iload (pc := 35) C 4 rfl dX0_isRight_35 ?_
        obtain ⟨v1, hc, h⟩ := b1_of h
        refine g_callV (pc := 37) C (w' := cs_X0 J.2.2.1 a0 b_last b_lines ++ cs_X4 J.2.2.1 a1 s_year s_wet s_lost s_eaten s_tied s_ripeMany s_gone s_place s_heard s_many s_lying s_ripe ++ cs_X2 J.2.2.1 a2 p_beds p_letters p_readers p_far p_drain p_length p_words p_home) (As := [.ref (a2 0), .int x5, .int n1, .int n2]) (st := [.int (b_last x5.toNatClampNeg)]) (ci := 4) (q0 := 2) rfl rfl (t_X4_lastAfter hc) (Sub.gen [2, 3, 4, 5, 6, 7, 8, 9, 10, 11, 12, 13, 14] [0, 1] [0, 1, 2, 3, 4, 5, 6, 7, 8, 9, 10, 11, 12, 13, 14] rfl (by decide) rfl (by decide) (by decide) rfl (by decide)) kw_1105 kw_1106 kw_1107 kw_88 hy_X4_lastAfter kw_1108 rfl (Nat.le_of_ble_eq_true rfl) (Nat.le_of_ble_eq_true rfl) (Nat.le_of_ble_eq_true rfl) (Nat.le_of_ble_eq_true rfl) (Nat.le_of_ble_eq_true rfl) dX0_isRight_37 ?_
        refine g_icmp_eq (pc := 40) C (tgt := 45) dX0_isRight_40 rfl h (fun h => ?_) (fun h => ?_)
        · refine g_iinc (pc := 45) C (j := 5) [(5, .int (x5 + 1)), (0, .ref (a0 0)), (1, .ref (a1 0)), (2, .ref (a2 0)), (3, .int n1), (4, .int n2)] dX0_isRight_45 rfl (ii_1 _) (by decide) rfl ?_
          refine g_goto (pc := 48) C (tgt := 3) dX0_isRight_48 rfl ?_
          refine g_lv [1, 2, 3, 4, 5, 0] rfl ?_
          exact ih (x5 + 1) h
        · refine g_iconst (pc := 43) C dX0_isRight_43 ci_0 ?_
          cases h
          exact g_zret C rfl E dX0_isRight_44
set_option maxRecDepth 100000 in
set_option maxHeartbeats 4000000 in
theorem t_X0_isRight {J : Jt} {a0 : Nat → Nat} {a1 : Nat → Nat} {a2 : Nat → Nat} {b_last : Nat → Int32} {b_lines : Int32} {s_year : Int32} {s_wet : Int32} {s_lost : Int32} {s_eaten : Int32} {s_tied : Int32} {s_ripeMany : Int32} {s_gone : Nat → Int32} {s_place : Nat → Int32} {s_heard : Nat → Int32} {s_many : Nat → Int32} {s_lying : Nat → Int32} {s_ripe : Nat → Int32} {p_beds : Int32} {p_letters : Int32} {p_readers : Int32} {p_far : Nat → Int32} {p_drain : Nat → Int32} {p_length : Nat → Int32} {p_words : Nat → Int32} {p_home : Nat → Int32} {n1 : Int32} {n2 : Int32} {r : Int32} (h : f_X0_isRight b_last s_gone s_many s_lying p_beds p_drain p_length p_words n1 n2 = some r) : Mt J yX0_isRight cX0_isRight 6 (some .boolean) rm_X0_isRight [.ref (a0 0), .ref (a1 0), .ref (a2 0), .int n1, .int n2] (cs_X0 J.2.2.1 a0 b_last b_lines ++ cs_X4 J.2.2.1 a1 s_year s_wet s_lost s_eaten s_tied s_ripeMany s_gone s_place s_heard s_many s_lying s_ripe ++ cs_X2 J.2.2.1 a2 p_beds p_letters p_readers p_far p_drain p_length p_words p_home) (some (.int r)) (cs_X0 J.2.2.1 a0 b_last b_lines ++ cs_X4 J.2.2.1 a1 s_year s_wet s_lost s_eaten s_tied s_ripeMany s_gone s_place s_heard s_many s_lying s_ripe ++ cs_X2 J.2.2.1 a2 p_beds p_letters p_readers p_far p_drain p_length p_words p_home) := by
  refine Mt_of (own := RX0) (by decide) rfl (Nat.le_of_ble_eq_true rfl) rfl (fun Z C E => ?_)
  unfold f_X0_isRight at h
  show G J Z 0 0 (cs_X0 J.2.2.1 a0 b_last b_lines ++ cs_X4 J.2.2.1 a1 s_year s_wet s_lost s_eaten s_tied s_ripeMany s_gone s_place s_heard s_many s_lying s_ripe ++ cs_X2 J.2.2.1 a2 p_beds p_letters p_readers p_far p_drain p_length p_words p_home) 6 [(0, .ref (a0 0)), (1, .ref (a1 0)), (2, .ref (a2 0)), (3, .int n1), (4, .int n2)] 0 []
  refine g_iconst (pc := 0) C dX0_isRight_0 ci_0 ?_
  refine g_istore (pc := 1) C [(5, .int 0), (0, .ref (a0 0)), (1, .ref (a1 0)), (2, .ref (a2 0)), (3, .int n1), (4, .int n2)] dX0_isRight_1 (by decide) rfl ?_
  refine g_lv [1, 2, 3, 4, 5, 0] rfl ?_
  exact j_X0_isRight_3 C E  FU 0 h
noncomputable def f_X1_add (l_code : Nat → Int32) (l_length : Int32) (n1 : Int32) : Option ((Nat → Int32) × Int32) := if 150 ≤ l_length then some (l_code, l_length) else if ixb l_length 150 then some (upd l_code l_length.toNatClampNeg n1, l_length + 1) else none
def rm_X1_add : Room := { frames := 0, cells := 0, slots := 0, locals := 0 }
set_option maxRecDepth 100000 in
set_option maxHeartbeats 4000000 in
theorem t_X1_add {J : Jt} {a0 : Nat → Nat} {l_code : Nat → Int32} {l_values : Nat → Int32} {l_stack : Nat → Int32} {l_length : Int32} {n1 : Int32} {o_l_code : Nat → Int32} {o_l_length : Int32} (h : f_X1_add l_code l_length n1 = some (o_l_code, o_l_length)) : Mt J yX1_add cX1_add 2 none rm_X1_add [.ref (a0 0), .int n1] (cs_X1 J.2.2.1 a0 l_code l_values l_stack l_length) none (cs_X1 J.2.2.1 a0 o_l_code l_values l_stack o_l_length) := by
  refine Mt_of (own := RX1) (by decide) rfl (Nat.le_of_ble_eq_true rfl) rfl (fun Z C E => ?_)
  unfold f_X1_add at h
  show G J Z 0 0 (cs_X1 J.2.2.1 a0 l_code l_values l_stack l_length) 2 [(0, .ref (a0 0)), (1, .int n1)] 0 []
  refine g_aload_n (pc := 0) C 0 rfl dX1_add_0 ?_
  refine g_get (pc := 1) C FOK_X1 0 rfl rfl 3 (by decide) kw_338 rfl dX1_add_1 ?_
  refine g_sipush (pc := 4) C dX1_add_4 cs_150 ?_
  refine g_icmp_ge (pc := 7) C (tgt := 30) dX1_add_7 rfl h (fun h => ?_) (fun h => ?_)
  · cases h
    exact g_vret C E dX1_add_30
  · refine g_aload_n (pc := 10) C 0 rfl dX1_add_10 ?_
    refine g_get (pc := 11) C FOK_X1 0 rfl rfl 0 (by decide) kw_335 rfl dX1_add_11 ?_
    refine g_aload_n (pc := 14) C 0 rfl dX1_add_14 ?_
    refine g_get (pc := 15) C FOK_X1 0 rfl rfl 3 (by decide) kw_338 rfl dX1_add_15 ?_
    refine g_iload_n (pc := 18) C 1 rfl dX1_add_18 ?_
    obtain ⟨hi, h⟩ := ix_of h
    refine g_iast (pc := 19) C (w' := cs_X1 J.2.2.1 a0 (upd l_code l_length.toNatClampNeg n1) l_values l_stack l_length) 1 rfl hi dX1_add_19 rfl ?_
    refine g_aload_n (pc := 20) C 0 rfl dX1_add_20 ?_
    refine g_dup (pc := 21) C dX1_add_21 rfl ?_
    refine g_get (pc := 22) C FOK_X1 0 rfl rfl 3 (by decide) kw_338 rfl dX1_add_22 ?_
    refine g_iconst (pc := 25) C dX1_add_25 ci_1 ?_
    refine g_iadd (pc := 26) C dX1_add_26 ?_
    refine g_put (pc := 27) C (w' := cs_X1 J.2.2.1 a0 (upd l_code l_length.toNatClampNeg n1) l_values l_stack (l_length + 1)) FOK_X1 0 rfl rfl 3 (by decide) kw_338 rfl rfl rfl (Nat.le_of_ble_eq_true rfl) dX1_add_27 rfl ?_
    cases h
    exact g_vret C E dX1_add_30
noncomputable def f_X1_makePlain (l_code : Nat → Int32) (l_length : Int32) : Option ((Nat → Int32) × Int32) := b2 (f_X1_add l_code 0 (-1)) (fun c1 c2 => b2 (f_X1_add c1 c2 4) (fun c3 c4 => b2 (f_X1_add c3 c4 (-11)) (fun c5 c6 => b2 (f_X1_add c5 c6 1) (fun c7 c8 => b2 (f_X1_add c7 c8 (-8)) (fun c9 c10 => some (c9, c10))))))
def rm_X1_makePlain : Room := { frames := 1, cells := 0, slots := 0, locals := 21 }
set_option maxRecDepth 100000 in
set_option maxHeartbeats 4000000 in
theorem t_X1_makePlain {J : Jt} {a0 : Nat → Nat} {l_code : Nat → Int32} {l_values : Nat → Int32} {l_stack : Nat → Int32} {l_length : Int32} {o_l_code : Nat → Int32} {o_l_length : Int32} (h : f_X1_makePlain l_code l_length = some (o_l_code, o_l_length)) : Mt J yX1_makePlain cX1_makePlain 1 none rm_X1_makePlain [.ref (a0 0)] (cs_X1 J.2.2.1 a0 l_code l_values l_stack l_length) none (cs_X1 J.2.2.1 a0 o_l_code l_values l_stack o_l_length) := by
  refine Mt_of (own := RX1) (by decide) rfl (Nat.le_of_ble_eq_true rfl) rfl (fun Z C E => ?_)
  unfold f_X1_makePlain at h
  show G J Z 0 0 (cs_X1 J.2.2.1 a0 l_code l_values l_stack l_length) 1 [(0, .ref (a0 0))] 0 []
  refine g_aload_n (pc := 0) C 0 rfl dX1_makePlain_0 ?_
  refine g_iconst (pc := 1) C dX1_makePlain_1 ci_0 ?_
  refine g_put (pc := 2) C (w' := cs_X1 J.2.2.1 a0 l_code l_values l_stack 0) FOK_X1 0 rfl rfl 3 (by decide) kw_338 rfl rfl rfl (Nat.le_of_ble_eq_true rfl) dX1_makePlain_2 rfl ?_
  refine g_aload_n (pc := 5) C 0 rfl dX1_makePlain_5 ?_
  refine g_iconst (pc := 6) C dX1_makePlain_6 ci_m1 ?_
  obtain ⟨c1, c2, hc, h⟩ := b2_of h
  refine g_callV (pc := 7) C (w' := cs_X1 J.2.2.1 a0 c1 l_values l_stack c2) (As := [.int (-1)]) (st := []) (ci := 1) (q0 := 0) rfl rfl (t_X1_add hc) Sub.same kw_331 kw_332 kw_333 kw_93 hy_X1_add kw_334 rfl (Nat.le_of_ble_eq_true rfl) (Nat.le_of_ble_eq_true rfl) (Nat.le_of_ble_eq_true rfl) (Nat.le_of_ble_eq_true rfl) (Nat.le_of_ble_eq_true rfl) dX1_makePlain_7 ?_
  refine g_aload_n (pc := 10) C 0 rfl dX1_makePlain_10 ?_
  refine g_iconst (pc := 11) C dX1_makePlain_11 ci_4 ?_
  obtain ⟨c3, c4, hc, h⟩ := b2_of h
  refine g_callV (pc := 12) C (w' := cs_X1 J.2.2.1 a0 c3 l_values l_stack c4) (As := [.int 4]) (st := []) (ci := 1) (q0 := 0) rfl rfl (t_X1_add hc) Sub.same kw_331 kw_332 kw_333 kw_93 hy_X1_add kw_334 rfl (Nat.le_of_ble_eq_true rfl) (Nat.le_of_ble_eq_true rfl) (Nat.le_of_ble_eq_true rfl) (Nat.le_of_ble_eq_true rfl) (Nat.le_of_ble_eq_true rfl) dX1_makePlain_12 ?_
  refine g_aload_n (pc := 15) C 0 rfl dX1_makePlain_15 ?_
  refine g_bipush (pc := 16) C dX1_makePlain_16 cb_m11 ?_
  obtain ⟨c5, c6, hc, h⟩ := b2_of h
  refine g_callV (pc := 18) C (w' := cs_X1 J.2.2.1 a0 c5 l_values l_stack c6) (As := [.int (-11)]) (st := []) (ci := 1) (q0 := 0) rfl rfl (t_X1_add hc) Sub.same kw_331 kw_332 kw_333 kw_93 hy_X1_add kw_334 rfl (Nat.le_of_ble_eq_true rfl) (Nat.le_of_ble_eq_true rfl) (Nat.le_of_ble_eq_true rfl) (Nat.le_of_ble_eq_true rfl) (Nat.le_of_ble_eq_true rfl) dX1_makePlain_18 ?_
  refine g_aload_n (pc := 21) C 0 rfl dX1_makePlain_21 ?_
  refine g_iconst (pc := 22) C dX1_makePlain_22 ci_1 ?_
  obtain ⟨c7, c8, hc, h⟩ := b2_of h
  refine g_callV (pc := 23) C (w' := cs_X1 J.2.2.1 a0 c7 l_values l_stack c8) (As := [.int 1]) (st := []) (ci := 1) (q0 := 0) rfl rfl (t_X1_add hc) Sub.same kw_331 kw_332 kw_333 kw_93 hy_X1_add kw_334 rfl (Nat.le_of_ble_eq_true rfl) (Nat.le_of_ble_eq_true rfl) (Nat.le_of_ble_eq_true rfl) (Nat.le_of_ble_eq_true rfl) (Nat.le_of_ble_eq_true rfl) dX1_makePlain_23 ?_
  refine g_aload_n (pc := 26) C 0 rfl dX1_makePlain_26 ?_
  refine g_bipush (pc := 27) C dX1_makePlain_27 cb_m8 ?_
  obtain ⟨c9, c10, hc, h⟩ := b2_of h
  refine g_callV (pc := 29) C (w' := cs_X1 J.2.2.1 a0 c9 l_values l_stack c10) (As := [.int (-8)]) (st := []) (ci := 1) (q0 := 0) rfl rfl (t_X1_add hc) Sub.same kw_331 kw_332 kw_333 kw_93 hy_X1_add kw_334 rfl (Nat.le_of_ble_eq_true rfl) (Nat.le_of_ble_eq_true rfl) (Nat.le_of_ble_eq_true rfl) (Nat.le_of_ble_eq_true rfl) (Nat.le_of_ble_eq_true rfl) dX1_makePlain_29 ?_
  cases h
  exact g_vret C E dX1_makePlain_32
noncomputable def f_X7_isSmallLetter  (n1 : Int32) : Option (Int32) := if n1 < 97 then some 0 else if 122 < n1 then some 0 else some 1
def rm_X7_isSmallLetter : Room := { frames := 0, cells := 0, slots := 0, locals := 0 }
set_option maxRecDepth 100000 in
set_option maxHeartbeats 4000000 in
theorem t_X7_isSmallLetter {J : Jt}  {n1 : Int32} {r : Int32} (h : f_X7_isSmallLetter n1 = some r) : Mt J yX7_isSmallLetter cX7_isSmallLetter 1 (some .boolean) rm_X7_isSmallLetter [.int n1] ([]) (some (.int r)) ([]) := by
  refine Mt_of (own := RX7) (by decide) rfl (Nat.le_of_ble_eq_true rfl) rfl (fun Z C E => ?_)
  unfold f_X7_isSmallLetter at h
  show G J Z 0 0 ([]) 1 [(0, .int n1)] 0 []
  refine g_iload_n (pc := 0) C 0 rfl dX7_isSmallLetter_0 ?_
  refine g_bipush (pc := 1) C dX7_isSmallLetter_1 cb_97 ?_
  refine g_icmp_lt (pc := 3) C (tgt := 16) dX7_isSmallLetter_3 rfl h (fun h => ?_) (fun h => ?_)
  · refine g_iconst (pc := 16) C dX7_isSmallLetter_16 ci_0 ?_
    cases h
    exact g_zret C rfl E dX7_isSmallLetter_17
  · refine g_iload_n (pc := 6) C 0 rfl dX7_isSmallLetter_6 ?_
    refine g_bipush (pc := 7) C dX7_isSmallLetter_7 cb_122 ?_
    refine g_icmp_gt (pc := 9) C (tgt := 16) dX7_isSmallLetter_9 rfl h (fun h => ?_) (fun h => ?_)
    · refine g_iconst (pc := 16) C dX7_isSmallLetter_16 ci_0 ?_
      cases h
      exact g_zret C rfl E dX7_isSmallLetter_17
    · refine g_iconst (pc := 12) C dX7_isSmallLetter_12 ci_1 ?_
      refine g_goto (pc := 13) C (tgt := 17) dX7_isSmallLetter_13 rfl ?_
      cases h
      exact g_zret C rfl E dX7_isSmallLetter_17
noncomputable def f_X1_readValue_98 (t_bytes : Nat → Int32) (t_end : Int32) (y0 : Int32) (l_code : Nat → Int32) (l_length : Int32) (t_at : Int32) (t_start : Int32) (t_faultKind : Int32) (t_faultPlace : Int32) : Option ((Nat → Int32) × Int32 × Int32 × Int32 × Int32 × Int32) := if y0 = 0 then b2 (f_X7_blame t_start t_faultKind t_faultPlace 1) (fun c3 c4 => some (l_code, l_length, t_at, t_start, c3, c4)) else b2 (f_X1_add l_code l_length y0) (fun c1 c2 => some (c1, c2, t_at, t_start, t_faultKind, t_faultPlace))
noncomputable def f_X1_readValue (l_code : Nat → Int32) (l_length : Int32) (t_bytes : Nat → Int32) (t_end : Int32) (t_at : Int32) (t_start : Int32) (t_faultKind : Int32) (t_faultPlace : Int32) : Option ((Nat → Int32) × Int32 × Int32 × Int32 × Int32 × Int32) := b3 (f_X7_takes_ t_bytes t_end t_at t_start t_faultKind 5) (fun v5 c6 c7 => if v5 = 0 then b3 (f_X7_takes_ t_bytes t_end c6 c7 t_faultKind 6) (fun v8 c9 c10 => if v8 = 0 then b3 (f_X7_takes_ t_bytes t_end c9 c10 t_faultKind 7) (fun v11 c12 c13 => if v11 = 0 then b3 (f_X7_takes_ t_bytes t_end c12 c13 t_faultKind 8) (fun v14 c15 c16 => if v14 = 0 then b3 (f_X7_takes_ t_bytes t_end c15 c16 t_faultKind 9) (fun v17 c18 c19 => if v17 = 0 then b3 (f_X7_takes_ t_bytes t_end c18 c19 t_faultKind 10) (fun v20 c21 c22 => if v20 = 0 then b3 (f_X7_takes_ t_bytes t_end c21 c22 t_faultKind 11) (fun v23 c24 c25 => if v23 = 0 then f_X1_readValue_98 t_bytes t_end 0 l_code l_length c24 c25 t_faultKind t_faultPlace else f_X1_readValue_98 t_bytes t_end (-7) l_code l_length c24 c25 t_faultKind t_faultPlace) else f_X1_readValue_98 t_bytes t_end (-6) l_code l_length c21 c22 t_faultKind t_faultPlace) else f_X1_readValue_98 t_bytes t_end (-5) l_code l_length c18 c19 t_faultKind t_faultPlace) else f_X1_readValue_98 t_bytes t_end (-4) l_code l_length c15 c16 t_faultKind t_faultPlace) else f_X1_readValue_98 t_bytes t_end (-3) l_code l_length c12 c13 t_faultKind t_faultPlace) else f_X1_readValue_98 t_bytes t_end (-2) l_code l_length c9 c10 t_faultKind t_faultPlace) else f_X1_readValue_98 t_bytes t_end (-1) l_code l_length c6 c7 t_faultKind t_faultPlace)
def rm_X1_readValue : Room := { frames := 10, cells := 0, slots := 0, locals := 1022 }
set_option maxRecDepth 100000 in
set_option maxHeartbeats 4000000 in
theorem j_X1_readValue_98 {J : Jt} {Z : Zt} {a0 : Nat → Nat} {a1 : Nat → Nat} {l_values : Nat → Int32} {l_stack : Nat → Int32} {t_bytes : Nat → Int32} {t_held : Int32} {t_end : Int32} {o_l_code : Nat → Int32} {o_l_length : Int32} {o_t_at : Int32} {o_t_start : Int32} {o_t_faultKind : Int32} {o_t_faultPlace : Int32} (C : Cx J Z cX1_readValue 3 RX1 none rm_X1_readValue) (E : Ez J Z 0 0 none (cs_X1 J.2.2.1 a0 o_l_code l_values l_stack o_l_length ++ cs_X7 J.2.2.1 a1 t_bytes t_held t_end o_t_at o_t_start o_t_faultKind o_t_faultPlace)) : ∀ (y0 : Int32) (l_code : Nat → Int32) (l_length : Int32) (t_at : Int32) (t_start : Int32) (t_faultKind : Int32) (t_faultPlace : Int32), f_X1_readValue_98 t_bytes t_end y0 l_code l_length t_at t_start t_faultKind t_faultPlace = some (o_l_code, o_l_length, o_t_at, o_t_start, o_t_faultKind, o_t_faultPlace) → G J Z 0 0 (cs_X1 J.2.2.1 a0 l_code l_values l_stack l_length ++ cs_X7 J.2.2.1 a1 t_bytes t_held t_end t_at t_start t_faultKind t_faultPlace) 3 [(0, .ref (a0 0)), (1, .ref (a1 0))] 98 [.int y0] := by
  intro y0 l_code l_length t_at t_start t_faultKind t_faultPlace h
  unfold f_X1_readValue_98 at h
  refine g_istore_n (pc := 98) C [(2, .int y0), (0, .ref (a0 0)), (1, .ref (a1 0))] dX1_readValue_98 rfl (by decide) rfl ?_
  refine g_iload_n (pc := 99) C 0 rfl dX1_readValue_99 ?_
  refine g_if_ne (pc := 100) C (tgt := 109) dX1_readValue_100 rfl h (fun h => ?_) (fun h => ?_)
  · refine g_aload_n (pc := 109) C 1 rfl dX1_readValue_109 ?_
    refine g_iload_n (pc := 110) C 0 rfl dX1_readValue_110 ?_
    obtain ⟨c1, c2, hc, h⟩ := b2_of h
    refine g_callV (pc := 111) C (w' := cs_X1 J.2.2.1 a0 c1 l_values l_stack c2 ++ cs_X7 J.2.2.1 a1 t_bytes t_held t_end t_at t_start t_faultKind t_faultPlace) (As := [.int y0]) (st := []) (ci := 1) (q0 := 0) rfl rfl (t_X1_add hc) (Sub.gen [0, 1, 2, 3] [4, 5] [2, 3, 4, 5, 0, 1] rfl (by decide) rfl (by decide) (by decide) rfl (by decide)) kw_331 kw_332 kw_333 kw_93 hy_X1_add kw_334 rfl (Nat.le_of_ble_eq_true rfl) (Nat.le_of_ble_eq_true rfl) (Nat.le_of_ble_eq_true rfl) (Nat.le_of_ble_eq_true rfl) (Nat.le_of_ble_eq_true rfl) dX1_readValue_111 ?_
    cases h
    exact g_vret C E dX1_readValue_114
  · refine g_aload_n (pc := 103) C 2 rfl dX1_readValue_103 ?_
    refine g_iconst (pc := 104) C dX1_readValue_104 ci_1 ?_
    obtain ⟨c3, c4, hc, h⟩ := b2_of h
    refine g_callV (pc := 105) C (w' := cs_X1 J.2.2.1 a0 l_code l_values l_stack l_length ++ cs_X7 J.2.2.1 a1 t_bytes t_held t_end t_at t_start c3 c4) (As := [.int 1]) (st := []) (ci := 7) (q0 := 4) rfl rfl (t_X7_blame hc) (Sub.gen [4, 5] [0, 1, 2, 3] [0, 1, 2, 3, 4, 5] rfl (by decide) rfl (by decide) (by decide) rfl (by decide)) kw_781 kw_696 kw_697 kw_87 hy_X7_blame kw_698 rfl (Nat.le_of_ble_eq_true rfl) (Nat.le_of_ble_eq_true rfl) (Nat.le_of_ble_eq_true rfl) (Nat.le_of_ble_eq_true rfl) (Nat.le_of_ble_eq_true rfl) dX1_readValue_105 ?_
    cases h
    exact g_vret C E dX1_readValue_108
set_option maxRecDepth 100000 in
set_option maxHeartbeats 4000000 in
theorem t_X1_readValue {J : Jt} {a0 : Nat → Nat} {a1 : Nat → Nat} {l_code : Nat → Int32} {l_values : Nat → Int32} {l_stack : Nat → Int32} {l_length : Int32} {t_bytes : Nat → Int32} {t_held : Int32} {t_end : Int32} {t_at : Int32} {t_start : Int32} {t_faultKind : Int32} {t_faultPlace : Int32} {o_l_code : Nat → Int32} {o_l_length : Int32} {o_t_at : Int32} {o_t_start : Int32} {o_t_faultKind : Int32} {o_t_faultPlace : Int32} (h : f_X1_readValue l_code l_length t_bytes t_end t_at t_start t_faultKind t_faultPlace = some (o_l_code, o_l_length, o_t_at, o_t_start, o_t_faultKind, o_t_faultPlace)) : Mt J yX1_readValue cX1_readValue 3 none rm_X1_readValue [.ref (a0 0), .ref (a1 0)] (cs_X1 J.2.2.1 a0 l_code l_values l_stack l_length ++ cs_X7 J.2.2.1 a1 t_bytes t_held t_end t_at t_start t_faultKind t_faultPlace) none (cs_X1 J.2.2.1 a0 o_l_code l_values l_stack o_l_length ++ cs_X7 J.2.2.1 a1 t_bytes t_held t_end o_t_at o_t_start o_t_faultKind o_t_faultPlace) := by
  refine Mt_of (own := RX1) (by decide) rfl (Nat.le_of_ble_eq_true rfl) rfl (fun Z C E => ?_)
  unfold f_X1_readValue at h
  show G J Z 0 0 (cs_X1 J.2.2.1 a0 l_code l_values l_stack l_length ++ cs_X7 J.2.2.1 a1 t_bytes t_held t_end t_at t_start t_faultKind t_faultPlace) 3 [(0, .ref (a0 0)), (1, .ref (a1 0))] 0 []
  refine g_aload_n (pc := 0) C 1 rfl dX1_readValue_0 ?_
  refine g_ldcS (pc := 1) C (i := 5) rfl dX1_readValue_1 ?_
  obtain ⟨v5, c6, c7, hc, h⟩ := b3_of h
  refine g_callV (pc := 3) C (w' := cs_X1 J.2.2.1 a0 l_code l_values l_stack l_length ++ cs_X7 J.2.2.1 a1 t_bytes t_held t_end c6 c7 t_faultKind t_faultPlace) (As := [.ref (J.2.2.2.1 5)]) (st := []) (ci := 7) (q0 := 4) rfl rfl (t_X7_takes_ hc) (Sub.gen [4, 5] [0, 1, 2, 3] [0, 1, 2, 3, 4, 5] rfl (by decide) rfl (by decide) (by decide) rfl (by decide)) kw_784 kw_633 kw_634 kw_87 hy_X7_takes_ kw_635 rfl (Nat.le_of_ble_eq_true rfl) (Nat.le_of_ble_eq_true rfl) (Nat.le_of_ble_eq_true rfl) (Nat.le_of_ble_eq_true rfl) (Nat.le_of_ble_eq_true rfl) dX1_readValue_3 ?_
  refine g_if_eq (pc := 6) C (tgt := 13) dX1_readValue_6 rfl h (fun h => ?_) (fun h => ?_)
  · refine g_aload_n (pc := 13) C 1 rfl dX1_readValue_13 ?_
    refine g_ldcS (pc := 14) C (i := 6) rfl dX1_readValue_14 ?_
    obtain ⟨v8, c9, c10, hc, h⟩ := b3_of h
    refine g_callV (pc := 16) C (w' := cs_X1 J.2.2.1 a0 l_code l_values l_stack l_length ++ cs_X7 J.2.2.1 a1 t_bytes t_held t_end c9 c10 t_faultKind t_faultPlace) (As := [.ref (J.2.2.2.1 6)]) (st := []) (ci := 7) (q0 := 4) rfl rfl (t_X7_takes_ hc) (Sub.gen [4, 5] [0, 1, 2, 3] [0, 1, 2, 3, 4, 5] rfl (by decide) rfl (by decide) (by decide) rfl (by decide)) kw_784 kw_633 kw_634 kw_87 hy_X7_takes_ kw_635 rfl (Nat.le_of_ble_eq_true rfl) (Nat.le_of_ble_eq_true rfl) (Nat.le_of_ble_eq_true rfl) (Nat.le_of_ble_eq_true rfl) (Nat.le_of_ble_eq_true rfl) dX1_readValue_16 ?_
    refine g_if_eq (pc := 19) C (tgt := 27) dX1_readValue_19 rfl h (fun h => ?_) (fun h => ?_)
    · refine g_aload_n (pc := 27) C 1 rfl dX1_readValue_27 ?_
      refine g_ldcS (pc := 28) C (i := 7) rfl dX1_readValue_28 ?_
      obtain ⟨v11, c12, c13, hc, h⟩ := b3_of h
      refine g_callV (pc := 30) C (w' := cs_X1 J.2.2.1 a0 l_code l_values l_stack l_length ++ cs_X7 J.2.2.1 a1 t_bytes t_held t_end c12 c13 t_faultKind t_faultPlace) (As := [.ref (J.2.2.2.1 7)]) (st := []) (ci := 7) (q0 := 4) rfl rfl (t_X7_takes_ hc) (Sub.gen [4, 5] [0, 1, 2, 3] [0, 1, 2, 3, 4, 5] rfl (by decide) rfl (by decide) (by decide) rfl (by decide)) kw_784 kw_633 kw_634 kw_87 hy_X7_takes_ kw_635 rfl (Nat.le_of_ble_eq_true rfl) (Nat.le_of_ble_eq_true rfl) (Nat.le_of_ble_eq_true rfl) (Nat.le_of_ble_eq_true rfl) (Nat.le_of_ble_eq_true rfl) dX1_readValue_30 ?_
      refine g_if_eq (pc := 33) C (tgt := 41) dX1_readValue_33 rfl h (fun h => ?_) (fun h => ?_)
      · refine g_aload_n (pc := 41) C 1 rfl dX1_readValue_41 ?_
        refine g_ldcS (pc := 42) C (i := 8) rfl dX1_readValue_42 ?_
        obtain ⟨v14, c15, c16, hc, h⟩ := b3_of h
        refine g_callV (pc := 44) C (w' := cs_X1 J.2.2.1 a0 l_code l_values l_stack l_length ++ cs_X7 J.2.2.1 a1 t_bytes t_held t_end c15 c16 t_faultKind t_faultPlace) (As := [.ref (J.2.2.2.1 8)]) (st := []) (ci := 7) (q0 := 4) rfl rfl (t_X7_takes_ hc) (Sub.gen [4, 5] [0, 1, 2, 3] [0, 1, 2, 3, 4, 5] rfl (by decide) rfl (by decide) (by decide) rfl (by decide)) kw_784 kw_633 kw_634 kw_87 hy_X7_takes_ kw_635 rfl (Nat.le_of_ble_eq_true rfl) (Nat.le_of_ble_eq_true rfl) (Nat.le_of_ble_eq_true rfl) (Nat.le_of_ble_eq_true rfl) (Nat.le_of_ble_eq_true rfl) dX1_readValue_44 ?_
        refine g_if_eq (pc := 47) C (tgt := 55) dX1_readValue_47 rfl h (fun h => ?_) (fun h => ?_)
        · refine g_aload_n (pc := 55) C 1 rfl dX1_readValue_55 ?_
          refine g_ldcS (pc := 56) C (i := 9) rfl dX1_readValue_56 ?_
          obtain ⟨v17, c18, c19, hc, h⟩ := b3_of h
          refine g_callV (pc := 58) C (w' := cs_X1 J.2.2.1 a0 l_code l_values l_stack l_length ++ cs_X7 J.2.2.1 a1 t_bytes t_held t_end c18 c19 t_faultKind t_faultPlace) (As := [.ref (J.2.2.2.1 9)]) (st := []) (ci := 7) (q0 := 4) rfl rfl (t_X7_takes_ hc) (Sub.gen [4, 5] [0, 1, 2, 3] [0, 1, 2, 3, 4, 5] rfl (by decide) rfl (by decide) (by decide) rfl (by decide)) kw_784 kw_633 kw_634 kw_87 hy_X7_takes_ kw_635 rfl (Nat.le_of_ble_eq_true rfl) (Nat.le_of_ble_eq_true rfl) (Nat.le_of_ble_eq_true rfl) (Nat.le_of_ble_eq_true rfl) (Nat.le_of_ble_eq_true rfl) dX1_readValue_58 ?_
          refine g_if_eq (pc := 61) C (tgt := 69) dX1_readValue_61 rfl h (fun h => ?_) (fun h => ?_)
          · refine g_aload_n (pc := 69) C 1 rfl dX1_readValue_69 ?_
            refine g_ldcS (pc := 70) C (i := 10) rfl dX1_readValue_70 ?_
            obtain ⟨v20, c21, c22, hc, h⟩ := b3_of h
            refine g_callV (pc := 72) C (w' := cs_X1 J.2.2.1 a0 l_code l_values l_stack l_length ++ cs_X7 J.2.2.1 a1 t_bytes t_held t_end c21 c22 t_faultKind t_faultPlace) (As := [.ref (J.2.2.2.1 10)]) (st := []) (ci := 7) (q0 := 4) rfl rfl (t_X7_takes_ hc) (Sub.gen [4, 5] [0, 1, 2, 3] [0, 1, 2, 3, 4, 5] rfl (by decide) rfl (by decide) (by decide) rfl (by decide)) kw_784 kw_633 kw_634 kw_87 hy_X7_takes_ kw_635 rfl (Nat.le_of_ble_eq_true rfl) (Nat.le_of_ble_eq_true rfl) (Nat.le_of_ble_eq_true rfl) (Nat.le_of_ble_eq_true rfl) (Nat.le_of_ble_eq_true rfl) dX1_readValue_72 ?_
            refine g_if_eq (pc := 75) C (tgt := 83) dX1_readValue_75 rfl h (fun h => ?_) (fun h => ?_)
            · refine g_aload_n (pc := 83) C 1 rfl dX1_readValue_83 ?_
              refine g_ldcS (pc := 84) C (i := 11) rfl dX1_readValue_84 ?_
              obtain ⟨v23, c24, c25, hc, h⟩ := b3_of h
              refine g_callV (pc := 86) C (w' := cs_X1 J.2.2.1 a0 l_code l_values l_stack l_length ++ cs_X7 J.2.2.1 a1 t_bytes t_held t_end c24 c25 t_faultKind t_faultPlace) (As := [.ref (J.2.2.2.1 11)]) (st := []) (ci := 7) (q0 := 4) rfl rfl (t_X7_takes_ hc) (Sub.gen [4, 5] [0, 1, 2, 3] [0, 1, 2, 3, 4, 5] rfl (by decide) rfl (by decide) (by decide) rfl (by decide)) kw_784 kw_633 kw_634 kw_87 hy_X7_takes_ kw_635 rfl (Nat.le_of_ble_eq_true rfl) (Nat.le_of_ble_eq_true rfl) (Nat.le_of_ble_eq_true rfl) (Nat.le_of_ble_eq_true rfl) (Nat.le_of_ble_eq_true rfl) dX1_readValue_86 ?_
              refine g_if_eq (pc := 89) C (tgt := 97) dX1_readValue_89 rfl h (fun h => ?_) (fun h => ?_)
              · refine g_iconst (pc := 97) C dX1_readValue_97 ci_0 ?_
                exact j_X1_readValue_98 C E  0 l_code l_length c24 c25 t_faultKind t_faultPlace h
              · refine g_bipush (pc := 92) C dX1_readValue_92 cb_m7 ?_
                refine g_goto (pc := 94) C (tgt := 98) dX1_readValue_94 rfl ?_
                exact j_X1_readValue_98 C E  (-7) l_code l_length c24 c25 t_faultKind t_faultPlace h
            · refine g_bipush (pc := 78) C dX1_readValue_78 cb_m6 ?_
              refine g_goto (pc := 80) C (tgt := 98) dX1_readValue_80 rfl ?_
              exact j_X1_readValue_98 C E  (-6) l_code l_length c21 c22 t_faultKind t_faultPlace h
          · refine g_bipush (pc := 64) C dX1_readValue_64 cb_m5 ?_
            refine g_goto (pc := 66) C (tgt := 98) dX1_readValue_66 rfl ?_
            exact j_X1_readValue_98 C E  (-5) l_code l_length c18 c19 t_faultKind t_faultPlace h
        · refine g_bipush (pc := 50) C dX1_readValue_50 cb_m4 ?_
          refine g_goto (pc := 52) C (tgt := 98) dX1_readValue_52 rfl ?_
          exact j_X1_readValue_98 C E  (-4) l_code l_length c15 c16 t_faultKind t_faultPlace h
      · refine g_bipush (pc := 36) C dX1_readValue_36 cb_m3 ?_
        refine g_goto (pc := 38) C (tgt := 98) dX1_readValue_38 rfl ?_
        exact j_X1_readValue_98 C E  (-3) l_code l_length c12 c13 t_faultKind t_faultPlace h
    · refine g_bipush (pc := 22) C dX1_readValue_22 cb_m2 ?_
      refine g_goto (pc := 24) C (tgt := 98) dX1_readValue_24 rfl ?_
      exact j_X1_readValue_98 C E  (-2) l_code l_length c9 c10 t_faultKind t_faultPlace h
  · refine g_iconst (pc := 9) C dX1_readValue_9 ci_m1 ?_
    refine g_goto (pc := 10) C (tgt := 98) dX1_readValue_10 rfl ?_
    exact j_X1_readValue_98 C E  (-1) l_code l_length c6 c7 t_faultKind t_faultPlace h
noncomputable def f_X7_isAtNumber (t_bytes : Nat → Int32) (t_end : Int32) (t_at : Int32) (t_start : Int32) (t_faultKind : Int32) : Option (Int32 × Int32 × Int32) := b3 (f_X7_peek t_bytes t_end t_at t_start t_faultKind) (fun v1 c2 c3 => b1 (f_X7_isDigit v1) (fun v4 => if zok v4 then some (v4, c2, c3) else none))
def rm_X7_isAtNumber : Room := { frames := 1, cells := 0, slots := 0, locals := 20 }
set_option maxRecDepth 100000 in
set_option maxHeartbeats 4000000 in
theorem t_X7_isAtNumber {J : Jt} {a0 : Nat → Nat} {t_bytes : Nat → Int32} {t_held : Int32} {t_end : Int32} {t_at : Int32} {t_start : Int32} {t_faultKind : Int32} {t_faultPlace : Int32} {r : Int32} {o_t_at : Int32} {o_t_start : Int32} (h : f_X7_isAtNumber t_bytes t_end t_at t_start t_faultKind = some (r, o_t_at, o_t_start)) : Mt J yX7_isAtNumber cX7_isAtNumber 1 (some .boolean) rm_X7_isAtNumber [.ref (a0 0)] (cs_X7 J.2.2.1 a0 t_bytes t_held t_end t_at t_start t_faultKind t_faultPlace) (some (.int r)) (cs_X7 J.2.2.1 a0 t_bytes t_held t_end o_t_at o_t_start t_faultKind t_faultPlace) := by
  refine Mt_of (own := RX7) (by decide) rfl (Nat.le_of_ble_eq_true rfl) rfl (fun Z C E => ?_)
  unfold f_X7_isAtNumber at h
  show G J Z 0 0 (cs_X7 J.2.2.1 a0 t_bytes t_held t_end t_at t_start t_faultKind t_faultPlace) 1 [(0, .ref (a0 0))] 0 []
  refine g_aload_n (pc := 0) C 0 rfl dX7_isAtNumber_0 ?_
  obtain ⟨v1, c2, c3, hc, h⟩ := b3_of h
  refine g_callV (pc := 1) C (w' := cs_X7 J.2.2.1 a0 t_bytes t_held t_end c2 c3 t_faultKind t_faultPlace) (As := []) (st := []) (ci := 7) (q0 := 0) rfl rfl (t_X7_peek hc) Sub.same kw_623 kw_624 kw_625 kw_87 hy_X7_peek kw_626 rfl (Nat.le_of_ble_eq_true rfl) (Nat.le_of_ble_eq_true rfl) (Nat.le_of_ble_eq_true rfl) (Nat.le_of_ble_eq_true rfl) (Nat.le_of_ble_eq_true rfl) dX7_isAtNumber_1 ?_
  obtain ⟨v4, hc, h⟩ := b1_of h
  refine g_callS (pc := 4) C (w' := cs_X7 J.2.2.1 a0 t_bytes t_held t_end c2 c3 t_faultKind t_faultPlace) (As := [.int v1]) (st := []) (t_X7_isDigit hc) Sub.nil kw_703 kw_704 kw_87 hs_X7_isDigit kw_705 rfl (Nat.le_of_ble_eq_true rfl) (Nat.le_of_ble_eq_true rfl) (Nat.le_of_ble_eq_true rfl) (Nat.le_of_ble_eq_true rfl) (Nat.le_of_ble_eq_true rfl) dX7_isAtNumber_4 ?_
  obtain ⟨hz, h⟩ := zok_of h
  cases h
  exact g_zret C hz E dX7_isAtNumber_7
noncomputable def f_X7_takes (t_bytes : Nat → Int32) (t_end : Int32) (t_at : Int32) (t_start : Int32) (t_faultKind : Int32) (n1 : Int32) : Option (Int32 × Int32 × Int32) := b3 (f_X7_peek t_bytes t_end t_at t_start t_faultKind) (fun v1 c2 c3 => if v1 = n1 then some (1, c2 + 1, c3) else some (0, c2, c3))
def rm_X7_takes : Room := { frames := 1, cells := 0, slots := 0, locals := 20 }
set_option maxRecDepth 100000 in
set_option maxHeartbeats 4000000 in
theorem t_X7_takes {J : Jt} {a0 : Nat → Nat} {t_bytes : Nat → Int32} {t_held : Int32} {t_end : Int32} {t_at : Int32} {t_start : Int32} {t_faultKind : Int32} {t_faultPlace : Int32} {n1 : Int32} {r : Int32} {o_t_at : Int32} {o_t_start : Int32} (h : f_X7_takes t_bytes t_end t_at t_start t_faultKind n1 = some (r, o_t_at, o_t_start)) : Mt J yX7_takes cX7_takes 2 (some .boolean) rm_X7_takes [.ref (a0 0), .int n1] (cs_X7 J.2.2.1 a0 t_bytes t_held t_end t_at t_start t_faultKind t_faultPlace) (some (.int r)) (cs_X7 J.2.2.1 a0 t_bytes t_held t_end o_t_at o_t_start t_faultKind t_faultPlace) := by
  refine Mt_of (own := RX7) (by decide) rfl (Nat.le_of_ble_eq_true rfl) rfl (fun Z C E => ?_)
  unfold f_X7_takes at h
  show G J Z 0 0 (cs_X7 J.2.2.1 a0 t_bytes t_held t_end t_at t_start t_faultKind t_faultPlace) 2 [(0, .ref (a0 0)), (1, .int n1)] 0 []
  refine g_aload_n (pc := 0) C 0 rfl dX7_takes_0 ?_
  obtain ⟨v1, c2, c3, hc, h⟩ := b3_of h
  refine g_callV (pc := 1) C (w' := cs_X7 J.2.2.1 a0 t_bytes t_held t_end c2 c3 t_faultKind t_faultPlace) (As := []) (st := []) (ci := 7) (q0 := 0) rfl rfl (t_X7_peek hc) Sub.same kw_623 kw_624 kw_625 kw_87 hy_X7_peek kw_626 rfl (Nat.le_of_ble_eq_true rfl) (Nat.le_of_ble_eq_true rfl) (Nat.le_of_ble_eq_true rfl) (Nat.le_of_ble_eq_true rfl) (Nat.le_of_ble_eq_true rfl) dX7_takes_1 ?_
  refine g_iload_n (pc := 4) C 1 rfl dX7_takes_4 ?_
  refine g_icmp_eq (pc := 5) C (tgt := 10) dX7_takes_5 rfl h (fun h => ?_) (fun h => ?_)
  · refine g_aload_n (pc := 10) C 0 rfl dX7_takes_10 ?_
    refine g_dup (pc := 11) C dX7_takes_11 rfl ?_
    refine g_get (pc := 12) C FOK_X7 0 rfl rfl 3 (by decide) kw_127 rfl dX7_takes_12 ?_
    refine g_iconst (pc := 15) C dX7_takes_15 ci_1 ?_
    refine g_iadd (pc := 16) C dX7_takes_16 ?_
    refine g_put (pc := 17) C (w' := cs_X7 J.2.2.1 a0 t_bytes t_held t_end (c2 + 1) c3 t_faultKind t_faultPlace) FOK_X7 0 rfl rfl 3 (by decide) kw_127 rfl rfl rfl (Nat.le_of_ble_eq_true rfl) dX7_takes_17 rfl ?_
    refine g_iconst (pc := 20) C dX7_takes_20 ci_1 ?_
    cases h
    exact g_zret C rfl E dX7_takes_21
  · refine g_iconst (pc := 8) C dX7_takes_8 ci_0 ?_
    cases h
    exact g_zret C rfl E dX7_takes_9
noncomputable def f_X1_readUnit (l_code : Nat → Int32) (l_length : Int32) (t_bytes : Nat → Int32) (t_end : Int32) (t_at : Int32) (t_start : Int32) (t_faultKind : Int32) (t_faultPlace : Int32) (n1 : Int32) : Option ((Nat → Int32) × Int32 × Int32 × Int32 × Int32 × Int32) := b3 (f_X7_isAtNumber t_bytes t_end t_at t_start t_faultKind) (fun v1 c2 c3 => if v1 = 0 then b3 (f_X7_takes t_bytes t_end c2 c3 t_faultKind 40) (fun v4 c5 c6 => if v4 = 0 then b3 (f_X7_takes_ t_bytes t_end c5 c6 t_faultKind 3) (fun v7 c8 c9 => if v7 = 0 then b3 (f_X7_takes_ t_bytes t_end c8 c9 t_faultKind 4) (fun v10 c11 c12 => if v10 = 0 then b6 (f_X1_readValue l_code l_length t_bytes t_end c11 c12 t_faultKind t_faultPlace) (fun c13 c14 c15 c16 c17 c18 => some (c13, c14, c15, c16, c17, c18)) else b6 (f_X1_readOpen l_code l_length t_bytes t_end c11 c12 t_faultKind t_faultPlace n1 (-14)) (fun c19 c20 c21 c22 c23 c24 => some (c19, c20, c21, c22, c23, c24))) else b6 (f_X1_readOpen l_code l_length t_bytes t_end c8 c9 t_faultKind t_faultPlace n1 (-13)) (fun c25 c26 c27 c28 c29 c30 => some (c25, c26, c27, c28, c29, c30))) else b6 (f_X1_readOpen l_code l_length t_bytes t_end c5 c6 t_faultKind t_faultPlace n1 0) (fun c31 c32 c33 c34 c35 c36 => some (c31, c32, c33, c34, c35, c36))) else b5 (f_X7_number t_bytes t_end c2 c3 t_faultKind t_faultPlace 0 999) (fun v37 c38 c39 c40 c41 => b2 (f_X1_add l_code l_length v37) (fun c42 c43 => some (c42, c43, c38, c39, c40, c41))))
def rm_X1_readUnit : Room := { frames := 11, cells := 0, slots := 0, locals := 1044 }
set_option maxRecDepth 100000 in
set_option maxHeartbeats 4000000 in
theorem t_X1_readUnit {J : Jt} {a0 : Nat → Nat} {a1 : Nat → Nat} {l_code : Nat → Int32} {l_values : Nat → Int32} {l_stack : Nat → Int32} {l_length : Int32} {t_bytes : Nat → Int32} {t_held : Int32} {t_end : Int32} {t_at : Int32} {t_start : Int32} {t_faultKind : Int32} {t_faultPlace : Int32} {n1 : Int32} {o_l_code : Nat → Int32} {o_l_length : Int32} {o_t_at : Int32} {o_t_start : Int32} {o_t_faultKind : Int32} {o_t_faultPlace : Int32} (h : f_X1_readUnit l_code l_length t_bytes t_end t_at t_start t_faultKind t_faultPlace n1 = some (o_l_code, o_l_length, o_t_at, o_t_start, o_t_faultKind, o_t_faultPlace)) : Mt J yX1_readUnit cX1_readUnit 3 none rm_X1_readUnit [.ref (a0 0), .ref (a1 0), .int n1] (cs_X1 J.2.2.1 a0 l_code l_values l_stack l_length ++ cs_X7 J.2.2.1 a1 t_bytes t_held t_end t_at t_start t_faultKind t_faultPlace) none (cs_X1 J.2.2.1 a0 o_l_code l_values l_stack o_l_length ++ cs_X7 J.2.2.1 a1 t_bytes t_held t_end o_t_at o_t_start o_t_faultKind o_t_faultPlace) := by
  refine Mt_of (own := RX1) (by decide) rfl (Nat.le_of_ble_eq_true rfl) rfl (fun Z C E => ?_)
  unfold f_X1_readUnit at h
  show G J Z 0 0 (cs_X1 J.2.2.1 a0 l_code l_values l_stack l_length ++ cs_X7 J.2.2.1 a1 t_bytes t_held t_end t_at t_start t_faultKind t_faultPlace) 3 [(0, .ref (a0 0)), (1, .ref (a1 0)), (2, .int n1)] 0 []
  refine g_aload_n (pc := 0) C 1 rfl dX1_readUnit_0 ?_
  obtain ⟨v1, c2, c3, hc, h⟩ := b3_of h
  refine g_callV (pc := 1) C (w' := cs_X1 J.2.2.1 a0 l_code l_values l_stack l_length ++ cs_X7 J.2.2.1 a1 t_bytes t_held t_end c2 c3 t_faultKind t_faultPlace) (As := []) (st := []) (ci := 7) (q0 := 4) rfl rfl (t_X7_isAtNumber hc) (Sub.gen [4, 5] [0, 1, 2, 3] [0, 1, 2, 3, 4, 5] rfl (by decide) rfl (by decide) (by decide) rfl (by decide)) kw_771 kw_714 kw_715 kw_87 hy_X7_isAtNumber kw_716 rfl (Nat.le_of_ble_eq_true rfl) (Nat.le_of_ble_eq_true rfl) (Nat.le_of_ble_eq_true rfl) (Nat.le_of_ble_eq_true rfl) (Nat.le_of_ble_eq_true rfl) dX1_readUnit_1 ?_
  refine g_if_eq (pc := 4) C (tgt := 22) dX1_readUnit_4 rfl h (fun h => ?_) (fun h => ?_)
  · refine g_aload_n (pc := 22) C 1 rfl dX1_readUnit_22 ?_
    refine g_bipush (pc := 23) C dX1_readUnit_23 cb_40 ?_
    obtain ⟨v4, c5, c6, hc, h⟩ := b3_of h
    refine g_callV (pc := 25) C (w' := cs_X1 J.2.2.1 a0 l_code l_values l_stack l_length ++ cs_X7 J.2.2.1 a1 t_bytes t_held t_end c5 c6 t_faultKind t_faultPlace) (As := [.int 40]) (st := []) (ci := 7) (q0 := 4) rfl rfl (t_X7_takes hc) (Sub.gen [4, 5] [0, 1, 2, 3] [0, 1, 2, 3, 4, 5] rfl (by decide) rfl (by decide) (by decide) rfl (by decide)) kw_773 kw_774 kw_775 kw_87 hy_X7_takes kw_776 rfl (Nat.le_of_ble_eq_true rfl) (Nat.le_of_ble_eq_true rfl) (Nat.le_of_ble_eq_true rfl) (Nat.le_of_ble_eq_true rfl) (Nat.le_of_ble_eq_true rfl) dX1_readUnit_25 ?_
    refine g_if_eq (pc := 28) C (tgt := 41) dX1_readUnit_28 rfl h (fun h => ?_) (fun h => ?_)
    · refine g_aload_n (pc := 41) C 1 rfl dX1_readUnit_41 ?_
      refine g_ldcS (pc := 42) C (i := 3) rfl dX1_readUnit_42 ?_
      obtain ⟨v7, c8, c9, hc, h⟩ := b3_of h
      refine g_callV (pc := 44) C (w' := cs_X1 J.2.2.1 a0 l_code l_values l_stack l_length ++ cs_X7 J.2.2.1 a1 t_bytes t_held t_end c8 c9 t_faultKind t_faultPlace) (As := [.ref (J.2.2.2.1 3)]) (st := []) (ci := 7) (q0 := 4) rfl rfl (t_X7_takes_ hc) (Sub.gen [4, 5] [0, 1, 2, 3] [0, 1, 2, 3, 4, 5] rfl (by decide) rfl (by decide) (by decide) rfl (by decide)) kw_784 kw_633 kw_634 kw_87 hy_X7_takes_ kw_635 rfl (Nat.le_of_ble_eq_true rfl) (Nat.le_of_ble_eq_true rfl) (Nat.le_of_ble_eq_true rfl) (Nat.le_of_ble_eq_true rfl) (Nat.le_of_ble_eq_true rfl) dX1_readUnit_44 ?_
      refine g_if_eq (pc := 47) C (tgt := 61) dX1_readUnit_47 rfl h (fun h => ?_) (fun h => ?_)
      · refine g_aload_n (pc := 61) C 1 rfl dX1_readUnit_61 ?_
        refine g_ldcS (pc := 62) C (i := 4) rfl dX1_readUnit_62 ?_
        obtain ⟨v10, c11, c12, hc, h⟩ := b3_of h
        refine g_callV (pc := 64) C (w' := cs_X1 J.2.2.1 a0 l_code l_values l_stack l_length ++ cs_X7 J.2.2.1 a1 t_bytes t_held t_end c11 c12 t_faultKind t_faultPlace) (As := [.ref (J.2.2.2.1 4)]) (st := []) (ci := 7) (q0 := 4) rfl rfl (t_X7_takes_ hc) (Sub.gen [4, 5] [0, 1, 2, 3] [0, 1, 2, 3, 4, 5] rfl (by decide) rfl (by decide) (by decide) rfl (by decide)) kw_784 kw_633 kw_634 kw_87 hy_X7_takes_ kw_635 rfl (Nat.le_of_ble_eq_true rfl) (Nat.le_of_ble_eq_true rfl) (Nat.le_of_ble_eq_true rfl) (Nat.le_of_ble_eq_true rfl) (Nat.le_of_ble_eq_true rfl) dX1_readUnit_64 ?_
        refine g_if_eq (pc := 67) C (tgt := 81) dX1_readUnit_67 rfl h (fun h => ?_) (fun h => ?_)
        · refine g_aload_n (pc := 81) C 0 rfl dX1_readUnit_81 ?_
          refine g_aload_n (pc := 82) C 1 rfl dX1_readUnit_82 ?_
          obtain ⟨c13, c14, c15, c16, c17, c18, hc, h⟩ := b6_of h
          refine g_callV (pc := 83) C (w' := cs_X1 J.2.2.1 a0 c13 l_values l_stack c14 ++ cs_X7 J.2.2.1 a1 t_bytes t_held t_end c15 c16 c17 c18) (As := [.ref (a1 0)]) (st := []) (ci := 1) (q0 := 0) rfl rfl (t_X1_readValue hc) Sub.same kw_786 kw_787 kw_788 kw_93 hy_X1_readValue kw_789 rfl (Nat.le_of_ble_eq_true rfl) (Nat.le_of_ble_eq_true rfl) (Nat.le_of_ble_eq_true rfl) (Nat.le_of_ble_eq_true rfl) (Nat.le_of_ble_eq_true rfl) dX1_readUnit_83 ?_
          cases h
          exact g_vret C E dX1_readUnit_86
        · refine g_aload_n (pc := 70) C 0 rfl dX1_readUnit_70 ?_
          refine g_aload_n (pc := 71) C 1 rfl dX1_readUnit_71 ?_
          refine g_iload_n (pc := 72) C 2 rfl dX1_readUnit_72 ?_
          refine g_bipush (pc := 73) C dX1_readUnit_73 cb_m14 ?_
          obtain ⟨c19, c20, c21, c22, c23, c24, hc, h⟩ := b6_of h
          refine g_callV (pc := 75) C (w' := cs_X1 J.2.2.1 a0 c19 l_values l_stack c20 ++ cs_X7 J.2.2.1 a1 t_bytes t_held t_end c21 c22 c23 c24) (As := [.ref (a1 0), .int n1, .int (-14)]) (st := []) (ci := 1) (q0 := 0) rfl rfl (t_X1_readOpen hc) Sub.same kw_777 kw_779 kw_8 kw_93 hy_X1_readOpen kw_780 rfl (Nat.le_of_ble_eq_true rfl) (Nat.le_of_ble_eq_true rfl) (Nat.le_of_ble_eq_true rfl) (Nat.le_of_ble_eq_true rfl) (Nat.le_of_ble_eq_true rfl) dX1_readUnit_75 ?_
          refine g_goto (pc := 78) C (tgt := 86) dX1_readUnit_78 rfl ?_
          cases h
          exact g_vret C E dX1_readUnit_86
      · refine g_aload_n (pc := 50) C 0 rfl dX1_readUnit_50 ?_
        refine g_aload_n (pc := 51) C 1 rfl dX1_readUnit_51 ?_
        refine g_iload_n (pc := 52) C 2 rfl dX1_readUnit_52 ?_
        refine g_bipush (pc := 53) C dX1_readUnit_53 cb_m13 ?_
        obtain ⟨c25, c26, c27, c28, c29, c30, hc, h⟩ := b6_of h
        refine g_callV (pc := 55) C (w' := cs_X1 J.2.2.1 a0 c25 l_values l_stack c26 ++ cs_X7 J.2.2.1 a1 t_bytes t_held t_end c27 c28 c29 c30) (As := [.ref (a1 0), .int n1, .int (-13)]) (st := []) (ci := 1) (q0 := 0) rfl rfl (t_X1_readOpen hc) Sub.same kw_777 kw_779 kw_8 kw_93 hy_X1_readOpen kw_780 rfl (Nat.le_of_ble_eq_true rfl) (Nat.le_of_ble_eq_true rfl) (Nat.le_of_ble_eq_true rfl) (Nat.le_of_ble_eq_true rfl) (Nat.le_of_ble_eq_true rfl) dX1_readUnit_55 ?_
        refine g_goto (pc := 58) C (tgt := 86) dX1_readUnit_58 rfl ?_
        cases h
        exact g_vret C E dX1_readUnit_86
    · refine g_aload_n (pc := 31) C 0 rfl dX1_readUnit_31 ?_
      refine g_aload_n (pc := 32) C 1 rfl dX1_readUnit_32 ?_
      refine g_iload_n (pc := 33) C 2 rfl dX1_readUnit_33 ?_
      refine g_iconst (pc := 34) C dX1_readUnit_34 ci_0 ?_
      obtain ⟨c31, c32, c33, c34, c35, c36, hc, h⟩ := b6_of h
      refine g_callV (pc := 35) C (w' := cs_X1 J.2.2.1 a0 c31 l_values l_stack c32 ++ cs_X7 J.2.2.1 a1 t_bytes t_held t_end c33 c34 c35 c36) (As := [.ref (a1 0), .int n1, .int 0]) (st := []) (ci := 1) (q0 := 0) rfl rfl (t_X1_readOpen hc) Sub.same kw_777 kw_779 kw_8 kw_93 hy_X1_readOpen kw_780 rfl (Nat.le_of_ble_eq_true rfl) (Nat.le_of_ble_eq_true rfl) (Nat.le_of_ble_eq_true rfl) (Nat.le_of_ble_eq_true rfl) (Nat.le_of_ble_eq_true rfl) dX1_readUnit_35 ?_
      refine g_goto (pc := 38) C (tgt := 86) dX1_readUnit_38 rfl ?_
      cases h
      exact g_vret C E dX1_readUnit_86
  · refine g_aload_n (pc := 7) C 0 rfl dX1_readUnit_7 ?_
    refine g_aload_n (pc := 8) C 1 rfl dX1_readUnit_8 ?_
    refine g_iconst (pc := 9) C dX1_readUnit_9 ci_0 ?_
    refine g_sipush (pc := 10) C dX1_readUnit_10 cs_999 ?_
    obtain ⟨v37, c38, c39, c40, c41, hc, h⟩ := b5_of h
    refine g_callV (pc := 13) C (w' := cs_X1 J.2.2.1 a0 l_code l_values l_stack l_length ++ cs_X7 J.2.2.1 a1 t_bytes t_held t_end c38 c39 c40 c41) (As := [.int 0, .int 999]) (st := [.ref (a0 0)]) (ci := 7) (q0 := 4) rfl rfl (t_X7_number hc) (Sub.gen [4, 5] [0, 1, 2, 3] [0, 1, 2, 3, 4, 5] rfl (by decide) rfl (by decide) (by decide) rfl (by decide)) kw_772 kw_700 kw_701 kw_87 hy_X7_number kw_702 rfl (Nat.le_of_ble_eq_true rfl) (Nat.le_of_ble_eq_true rfl) (Nat.le_of_ble_eq_true rfl) (Nat.le_of_ble_eq_true rfl) (Nat.le_of_ble_eq_true rfl) dX1_readUnit_13 ?_
    obtain ⟨c42, c43, hc, h⟩ := b2_of h
    refine g_callV (pc := 16) C (w' := cs_X1 J.2.2.1 a0 c42 l_values l_stack c43 ++ cs_X7 J.2.2.1 a1 t_bytes t_held t_end c38 c39 c40 c41) (As := [.int v37]) (st := []) (ci := 1) (q0 := 0) rfl rfl (t_X1_add hc) (Sub.gen [0, 1, 2, 3] [4, 5] [2, 3, 4, 5, 0, 1] rfl (by decide) rfl (by decide) (by decide) rfl (by decide)) kw_331 kw_332 kw_333 kw_93 hy_X1_add kw_334 rfl (Nat.le_of_ble_eq_true rfl) (Nat.le_of_ble_eq_true rfl) (Nat.le_of_ble_eq_true rfl) (Nat.le_of_ble_eq_true rfl) (Nat.le_of_ble_eq_true rfl) dX1_readUnit_16 ?_
    refine g_goto (pc := 19) C (tgt := 86) dX1_readUnit_19 rfl ?_
    cases h
    exact g_vret C E dX1_readUnit_86
noncomputable def f_X1_readProduct_58 (t_bytes : Nat → Int32) (t_end : Int32) (n1 : Int32) (k8 : Int32 → (Nat → Int32) → Int32 → Int32 → Int32 → Int32 → Int32 → Option ((Nat → Int32) × Int32 × Int32 × Int32 × Int32 × Int32)) (x3 : Int32) (y0 : Int32) (l_code : Nat → Int32) (l_length : Int32) (t_at : Int32) (t_start : Int32) (t_faultKind : Int32) (t_faultPlace : Int32) : Option ((Nat → Int32) × Int32 × Int32 × Int32 × Int32 × Int32) := if y0 = 0 then some (l_code, l_length, t_at, t_start, t_faultKind, t_faultPlace) else b6 (f_X1_readUnit l_code l_length t_bytes t_end t_at t_start t_faultKind t_faultPlace n1) (fun c1 c2 c3 c4 c5 c6 => b2 (f_X1_add c1 c2 y0) (fun c7 c8 => k8 (x3 + 1) c7 c8 c3 c4 c5 c6))
noncomputable def f_X1_readProduct_8 (t_bytes : Nat → Int32) (t_end : Int32) (n1 : Int32) : Nat → Int32 → (Nat → Int32) → Int32 → Int32 → Int32 → Int32 → Int32 → Option ((Nat → Int32) × Int32 × Int32 × Int32 × Int32 × Int32)
  | 0, _, _, _, _, _, _, _ => none
  | n + 1, x3, l_code, l_length, t_at, t_start, t_faultKind, t_faultPlace => if 150 ≤ x3 then some (l_code, l_length, t_at, t_start, t_faultKind, t_faultPlace) else b3 (f_X7_takes t_bytes t_end t_at t_start t_faultKind 42) (fun v9 c10 c11 => if v9 = 0 then b3 (f_X7_takes t_bytes t_end c10 c11 t_faultKind 47) (fun v12 c13 c14 => if v12 = 0 then b3 (f_X7_takes t_bytes t_end c13 c14 t_faultKind 37) (fun v15 c16 c17 => if v15 = 0 then f_X1_readProduct_58 t_bytes t_end n1 (f_X1_readProduct_8 t_bytes t_end n1 n) x3 0 l_code l_length c16 c17 t_faultKind t_faultPlace else f_X1_readProduct_58 t_bytes t_end n1 (f_X1_readProduct_8 t_bytes t_end n1 n) x3 (-12) l_code l_length c16 c17 t_faultKind t_faultPlace) else f_X1_readProduct_58 t_bytes t_end n1 (f_X1_readProduct_8 t_bytes t_end n1 n) x3 (-11) l_code l_length c13 c14 t_faultKind t_faultPlace) else f_X1_readProduct_58 t_bytes t_end n1 (f_X1_readProduct_8 t_bytes t_end n1 n) x3 (-10) l_code l_length c10 c11 t_faultKind t_faultPlace)
noncomputable def f_X1_readProduct (l_code : Nat → Int32) (l_length : Int32) (t_bytes : Nat → Int32) (t_end : Int32) (t_at : Int32) (t_start : Int32) (t_faultKind : Int32) (t_faultPlace : Int32) (n1 : Int32) : Option ((Nat → Int32) × Int32 × Int32 × Int32 × Int32 × Int32) := b6 (f_X1_readUnit l_code l_length t_bytes t_end t_at t_start t_faultKind t_faultPlace n1) (fun c18 c19 c20 c21 c22 c23 => f_X1_readProduct_8 t_bytes t_end n1 FU 0 c18 c19 c20 c21 c22 c23)
def rm_X1_readProduct : Room := { frames := 12, cells := 0, slots := 0, locals := 1066 }
set_option maxRecDepth 100000 in
set_option maxHeartbeats 4000000 in
theorem j_X1_readProduct_58 {J : Jt} {Z : Zt} {a0 : Nat → Nat} {a1 : Nat → Nat} {l_values : Nat → Int32} {l_stack : Nat → Int32} {t_bytes : Nat → Int32} {t_held : Int32} {t_end : Int32} {n1 : Int32} {o_l_code : Nat → Int32} {o_l_length : Int32} {o_t_at : Int32} {o_t_start : Int32} {o_t_faultKind : Int32} {o_t_faultPlace : Int32} {k8 : Int32 → (Nat → Int32) → Int32 → Int32 → Int32 → Int32 → Int32 → Option ((Nat → Int32) × Int32 × Int32 × Int32 × Int32 × Int32)} (C : Cx J Z cX1_readProduct 5 RX1 none rm_X1_readProduct) (E : Ez J Z 0 0 none (cs_X1 J.2.2.1 a0 o_l_code l_values l_stack o_l_length ++ cs_X7 J.2.2.1 a1 t_bytes t_held t_end o_t_at o_t_start o_t_faultKind o_t_faultPlace)) (hk8 : ∀ (x3 : Int32) (l_code : Nat → Int32) (l_length : Int32) (t_at : Int32) (t_start : Int32) (t_faultKind : Int32) (t_faultPlace : Int32), k8 x3 l_code l_length t_at t_start t_faultKind t_faultPlace = some (o_l_code, o_l_length, o_t_at, o_t_start, o_t_faultKind, o_t_faultPlace) → G J Z 0 0 (cs_X1 J.2.2.1 a0 l_code l_values l_stack l_length ++ cs_X7 J.2.2.1 a1 t_bytes t_held t_end t_at t_start t_faultKind t_faultPlace) 5 [(0, .ref (a0 0)), (1, .ref (a1 0)), (2, .int n1), (3, .int x3)] 8 []) : ∀ (x3 : Int32) (y0 : Int32) (l_code : Nat → Int32) (l_length : Int32) (t_at : Int32) (t_start : Int32) (t_faultKind : Int32) (t_faultPlace : Int32), f_X1_readProduct_58 t_bytes t_end n1 k8 x3 y0 l_code l_length t_at t_start t_faultKind t_faultPlace = some (o_l_code, o_l_length, o_t_at, o_t_start, o_t_faultKind, o_t_faultPlace) → G J Z 0 0 (cs_X1 J.2.2.1 a0 l_code l_values l_stack l_length ++ cs_X7 J.2.2.1 a1 t_bytes t_held t_end t_at t_start t_faultKind t_faultPlace) 5 [(0, .ref (a0 0)), (1, .ref (a1 0)), (2, .int n1), (3, .int x3)] 58 [.int y0] := by
  intro x3 y0 l_code l_length t_at t_start t_faultKind t_faultPlace h
  unfold f_X1_readProduct_58 at h
  refine g_istore (pc := 58) C [(4, .int y0), (0, .ref (a0 0)), (1, .ref (a1 0)), (2, .int n1), (3, .int x3)] dX1_readProduct_58 (by decide) rfl ?_
  refine g_iload (pc := 60) C 0 rfl dX1_readProduct_60 ?_
  refine g_if_ne (pc := 62) C (tgt := 66) dX1_readProduct_62 rfl h (fun h => ?_) (fun h => ?_)
  · refine g_aload_n (pc := 66) C 1 rfl dX1_readProduct_66 ?_
    refine g_aload_n (pc := 67) C 2 rfl dX1_readProduct_67 ?_
    refine g_iload_n (pc := 68) C 3 rfl dX1_readProduct_68 ?_
    obtain ⟨c1, c2, c3, c4, c5, c6, hc, h⟩ := b6_of h
    refine g_callV (pc := 69) C (w' := cs_X1 J.2.2.1 a0 c1 l_values l_stack c2 ++ cs_X7 J.2.2.1 a1 t_bytes t_held t_end c3 c4 c5 c6) (As := [.ref (a1 0), .int n1]) (st := []) (ci := 1) (q0 := 0) rfl rfl (t_X1_readUnit hc) Sub.same kw_767 kw_769 kw_7 kw_93 hy_X1_readUnit kw_770 rfl (Nat.le_of_ble_eq_true rfl) (Nat.le_of_ble_eq_true rfl) (Nat.le_of_ble_eq_true rfl) (Nat.le_of_ble_eq_true rfl) (Nat.le_of_ble_eq_true rfl) dX1_readProduct_69 ?_
    refine g_aload_n (pc := 72) C 1 rfl dX1_readProduct_72 ?_
    refine g_iload (pc := 73) C 0 rfl dX1_readProduct_73 ?_
    obtain ⟨c7, c8, hc, h⟩ := b2_of h
    refine g_callV (pc := 75) C (w' := cs_X1 J.2.2.1 a0 c7 l_values l_stack c8 ++ cs_X7 J.2.2.1 a1 t_bytes t_held t_end c3 c4 c5 c6) (As := [.int y0]) (st := []) (ci := 1) (q0 := 0) rfl rfl (t_X1_add hc) (Sub.gen [0, 1, 2, 3] [4, 5] [2, 3, 4, 5, 0, 1] rfl (by decide) rfl (by decide) (by decide) rfl (by decide)) kw_331 kw_332 kw_333 kw_93 hy_X1_add kw_334 rfl (Nat.le_of_ble_eq_true rfl) (Nat.le_of_ble_eq_true rfl) (Nat.le_of_ble_eq_true rfl) (Nat.le_of_ble_eq_true rfl) (Nat.le_of_ble_eq_true rfl) dX1_readProduct_75 ?_
    refine g_iinc (pc := 78) C (j := 4) [(3, .int (x3 + 1)), (4, .int y0), (0, .ref (a0 0)), (1, .ref (a1 0)), (2, .int n1)] dX1_readProduct_78 rfl (ii_1 _) (by decide) rfl ?_
    refine g_goto (pc := 81) C (tgt := 8) dX1_readProduct_81 rfl ?_
    refine g_lv [2, 3, 4, 0] rfl ?_
    exact hk8 (x3 + 1) c7 c8 c3 c4 c5 c6 h
  · cases h
    exact g_vret C E dX1_readProduct_65
set_option maxRecDepth 100000 in
set_option maxHeartbeats 4000000 in
theorem j_X1_readProduct_8 {J : Jt} {Z : Zt} {a0 : Nat → Nat} {a1 : Nat → Nat} {l_values : Nat → Int32} {l_stack : Nat → Int32} {t_bytes : Nat → Int32} {t_held : Int32} {t_end : Int32} {n1 : Int32} {o_l_code : Nat → Int32} {o_l_length : Int32} {o_t_at : Int32} {o_t_start : Int32} {o_t_faultKind : Int32} {o_t_faultPlace : Int32} (C : Cx J Z cX1_readProduct 5 RX1 none rm_X1_readProduct) (E : Ez J Z 0 0 none (cs_X1 J.2.2.1 a0 o_l_code l_values l_stack o_l_length ++ cs_X7 J.2.2.1 a1 t_bytes t_held t_end o_t_at o_t_start o_t_faultKind o_t_faultPlace)) : ∀ (n : Nat) (x3 : Int32) (l_code : Nat → Int32) (l_length : Int32) (t_at : Int32) (t_start : Int32) (t_faultKind : Int32) (t_faultPlace : Int32), f_X1_readProduct_8 t_bytes t_end n1 n x3 l_code l_length t_at t_start t_faultKind t_faultPlace = some (o_l_code, o_l_length, o_t_at, o_t_start, o_t_faultKind, o_t_faultPlace) → G J Z 0 0 (cs_X1 J.2.2.1 a0 l_code l_values l_stack l_length ++ cs_X7 J.2.2.1 a1 t_bytes t_held t_end t_at t_start t_faultKind t_faultPlace) 5 [(0, .ref (a0 0)), (1, .ref (a1 0)), (2, .int n1), (3, .int x3)] 8 [] := by
  intro n
  induction n with
  | zero =>
    intro x3 l_code l_length t_at t_start t_faultKind t_faultPlace h
    rw [f_X1_readProduct_8] at h
    cases h
  | succ n ih =>
    intro x3 l_code l_length t_at t_start t_faultKind t_faultPlace h
    rw [f_X1_readProduct_8] at h
    refine g_iload_n (pc := 8) C 3 rfl dX1_readProduct_8 ?_
    refine g_sipush (pc := 9) C dX1_readProduct_9 cs_150 ?_
    refine g_icmp_ge (pc := 12) C (tgt := 84) dX1_readProduct_12 rfl h (fun h => ?_) (fun h => ?_)
    · cases h
      exact g_vret C E dX1_readProduct_84
    · refine g_aload_n (pc := 15) C 1 rfl dX1_readProduct_15 ?_
      refine g_bipush (pc := 16) C dX1_readProduct_16 cb_42 ?_
      obtain ⟨v9, c10, c11, hc, h⟩ := b3_of h
      refine g_callV (pc := 18) C (w' := cs_X1 J.2.2.1 a0 l_code l_values l_stack l_length ++ cs_X7 J.2.2.1 a1 t_bytes t_held t_end c10 c11 t_faultKind t_faultPlace) (As := [.int 42]) (st := []) (ci := 7) (q0 := 4) rfl rfl (t_X7_takes hc) (Sub.gen [4, 5] [0, 1, 2, 3] [0, 1, 2, 3, 4, 5] rfl (by decide) rfl (by decide) (by decide) rfl (by decide)) kw_773 kw_774 kw_775 kw_87 hy_X7_takes kw_776 rfl (Nat.le_of_ble_eq_true rfl) (Nat.le_of_ble_eq_true rfl) (Nat.le_of_ble_eq_true rfl) (Nat.le_of_ble_eq_true rfl) (Nat.le_of_ble_eq_true rfl) dX1_readProduct_18 ?_
      refine g_if_eq (pc := 21) C (tgt := 29) dX1_readProduct_21 rfl h (fun h => ?_) (fun h => ?_)
      · refine g_aload_n (pc := 29) C 1 rfl dX1_readProduct_29 ?_
        refine g_bipush (pc := 30) C dX1_readProduct_30 cb_47 ?_
        obtain ⟨v12, c13, c14, hc, h⟩ := b3_of h
        refine g_callV (pc := 32) C (w' := cs_X1 J.2.2.1 a0 l_code l_values l_stack l_length ++ cs_X7 J.2.2.1 a1 t_bytes t_held t_end c13 c14 t_faultKind t_faultPlace) (As := [.int 47]) (st := []) (ci := 7) (q0 := 4) rfl rfl (t_X7_takes hc) (Sub.gen [4, 5] [0, 1, 2, 3] [0, 1, 2, 3, 4, 5] rfl (by decide) rfl (by decide) (by decide) rfl (by decide)) kw_773 kw_774 kw_775 kw_87 hy_X7_takes kw_776 rfl (Nat.le_of_ble_eq_true rfl) (Nat.le_of_ble_eq_true rfl) (Nat.le_of_ble_eq_true rfl) (Nat.le_of_ble_eq_true rfl) (Nat.le_of_ble_eq_true rfl) dX1_readProduct_32 ?_
        refine g_if_eq (pc := 35) C (tgt := 43) dX1_readProduct_35 rfl h (fun h => ?_) (fun h => ?_)
        · refine g_aload_n (pc := 43) C 1 rfl dX1_readProduct_43 ?_
          refine g_bipush (pc := 44) C dX1_readProduct_44 cb_37 ?_
          obtain ⟨v15, c16, c17, hc, h⟩ := b3_of h
          refine g_callV (pc := 46) C (w' := cs_X1 J.2.2.1 a0 l_code l_values l_stack l_length ++ cs_X7 J.2.2.1 a1 t_bytes t_held t_end c16 c17 t_faultKind t_faultPlace) (As := [.int 37]) (st := []) (ci := 7) (q0 := 4) rfl rfl (t_X7_takes hc) (Sub.gen [4, 5] [0, 1, 2, 3] [0, 1, 2, 3, 4, 5] rfl (by decide) rfl (by decide) (by decide) rfl (by decide)) kw_773 kw_774 kw_775 kw_87 hy_X7_takes kw_776 rfl (Nat.le_of_ble_eq_true rfl) (Nat.le_of_ble_eq_true rfl) (Nat.le_of_ble_eq_true rfl) (Nat.le_of_ble_eq_true rfl) (Nat.le_of_ble_eq_true rfl) dX1_readProduct_46 ?_
          refine g_if_eq (pc := 49) C (tgt := 57) dX1_readProduct_49 rfl h (fun h => ?_) (fun h => ?_)
          · refine g_iconst (pc := 57) C dX1_readProduct_57 ci_0 ?_
            exact j_X1_readProduct_58 C E ih x3 0 l_code l_length c16 c17 t_faultKind t_faultPlace h
          · refine g_bipush (pc := 52) C dX1_readProduct_52 cb_m12 ?_
            refine g_goto (pc := 54) C (tgt := 58) dX1_readProduct_54 rfl ?_
            exact j_X1_readProduct_58 C E ih x3 (-12) l_code l_length c16 c17 t_faultKind t_faultPlace h
        · refine g_bipush (pc := 38) C dX1_readProduct_38 cb_m11 ?_
          refine g_goto (pc := 40) C (tgt := 58) dX1_readProduct_40 rfl ?_
          exact j_X1_readProduct_58 C E ih x3 (-11) l_code l_length c13 c14 t_faultKind t_faultPlace h
      · refine g_bipush (pc := 24) C dX1_readProduct_24 cb_m10 ?_
        refine g_goto (pc := 26) C (tgt := 58) dX1_readProduct_26 rfl ?_
        exact j_X1_readProduct_58 C E ih x3 (-10) l_code l_length c10 c11 t_faultKind t_faultPlace h
set_option maxRecDepth 100000 in
set_option maxHeartbeats 4000000 in
theorem t_X1_readProduct {J : Jt} {a0 : Nat → Nat} {a1 : Nat → Nat} {l_code : Nat → Int32} {l_values : Nat → Int32} {l_stack : Nat → Int32} {l_length : Int32} {t_bytes : Nat → Int32} {t_held : Int32} {t_end : Int32} {t_at : Int32} {t_start : Int32} {t_faultKind : Int32} {t_faultPlace : Int32} {n1 : Int32} {o_l_code : Nat → Int32} {o_l_length : Int32} {o_t_at : Int32} {o_t_start : Int32} {o_t_faultKind : Int32} {o_t_faultPlace : Int32} (h : f_X1_readProduct l_code l_length t_bytes t_end t_at t_start t_faultKind t_faultPlace n1 = some (o_l_code, o_l_length, o_t_at, o_t_start, o_t_faultKind, o_t_faultPlace)) : Mt J yX1_readProduct cX1_readProduct 5 none rm_X1_readProduct [.ref (a0 0), .ref (a1 0), .int n1] (cs_X1 J.2.2.1 a0 l_code l_values l_stack l_length ++ cs_X7 J.2.2.1 a1 t_bytes t_held t_end t_at t_start t_faultKind t_faultPlace) none (cs_X1 J.2.2.1 a0 o_l_code l_values l_stack o_l_length ++ cs_X7 J.2.2.1 a1 t_bytes t_held t_end o_t_at o_t_start o_t_faultKind o_t_faultPlace) := by
  refine Mt_of (own := RX1) (by decide) rfl (Nat.le_of_ble_eq_true rfl) rfl (fun Z C E => ?_)
  unfold f_X1_readProduct at h
  show G J Z 0 0 (cs_X1 J.2.2.1 a0 l_code l_values l_stack l_length ++ cs_X7 J.2.2.1 a1 t_bytes t_held t_end t_at t_start t_faultKind t_faultPlace) 5 [(0, .ref (a0 0)), (1, .ref (a1 0)), (2, .int n1)] 0 []
  refine g_aload_n (pc := 0) C 0 rfl dX1_readProduct_0 ?_
  refine g_aload_n (pc := 1) C 1 rfl dX1_readProduct_1 ?_
  refine g_iload_n (pc := 2) C 2 rfl dX1_readProduct_2 ?_
  obtain ⟨c18, c19, c20, c21, c22, c23, hc, h⟩ := b6_of h
  refine g_callV (pc := 3) C (w' := cs_X1 J.2.2.1 a0 c18 l_values l_stack c19 ++ cs_X7 J.2.2.1 a1 t_bytes t_held t_end c20 c21 c22 c23) (As := [.ref (a1 0), .int n1]) (st := []) (ci := 1) (q0 := 0) rfl rfl (t_X1_readUnit hc) Sub.same kw_767 kw_769 kw_7 kw_93 hy_X1_readUnit kw_770 rfl (Nat.le_of_ble_eq_true rfl) (Nat.le_of_ble_eq_true rfl) (Nat.le_of_ble_eq_true rfl) (Nat.le_of_ble_eq_true rfl) (Nat.le_of_ble_eq_true rfl) dX1_readProduct_3 ?_
  refine g_iconst (pc := 6) C dX1_readProduct_6 ci_0 ?_
  refine g_istore_n (pc := 7) C [(3, .int 0), (0, .ref (a0 0)), (1, .ref (a1 0)), (2, .int n1)] dX1_readProduct_7 rfl (by decide) rfl ?_
  refine g_lv [1, 2, 3, 0] rfl ?_
  exact j_X1_readProduct_8 C E  FU 0 c18 c19 c20 c21 c22 c23 h
noncomputable def f_X1_readSum_44 (t_bytes : Nat → Int32) (t_end : Int32) (n1 : Int32) (k8 : Int32 → (Nat → Int32) → Int32 → Int32 → Int32 → Int32 → Int32 → Option ((Nat → Int32) × Int32 × Int32 × Int32 × Int32 × Int32)) (x3 : Int32) (y0 : Int32) (l_code : Nat → Int32) (l_length : Int32) (t_at : Int32) (t_start : Int32) (t_faultKind : Int32) (t_faultPlace : Int32) : Option ((Nat → Int32) × Int32 × Int32 × Int32 × Int32 × Int32) := if y0 = 0 then some (l_code, l_length, t_at, t_start, t_faultKind, t_faultPlace) else b6 (f_X1_readProduct l_code l_length t_bytes t_end t_at t_start t_faultKind t_faultPlace n1) (fun c1 c2 c3 c4 c5 c6 => b2 (f_X1_add c1 c2 y0) (fun c7 c8 => k8 (x3 + 1) c7 c8 c3 c4 c5 c6))
noncomputable def f_X1_readSum_8 (t_bytes : Nat → Int32) (t_end : Int32) (n1 : Int32) : Nat → Int32 → (Nat → Int32) → Int32 → Int32 → Int32 → Int32 → Int32 → Option ((Nat → Int32) × Int32 × Int32 × Int32 × Int32 × Int32)
  | 0, _, _, _, _, _, _, _ => none
  | n + 1, x3, l_code, l_length, t_at, t_start, t_faultKind, t_faultPlace => if 150 ≤ x3 then some (l_code, l_length, t_at, t_start, t_faultKind, t_faultPlace) else b3 (f_X7_takes t_bytes t_end t_at t_start t_faultKind 43) (fun v9 c10 c11 => if v9 = 0 then b3 (f_X7_takes t_bytes t_end c10 c11 t_faultKind 45) (fun v12 c13 c14 => if v12 = 0 then f_X1_readSum_44 t_bytes t_end n1 (f_X1_readSum_8 t_bytes t_end n1 n) x3 0 l_code l_length c13 c14 t_faultKind t_faultPlace else f_X1_readSum_44 t_bytes t_end n1 (f_X1_readSum_8 t_bytes t_end n1 n) x3 (-9) l_code l_length c13 c14 t_faultKind t_faultPlace) else f_X1_readSum_44 t_bytes t_end n1 (f_X1_readSum_8 t_bytes t_end n1 n) x3 (-8) l_code l_length c10 c11 t_faultKind t_faultPlace)
noncomputable def f_X1_readSum (l_code : Nat → Int32) (l_length : Int32) (t_bytes : Nat → Int32) (t_end : Int32) (t_at : Int32) (t_start : Int32) (t_faultKind : Int32) (t_faultPlace : Int32) (n1 : Int32) : Option ((Nat → Int32) × Int32 × Int32 × Int32 × Int32 × Int32) := b6 (f_X1_readProduct l_code l_length t_bytes t_end t_at t_start t_faultKind t_faultPlace n1) (fun c15 c16 c17 c18 c19 c20 => f_X1_readSum_8 t_bytes t_end n1 FU 0 c15 c16 c17 c18 c19 c20)
def rm_X1_readSum : Room := { frames := 13, cells := 0, slots := 0, locals := 1090 }
set_option maxRecDepth 100000 in
set_option maxHeartbeats 4000000 in
theorem j_X1_readSum_44 {J : Jt} {Z : Zt} {a0 : Nat → Nat} {a1 : Nat → Nat} {l_values : Nat → Int32} {l_stack : Nat → Int32} {t_bytes : Nat → Int32} {t_held : Int32} {t_end : Int32} {n1 : Int32} {o_l_code : Nat → Int32} {o_l_length : Int32} {o_t_at : Int32} {o_t_start : Int32} {o_t_faultKind : Int32} {o_t_faultPlace : Int32} {k8 : Int32 → (Nat → Int32) → Int32 → Int32 → Int32 → Int32 → Int32 → Option ((Nat → Int32) × Int32 × Int32 × Int32 × Int32 × Int32)} (C : Cx J Z cX1_readSum 5 RX1 none rm_X1_readSum) (E : Ez J Z 0 0 none (cs_X1 J.2.2.1 a0 o_l_code l_values l_stack o_l_length ++ cs_X7 J.2.2.1 a1 t_bytes t_held t_end o_t_at o_t_start o_t_faultKind o_t_faultPlace)) (hk8 : ∀ (x3 : Int32) (l_code : Nat → Int32) (l_length : Int32) (t_at : Int32) (t_start : Int32) (t_faultKind : Int32) (t_faultPlace : Int32), k8 x3 l_code l_length t_at t_start t_faultKind t_faultPlace = some (o_l_code, o_l_length, o_t_at, o_t_start, o_t_faultKind, o_t_faultPlace) → G J Z 0 0 (cs_X1 J.2.2.1 a0 l_code l_values l_stack l_length ++ cs_X7 J.2.2.1 a1 t_bytes t_held t_end t_at t_start t_faultKind t_faultPlace) 5 [(0, .ref (a0 0)), (1, .ref (a1 0)), (2, .int n1), (3, .int x3)] 8 []) : ∀ (x3 : Int32) (y0 : Int32) (l_code : Nat → Int32) (l_length : Int32) (t_at : Int32) (t_start : Int32) (t_faultKind : Int32) (t_faultPlace : Int32), f_X1_readSum_44 t_bytes t_end n1 k8 x3 y0 l_code l_length t_at t_start t_faultKind t_faultPlace = some (o_l_code, o_l_length, o_t_at, o_t_start, o_t_faultKind, o_t_faultPlace) → G J Z 0 0 (cs_X1 J.2.2.1 a0 l_code l_values l_stack l_length ++ cs_X7 J.2.2.1 a1 t_bytes t_held t_end t_at t_start t_faultKind t_faultPlace) 5 [(0, .ref (a0 0)), (1, .ref (a1 0)), (2, .int n1), (3, .int x3)] 44 [.int y0] := by
  intro x3 y0 l_code l_length t_at t_start t_faultKind t_faultPlace h
  unfold f_X1_readSum_44 at h
  refine g_istore (pc := 44) C [(4, .int y0), (0, .ref (a0 0)), (1, .ref (a1 0)), (2, .int n1), (3, .int x3)] dX1_readSum_44 (by decide) rfl ?_
  refine g_iload (pc := 46) C 0 rfl dX1_readSum_46 ?_
  refine g_if_ne (pc := 48) C (tgt := 52) dX1_readSum_48 rfl h (fun h => ?_) (fun h => ?_)
  · refine g_aload_n (pc := 52) C 1 rfl dX1_readSum_52 ?_
    refine g_aload_n (pc := 53) C 2 rfl dX1_readSum_53 ?_
    refine g_iload_n (pc := 54) C 3 rfl dX1_readSum_54 ?_
    obtain ⟨c1, c2, c3, c4, c5, c6, hc, h⟩ := b6_of h
    refine g_callV (pc := 55) C (w' := cs_X1 J.2.2.1 a0 c1 l_values l_stack c2 ++ cs_X7 J.2.2.1 a1 t_bytes t_held t_end c3 c4 c5 c6) (As := [.ref (a1 0), .int n1]) (st := []) (ci := 1) (q0 := 0) rfl rfl (t_X1_readProduct hc) Sub.same kw_763 kw_765 kw_6 kw_93 hy_X1_readProduct kw_766 rfl (Nat.le_of_ble_eq_true rfl) (Nat.le_of_ble_eq_true rfl) (Nat.le_of_ble_eq_true rfl) (Nat.le_of_ble_eq_true rfl) (Nat.le_of_ble_eq_true rfl) dX1_readSum_55 ?_
    refine g_aload_n (pc := 58) C 1 rfl dX1_readSum_58 ?_
    refine g_iload (pc := 59) C 0 rfl dX1_readSum_59 ?_
    obtain ⟨c7, c8, hc, h⟩ := b2_of h
    refine g_callV (pc := 61) C (w' := cs_X1 J.2.2.1 a0 c7 l_values l_stack c8 ++ cs_X7 J.2.2.1 a1 t_bytes t_held t_end c3 c4 c5 c6) (As := [.int y0]) (st := []) (ci := 1) (q0 := 0) rfl rfl (t_X1_add hc) (Sub.gen [0, 1, 2, 3] [4, 5] [2, 3, 4, 5, 0, 1] rfl (by decide) rfl (by decide) (by decide) rfl (by decide)) kw_331 kw_332 kw_333 kw_93 hy_X1_add kw_334 rfl (Nat.le_of_ble_eq_true rfl) (Nat.le_of_ble_eq_true rfl) (Nat.le_of_ble_eq_true rfl) (Nat.le_of_ble_eq_true rfl) (Nat.le_of_ble_eq_true rfl) dX1_readSum_61 ?_
    refine g_iinc (pc := 64) C (j := 4) [(3, .int (x3 + 1)), (4, .int y0), (0, .ref (a0 0)), (1, .ref (a1 0)), (2, .int n1)] dX1_readSum_64 rfl (ii_1 _) (by decide) rfl ?_
    refine g_goto (pc := 67) C (tgt := 8) dX1_readSum_67 rfl ?_
    refine g_lv [2, 3, 4, 0] rfl ?_
    exact hk8 (x3 + 1) c7 c8 c3 c4 c5 c6 h
  · cases h
    exact g_vret C E dX1_readSum_51
set_option maxRecDepth 100000 in
set_option maxHeartbeats 4000000 in
theorem j_X1_readSum_8 {J : Jt} {Z : Zt} {a0 : Nat → Nat} {a1 : Nat → Nat} {l_values : Nat → Int32} {l_stack : Nat → Int32} {t_bytes : Nat → Int32} {t_held : Int32} {t_end : Int32} {n1 : Int32} {o_l_code : Nat → Int32} {o_l_length : Int32} {o_t_at : Int32} {o_t_start : Int32} {o_t_faultKind : Int32} {o_t_faultPlace : Int32} (C : Cx J Z cX1_readSum 5 RX1 none rm_X1_readSum) (E : Ez J Z 0 0 none (cs_X1 J.2.2.1 a0 o_l_code l_values l_stack o_l_length ++ cs_X7 J.2.2.1 a1 t_bytes t_held t_end o_t_at o_t_start o_t_faultKind o_t_faultPlace)) : ∀ (n : Nat) (x3 : Int32) (l_code : Nat → Int32) (l_length : Int32) (t_at : Int32) (t_start : Int32) (t_faultKind : Int32) (t_faultPlace : Int32), f_X1_readSum_8 t_bytes t_end n1 n x3 l_code l_length t_at t_start t_faultKind t_faultPlace = some (o_l_code, o_l_length, o_t_at, o_t_start, o_t_faultKind, o_t_faultPlace) → G J Z 0 0 (cs_X1 J.2.2.1 a0 l_code l_values l_stack l_length ++ cs_X7 J.2.2.1 a1 t_bytes t_held t_end t_at t_start t_faultKind t_faultPlace) 5 [(0, .ref (a0 0)), (1, .ref (a1 0)), (2, .int n1), (3, .int x3)] 8 [] := by
  intro n
  induction n with
  | zero =>
    intro x3 l_code l_length t_at t_start t_faultKind t_faultPlace h
    rw [f_X1_readSum_8] at h
    cases h
  | succ n ih =>
    intro x3 l_code l_length t_at t_start t_faultKind t_faultPlace h
    rw [f_X1_readSum_8] at h
    refine g_iload_n (pc := 8) C 3 rfl dX1_readSum_8 ?_
    refine g_sipush (pc := 9) C dX1_readSum_9 cs_150 ?_
    refine g_icmp_ge (pc := 12) C (tgt := 70) dX1_readSum_12 rfl h (fun h => ?_) (fun h => ?_)
    · cases h
      exact g_vret C E dX1_readSum_70
    · refine g_aload_n (pc := 15) C 1 rfl dX1_readSum_15 ?_
      refine g_bipush (pc := 16) C dX1_readSum_16 cb_43 ?_
      obtain ⟨v9, c10, c11, hc, h⟩ := b3_of h
      refine g_callV (pc := 18) C (w' := cs_X1 J.2.2.1 a0 l_code l_values l_stack l_length ++ cs_X7 J.2.2.1 a1 t_bytes t_held t_end c10 c11 t_faultKind t_faultPlace) (As := [.int 43]) (st := []) (ci := 7) (q0 := 4) rfl rfl (t_X7_takes hc) (Sub.gen [4, 5] [0, 1, 2, 3] [0, 1, 2, 3, 4, 5] rfl (by decide) rfl (by decide) (by decide) rfl (by decide)) kw_773 kw_774 kw_775 kw_87 hy_X7_takes kw_776 rfl (Nat.le_of_ble_eq_true rfl) (Nat.le_of_ble_eq_true rfl) (Nat.le_of_ble_eq_true rfl) (Nat.le_of_ble_eq_true rfl) (Nat.le_of_ble_eq_true rfl) dX1_readSum_18 ?_
      refine g_if_eq (pc := 21) C (tgt := 29) dX1_readSum_21 rfl h (fun h => ?_) (fun h => ?_)
      · refine g_aload_n (pc := 29) C 1 rfl dX1_readSum_29 ?_
        refine g_bipush (pc := 30) C dX1_readSum_30 cb_45 ?_
        obtain ⟨v12, c13, c14, hc, h⟩ := b3_of h
        refine g_callV (pc := 32) C (w' := cs_X1 J.2.2.1 a0 l_code l_values l_stack l_length ++ cs_X7 J.2.2.1 a1 t_bytes t_held t_end c13 c14 t_faultKind t_faultPlace) (As := [.int 45]) (st := []) (ci := 7) (q0 := 4) rfl rfl (t_X7_takes hc) (Sub.gen [4, 5] [0, 1, 2, 3] [0, 1, 2, 3, 4, 5] rfl (by decide) rfl (by decide) (by decide) rfl (by decide)) kw_773 kw_774 kw_775 kw_87 hy_X7_takes kw_776 rfl (Nat.le_of_ble_eq_true rfl) (Nat.le_of_ble_eq_true rfl) (Nat.le_of_ble_eq_true rfl) (Nat.le_of_ble_eq_true rfl) (Nat.le_of_ble_eq_true rfl) dX1_readSum_32 ?_
        refine g_if_eq (pc := 35) C (tgt := 43) dX1_readSum_35 rfl h (fun h => ?_) (fun h => ?_)
        · refine g_iconst (pc := 43) C dX1_readSum_43 ci_0 ?_
          exact j_X1_readSum_44 C E ih x3 0 l_code l_length c13 c14 t_faultKind t_faultPlace h
        · refine g_bipush (pc := 38) C dX1_readSum_38 cb_m9 ?_
          refine g_goto (pc := 40) C (tgt := 44) dX1_readSum_40 rfl ?_
          exact j_X1_readSum_44 C E ih x3 (-9) l_code l_length c13 c14 t_faultKind t_faultPlace h
      · refine g_bipush (pc := 24) C dX1_readSum_24 cb_m8 ?_
        refine g_goto (pc := 26) C (tgt := 44) dX1_readSum_26 rfl ?_
        exact j_X1_readSum_44 C E ih x3 (-8) l_code l_length c10 c11 t_faultKind t_faultPlace h
set_option maxRecDepth 100000 in
set_option maxHeartbeats 4000000 in
theorem t_X1_readSum {J : Jt} {a0 : Nat → Nat} {a1 : Nat → Nat} {l_code : Nat → Int32} {l_values : Nat → Int32} {l_stack : Nat → Int32} {l_length : Int32} {t_bytes : Nat → Int32} {t_held : Int32} {t_end : Int32} {t_at : Int32} {t_start : Int32} {t_faultKind : Int32} {t_faultPlace : Int32} {n1 : Int32} {o_l_code : Nat → Int32} {o_l_length : Int32} {o_t_at : Int32} {o_t_start : Int32} {o_t_faultKind : Int32} {o_t_faultPlace : Int32} (h : f_X1_readSum l_code l_length t_bytes t_end t_at t_start t_faultKind t_faultPlace n1 = some (o_l_code, o_l_length, o_t_at, o_t_start, o_t_faultKind, o_t_faultPlace)) : Mt J yX1_readSum cX1_readSum 5 none rm_X1_readSum [.ref (a0 0), .ref (a1 0), .int n1] (cs_X1 J.2.2.1 a0 l_code l_values l_stack l_length ++ cs_X7 J.2.2.1 a1 t_bytes t_held t_end t_at t_start t_faultKind t_faultPlace) none (cs_X1 J.2.2.1 a0 o_l_code l_values l_stack o_l_length ++ cs_X7 J.2.2.1 a1 t_bytes t_held t_end o_t_at o_t_start o_t_faultKind o_t_faultPlace) := by
  refine Mt_of (own := RX1) (by decide) rfl (Nat.le_of_ble_eq_true rfl) rfl (fun Z C E => ?_)
  unfold f_X1_readSum at h
  show G J Z 0 0 (cs_X1 J.2.2.1 a0 l_code l_values l_stack l_length ++ cs_X7 J.2.2.1 a1 t_bytes t_held t_end t_at t_start t_faultKind t_faultPlace) 5 [(0, .ref (a0 0)), (1, .ref (a1 0)), (2, .int n1)] 0 []
  refine g_aload_n (pc := 0) C 0 rfl dX1_readSum_0 ?_
  refine g_aload_n (pc := 1) C 1 rfl dX1_readSum_1 ?_
  refine g_iload_n (pc := 2) C 2 rfl dX1_readSum_2 ?_
  obtain ⟨c15, c16, c17, c18, c19, c20, hc, h⟩ := b6_of h
  refine g_callV (pc := 3) C (w' := cs_X1 J.2.2.1 a0 c15 l_values l_stack c16 ++ cs_X7 J.2.2.1 a1 t_bytes t_held t_end c17 c18 c19 c20) (As := [.ref (a1 0), .int n1]) (st := []) (ci := 1) (q0 := 0) rfl rfl (t_X1_readProduct hc) Sub.same kw_763 kw_765 kw_6 kw_93 hy_X1_readProduct kw_766 rfl (Nat.le_of_ble_eq_true rfl) (Nat.le_of_ble_eq_true rfl) (Nat.le_of_ble_eq_true rfl) (Nat.le_of_ble_eq_true rfl) (Nat.le_of_ble_eq_true rfl) dX1_readSum_3 ?_
  refine g_iconst (pc := 6) C dX1_readSum_6 ci_0 ?_
  refine g_istore_n (pc := 7) C [(3, .int 0), (0, .ref (a0 0)), (1, .ref (a1 0)), (2, .int n1)] dX1_readSum_7 rfl (by decide) rfl ?_
  refine g_lv [1, 2, 3, 0] rfl ?_
  exact j_X1_readSum_8 C E  FU 0 c15 c16 c17 c18 c19 c20 h
noncomputable def f_X7_needEnd (t_bytes : Nat → Int32) (t_end : Int32) (t_at : Int32) (t_start : Int32) (t_faultKind : Int32) (t_faultPlace : Int32) : Option (Int32 × Int32 × Int32 × Int32) := b3 (f_X7_isAtEnd t_bytes t_end t_at t_start t_faultKind) (fun v1 c2 c3 => if v1 = 0 then b2 (f_X7_blame c3 t_faultKind t_faultPlace 1) (fun c4 c5 => some (c2, c3, c4, c5)) else some (c2, c3, t_faultKind, t_faultPlace))
def rm_X7_needEnd : Room := { frames := 2, cells := 0, slots := 0, locals := 40 }
set_option maxRecDepth 100000 in
set_option maxHeartbeats 4000000 in
theorem t_X7_needEnd {J : Jt} {a0 : Nat → Nat} {t_bytes : Nat → Int32} {t_held : Int32} {t_end : Int32} {t_at : Int32} {t_start : Int32} {t_faultKind : Int32} {t_faultPlace : Int32} {o_t_at : Int32} {o_t_start : Int32} {o_t_faultKind : Int32} {o_t_faultPlace : Int32} (h : f_X7_needEnd t_bytes t_end t_at t_start t_faultKind t_faultPlace = some (o_t_at, o_t_start, o_t_faultKind, o_t_faultPlace)) : Mt J yX7_needEnd cX7_needEnd 1 none rm_X7_needEnd [.ref (a0 0)] (cs_X7 J.2.2.1 a0 t_bytes t_held t_end t_at t_start t_faultKind t_faultPlace) none (cs_X7 J.2.2.1 a0 t_bytes t_held t_end o_t_at o_t_start o_t_faultKind o_t_faultPlace) := by
  refine Mt_of (own := RX7) (by decide) rfl (Nat.le_of_ble_eq_true rfl) rfl (fun Z C E => ?_)
  unfold f_X7_needEnd at h
  show G J Z 0 0 (cs_X7 J.2.2.1 a0 t_bytes t_held t_end t_at t_start t_faultKind t_faultPlace) 1 [(0, .ref (a0 0))] 0 []
  refine g_aload_n (pc := 0) C 0 rfl dX7_needEnd_0 ?_
  obtain ⟨v1, c2, c3, hc, h⟩ := b3_of h
  refine g_callV (pc := 1) C (w' := cs_X7 J.2.2.1 a0 t_bytes t_held t_end c2 c3 t_faultKind t_faultPlace) (As := []) (st := []) (ci := 7) (q0 := 0) rfl rfl (t_X7_isAtEnd hc) Sub.same kw_801 kw_620 kw_621 kw_87 hy_X7_isAtEnd kw_622 rfl (Nat.le_of_ble_eq_true rfl) (Nat.le_of_ble_eq_true rfl) (Nat.le_of_ble_eq_true rfl) (Nat.le_of_ble_eq_true rfl) (Nat.le_of_ble_eq_true rfl) dX7_needEnd_1 ?_
  refine g_if_ne (pc := 4) C (tgt := 12) dX7_needEnd_4 rfl h (fun h => ?_) (fun h => ?_)
  · cases h
    exact g_vret C E dX7_needEnd_12
  · refine g_aload_n (pc := 7) C 0 rfl dX7_needEnd_7 ?_
    refine g_iconst (pc := 8) C dX7_needEnd_8 ci_1 ?_
    obtain ⟨c4, c5, hc, h⟩ := b2_of h
    refine g_callV (pc := 9) C (w' := cs_X7 J.2.2.1 a0 t_bytes t_held t_end c2 c3 c4 c5) (As := [.int 1]) (st := []) (ci := 7) (q0 := 0) rfl rfl (t_X7_blame hc) Sub.same kw_706 kw_696 kw_697 kw_87 hy_X7_blame kw_698 rfl (Nat.le_of_ble_eq_true rfl) (Nat.le_of_ble_eq_true rfl) (Nat.le_of_ble_eq_true rfl) (Nat.le_of_ble_eq_true rfl) (Nat.le_of_ble_eq_true rfl) dX7_needEnd_9 ?_
    cases h
    exact g_vret C E dX7_needEnd_12
noncomputable def f_X1_read (l_code : Nat → Int32) (l_length : Int32) (t_bytes : Nat → Int32) (t_end : Int32) (t_at : Int32) (t_start : Int32) (t_faultKind : Int32) (t_faultPlace : Int32) : Option ((Nat → Int32) × Int32 × Int32 × Int32 × Int32 × Int32) := b6 (f_X1_readSum l_code 0 t_bytes t_end t_at t_start t_faultKind t_faultPlace 0) (fun c1 c2 c3 c4 c5 c6 => b4 (f_X7_needEnd t_bytes t_end c3 c4 c5 c6) (fun c7 c8 c9 c10 => some (c1, c2, c7, c8, c9, c10)))
def rm_X1_read : Room := { frames := 14, cells := 0, slots := 0, locals := 1114 }
set_option maxRecDepth 100000 in
set_option maxHeartbeats 4000000 in
theorem t_X1_read {J : Jt} {a0 : Nat → Nat} {a1 : Nat → Nat} {l_code : Nat → Int32} {l_values : Nat → Int32} {l_stack : Nat → Int32} {l_length : Int32} {t_bytes : Nat → Int32} {t_held : Int32} {t_end : Int32} {t_at : Int32} {t_start : Int32} {t_faultKind : Int32} {t_faultPlace : Int32} {o_l_code : Nat → Int32} {o_l_length : Int32} {o_t_at : Int32} {o_t_start : Int32} {o_t_faultKind : Int32} {o_t_faultPlace : Int32} (h : f_X1_read l_code l_length t_bytes t_end t_at t_start t_faultKind t_faultPlace = some (o_l_code, o_l_length, o_t_at, o_t_start, o_t_faultKind, o_t_faultPlace)) : Mt J yX1_read cX1_read 2 none rm_X1_read [.ref (a0 0), .ref (a1 0)] (cs_X1 J.2.2.1 a0 l_code l_values l_stack l_length ++ cs_X7 J.2.2.1 a1 t_bytes t_held t_end t_at t_start t_faultKind t_faultPlace) none (cs_X1 J.2.2.1 a0 o_l_code l_values l_stack o_l_length ++ cs_X7 J.2.2.1 a1 t_bytes t_held t_end o_t_at o_t_start o_t_faultKind o_t_faultPlace) := by
  refine Mt_of (own := RX1) (by decide) rfl (Nat.le_of_ble_eq_true rfl) rfl (fun Z C E => ?_)
  unfold f_X1_read at h
  show G J Z 0 0 (cs_X1 J.2.2.1 a0 l_code l_values l_stack l_length ++ cs_X7 J.2.2.1 a1 t_bytes t_held t_end t_at t_start t_faultKind t_faultPlace) 2 [(0, .ref (a0 0)), (1, .ref (a1 0))] 0 []
  refine g_aload_n (pc := 0) C 0 rfl dX1_read_0 ?_
  refine g_iconst (pc := 1) C dX1_read_1 ci_0 ?_
  refine g_put (pc := 2) C (w' := cs_X1 J.2.2.1 a0 l_code l_values l_stack 0 ++ cs_X7 J.2.2.1 a1 t_bytes t_held t_end t_at t_start t_faultKind t_faultPlace) FOK_X1 0 rfl rfl 3 (by decide) kw_338 rfl rfl rfl (Nat.le_of_ble_eq_true rfl) dX1_read_2 rfl ?_
  refine g_aload_n (pc := 5) C 0 rfl dX1_read_5 ?_
  refine g_aload_n (pc := 6) C 1 rfl dX1_read_6 ?_
  refine g_iconst (pc := 7) C dX1_read_7 ci_0 ?_
  obtain ⟨c1, c2, c3, c4, c5, c6, hc, h⟩ := b6_of h
  refine g_callV (pc := 8) C (w' := cs_X1 J.2.2.1 a0 c1 l_values l_stack c2 ++ cs_X7 J.2.2.1 a1 t_bytes t_held t_end c3 c4 c5 c6) (As := [.ref (a1 0), .int 0]) (st := []) (ci := 1) (q0 := 0) rfl rfl (t_X1_readSum hc) Sub.same kw_759 kw_761 kw_5 kw_93 hy_X1_readSum kw_762 rfl (Nat.le_of_ble_eq_true rfl) (Nat.le_of_ble_eq_true rfl) (Nat.le_of_ble_eq_true rfl) (Nat.le_of_ble_eq_true rfl) (Nat.le_of_ble_eq_true rfl) dX1_read_8 ?_
  refine g_aload_n (pc := 11) C 1 rfl dX1_read_11 ?_
  obtain ⟨c7, c8, c9, c10, hc, h⟩ := b4_of h
  refine g_callV (pc := 12) C (w' := cs_X1 J.2.2.1 a0 c1 l_values l_stack c2 ++ cs_X7 J.2.2.1 a1 t_bytes t_held t_end c7 c8 c9 c10) (As := []) (st := []) (ci := 7) (q0 := 4) rfl rfl (t_X7_needEnd hc) (Sub.gen [4, 5] [0, 1, 2, 3] [0, 1, 2, 3, 4, 5] rfl (by decide) rfl (by decide) (by decide) rfl (by decide)) kw_797 kw_798 kw_799 kw_87 hy_X7_needEnd kw_800 rfl (Nat.le_of_ble_eq_true rfl) (Nat.le_of_ble_eq_true rfl) (Nat.le_of_ble_eq_true rfl) (Nat.le_of_ble_eq_true rfl) (Nat.le_of_ble_eq_true rfl) dX1_read_12 ?_
  cases h
  exact g_vret C E dX1_read_15
noncomputable def f_X1_joined  (n1 : Int32) (n2 : Int32) (n3 : Int32) : Option (Int32) := if n1 = (-13) then if n3 ≤ n2 then some n3 else some n2 else if n1 = (-12) then if n3 = 0 then some 0 else if n3 = 0 then none else some (n2 - n2 / n3 * n3) else if n1 = (-11) then if n3 = 0 then some 0 else if n3 = 0 then none else some (n2 / n3) else if n1 = (-10) then some (n2 * n3) else if n1 = (-9) then some (n2 - n3) else if n1 = (-8) then some (n2 + n3) else if n2 ≤ n3 then some n3 else some n2
def rm_X1_joined : Room := { frames := 0, cells := 0, slots := 0, locals := 0 }
set_option maxRecDepth 100000 in
set_option maxHeartbeats 4000000 in
theorem t_X1_joined {J : Jt}  {n1 : Int32} {n2 : Int32} {n3 : Int32} {r : Int32} (h : f_X1_joined n1 n2 n3 = some r) : Mt J yX1_joined cX1_joined 3 (some .int) rm_X1_joined [.int n1, .int n2, .int n3] ([]) (some (.int r)) ([]) := by
  refine Mt_of (own := RX1) (by decide) rfl (Nat.le_of_ble_eq_true rfl) rfl (fun Z C E => ?_)
  unfold f_X1_joined at h
  show G J Z 0 0 ([]) 3 [(0, .int n1), (1, .int n2), (2, .int n3)] 0 []
  refine g_iload_n (pc := 0) C 0 rfl dX1_joined_0 ?_
  rcases ite_of h with ⟨hc, h⟩ | ⟨hnm13, h⟩
  · refine g_tsIn (pc := 1) C (tgt := 76) dX1_joined_1 (by rw [hc]; decide) (by rw [hc]; decide) (by rw [hc]; rfl) rfl ?_
    refine g_iload_n (pc := 76) C 1 rfl dX1_joined_76 ?_
    refine g_iload_n (pc := 77) C 2 rfl dX1_joined_77 ?_
    refine g_icmp_ge (pc := 78) C (tgt := 85) dX1_joined_78 rfl h (fun h => ?_) (fun h => ?_)
    · refine g_iload_n (pc := 85) C 2 rfl dX1_joined_85 ?_
      cases h
      exact g_iret C E dX1_joined_86
    · refine g_iload_n (pc := 81) C 1 rfl dX1_joined_81 ?_
      refine g_goto (pc := 82) C (tgt := 86) dX1_joined_82 rfl ?_
      cases h
      exact g_iret C E dX1_joined_86
  rcases ite_of h with ⟨hc, h⟩ | ⟨hnm12, h⟩
  · refine g_tsIn (pc := 1) C (tgt := 64) dX1_joined_1 (by rw [hc]; decide) (by rw [hc]; decide) (by rw [hc]; rfl) rfl ?_
    refine g_iload_n (pc := 64) C 2 rfl dX1_joined_64 ?_
    refine g_if_ne (pc := 65) C (tgt := 72) dX1_joined_65 rfl h (fun h => ?_) (fun h => ?_)
    · refine g_iload_n (pc := 72) C 1 rfl dX1_joined_72 ?_
      refine g_iload_n (pc := 73) C 2 rfl dX1_joined_73 ?_
      obtain ⟨hz, h⟩ := nz_of h
      refine g_irem (pc := 74) C dX1_joined_74 hz ?_
      cases h
      exact g_iret C E dX1_joined_75
    · refine g_iconst (pc := 68) C dX1_joined_68 ci_0 ?_
      refine g_goto (pc := 69) C (tgt := 75) dX1_joined_69 rfl ?_
      cases h
      exact g_iret C E dX1_joined_75
  rcases ite_of h with ⟨hc, h⟩ | ⟨hnm11, h⟩
  · refine g_tsIn (pc := 1) C (tgt := 52) dX1_joined_1 (by rw [hc]; decide) (by rw [hc]; decide) (by rw [hc]; rfl) rfl ?_
    refine g_iload_n (pc := 52) C 2 rfl dX1_joined_52 ?_
    refine g_if_ne (pc := 53) C (tgt := 60) dX1_joined_53 rfl h (fun h => ?_) (fun h => ?_)
    · refine g_iload_n (pc := 60) C 1 rfl dX1_joined_60 ?_
      refine g_iload_n (pc := 61) C 2 rfl dX1_joined_61 ?_
      obtain ⟨hz, h⟩ := nz_of h
      refine g_idiv (pc := 62) C dX1_joined_62 hz ?_
      cases h
      exact g_iret C E dX1_joined_63
    · refine g_iconst (pc := 56) C dX1_joined_56 ci_0 ?_
      refine g_goto (pc := 57) C (tgt := 63) dX1_joined_57 rfl ?_
      cases h
      exact g_iret C E dX1_joined_63
  rcases ite_of h with ⟨hc, h⟩ | ⟨hnm10, h⟩
  · refine g_tsIn (pc := 1) C (tgt := 48) dX1_joined_1 (by rw [hc]; decide) (by rw [hc]; decide) (by rw [hc]; rfl) rfl ?_
    refine g_iload_n (pc := 48) C 1 rfl dX1_joined_48 ?_
    refine g_iload_n (pc := 49) C 2 rfl dX1_joined_49 ?_
    refine g_imul (pc := 50) C dX1_joined_50 ?_
    cases h
    exact g_iret C E dX1_joined_51
  rcases ite_of h with ⟨hc, h⟩ | ⟨hnm9, h⟩
  · refine g_tsIn (pc := 1) C (tgt := 44) dX1_joined_1 (by rw [hc]; decide) (by rw [hc]; decide) (by rw [hc]; rfl) rfl ?_
    refine g_iload_n (pc := 44) C 1 rfl dX1_joined_44 ?_
    refine g_iload_n (pc := 45) C 2 rfl dX1_joined_45 ?_
    refine g_isub (pc := 46) C dX1_joined_46 ?_
    cases h
    exact g_iret C E dX1_joined_47
  rcases ite_of h with ⟨hc, h⟩ | ⟨hnm8, h⟩
  · refine g_tsIn (pc := 1) C (tgt := 40) dX1_joined_1 (by rw [hc]; decide) (by rw [hc]; decide) (by rw [hc]; rfl) rfl ?_
    refine g_iload_n (pc := 40) C 1 rfl dX1_joined_40 ?_
    refine g_iload_n (pc := 41) C 2 rfl dX1_joined_41 ?_
    refine g_iadd (pc := 42) C dX1_joined_42 ?_
    cases h
    exact g_iret C E dX1_joined_43
  have hqm13 := lv_neT hnm13 (a := -13) (by decide)
  have hqm12 := lv_neT hnm12 (a := -12) (by decide)
  have hqm11 := lv_neT hnm11 (a := -11) (by decide)
  have hqm10 := lv_neT hnm10 (a := -10) (by decide)
  have hqm9 := lv_neT hnm9 (a := -9) (by decide)
  have hqm8 := lv_neT hnm8 (a := -8) (by decide)
  refine g_tsOut (pc := 1) C (tgt := 87) dX1_joined_1 (by omega) rfl ?_
  refine g_iload_n (pc := 87) C 1 rfl dX1_joined_87 ?_
  refine g_iload_n (pc := 88) C 2 rfl dX1_joined_88 ?_
  refine g_icmp_le (pc := 89) C (tgt := 96) dX1_joined_89 rfl h (fun h => ?_) (fun h => ?_)
  · refine g_iload_n (pc := 96) C 2 rfl dX1_joined_96 ?_
    cases h
    exact g_iret C E dX1_joined_97
  · refine g_iload_n (pc := 92) C 1 rfl dX1_joined_92 ?_
    refine g_goto (pc := 93) C (tgt := 97) dX1_joined_93 rfl ?_
    cases h
    exact g_iret C E dX1_joined_97
noncomputable def f_X1_tells_177 (l_code : Nat → Int32) (l_length : Int32) (n1 : Int32) (n2 : Int32) (n3 : Int32) (n4 : Int32) (n5 : Int32) (n6 : Int32) (n7 : Int32) (l_values : Nat → Int32) (l_stack : Nat → Int32) : Option (Int32 × (Nat → Int32) × (Nat → Int32)) := if ixb 0 32 then if 0 ≤ (l_stack 0.toNatClampNeg) then if ixb 0 32 then if (l_stack 0.toNatClampNeg) ≤ 8 then if ixb 0 32 then some (l_stack 0.toNatClampNeg, l_values, l_stack) else none else some (8, l_values, l_stack) else none else some (0, l_values, l_stack) else none
noncomputable def f_X1_tells_60 (l_code : Nat → Int32) (l_length : Int32) (n1 : Int32) (n2 : Int32) (n3 : Int32) (n4 : Int32) (n5 : Int32) (n6 : Int32) (n7 : Int32) : Nat → Int32 → Int32 → (Nat → Int32) → (Nat → Int32) → Option (Int32 × (Nat → Int32) × (Nat → Int32))
  | 0, _, _, _, _ => none
  | n + 1, x8, x9, l_values, l_stack => if l_length ≤ x9 then f_X1_tells_177 l_code l_length n1 n2 n3 n4 n5 n6 n7 l_values l_stack else if 150 ≤ x9 then f_X1_tells_177 l_code l_length n1 n2 n3 n4 n5 n6 n7 l_values l_stack else if ixb x9 150 then if (l_code x9.toNatClampNeg) < (-7) then if x8 < 2 then f_X1_tells_60 l_code l_length n1 n2 n3 n4 n5 n6 n7 n x8 (x9 + 1) l_values l_stack else if ixb ((x8 + (-1)) - 1) 32 then if ixb (x8 + (-1)) 32 then b1 (f_X1_joined (l_code x9.toNatClampNeg) (l_stack ((x8 + (-1)) - 1).toNatClampNeg) (l_stack (x8 + (-1)).toNatClampNeg)) (fun v1 => if ixb ((x8 + (-1)) - 1) 32 then f_X1_tells_60 l_code l_length n1 n2 n3 n4 n5 n6 n7 n (x8 + (-1)) (x9 + 1) l_values (upd l_stack ((x8 + (-1)) - 1).toNatClampNeg v1) else none) else none else none else if 32 ≤ x8 then f_X1_tells_60 l_code l_length n1 n2 n3 n4 n5 n6 n7 n x8 (x9 + 1) l_values l_stack else if (l_code x9.toNatClampNeg) < 0 then if ixb ((-1) - (l_code x9.toNatClampNeg)) 7 then if ixb x8 32 then f_X1_tells_60 l_code l_length n1 n2 n3 n4 n5 n6 n7 n (x8 + 1) (x9 + 1) l_values (upd l_stack x8.toNatClampNeg (l_values ((-1) - (l_code x9.toNatClampNeg)).toNatClampNeg)) else none else none else if ixb x8 32 then f_X1_tells_60 l_code l_length n1 n2 n3 n4 n5 n6 n7 n (x8 + 1) (x9 + 1) l_values (upd l_stack x8.toNatClampNeg (l_code x9.toNatClampNeg)) else none else none
noncomputable def f_X1_tells (l_code : Nat → Int32) (l_values : Nat → Int32) (l_stack : Nat → Int32) (l_length : Int32) (n1 : Int32) (n2 : Int32) (n3 : Int32) (n4 : Int32) (n5 : Int32) (n6 : Int32) (n7 : Int32) : Option (Int32 × (Nat → Int32) × (Nat → Int32)) := if ixb 0 7 then if ixb 1 7 then if ixb 2 7 then if ixb 3 7 then if ixb 4 7 then if ixb 5 7 then if ixb 6 7 then f_X1_tells_60 l_code l_length n1 n2 n3 n4 n5 n6 n7 FU 0 0 (upd (upd (upd (upd (upd (upd (upd l_values 0.toNatClampNeg n1) 1.toNatClampNeg n2) 2.toNatClampNeg n3) 3.toNatClampNeg n4) 4.toNatClampNeg n5) 5.toNatClampNeg n6) 6.toNatClampNeg n7) l_stack else none else none else none else none else none else none else none
def rm_X1_tells : Room := { frames := 1, cells := 0, slots := 0, locals := 22 }
set_option maxRecDepth 100000 in
set_option maxHeartbeats 4000000 in
theorem j_X1_tells_177 {J : Jt} {Z : Zt} {a0 : Nat → Nat} {l_code : Nat → Int32} {l_length : Int32} {n1 : Int32} {n2 : Int32} {n3 : Int32} {n4 : Int32} {n5 : Int32} {n6 : Int32} {n7 : Int32} {r : Int32} {o_l_values : Nat → Int32} {o_l_stack : Nat → Int32} (C : Cx J Z cX1_tells 11 RX1 (some .int) rm_X1_tells) (E : Ez J Z 0 0 (some (.int r)) (cs_X1 J.2.2.1 a0 l_code o_l_values o_l_stack l_length)) : ∀ (l_values : Nat → Int32) (l_stack : Nat → Int32), f_X1_tells_177 l_code l_length n1 n2 n3 n4 n5 n6 n7 l_values l_stack = some (r, o_l_values, o_l_stack) → G J Z 0 0 (cs_X1 J.2.2.1 a0 l_code l_values l_stack l_length) 11 [(0, .ref (a0 0))] 177 [] := by
  intro l_values l_stack h
  unfold f_X1_tells_177 at h
  refine g_aload_n (pc := 177) C 0 rfl dX1_tells_177 ?_
  refine g_get (pc := 178) C FOK_X1 0 rfl rfl 2 (by decide) kw_337 rfl dX1_tells_178 ?_
  refine g_iconst (pc := 181) C dX1_tells_181 ci_0 ?_
  obtain ⟨hi, h⟩ := ix_of h
  refine g_iald (pc := 182) C 3 rfl hi dX1_tells_182 ?_
  refine g_if_ge (pc := 183) C (tgt := 190) dX1_tells_183 rfl h (fun h => ?_) (fun h => ?_)
  · refine g_aload_n (pc := 190) C 0 rfl dX1_tells_190 ?_
    refine g_get (pc := 191) C FOK_X1 0 rfl rfl 2 (by decide) kw_337 rfl dX1_tells_191 ?_
    refine g_iconst (pc := 194) C dX1_tells_194 ci_0 ?_
    obtain ⟨hi, h⟩ := ix_of h
    refine g_iald (pc := 195) C 3 rfl hi dX1_tells_195 ?_
    refine g_bipush (pc := 196) C dX1_tells_196 cb_8 ?_
    refine g_icmp_le (pc := 198) C (tgt := 206) dX1_tells_198 rfl h (fun h => ?_) (fun h => ?_)
    · refine g_aload_n (pc := 206) C 0 rfl dX1_tells_206 ?_
      refine g_get (pc := 207) C FOK_X1 0 rfl rfl 2 (by decide) kw_337 rfl dX1_tells_207 ?_
      refine g_iconst (pc := 210) C dX1_tells_210 ci_0 ?_
      obtain ⟨hi, h⟩ := ix_of h
      refine g_iald (pc := 211) C 3 rfl hi dX1_tells_211 ?_
      cases h
      exact g_iret C E dX1_tells_212
    · refine g_bipush (pc := 201) C dX1_tells_201 cb_8 ?_
      refine g_goto (pc := 203) C (tgt := 212) dX1_tells_203 rfl ?_
      cases h
      exact g_iret C E dX1_tells_212
  · refine g_iconst (pc := 186) C dX1_tells_186 ci_0 ?_
    refine g_goto (pc := 187) C (tgt := 212) dX1_tells_187 rfl ?_
    cases h
    exact g_iret C E dX1_tells_212
set_option maxRecDepth 100000 in
set_option maxHeartbeats 4000000 in
theorem j_X1_tells_60 {J : Jt} {Z : Zt} {a0 : Nat → Nat} {l_code : Nat → Int32} {l_length : Int32} {n1 : Int32} {n2 : Int32} {n3 : Int32} {n4 : Int32} {n5 : Int32} {n6 : Int32} {n7 : Int32} {r : Int32} {o_l_values : Nat → Int32} {o_l_stack : Nat → Int32} (C : Cx J Z cX1_tells 11 RX1 (some .int) rm_X1_tells) (E : Ez J Z 0 0 (some (.int r)) (cs_X1 J.2.2.1 a0 l_code o_l_values o_l_stack l_length)) : ∀ (n : Nat) (x8 : Int32) (x9 : Int32) (l_values : Nat → Int32) (l_stack : Nat → Int32), f_X1_tells_60 l_code l_length n1 n2 n3 n4 n5 n6 n7 n x8 x9 l_values l_stack = some (r, o_l_values, o_l_stack) → G J Z 0 0 (cs_X1 J.2.2.1 a0 l_code l_values l_stack l_length) 11 [(0, .ref (a0 0)), (8, .int x8), (9, .int x9)] 60 [] := by
  intro n
  induction n with
  | zero =>
    intro x8 x9 l_values l_stack h
    rw [f_X1_tells_60] at h
    cases h
  | succ n ih =>
    intro x8 x9 l_values l_stack h
    rw [f_X1_tells_60] at h
    refine g_iload (pc := 60) C 2 rfl dX1_tells_60 ?_
    refine g_aload_n (pc := 62) C 0 rfl dX1_tells_62 ?_
    refine g_get (pc := 63) C FOK_X1 0 rfl rfl 3 (by decide) kw_338 rfl dX1_tells_63 ?_
    refine g_icmp_ge (pc := 66) C (tgt := 177) dX1_tells_66 rfl h (fun h => ?_) (fun h => ?_)
    · refine g_lv [0] rfl ?_
      exact j_X1_tells_177 C E  l_values l_stack h
    · refine g_iload (pc := 69) C 2 rfl dX1_tells_69 ?_
      refine g_sipush (pc := 71) C dX1_tells_71 cs_150 ?_
      refine g_icmp_ge (pc := 74) C (tgt := 177) dX1_tells_74 rfl h (fun h => ?_) (fun h => ?_)
      · refine g_lv [0] rfl ?_
        exact j_X1_tells_177 C E  l_values l_stack h
      · refine g_aload_n (pc := 77) C 0 rfl dX1_tells_77 ?_
        refine g_get (pc := 78) C FOK_X1 0 rfl rfl 0 (by decide) kw_335 rfl dX1_tells_78 ?_
        refine g_iload (pc := 81) C 2 rfl dX1_tells_81 ?_
        obtain ⟨hi, h⟩ := ix_of h
        refine g_iald (pc := 83) C 1 rfl hi dX1_tells_83 ?_
        refine g_istore (pc := 84) C [(10, .int (l_code x9.toNatClampNeg)), (0, .ref (a0 0)), (8, .int x8), (9, .int x9)] dX1_tells_84 (by decide) rfl ?_
        refine g_iload (pc := 86) C 0 rfl dX1_tells_86 ?_
        refine g_bipush (pc := 88) C dX1_tells_88 cb_m7 ?_
        refine g_icmp_lt (pc := 90) C (tgt := 132) dX1_tells_90 rfl h (fun h => ?_) (fun h => ?_)
        · refine g_iload (pc := 132) C 2 rfl dX1_tells_132 ?_
          refine g_iconst (pc := 134) C dX1_tells_134 ci_2 ?_
          refine g_icmp_lt (pc := 135) C (tgt := 171) dX1_tells_135 rfl h (fun h => ?_) (fun h => ?_)
          · refine g_iinc (pc := 171) C (j := 3) [(9, .int (x9 + 1)), (10, .int (l_code x9.toNatClampNeg)), (0, .ref (a0 0)), (8, .int x8)] dX1_tells_171 rfl (ii_1 _) (by decide) rfl ?_
            refine g_goto (pc := 174) C (tgt := 60) dX1_tells_174 rfl ?_
            refine g_lv [2, 3, 0] rfl ?_
            exact ih x8 (x9 + 1) l_values l_stack h
          · refine g_iinc (pc := 138) C (j := 2) [(8, .int (x8 + (-1))), (10, .int (l_code x9.toNatClampNeg)), (0, .ref (a0 0)), (9, .int x9)] dX1_tells_138 rfl (ii_m1 _) (by decide) rfl ?_
            refine g_aload_n (pc := 141) C 2 rfl dX1_tells_141 ?_
            refine g_get (pc := 142) C FOK_X1 0 rfl rfl 2 (by decide) kw_337 rfl dX1_tells_142 ?_
            refine g_iload (pc := 145) C 0 rfl dX1_tells_145 ?_
            refine g_iconst (pc := 147) C dX1_tells_147 ci_1 ?_
            refine g_isub (pc := 148) C dX1_tells_148 ?_
            refine g_iload (pc := 149) C 1 rfl dX1_tells_149 ?_
            refine g_aload_n (pc := 151) C 2 rfl dX1_tells_151 ?_
            refine g_get (pc := 152) C FOK_X1 0 rfl rfl 2 (by decide) kw_337 rfl dX1_tells_152 ?_
            refine g_iload (pc := 155) C 0 rfl dX1_tells_155 ?_
            refine g_iconst (pc := 157) C dX1_tells_157 ci_1 ?_
            refine g_isub (pc := 158) C dX1_tells_158 ?_
            obtain ⟨hi, h⟩ := ix_of h
            refine g_iald (pc := 159) C 3 rfl hi dX1_tells_159 ?_
            refine g_aload_n (pc := 160) C 2 rfl dX1_tells_160 ?_
            refine g_get (pc := 161) C FOK_X1 0 rfl rfl 2 (by decide) kw_337 rfl dX1_tells_161 ?_
            refine g_iload (pc := 164) C 0 rfl dX1_tells_164 ?_
            obtain ⟨hi, h⟩ := ix_of h
            refine g_iald (pc := 166) C 3 rfl hi dX1_tells_166 ?_
            obtain ⟨v1, hc, h⟩ := b1_of h
            refine g_callS (pc := 167) C (w' := cs_X1 J.2.2.1 a0 l_code l_values l_stack l_length) (As := [.int (l_code x9.toNatClampNeg), .int (l_stack ((x8 + (-1)) - 1).toNatClampNeg), .int (l_stack (x8 + (-1)).toNatClampNeg)]) (st := [.int ((x8 + (-1)) - 1), .ref (a0 3)]) (t_X1_joined hc) Sub.nil kw_903 kw_904 kw_93 hs_X1_joined kw_905 rfl (Nat.le_of_ble_eq_true rfl) (Nat.le_of_ble_eq_true rfl) (Nat.le_of_ble_eq_true rfl) (Nat.le_of_ble_eq_true rfl) (Nat.le_of_ble_eq_true rfl) dX1_tells_167 ?_
            obtain ⟨hi, h⟩ := ix_of h
            refine g_iast (pc := 170) C (w' := cs_X1 J.2.2.1 a0 l_code l_values (upd l_stack ((x8 + (-1)) - 1).toNatClampNeg v1) l_length) 3 rfl hi dX1_tells_170 rfl ?_
            refine g_iinc (pc := 171) C (j := 3) [(9, .int (x9 + 1)), (8, .int (x8 + (-1))), (10, .int (l_code x9.toNatClampNeg)), (0, .ref (a0 0))] dX1_tells_171 rfl (ii_1 _) (by decide) rfl ?_
            refine g_goto (pc := 174) C (tgt := 60) dX1_tells_174 rfl ?_
            refine g_lv [3, 1, 0] rfl ?_
            exact ih (x8 + (-1)) (x9 + 1) l_values (upd l_stack ((x8 + (-1)) - 1).toNatClampNeg v1) h
        · refine g_iload (pc := 93) C 2 rfl dX1_tells_93 ?_
          refine g_bipush (pc := 95) C dX1_tells_95 cb_32 ?_
          refine g_icmp_ge (pc := 97) C (tgt := 171) dX1_tells_97 rfl h (fun h => ?_) (fun h => ?_)
          · refine g_iinc (pc := 171) C (j := 3) [(9, .int (x9 + 1)), (10, .int (l_code x9.toNatClampNeg)), (0, .ref (a0 0)), (8, .int x8)] dX1_tells_171 rfl (ii_1 _) (by decide) rfl ?_
            refine g_goto (pc := 174) C (tgt := 60) dX1_tells_174 rfl ?_
            refine g_lv [2, 3, 0] rfl ?_
            exact ih x8 (x9 + 1) l_values l_stack h
          · refine g_aload_n (pc := 100) C 1 rfl dX1_tells_100 ?_
            refine g_get (pc := 101) C FOK_X1 0 rfl rfl 2 (by decide) kw_337 rfl dX1_tells_101 ?_
            refine g_iload (pc := 104) C 2 rfl dX1_tells_104 ?_
            refine g_iload (pc := 106) C 0 rfl dX1_tells_106 ?_
            refine g_if_lt (pc := 108) C (tgt := 116) dX1_tells_108 rfl h (fun h => ?_) (fun h => ?_)
            · refine g_aload_n (pc := 116) C 1 rfl dX1_tells_116 ?_
              refine g_get (pc := 117) C FOK_X1 0 rfl rfl 1 (by decide) kw_336 rfl dX1_tells_117 ?_
              refine g_iconst (pc := 120) C dX1_tells_120 ci_m1 ?_
              refine g_iload (pc := 121) C 0 rfl dX1_tells_121 ?_
              refine g_isub (pc := 123) C dX1_tells_123 ?_
              obtain ⟨hi, h⟩ := ix_of h
              refine g_iald (pc := 124) C 2 rfl hi dX1_tells_124 ?_
              obtain ⟨hi, h⟩ := ix_of h
              refine g_iast (pc := 125) C (w' := cs_X1 J.2.2.1 a0 l_code l_values (upd l_stack x8.toNatClampNeg (l_values ((-1) - (l_code x9.toNatClampNeg)).toNatClampNeg)) l_length) 3 rfl hi dX1_tells_125 rfl ?_
              refine g_iinc (pc := 126) C (j := 2) [(8, .int (x8 + 1)), (10, .int (l_code x9.toNatClampNeg)), (0, .ref (a0 0)), (9, .int x9)] dX1_tells_126 rfl (ii_1 _) (by decide) rfl ?_
              refine g_goto (pc := 129) C (tgt := 171) dX1_tells_129 rfl ?_
              refine g_iinc (pc := 171) C (j := 3) [(9, .int (x9 + 1)), (8, .int (x8 + 1)), (10, .int (l_code x9.toNatClampNeg)), (0, .ref (a0 0))] dX1_tells_171 rfl (ii_1 _) (by decide) rfl ?_
              refine g_goto (pc := 174) C (tgt := 60) dX1_tells_174 rfl ?_
              refine g_lv [3, 1, 0] rfl ?_
              exact ih (x8 + 1) (x9 + 1) l_values (upd l_stack x8.toNatClampNeg (l_values ((-1) - (l_code x9.toNatClampNeg)).toNatClampNeg)) h
            · refine g_iload (pc := 111) C 0 rfl dX1_tells_111 ?_
              refine g_goto (pc := 113) C (tgt := 125) dX1_tells_113 rfl ?_
              obtain ⟨hi, h⟩ := ix_of h
              refine g_iast (pc := 125) C (w' := cs_X1 J.2.2.1 a0 l_code l_values (upd l_stack x8.toNatClampNeg (l_code x9.toNatClampNeg)) l_length) 3 rfl hi dX1_tells_125 rfl ?_
              refine g_iinc (pc := 126) C (j := 2) [(8, .int (x8 + 1)), (10, .int (l_code x9.toNatClampNeg)), (0, .ref (a0 0)), (9, .int x9)] dX1_tells_126 rfl (ii_1 _) (by decide) rfl ?_
              refine g_goto (pc := 129) C (tgt := 171) dX1_tells_129 rfl ?_
              refine g_iinc (pc := 171) C (j := 3) [(9, .int (x9 + 1)), (8, .int (x8 + 1)), (10, .int (l_code x9.toNatClampNeg)), (0, .ref (a0 0))] dX1_tells_171 rfl (ii_1 _) (by decide) rfl ?_
              refine g_goto (pc := 174) C (tgt := 60) dX1_tells_174 rfl ?_
              refine g_lv [3, 1, 0] rfl ?_
              exact ih (x8 + 1) (x9 + 1) l_values (upd l_stack x8.toNatClampNeg (l_code x9.toNatClampNeg)) h
set_option maxRecDepth 100000 in
set_option maxHeartbeats 4000000 in
theorem t_X1_tells {J : Jt} {a0 : Nat → Nat} {l_code : Nat → Int32} {l_values : Nat → Int32} {l_stack : Nat → Int32} {l_length : Int32} {n1 : Int32} {n2 : Int32} {n3 : Int32} {n4 : Int32} {n5 : Int32} {n6 : Int32} {n7 : Int32} {r : Int32} {o_l_values : Nat → Int32} {o_l_stack : Nat → Int32} (h : f_X1_tells l_code l_values l_stack l_length n1 n2 n3 n4 n5 n6 n7 = some (r, o_l_values, o_l_stack)) : Mt J yX1_tells cX1_tells 11 (some .int) rm_X1_tells [.ref (a0 0), .int n1, .int n2, .int n3, .int n4, .int n5, .int n6, .int n7] (cs_X1 J.2.2.1 a0 l_code l_values l_stack l_length) (some (.int r)) (cs_X1 J.2.2.1 a0 l_code o_l_values o_l_stack l_length) := by
  refine Mt_of (own := RX1) (by decide) rfl (Nat.le_of_ble_eq_true rfl) rfl (fun Z C E => ?_)
  unfold f_X1_tells at h
  show G J Z 0 0 (cs_X1 J.2.2.1 a0 l_code l_values l_stack l_length) 11 [(0, .ref (a0 0)), (1, .int n1), (2, .int n2), (3, .int n3), (4, .int n4), (5, .int n5), (6, .int n6), (7, .int n7)] 0 []
  refine g_aload_n (pc := 0) C 0 rfl dX1_tells_0 ?_
  refine g_get (pc := 1) C FOK_X1 0 rfl rfl 1 (by decide) kw_336 rfl dX1_tells_1 ?_
  refine g_iconst (pc := 4) C dX1_tells_4 ci_0 ?_
  refine g_iload_n (pc := 5) C 1 rfl dX1_tells_5 ?_
  obtain ⟨hi, h⟩ := ix_of h
  refine g_iast (pc := 6) C (w' := cs_X1 J.2.2.1 a0 l_code (upd l_values 0.toNatClampNeg n1) l_stack l_length) 2 rfl hi dX1_tells_6 rfl ?_
  refine g_aload_n (pc := 7) C 0 rfl dX1_tells_7 ?_
  refine g_get (pc := 8) C FOK_X1 0 rfl rfl 1 (by decide) kw_336 rfl dX1_tells_8 ?_
  refine g_iconst (pc := 11) C dX1_tells_11 ci_1 ?_
  refine g_iload_n (pc := 12) C 2 rfl dX1_tells_12 ?_
  obtain ⟨hi, h⟩ := ix_of h
  refine g_iast (pc := 13) C (w' := cs_X1 J.2.2.1 a0 l_code (upd (upd l_values 0.toNatClampNeg n1) 1.toNatClampNeg n2) l_stack l_length) 2 rfl hi dX1_tells_13 rfl ?_
  refine g_aload_n (pc := 14) C 0 rfl dX1_tells_14 ?_
  refine g_get (pc := 15) C FOK_X1 0 rfl rfl 1 (by decide) kw_336 rfl dX1_tells_15 ?_
  refine g_iconst (pc := 18) C dX1_tells_18 ci_2 ?_
  refine g_iload_n (pc := 19) C 3 rfl dX1_tells_19 ?_
  obtain ⟨hi, h⟩ := ix_of h
  refine g_iast (pc := 20) C (w' := cs_X1 J.2.2.1 a0 l_code (upd (upd (upd l_values 0.toNatClampNeg n1) 1.toNatClampNeg n2) 2.toNatClampNeg n3) l_stack l_length) 2 rfl hi dX1_tells_20 rfl ?_
  refine g_aload_n (pc := 21) C 0 rfl dX1_tells_21 ?_
  refine g_get (pc := 22) C FOK_X1 0 rfl rfl 1 (by decide) kw_336 rfl dX1_tells_22 ?_
  refine g_iconst (pc := 25) C dX1_tells_25 ci_3 ?_
  refine g_iload (pc := 26) C 4 rfl dX1_tells_26 ?_
  obtain ⟨hi, h⟩ := ix_of h
  refine g_iast (pc := 28) C (w' := cs_X1 J.2.2.1 a0 l_code (upd (upd (upd (upd l_values 0.toNatClampNeg n1) 1.toNatClampNeg n2) 2.toNatClampNeg n3) 3.toNatClampNeg n4) l_stack l_length) 2 rfl hi dX1_tells_28 rfl ?_
  refine g_aload_n (pc := 29) C 0 rfl dX1_tells_29 ?_
  refine g_get (pc := 30) C FOK_X1 0 rfl rfl 1 (by decide) kw_336 rfl dX1_tells_30 ?_
  refine g_iconst (pc := 33) C dX1_tells_33 ci_4 ?_
  refine g_iload (pc := 34) C 5 rfl dX1_tells_34 ?_
  obtain ⟨hi, h⟩ := ix_of h
  refine g_iast (pc := 36) C (w' := cs_X1 J.2.2.1 a0 l_code (upd (upd (upd (upd (upd l_values 0.toNatClampNeg n1) 1.toNatClampNeg n2) 2.toNatClampNeg n3) 3.toNatClampNeg n4) 4.toNatClampNeg n5) l_stack l_length) 2 rfl hi dX1_tells_36 rfl ?_
  refine g_aload_n (pc := 37) C 0 rfl dX1_tells_37 ?_
  refine g_get (pc := 38) C FOK_X1 0 rfl rfl 1 (by decide) kw_336 rfl dX1_tells_38 ?_
  refine g_iconst (pc := 41) C dX1_tells_41 ci_5 ?_
  refine g_iload (pc := 42) C 6 rfl dX1_tells_42 ?_
  obtain ⟨hi, h⟩ := ix_of h
  refine g_iast (pc := 44) C (w' := cs_X1 J.2.2.1 a0 l_code (upd (upd (upd (upd (upd (upd l_values 0.toNatClampNeg n1) 1.toNatClampNeg n2) 2.toNatClampNeg n3) 3.toNatClampNeg n4) 4.toNatClampNeg n5) 5.toNatClampNeg n6) l_stack l_length) 2 rfl hi dX1_tells_44 rfl ?_
  refine g_aload_n (pc := 45) C 0 rfl dX1_tells_45 ?_
  refine g_get (pc := 46) C FOK_X1 0 rfl rfl 1 (by decide) kw_336 rfl dX1_tells_46 ?_
  refine g_bipush (pc := 49) C dX1_tells_49 cb_6 ?_
  refine g_iload (pc := 51) C 7 rfl dX1_tells_51 ?_
  obtain ⟨hi, h⟩ := ix_of h
  refine g_iast (pc := 53) C (w' := cs_X1 J.2.2.1 a0 l_code (upd (upd (upd (upd (upd (upd (upd l_values 0.toNatClampNeg n1) 1.toNatClampNeg n2) 2.toNatClampNeg n3) 3.toNatClampNeg n4) 4.toNatClampNeg n5) 5.toNatClampNeg n6) 6.toNatClampNeg n7) l_stack l_length) 2 rfl hi dX1_tells_53 rfl ?_
  refine g_iconst (pc := 54) C dX1_tells_54 ci_0 ?_
  refine g_istore (pc := 55) C [(8, .int 0), (0, .ref (a0 0)), (1, .int n1), (2, .int n2), (3, .int n3), (4, .int n4), (5, .int n5), (6, .int n6), (7, .int n7)] dX1_tells_55 (by decide) rfl ?_
  refine g_iconst (pc := 57) C dX1_tells_57 ci_0 ?_
  refine g_istore (pc := 58) C [(9, .int 0), (8, .int 0), (0, .ref (a0 0)), (1, .int n1), (2, .int n2), (3, .int n3), (4, .int n4), (5, .int n5), (6, .int n6), (7, .int n7)] dX1_tells_58 (by decide) rfl ?_
  refine g_lv [2, 1, 0] rfl ?_
  exact j_X1_tells_60 C E  FU 0 0 (upd (upd (upd (upd (upd (upd (upd l_values 0.toNatClampNeg n1) 1.toNatClampNeg n2) 2.toNatClampNeg n3) 3.toNatClampNeg n4) 4.toNatClampNeg n5) 5.toNatClampNeg n6) 6.toNatClampNeg n7) l_stack h
noncomputable def f_X2_readBed (p_beds : Int32) (p_far : Nat → Int32) (t_bytes : Nat → Int32) (t_end : Int32) (t_at : Int32) (t_start : Int32) (t_faultKind : Int32) (t_faultPlace : Int32) : Option (Int32 × (Nat → Int32) × Int32 × Int32 × Int32 × Int32) := if p_beds < 6 then b5 (f_X7_number t_bytes t_end t_at t_start t_faultKind t_faultPlace 0 30) (fun v1 c2 c3 c4 c5 => if ixb p_beds 6 then some (p_beds + 1, upd p_far p_beds.toNatClampNeg v1, c2, c3, c4, c5) else none) else b2 (f_X7_blame t_start t_faultKind t_faultPlace 3) (fun c6 c7 => some (p_beds, p_far, t_at, t_start, c6, c7))
def rm_X2_readBed : Room := { frames := 2, cells := 0, slots := 0, locals := 63 }
set_option maxRecDepth 100000 in
set_option maxHeartbeats 4000000 in
theorem t_X2_readBed {J : Jt} {a0 : Nat → Nat} {a1 : Nat → Nat} {p_beds : Int32} {p_letters : Int32} {p_readers : Int32} {p_far : Nat → Int32} {p_drain : Nat → Int32} {p_length : Nat → Int32} {p_words : Nat → Int32} {p_home : Nat → Int32} {t_bytes : Nat → Int32} {t_held : Int32} {t_end : Int32} {t_at : Int32} {t_start : Int32} {t_faultKind : Int32} {t_faultPlace : Int32} {o_p_beds : Int32} {o_p_far : Nat → Int32} {o_t_at : Int32} {o_t_start : Int32} {o_t_faultKind : Int32} {o_t_faultPlace : Int32} (h : f_X2_readBed p_beds p_far t_bytes t_end t_at t_start t_faultKind t_faultPlace = some (o_p_beds, o_p_far, o_t_at, o_t_start, o_t_faultKind, o_t_faultPlace)) : Mt J yX2_readBed cX2_readBed 2 none rm_X2_readBed [.ref (a0 0), .ref (a1 0)] (cs_X2 J.2.2.1 a0 p_beds p_letters p_readers p_far p_drain p_length p_words p_home ++ cs_X7 J.2.2.1 a1 t_bytes t_held t_end t_at t_start t_faultKind t_faultPlace) none (cs_X2 J.2.2.1 a0 o_p_beds p_letters p_readers o_p_far p_drain p_length p_words p_home ++ cs_X7 J.2.2.1 a1 t_bytes t_held t_end o_t_at o_t_start o_t_faultKind o_t_faultPlace) := by
  refine Mt_of (own := RX2) (by decide) rfl (Nat.le_of_ble_eq_true rfl) rfl (fun Z C E => ?_)
  unfold f_X2_readBed at h
  show G J Z 0 0 (cs_X2 J.2.2.1 a0 p_beds p_letters p_readers p_far p_drain p_length p_words p_home ++ cs_X7 J.2.2.1 a1 t_bytes t_held t_end t_at t_start t_faultKind t_faultPlace) 2 [(0, .ref (a0 0)), (1, .ref (a1 0))] 0 []
  refine g_aload_n (pc := 0) C 0 rfl dX2_readBed_0 ?_
  refine g_get (pc := 1) C FOK_X2 0 rfl rfl 0 (by decide) kw_275 rfl dX2_readBed_1 ?_
  refine g_bipush (pc := 4) C dX2_readBed_4 cb_6 ?_
  refine g_icmp_lt (pc := 6) C (tgt := 15) dX2_readBed_6 rfl h (fun h => ?_) (fun h => ?_)
  · refine g_aload_n (pc := 15) C 0 rfl dX2_readBed_15 ?_
    refine g_get (pc := 16) C FOK_X2 0 rfl rfl 3 (by decide) kw_291 rfl dX2_readBed_16 ?_
    refine g_aload_n (pc := 19) C 0 rfl dX2_readBed_19 ?_
    refine g_get (pc := 20) C FOK_X2 0 rfl rfl 0 (by decide) kw_275 rfl dX2_readBed_20 ?_
    refine g_aload_n (pc := 23) C 1 rfl dX2_readBed_23 ?_
    refine g_iconst (pc := 24) C dX2_readBed_24 ci_0 ?_
    refine g_bipush (pc := 25) C dX2_readBed_25 cb_30 ?_
    obtain ⟨v1, c2, c3, c4, c5, hc, h⟩ := b5_of h
    refine g_callV (pc := 27) C (w' := cs_X2 J.2.2.1 a0 p_beds p_letters p_readers p_far p_drain p_length p_words p_home ++ cs_X7 J.2.2.1 a1 t_bytes t_held t_end c2 c3 c4 c5) (As := [.int 0, .int 30]) (st := [.int p_beds, .ref (a0 1)]) (ci := 7) (q0 := 6) rfl rfl (t_X7_number hc) (Sub.gen [6, 7] [0, 1, 2, 3, 4, 5] [0, 1, 2, 3, 4, 5, 6, 7] rfl (by decide) rfl (by decide) (by decide) rfl (by decide)) kw_699 kw_700 kw_701 kw_87 hy_X7_number kw_702 rfl (Nat.le_of_ble_eq_true rfl) (Nat.le_of_ble_eq_true rfl) (Nat.le_of_ble_eq_true rfl) (Nat.le_of_ble_eq_true rfl) (Nat.le_of_ble_eq_true rfl) dX2_readBed_27 ?_
    obtain ⟨hi, h⟩ := ix_of h
    refine g_iast (pc := 30) C (w' := cs_X2 J.2.2.1 a0 p_beds p_letters p_readers (upd p_far p_beds.toNatClampNeg v1) p_drain p_length p_words p_home ++ cs_X7 J.2.2.1 a1 t_bytes t_held t_end c2 c3 c4 c5) 1 rfl hi dX2_readBed_30 rfl ?_
    refine g_aload_n (pc := 31) C 0 rfl dX2_readBed_31 ?_
    refine g_dup (pc := 32) C dX2_readBed_32 rfl ?_
    refine g_get (pc := 33) C FOK_X2 0 rfl rfl 0 (by decide) kw_275 rfl dX2_readBed_33 ?_
    refine g_iconst (pc := 36) C dX2_readBed_36 ci_1 ?_
    refine g_iadd (pc := 37) C dX2_readBed_37 ?_
    refine g_put (pc := 38) C (w' := cs_X2 J.2.2.1 a0 (p_beds + 1) p_letters p_readers (upd p_far p_beds.toNatClampNeg v1) p_drain p_length p_words p_home ++ cs_X7 J.2.2.1 a1 t_bytes t_held t_end c2 c3 c4 c5) FOK_X2 0 rfl rfl 0 (by decide) kw_275 rfl rfl rfl (Nat.le_of_ble_eq_true rfl) dX2_readBed_38 rfl ?_
    cases h
    exact g_vret C E dX2_readBed_41
  · refine g_aload_n (pc := 9) C 1 rfl dX2_readBed_9 ?_
    refine g_iconst (pc := 10) C dX2_readBed_10 ci_3 ?_
    obtain ⟨c6, c7, hc, h⟩ := b2_of h
    refine g_callV (pc := 11) C (w' := cs_X2 J.2.2.1 a0 p_beds p_letters p_readers p_far p_drain p_length p_words p_home ++ cs_X7 J.2.2.1 a1 t_bytes t_held t_end t_at t_start c6 c7) (As := [.int 3]) (st := []) (ci := 7) (q0 := 6) rfl rfl (t_X7_blame hc) (Sub.gen [6, 7] [0, 1, 2, 3, 4, 5] [0, 1, 2, 3, 4, 5, 6, 7] rfl (by decide) rfl (by decide) (by decide) rfl (by decide)) kw_695 kw_696 kw_697 kw_87 hy_X7_blame kw_698 rfl (Nat.le_of_ble_eq_true rfl) (Nat.le_of_ble_eq_true rfl) (Nat.le_of_ble_eq_true rfl) (Nat.le_of_ble_eq_true rfl) (Nat.le_of_ble_eq_true rfl) dX2_readBed_11 ?_
    cases h
    exact g_vret C E dX2_readBed_14
noncomputable def f_X2_readLetter_94 (p_beds : Int32) (t_bytes : Nat → Int32) (t_end : Int32) (x2 : Int32) (p_letters : Int32) (p_drain : Nat → Int32) (p_length : Nat → Int32) (p_words : Nat → Int32) (t_at : Int32) (t_start : Int32) (t_faultKind : Int32) (t_faultPlace : Int32) : Option (Int32 × (Nat → Int32) × (Nat → Int32) × (Nat → Int32) × Int32 × Int32 × Int32 × Int32) := if ixb p_letters 6 then some (p_letters + 1, p_drain, upd p_length p_letters.toNatClampNeg x2, p_words, t_at, t_start, t_faultKind, t_faultPlace) else none
noncomputable def f_X2_readLetter_74 (p_beds : Int32) (t_bytes : Nat → Int32) (t_end : Int32) (x2 : Int32) (p_letters : Int32) (p_drain : Nat → Int32) (p_length : Nat → Int32) (p_words : Nat → Int32) (t_at : Int32) (t_start : Int32) (t_faultKind : Int32) (t_faultPlace : Int32) : Option (Int32 × (Nat → Int32) × (Nat → Int32) × (Nat → Int32) × Int32 × Int32 × Int32 × Int32) := b3 (f_X7_isAtNumber t_bytes t_end t_at t_start t_faultKind) (fun v1 c2 c3 => if v1 = 0 then f_X2_readLetter_94 p_beds t_bytes t_end x2 p_letters p_drain p_length p_words c2 c3 t_faultKind t_faultPlace else b5 (f_X7_number t_bytes t_end c2 c3 t_faultKind t_faultPlace 0 15) (fun v4 c5 c6 c7 c8 => b2 (f_X7_blame c6 c7 c8 3) (fun c9 c10 => f_X2_readLetter_94 p_beds t_bytes t_end x2 p_letters p_drain p_length p_words c5 c6 c9 c10)))
noncomputable def f_X2_readLetter_37 (p_beds : Int32) (t_bytes : Nat → Int32) (t_end : Int32) : Nat → Int32 → Int32 → (Nat → Int32) → (Nat → Int32) → (Nat → Int32) → Int32 → Int32 → Int32 → Int32 → Option (Int32 × (Nat → Int32) × (Nat → Int32) × (Nat → Int32) × Int32 × Int32 × Int32 × Int32)
  | 0, _, _, _, _, _, _, _, _, _ => none
  | n + 1, x2, p_letters, p_drain, p_length, p_words, t_at, t_start, t_faultKind, t_faultPlace => b5 (f_X7_number t_bytes t_end t_at t_start t_faultKind t_faultPlace 0 15) (fun v11 c12 c13 c14 c15 => if ixb ((p_letters * 8) + x2) 48 then if 8 ≤ (x2 + 1) then f_X2_readLetter_74 p_beds t_bytes t_end (x2 + 1) p_letters p_drain p_length (upd p_words ((p_letters * 8) + x2).toNatClampNeg v11) c12 c13 c14 c15 else b3 (f_X7_isAtNumber t_bytes t_end c12 c13 c14) (fun v16 c17 c18 => if v16 = 0 then f_X2_readLetter_74 p_beds t_bytes t_end (x2 + 1) p_letters p_drain p_length (upd p_words ((p_letters * 8) + x2).toNatClampNeg v11) c17 c18 c14 c15 else f_X2_readLetter_37 p_beds t_bytes t_end n (x2 + 1) p_letters p_drain p_length (upd p_words ((p_letters * 8) + x2).toNatClampNeg v11) c17 c18 c14 c15) else none)
noncomputable def f_X2_readLetter (p_beds : Int32) (p_letters : Int32) (p_drain : Nat → Int32) (p_length : Nat → Int32) (p_words : Nat → Int32) (t_bytes : Nat → Int32) (t_end : Int32) (t_at : Int32) (t_start : Int32) (t_faultKind : Int32) (t_faultPlace : Int32) : Option (Int32 × (Nat → Int32) × (Nat → Int32) × (Nat → Int32) × Int32 × Int32 × Int32 × Int32) := if p_letters < 6 then b5 (f_X7_number t_bytes t_end t_at t_start t_faultKind t_faultPlace 0 (p_beds - 1)) (fun v19 c20 c21 c22 c23 => if ixb p_letters 6 then f_X2_readLetter_37 p_beds t_bytes t_end FU 0 p_letters (upd p_drain p_letters.toNatClampNeg v19) p_length p_words c20 c21 c22 c23 else none) else b2 (f_X7_blame t_start t_faultKind t_faultPlace 3) (fun c24 c25 => some (p_letters, p_drain, p_length, p_words, t_at, t_start, c24, c25))
def rm_X2_readLetter : Room := { frames := 2, cells := 0, slots := 0, locals := 63 }
set_option maxRecDepth 100000 in
set_option maxHeartbeats 4000000 in
theorem j_X2_readLetter_94 {J : Jt} {Z : Zt} {a0 : Nat → Nat} {a1 : Nat → Nat} {p_beds : Int32} {p_readers : Int32} {p_far : Nat → Int32} {p_home : Nat → Int32} {t_bytes : Nat → Int32} {t_held : Int32} {t_end : Int32} {o_p_letters : Int32} {o_p_drain : Nat → Int32} {o_p_length : Nat → Int32} {o_p_words : Nat → Int32} {o_t_at : Int32} {o_t_start : Int32} {o_t_faultKind : Int32} {o_t_faultPlace : Int32} (C : Cx J Z cX2_readLetter 3 RX2 none rm_X2_readLetter) (E : Ez J Z 0 0 none (cs_X2 J.2.2.1 a0 p_beds o_p_letters p_readers p_far o_p_drain o_p_length o_p_words p_home ++ cs_X7 J.2.2.1 a1 t_bytes t_held t_end o_t_at o_t_start o_t_faultKind o_t_faultPlace)) : ∀ (x2 : Int32) (p_letters : Int32) (p_drain : Nat → Int32) (p_length : Nat → Int32) (p_words : Nat → Int32) (t_at : Int32) (t_start : Int32) (t_faultKind : Int32) (t_faultPlace : Int32), f_X2_readLetter_94 p_beds t_bytes t_end x2 p_letters p_drain p_length p_words t_at t_start t_faultKind t_faultPlace = some (o_p_letters, o_p_drain, o_p_length, o_p_words, o_t_at, o_t_start, o_t_faultKind, o_t_faultPlace) → G J Z 0 0 (cs_X2 J.2.2.1 a0 p_beds p_letters p_readers p_far p_drain p_length p_words p_home ++ cs_X7 J.2.2.1 a1 t_bytes t_held t_end t_at t_start t_faultKind t_faultPlace) 3 [(0, .ref (a0 0)), (2, .int x2)] 94 [] := by
  intro x2 p_letters p_drain p_length p_words t_at t_start t_faultKind t_faultPlace h
  unfold f_X2_readLetter_94 at h
  refine g_aload_n (pc := 94) C 0 rfl dX2_readLetter_94 ?_
  refine g_get (pc := 95) C FOK_X2 0 rfl rfl 5 (by decide) kw_297 rfl dX2_readLetter_95 ?_
  refine g_aload_n (pc := 98) C 0 rfl dX2_readLetter_98 ?_
  refine g_get (pc := 99) C FOK_X2 0 rfl rfl 1 (by decide) kw_281 rfl dX2_readLetter_99 ?_
  refine g_iload_n (pc := 102) C 1 rfl dX2_readLetter_102 ?_
  obtain ⟨hi, h⟩ := ix_of h
  refine g_iast (pc := 103) C (w' := cs_X2 J.2.2.1 a0 p_beds p_letters p_readers p_far p_drain (upd p_length p_letters.toNatClampNeg x2) p_words p_home ++ cs_X7 J.2.2.1 a1 t_bytes t_held t_end t_at t_start t_faultKind t_faultPlace) 3 rfl hi dX2_readLetter_103 rfl ?_
  refine g_aload_n (pc := 104) C 0 rfl dX2_readLetter_104 ?_
  refine g_dup (pc := 105) C dX2_readLetter_105 rfl ?_
  refine g_get (pc := 106) C FOK_X2 0 rfl rfl 1 (by decide) kw_281 rfl dX2_readLetter_106 ?_
  refine g_iconst (pc := 109) C dX2_readLetter_109 ci_1 ?_
  refine g_iadd (pc := 110) C dX2_readLetter_110 ?_
  refine g_put (pc := 111) C (w' := cs_X2 J.2.2.1 a0 p_beds (p_letters + 1) p_readers p_far p_drain (upd p_length p_letters.toNatClampNeg x2) p_words p_home ++ cs_X7 J.2.2.1 a1 t_bytes t_held t_end t_at t_start t_faultKind t_faultPlace) FOK_X2 0 rfl rfl 1 (by decide) kw_281 rfl rfl rfl (Nat.le_of_ble_eq_true rfl) dX2_readLetter_111 rfl ?_
  cases h
  exact g_vret C E dX2_readLetter_114
set_option maxRecDepth 100000 in
set_option maxHeartbeats 4000000 in
theorem j_X2_readLetter_74 {J : Jt} {Z : Zt} {a0 : Nat → Nat} {a1 : Nat → Nat} {p_beds : Int32} {p_readers : Int32} {p_far : Nat → Int32} {p_home : Nat → Int32} {t_bytes : Nat → Int32} {t_held : Int32} {t_end : Int32} {o_p_letters : Int32} {o_p_drain : Nat → Int32} {o_p_length : Nat → Int32} {o_p_words : Nat → Int32} {o_t_at : Int32} {o_t_start : Int32} {o_t_faultKind : Int32} {o_t_faultPlace : Int32} (C : Cx J Z cX2_readLetter 3 RX2 none rm_X2_readLetter) (E : Ez J Z 0 0 none (cs_X2 J.2.2.1 a0 p_beds o_p_letters p_readers p_far o_p_drain o_p_length o_p_words p_home ++ cs_X7 J.2.2.1 a1 t_bytes t_held t_end o_t_at o_t_start o_t_faultKind o_t_faultPlace)) : ∀ (x2 : Int32) (p_letters : Int32) (p_drain : Nat → Int32) (p_length : Nat → Int32) (p_words : Nat → Int32) (t_at : Int32) (t_start : Int32) (t_faultKind : Int32) (t_faultPlace : Int32), f_X2_readLetter_74 p_beds t_bytes t_end x2 p_letters p_drain p_length p_words t_at t_start t_faultKind t_faultPlace = some (o_p_letters, o_p_drain, o_p_length, o_p_words, o_t_at, o_t_start, o_t_faultKind, o_t_faultPlace) → G J Z 0 0 (cs_X2 J.2.2.1 a0 p_beds p_letters p_readers p_far p_drain p_length p_words p_home ++ cs_X7 J.2.2.1 a1 t_bytes t_held t_end t_at t_start t_faultKind t_faultPlace) 3 [(0, .ref (a0 0)), (1, .ref (a1 0)), (2, .int x2)] 74 [] := by
  intro x2 p_letters p_drain p_length p_words t_at t_start t_faultKind t_faultPlace h
  unfold f_X2_readLetter_74 at h
  refine g_aload_n (pc := 74) C 1 rfl dX2_readLetter_74 ?_
  obtain ⟨v1, c2, c3, hc, h⟩ := b3_of h
  refine g_callV (pc := 75) C (w' := cs_X2 J.2.2.1 a0 p_beds p_letters p_readers p_far p_drain p_length p_words p_home ++ cs_X7 J.2.2.1 a1 t_bytes t_held t_end c2 c3 t_faultKind t_faultPlace) (As := []) (st := []) (ci := 7) (q0 := 6) rfl rfl (t_X7_isAtNumber hc) (Sub.gen [6, 7] [0, 1, 2, 3, 4, 5] [0, 1, 2, 3, 4, 5, 6, 7] rfl (by decide) rfl (by decide) (by decide) rfl (by decide)) kw_713 kw_714 kw_715 kw_87 hy_X7_isAtNumber kw_716 rfl (Nat.le_of_ble_eq_true rfl) (Nat.le_of_ble_eq_true rfl) (Nat.le_of_ble_eq_true rfl) (Nat.le_of_ble_eq_true rfl) (Nat.le_of_ble_eq_true rfl) dX2_readLetter_75 ?_
  refine g_if_eq (pc := 78) C (tgt := 94) dX2_readLetter_78 rfl h (fun h => ?_) (fun h => ?_)
  · refine g_lv [0, 2] rfl ?_
    exact j_X2_readLetter_94 C E  x2 p_letters p_drain p_length p_words c2 c3 t_faultKind t_faultPlace h
  · refine g_aload_n (pc := 81) C 1 rfl dX2_readLetter_81 ?_
    refine g_iconst (pc := 82) C dX2_readLetter_82 ci_0 ?_
    refine g_bipush (pc := 83) C dX2_readLetter_83 cb_15 ?_
    obtain ⟨v4, c5, c6, c7, c8, hc, h⟩ := b5_of h
    refine g_callV (pc := 85) C (w' := cs_X2 J.2.2.1 a0 p_beds p_letters p_readers p_far p_drain p_length p_words p_home ++ cs_X7 J.2.2.1 a1 t_bytes t_held t_end c5 c6 c7 c8) (As := [.int 0, .int 15]) (st := []) (ci := 7) (q0 := 6) rfl rfl (t_X7_number hc) (Sub.gen [6, 7] [0, 1, 2, 3, 4, 5] [0, 1, 2, 3, 4, 5, 6, 7] rfl (by decide) rfl (by decide) (by decide) rfl (by decide)) kw_699 kw_700 kw_701 kw_87 hy_X7_number kw_702 rfl (Nat.le_of_ble_eq_true rfl) (Nat.le_of_ble_eq_true rfl) (Nat.le_of_ble_eq_true rfl) (Nat.le_of_ble_eq_true rfl) (Nat.le_of_ble_eq_true rfl) dX2_readLetter_85 ?_
    refine g_pop (pc := 88) C dX2_readLetter_88 rfl ?_
    refine g_aload_n (pc := 89) C 1 rfl dX2_readLetter_89 ?_
    refine g_iconst (pc := 90) C dX2_readLetter_90 ci_3 ?_
    obtain ⟨c9, c10, hc, h⟩ := b2_of h
    refine g_callV (pc := 91) C (w' := cs_X2 J.2.2.1 a0 p_beds p_letters p_readers p_far p_drain p_length p_words p_home ++ cs_X7 J.2.2.1 a1 t_bytes t_held t_end c5 c6 c9 c10) (As := [.int 3]) (st := []) (ci := 7) (q0 := 6) rfl rfl (t_X7_blame hc) (Sub.gen [6, 7] [0, 1, 2, 3, 4, 5] [0, 1, 2, 3, 4, 5, 6, 7] rfl (by decide) rfl (by decide) (by decide) rfl (by decide)) kw_695 kw_696 kw_697 kw_87 hy_X7_blame kw_698 rfl (Nat.le_of_ble_eq_true rfl) (Nat.le_of_ble_eq_true rfl) (Nat.le_of_ble_eq_true rfl) (Nat.le_of_ble_eq_true rfl) (Nat.le_of_ble_eq_true rfl) dX2_readLetter_91 ?_
    refine g_lv [0, 2] rfl ?_
    exact j_X2_readLetter_94 C E  x2 p_letters p_drain p_length p_words c5 c6 c9 c10 h
set_option maxRecDepth 100000 in
set_option maxHeartbeats 4000000 in
theorem j_X2_readLetter_37 {J : Jt} {Z : Zt} {a0 : Nat → Nat} {a1 : Nat → Nat} {p_beds : Int32} {p_readers : Int32} {p_far : Nat → Int32} {p_home : Nat → Int32} {t_bytes : Nat → Int32} {t_held : Int32} {t_end : Int32} {o_p_letters : Int32} {o_p_drain : Nat → Int32} {o_p_length : Nat → Int32} {o_p_words : Nat → Int32} {o_t_at : Int32} {o_t_start : Int32} {o_t_faultKind : Int32} {o_t_faultPlace : Int32} (C : Cx J Z cX2_readLetter 3 RX2 none rm_X2_readLetter) (E : Ez J Z 0 0 none (cs_X2 J.2.2.1 a0 p_beds o_p_letters p_readers p_far o_p_drain o_p_length o_p_words p_home ++ cs_X7 J.2.2.1 a1 t_bytes t_held t_end o_t_at o_t_start o_t_faultKind o_t_faultPlace)) : ∀ (n : Nat) (x2 : Int32) (p_letters : Int32) (p_drain : Nat → Int32) (p_length : Nat → Int32) (p_words : Nat → Int32) (t_at : Int32) (t_start : Int32) (t_faultKind : Int32) (t_faultPlace : Int32), f_X2_readLetter_37 p_beds t_bytes t_end n x2 p_letters p_drain p_length p_words t_at t_start t_faultKind t_faultPlace = some (o_p_letters, o_p_drain, o_p_length, o_p_words, o_t_at, o_t_start, o_t_faultKind, o_t_faultPlace) → G J Z 0 0 (cs_X2 J.2.2.1 a0 p_beds p_letters p_readers p_far p_drain p_length p_words p_home ++ cs_X7 J.2.2.1 a1 t_bytes t_held t_end t_at t_start t_faultKind t_faultPlace) 3 [(0, .ref (a0 0)), (1, .ref (a1 0)), (2, .int x2)] 37 [] := by
  intro n
  induction n with
  | zero =>
    intro x2 p_letters p_drain p_length p_words t_at t_start t_faultKind t_faultPlace h
    rw [f_X2_readLetter_37] at h
    cases h
  | succ n ih =>
    intro x2 p_letters p_drain p_length p_words t_at t_start t_faultKind t_faultPlace h
    rw [f_X2_readLetter_37] at h
    refine g_aload_n (pc := 37) C 0 rfl dX2_readLetter_37 ?_
    refine g_get (pc := 38) C FOK_X2 0 rfl rfl 6 (by decide) kw_301 rfl dX2_readLetter_38 ?_
    refine g_aload_n (pc := 41) C 0 rfl dX2_readLetter_41 ?_
    refine g_get (pc := 42) C FOK_X2 0 rfl rfl 1 (by decide) kw_281 rfl dX2_readLetter_42 ?_
    refine g_bipush (pc := 45) C dX2_readLetter_45 cb_8 ?_
    refine g_imul (pc := 47) C dX2_readLetter_47 ?_
    refine g_iload_n (pc := 48) C 2 rfl dX2_readLetter_48 ?_
    refine g_iadd (pc := 49) C dX2_readLetter_49 ?_
    refine g_aload_n (pc := 50) C 1 rfl dX2_readLetter_50 ?_
    refine g_iconst (pc := 51) C dX2_readLetter_51 ci_0 ?_
    refine g_bipush (pc := 52) C dX2_readLetter_52 cb_15 ?_
    obtain ⟨v11, c12, c13, c14, c15, hc, h⟩ := b5_of h
    refine g_callV (pc := 54) C (w' := cs_X2 J.2.2.1 a0 p_beds p_letters p_readers p_far p_drain p_length p_words p_home ++ cs_X7 J.2.2.1 a1 t_bytes t_held t_end c12 c13 c14 c15) (As := [.int 0, .int 15]) (st := [.int ((p_letters * 8) + x2), .ref (a0 4)]) (ci := 7) (q0 := 6) rfl rfl (t_X7_number hc) (Sub.gen [6, 7] [0, 1, 2, 3, 4, 5] [0, 1, 2, 3, 4, 5, 6, 7] rfl (by decide) rfl (by decide) (by decide) rfl (by decide)) kw_699 kw_700 kw_701 kw_87 hy_X7_number kw_702 rfl (Nat.le_of_ble_eq_true rfl) (Nat.le_of_ble_eq_true rfl) (Nat.le_of_ble_eq_true rfl) (Nat.le_of_ble_eq_true rfl) (Nat.le_of_ble_eq_true rfl) dX2_readLetter_54 ?_
    obtain ⟨hi, h⟩ := ix_of h
    refine g_iast (pc := 57) C (w' := cs_X2 J.2.2.1 a0 p_beds p_letters p_readers p_far p_drain p_length (upd p_words ((p_letters * 8) + x2).toNatClampNeg v11) p_home ++ cs_X7 J.2.2.1 a1 t_bytes t_held t_end c12 c13 c14 c15) 4 rfl hi dX2_readLetter_57 rfl ?_
    refine g_iinc (pc := 58) C (j := 2) [(2, .int (x2 + 1)), (0, .ref (a0 0)), (1, .ref (a1 0))] dX2_readLetter_58 rfl (ii_1 _) (by decide) rfl ?_
    refine g_iload_n (pc := 61) C 0 rfl dX2_readLetter_61 ?_
    refine g_bipush (pc := 62) C dX2_readLetter_62 cb_8 ?_
    refine g_icmp_ge (pc := 64) C (tgt := 74) dX2_readLetter_64 rfl h (fun h => ?_) (fun h => ?_)
    · refine g_lv [1, 2, 0] rfl ?_
      exact j_X2_readLetter_74 C E  (x2 + 1) p_letters p_drain p_length (upd p_words ((p_letters * 8) + x2).toNatClampNeg v11) c12 c13 c14 c15 h
    · refine g_aload_n (pc := 67) C 2 rfl dX2_readLetter_67 ?_
      obtain ⟨v16, c17, c18, hc, h⟩ := b3_of h
      refine g_callV (pc := 68) C (w' := cs_X2 J.2.2.1 a0 p_beds p_letters p_readers p_far p_drain p_length (upd p_words ((p_letters * 8) + x2).toNatClampNeg v11) p_home ++ cs_X7 J.2.2.1 a1 t_bytes t_held t_end c17 c18 c14 c15) (As := []) (st := []) (ci := 7) (q0 := 6) rfl rfl (t_X7_isAtNumber hc) (Sub.gen [6, 7] [0, 1, 2, 3, 4, 5] [0, 1, 2, 3, 4, 5, 6, 7] rfl (by decide) rfl (by decide) (by decide) rfl (by decide)) kw_713 kw_714 kw_715 kw_87 hy_X7_isAtNumber kw_716 rfl (Nat.le_of_ble_eq_true rfl) (Nat.le_of_ble_eq_true rfl) (Nat.le_of_ble_eq_true rfl) (Nat.le_of_ble_eq_true rfl) (Nat.le_of_ble_eq_true rfl) dX2_readLetter_68 ?_
      refine g_if_ne (pc := 71) C (tgt := 37) dX2_readLetter_71 rfl h (fun h => ?_) (fun h => ?_)
      · refine g_lv [1, 2, 0] rfl ?_
        exact ih (x2 + 1) p_letters p_drain p_length (upd p_words ((p_letters * 8) + x2).toNatClampNeg v11) c17 c18 c14 c15 h
      · refine g_lv [1, 2, 0] rfl ?_
        exact j_X2_readLetter_74 C E  (x2 + 1) p_letters p_drain p_length (upd p_words ((p_letters * 8) + x2).toNatClampNeg v11) c17 c18 c14 c15 h
set_option maxRecDepth 100000 in
set_option maxHeartbeats 4000000 in
theorem t_X2_readLetter {J : Jt} {a0 : Nat → Nat} {a1 : Nat → Nat} {p_beds : Int32} {p_letters : Int32} {p_readers : Int32} {p_far : Nat → Int32} {p_drain : Nat → Int32} {p_length : Nat → Int32} {p_words : Nat → Int32} {p_home : Nat → Int32} {t_bytes : Nat → Int32} {t_held : Int32} {t_end : Int32} {t_at : Int32} {t_start : Int32} {t_faultKind : Int32} {t_faultPlace : Int32} {o_p_letters : Int32} {o_p_drain : Nat → Int32} {o_p_length : Nat → Int32} {o_p_words : Nat → Int32} {o_t_at : Int32} {o_t_start : Int32} {o_t_faultKind : Int32} {o_t_faultPlace : Int32} (h : f_X2_readLetter p_beds p_letters p_drain p_length p_words t_bytes t_end t_at t_start t_faultKind t_faultPlace = some (o_p_letters, o_p_drain, o_p_length, o_p_words, o_t_at, o_t_start, o_t_faultKind, o_t_faultPlace)) : Mt J yX2_readLetter cX2_readLetter 3 none rm_X2_readLetter [.ref (a0 0), .ref (a1 0)] (cs_X2 J.2.2.1 a0 p_beds p_letters p_readers p_far p_drain p_length p_words p_home ++ cs_X7 J.2.2.1 a1 t_bytes t_held t_end t_at t_start t_faultKind t_faultPlace) none (cs_X2 J.2.2.1 a0 p_beds o_p_letters p_readers p_far o_p_drain o_p_length o_p_words p_home ++ cs_X7 J.2.2.1 a1 t_bytes t_held t_end o_t_at o_t_start o_t_faultKind o_t_faultPlace) := by
  refine Mt_of (own := RX2) (by decide) rfl (Nat.le_of_ble_eq_true rfl) rfl (fun Z C E => ?_)
  unfold f_X2_readLetter at h
  show G J Z 0 0 (cs_X2 J.2.2.1 a0 p_beds p_letters p_readers p_far p_drain p_length p_words p_home ++ cs_X7 J.2.2.1 a1 t_bytes t_held t_end t_at t_start t_faultKind t_faultPlace) 3 [(0, .ref (a0 0)), (1, .ref (a1 0))] 0 []
  refine g_aload_n (pc := 0) C 0 rfl dX2_readLetter_0 ?_
  refine g_get (pc := 1) C FOK_X2 0 rfl rfl 1 (by decide) kw_281 rfl dX2_readLetter_1 ?_
  refine g_bipush (pc := 4) C dX2_readLetter_4 cb_6 ?_
  refine g_icmp_lt (pc := 6) C (tgt := 15) dX2_readLetter_6 rfl h (fun h => ?_) (fun h => ?_)
  · refine g_aload_n (pc := 15) C 0 rfl dX2_readLetter_15 ?_
    refine g_get (pc := 16) C FOK_X2 0 rfl rfl 4 (by decide) kw_294 rfl dX2_readLetter_16 ?_
    refine g_aload_n (pc := 19) C 0 rfl dX2_readLetter_19 ?_
    refine g_get (pc := 20) C FOK_X2 0 rfl rfl 1 (by decide) kw_281 rfl dX2_readLetter_20 ?_
    refine g_aload_n (pc := 23) C 1 rfl dX2_readLetter_23 ?_
    refine g_iconst (pc := 24) C dX2_readLetter_24 ci_0 ?_
    refine g_aload_n (pc := 25) C 0 rfl dX2_readLetter_25 ?_
    refine g_get (pc := 26) C FOK_X2 0 rfl rfl 0 (by decide) kw_275 rfl dX2_readLetter_26 ?_
    refine g_iconst (pc := 29) C dX2_readLetter_29 ci_1 ?_
    refine g_isub (pc := 30) C dX2_readLetter_30 ?_
    obtain ⟨v19, c20, c21, c22, c23, hc, h⟩ := b5_of h
    refine g_callV (pc := 31) C (w' := cs_X2 J.2.2.1 a0 p_beds p_letters p_readers p_far p_drain p_length p_words p_home ++ cs_X7 J.2.2.1 a1 t_bytes t_held t_end c20 c21 c22 c23) (As := [.int 0, .int (p_beds - 1)]) (st := [.int p_letters, .ref (a0 2)]) (ci := 7) (q0 := 6) rfl rfl (t_X7_number hc) (Sub.gen [6, 7] [0, 1, 2, 3, 4, 5] [0, 1, 2, 3, 4, 5, 6, 7] rfl (by decide) rfl (by decide) (by decide) rfl (by decide)) kw_699 kw_700 kw_701 kw_87 hy_X7_number kw_702 rfl (Nat.le_of_ble_eq_true rfl) (Nat.le_of_ble_eq_true rfl) (Nat.le_of_ble_eq_true rfl) (Nat.le_of_ble_eq_true rfl) (Nat.le_of_ble_eq_true rfl) dX2_readLetter_31 ?_
    obtain ⟨hi, h⟩ := ix_of h
    refine g_iast (pc := 34) C (w' := cs_X2 J.2.2.1 a0 p_beds p_letters p_readers p_far (upd p_drain p_letters.toNatClampNeg v19) p_length p_words p_home ++ cs_X7 J.2.2.1 a1 t_bytes t_held t_end c20 c21 c22 c23) 2 rfl hi dX2_readLetter_34 rfl ?_
    refine g_iconst (pc := 35) C dX2_readLetter_35 ci_0 ?_
    refine g_istore_n (pc := 36) C [(2, .int 0), (0, .ref (a0 0)), (1, .ref (a1 0))] dX2_readLetter_36 rfl (by decide) rfl ?_
    refine g_lv [1, 2, 0] rfl ?_
    exact j_X2_readLetter_37 C E  FU 0 p_letters (upd p_drain p_letters.toNatClampNeg v19) p_length p_words c20 c21 c22 c23 h
  · refine g_aload_n (pc := 9) C 1 rfl dX2_readLetter_9 ?_
    refine g_iconst (pc := 10) C dX2_readLetter_10 ci_3 ?_
    obtain ⟨c24, c25, hc, h⟩ := b2_of h
    refine g_callV (pc := 11) C (w' := cs_X2 J.2.2.1 a0 p_beds p_letters p_readers p_far p_drain p_length p_words p_home ++ cs_X7 J.2.2.1 a1 t_bytes t_held t_end t_at t_start c24 c25) (As := [.int 3]) (st := []) (ci := 7) (q0 := 6) rfl rfl (t_X7_blame hc) (Sub.gen [6, 7] [0, 1, 2, 3, 4, 5] [0, 1, 2, 3, 4, 5, 6, 7] rfl (by decide) rfl (by decide) (by decide) rfl (by decide)) kw_695 kw_696 kw_697 kw_87 hy_X7_blame kw_698 rfl (Nat.le_of_ble_eq_true rfl) (Nat.le_of_ble_eq_true rfl) (Nat.le_of_ble_eq_true rfl) (Nat.le_of_ble_eq_true rfl) (Nat.le_of_ble_eq_true rfl) dX2_readLetter_11 ?_
    cases h
    exact g_vret C E dX2_readLetter_14
noncomputable def f_X2_readReader (p_beds : Int32) (p_readers : Int32) (p_home : Nat → Int32) (t_bytes : Nat → Int32) (t_end : Int32) (t_at : Int32) (t_start : Int32) (t_faultKind : Int32) (t_faultPlace : Int32) : Option (Int32 × (Nat → Int32) × Int32 × Int32 × Int32 × Int32) := if p_readers < 5 then b5 (f_X7_number t_bytes t_end t_at t_start t_faultKind t_faultPlace 0 (p_beds - 1)) (fun v1 c2 c3 c4 c5 => if ixb p_readers 5 then some (p_readers + 1, upd p_home p_readers.toNatClampNeg v1, c2, c3, c4, c5) else none) else b2 (f_X7_blame t_start t_faultKind t_faultPlace 3) (fun c6 c7 => some (p_readers, p_home, t_at, t_start, c6, c7))
def rm_X2_readReader : Room := { frames := 2, cells := 0, slots := 0, locals := 63 }
set_option maxRecDepth 100000 in
set_option maxHeartbeats 4000000 in
theorem t_X2_readReader {J : Jt} {a0 : Nat → Nat} {a1 : Nat → Nat} {p_beds : Int32} {p_letters : Int32} {p_readers : Int32} {p_far : Nat → Int32} {p_drain : Nat → Int32} {p_length : Nat → Int32} {p_words : Nat → Int32} {p_home : Nat → Int32} {t_bytes : Nat → Int32} {t_held : Int32} {t_end : Int32} {t_at : Int32} {t_start : Int32} {t_faultKind : Int32} {t_faultPlace : Int32} {o_p_readers : Int32} {o_p_home : Nat → Int32} {o_t_at : Int32} {o_t_start : Int32} {o_t_faultKind : Int32} {o_t_faultPlace : Int32} (h : f_X2_readReader p_beds p_readers p_home t_bytes t_end t_at t_start t_faultKind t_faultPlace = some (o_p_readers, o_p_home, o_t_at, o_t_start, o_t_faultKind, o_t_faultPlace)) : Mt J yX2_readReader cX2_readReader 2 none rm_X2_readReader [.ref (a0 0), .ref (a1 0)] (cs_X2 J.2.2.1 a0 p_beds p_letters p_readers p_far p_drain p_length p_words p_home ++ cs_X7 J.2.2.1 a1 t_bytes t_held t_end t_at t_start t_faultKind t_faultPlace) none (cs_X2 J.2.2.1 a0 p_beds p_letters o_p_readers p_far p_drain p_length p_words o_p_home ++ cs_X7 J.2.2.1 a1 t_bytes t_held t_end o_t_at o_t_start o_t_faultKind o_t_faultPlace) := by
  refine Mt_of (own := RX2) (by decide) rfl (Nat.le_of_ble_eq_true rfl) rfl (fun Z C E => ?_)
  unfold f_X2_readReader at h
  show G J Z 0 0 (cs_X2 J.2.2.1 a0 p_beds p_letters p_readers p_far p_drain p_length p_words p_home ++ cs_X7 J.2.2.1 a1 t_bytes t_held t_end t_at t_start t_faultKind t_faultPlace) 2 [(0, .ref (a0 0)), (1, .ref (a1 0))] 0 []
  refine g_aload_n (pc := 0) C 0 rfl dX2_readReader_0 ?_
  refine g_get (pc := 1) C FOK_X2 0 rfl rfl 2 (by decide) kw_286 rfl dX2_readReader_1 ?_
  refine g_iconst (pc := 4) C dX2_readReader_4 ci_5 ?_
  refine g_icmp_lt (pc := 5) C (tgt := 14) dX2_readReader_5 rfl h (fun h => ?_) (fun h => ?_)
  · refine g_aload_n (pc := 14) C 0 rfl dX2_readReader_14 ?_
    refine g_get (pc := 15) C FOK_X2 0 rfl rfl 7 (by decide) kw_302 rfl dX2_readReader_15 ?_
    refine g_aload_n (pc := 18) C 0 rfl dX2_readReader_18 ?_
    refine g_get (pc := 19) C FOK_X2 0 rfl rfl 2 (by decide) kw_286 rfl dX2_readReader_19 ?_
    refine g_aload_n (pc := 22) C 1 rfl dX2_readReader_22 ?_
    refine g_iconst (pc := 23) C dX2_readReader_23 ci_0 ?_
    refine g_aload_n (pc := 24) C 0 rfl dX2_readReader_24 ?_
    refine g_get (pc := 25) C FOK_X2 0 rfl rfl 0 (by decide) kw_275 rfl dX2_readReader_25 ?_
    refine g_iconst (pc := 28) C dX2_readReader_28 ci_1 ?_
    refine g_isub (pc := 29) C dX2_readReader_29 ?_
    obtain ⟨v1, c2, c3, c4, c5, hc, h⟩ := b5_of h
    refine g_callV (pc := 30) C (w' := cs_X2 J.2.2.1 a0 p_beds p_letters p_readers p_far p_drain p_length p_words p_home ++ cs_X7 J.2.2.1 a1 t_bytes t_held t_end c2 c3 c4 c5) (As := [.int 0, .int (p_beds - 1)]) (st := [.int p_readers, .ref (a0 5)]) (ci := 7) (q0 := 6) rfl rfl (t_X7_number hc) (Sub.gen [6, 7] [0, 1, 2, 3, 4, 5] [0, 1, 2, 3, 4, 5, 6, 7] rfl (by decide) rfl (by decide) (by decide) rfl (by decide)) kw_699 kw_700 kw_701 kw_87 hy_X7_number kw_702 rfl (Nat.le_of_ble_eq_true rfl) (Nat.le_of_ble_eq_true rfl) (Nat.le_of_ble_eq_true rfl) (Nat.le_of_ble_eq_true rfl) (Nat.le_of_ble_eq_true rfl) dX2_readReader_30 ?_
    obtain ⟨hi, h⟩ := ix_of h
    refine g_iast (pc := 33) C (w' := cs_X2 J.2.2.1 a0 p_beds p_letters p_readers p_far p_drain p_length p_words (upd p_home p_readers.toNatClampNeg v1) ++ cs_X7 J.2.2.1 a1 t_bytes t_held t_end c2 c3 c4 c5) 5 rfl hi dX2_readReader_33 rfl ?_
    refine g_aload_n (pc := 34) C 0 rfl dX2_readReader_34 ?_
    refine g_dup (pc := 35) C dX2_readReader_35 rfl ?_
    refine g_get (pc := 36) C FOK_X2 0 rfl rfl 2 (by decide) kw_286 rfl dX2_readReader_36 ?_
    refine g_iconst (pc := 39) C dX2_readReader_39 ci_1 ?_
    refine g_iadd (pc := 40) C dX2_readReader_40 ?_
    refine g_put (pc := 41) C (w' := cs_X2 J.2.2.1 a0 p_beds p_letters (p_readers + 1) p_far p_drain p_length p_words (upd p_home p_readers.toNatClampNeg v1) ++ cs_X7 J.2.2.1 a1 t_bytes t_held t_end c2 c3 c4 c5) FOK_X2 0 rfl rfl 2 (by decide) kw_286 rfl rfl rfl (Nat.le_of_ble_eq_true rfl) dX2_readReader_41 rfl ?_
    cases h
    exact g_vret C E dX2_readReader_44
  · refine g_aload_n (pc := 8) C 1 rfl dX2_readReader_8 ?_
    refine g_iconst (pc := 9) C dX2_readReader_9 ci_3 ?_
    obtain ⟨c6, c7, hc, h⟩ := b2_of h
    refine g_callV (pc := 10) C (w' := cs_X2 J.2.2.1 a0 p_beds p_letters p_readers p_far p_drain p_length p_words p_home ++ cs_X7 J.2.2.1 a1 t_bytes t_held t_end t_at t_start c6 c7) (As := [.int 3]) (st := []) (ci := 7) (q0 := 6) rfl rfl (t_X7_blame hc) (Sub.gen [6, 7] [0, 1, 2, 3, 4, 5] [0, 1, 2, 3, 4, 5, 6, 7] rfl (by decide) rfl (by decide) (by decide) rfl (by decide)) kw_695 kw_696 kw_697 kw_87 hy_X7_blame kw_698 rfl (Nat.le_of_ble_eq_true rfl) (Nat.le_of_ble_eq_true rfl) (Nat.le_of_ble_eq_true rfl) (Nat.le_of_ble_eq_true rfl) (Nat.le_of_ble_eq_true rfl) dX2_readReader_10 ?_
    cases h
    exact g_vret C E dX2_readReader_13
noncomputable def f_X2_readClause (p_beds : Int32) (p_letters : Int32) (p_readers : Int32) (p_far : Nat → Int32) (p_drain : Nat → Int32) (p_length : Nat → Int32) (p_words : Nat → Int32) (p_home : Nat → Int32) (t_bytes : Nat → Int32) (t_end : Int32) (t_at : Int32) (t_start : Int32) (t_faultKind : Int32) (t_faultPlace : Int32) : Option (Int32 × Int32 × Int32 × (Nat → Int32) × (Nat → Int32) × (Nat → Int32) × (Nat → Int32) × (Nat → Int32) × Int32 × Int32 × Int32 × Int32) := b3 (f_X7_takes_ t_bytes t_end t_at t_start t_faultKind 0) (fun v1 c2 c3 => if v1 = 0 then b3 (f_X7_takes_ t_bytes t_end c2 c3 t_faultKind 1) (fun v4 c5 c6 => if v4 = 0 then b3 (f_X7_takes_ t_bytes t_end c5 c6 t_faultKind 2) (fun v7 c8 c9 => if v7 = 0 then b2 (f_X7_blame c9 t_faultKind t_faultPlace 1) (fun c10 c11 => some (p_beds, p_letters, p_readers, p_far, p_drain, p_length, p_words, p_home, c8, c9, c10, c11)) else b6 (f_X2_readReader p_beds p_readers p_home t_bytes t_end c8 c9 t_faultKind t_faultPlace) (fun c12 c13 c14 c15 c16 c17 => some (p_beds, p_letters, c12, p_far, p_drain, p_length, p_words, c13, c14, c15, c16, c17))) else b8 (f_X2_readLetter p_beds p_letters p_drain p_length p_words t_bytes t_end c5 c6 t_faultKind t_faultPlace) (fun c18 c19 c20 c21 c22 c23 c24 c25 => some (p_beds, c18, p_readers, p_far, c19, c20, c21, p_home, c22, c23, c24, c25))) else b6 (f_X2_readBed p_beds p_far t_bytes t_end c2 c3 t_faultKind t_faultPlace) (fun c26 c27 c28 c29 c30 c31 => some (c26, p_letters, p_readers, c27, p_drain, p_length, p_words, p_home, c28, c29, c30, c31)))
def rm_X2_readClause : Room := { frames := 10, cells := 0, slots := 0, locals := 1022 }
set_option maxRecDepth 100000 in
set_option maxHeartbeats 4000000 in
theorem t_X2_readClause {J : Jt} {a0 : Nat → Nat} {a1 : Nat → Nat} {p_beds : Int32} {p_letters : Int32} {p_readers : Int32} {p_far : Nat → Int32} {p_drain : Nat → Int32} {p_length : Nat → Int32} {p_words : Nat → Int32} {p_home : Nat → Int32} {t_bytes : Nat → Int32} {t_held : Int32} {t_end : Int32} {t_at : Int32} {t_start : Int32} {t_faultKind : Int32} {t_faultPlace : Int32} {o_p_beds : Int32} {o_p_letters : Int32} {o_p_readers : Int32} {o_p_far : Nat → Int32} {o_p_drain : Nat → Int32} {o_p_length : Nat → Int32} {o_p_words : Nat → Int32} {o_p_home : Nat → Int32} {o_t_at : Int32} {o_t_start : Int32} {o_t_faultKind : Int32} {o_t_faultPlace : Int32} (h : f_X2_readClause p_beds p_letters p_readers p_far p_drain p_length p_words p_home t_bytes t_end t_at t_start t_faultKind t_faultPlace = some (o_p_beds, o_p_letters, o_p_readers, o_p_far, o_p_drain, o_p_length, o_p_words, o_p_home, o_t_at, o_t_start, o_t_faultKind, o_t_faultPlace)) : Mt J yX2_readClause cX2_readClause 2 none rm_X2_readClause [.ref (a0 0), .ref (a1 0)] (cs_X2 J.2.2.1 a0 p_beds p_letters p_readers p_far p_drain p_length p_words p_home ++ cs_X7 J.2.2.1 a1 t_bytes t_held t_end t_at t_start t_faultKind t_faultPlace) none (cs_X2 J.2.2.1 a0 o_p_beds o_p_letters o_p_readers o_p_far o_p_drain o_p_length o_p_words o_p_home ++ cs_X7 J.2.2.1 a1 t_bytes t_held t_end o_t_at o_t_start o_t_faultKind o_t_faultPlace) := by
  refine Mt_of (own := RX2) (by decide) rfl (Nat.le_of_ble_eq_true rfl) rfl (fun Z C E => ?_)
  unfold f_X2_readClause at h
  show G J Z 0 0 (cs_X2 J.2.2.1 a0 p_beds p_letters p_readers p_far p_drain p_length p_words p_home ++ cs_X7 J.2.2.1 a1 t_bytes t_held t_end t_at t_start t_faultKind t_faultPlace) 2 [(0, .ref (a0 0)), (1, .ref (a1 0))] 0 []
  refine g_aload_n (pc := 0) C 1 rfl dX2_readClause_0 ?_
  refine g_ldcS (pc := 1) C (i := 0) rfl dX2_readClause_1 ?_
  obtain ⟨v1, c2, c3, hc, h⟩ := b3_of h
  refine g_callV (pc := 3) C (w' := cs_X2 J.2.2.1 a0 p_beds p_letters p_readers p_far p_drain p_length p_words p_home ++ cs_X7 J.2.2.1 a1 t_bytes t_held t_end c2 c3 t_faultKind t_faultPlace) (As := [.ref (J.2.2.2.1 0)]) (st := []) (ci := 7) (q0 := 6) rfl rfl (t_X7_takes_ hc) (Sub.gen [6, 7] [0, 1, 2, 3, 4, 5] [0, 1, 2, 3, 4, 5, 6, 7] rfl (by decide) rfl (by decide) (by decide) rfl (by decide)) kw_632 kw_633 kw_634 kw_87 hy_X7_takes_ kw_635 rfl (Nat.le_of_ble_eq_true rfl) (Nat.le_of_ble_eq_true rfl) (Nat.le_of_ble_eq_true rfl) (Nat.le_of_ble_eq_true rfl) (Nat.le_of_ble_eq_true rfl) dX2_readClause_3 ?_
  refine g_if_eq (pc := 6) C (tgt := 17) dX2_readClause_6 rfl h (fun h => ?_) (fun h => ?_)
  · refine g_aload_n (pc := 17) C 1 rfl dX2_readClause_17 ?_
    refine g_ldcS (pc := 18) C (i := 1) rfl dX2_readClause_18 ?_
    obtain ⟨v4, c5, c6, hc, h⟩ := b3_of h
    refine g_callV (pc := 20) C (w' := cs_X2 J.2.2.1 a0 p_beds p_letters p_readers p_far p_drain p_length p_words p_home ++ cs_X7 J.2.2.1 a1 t_bytes t_held t_end c5 c6 t_faultKind t_faultPlace) (As := [.ref (J.2.2.2.1 1)]) (st := []) (ci := 7) (q0 := 6) rfl rfl (t_X7_takes_ hc) (Sub.gen [6, 7] [0, 1, 2, 3, 4, 5] [0, 1, 2, 3, 4, 5, 6, 7] rfl (by decide) rfl (by decide) (by decide) rfl (by decide)) kw_632 kw_633 kw_634 kw_87 hy_X7_takes_ kw_635 rfl (Nat.le_of_ble_eq_true rfl) (Nat.le_of_ble_eq_true rfl) (Nat.le_of_ble_eq_true rfl) (Nat.le_of_ble_eq_true rfl) (Nat.le_of_ble_eq_true rfl) dX2_readClause_20 ?_
    refine g_if_eq (pc := 23) C (tgt := 34) dX2_readClause_23 rfl h (fun h => ?_) (fun h => ?_)
    · refine g_aload_n (pc := 34) C 1 rfl dX2_readClause_34 ?_
      refine g_ldcS (pc := 35) C (i := 2) rfl dX2_readClause_35 ?_
      obtain ⟨v7, c8, c9, hc, h⟩ := b3_of h
      refine g_callV (pc := 37) C (w' := cs_X2 J.2.2.1 a0 p_beds p_letters p_readers p_far p_drain p_length p_words p_home ++ cs_X7 J.2.2.1 a1 t_bytes t_held t_end c8 c9 t_faultKind t_faultPlace) (As := [.ref (J.2.2.2.1 2)]) (st := []) (ci := 7) (q0 := 6) rfl rfl (t_X7_takes_ hc) (Sub.gen [6, 7] [0, 1, 2, 3, 4, 5] [0, 1, 2, 3, 4, 5, 6, 7] rfl (by decide) rfl (by decide) (by decide) rfl (by decide)) kw_632 kw_633 kw_634 kw_87 hy_X7_takes_ kw_635 rfl (Nat.le_of_ble_eq_true rfl) (Nat.le_of_ble_eq_true rfl) (Nat.le_of_ble_eq_true rfl) (Nat.le_of_ble_eq_true rfl) (Nat.le_of_ble_eq_true rfl) dX2_readClause_37 ?_
      refine g_if_eq (pc := 40) C (tgt := 51) dX2_readClause_40 rfl h (fun h => ?_) (fun h => ?_)
      · refine g_aload_n (pc := 51) C 1 rfl dX2_readClause_51 ?_
        refine g_iconst (pc := 52) C dX2_readClause_52 ci_1 ?_
        obtain ⟨c10, c11, hc, h⟩ := b2_of h
        refine g_callV (pc := 53) C (w' := cs_X2 J.2.2.1 a0 p_beds p_letters p_readers p_far p_drain p_length p_words p_home ++ cs_X7 J.2.2.1 a1 t_bytes t_held t_end c8 c9 c10 c11) (As := [.int 1]) (st := []) (ci := 7) (q0 := 6) rfl rfl (t_X7_blame hc) (Sub.gen [6, 7] [0, 1, 2, 3, 4, 5] [0, 1, 2, 3, 4, 5, 6, 7] rfl (by decide) rfl (by decide) (by decide) rfl (by decide)) kw_695 kw_696 kw_697 kw_87 hy_X7_blame kw_698 rfl (Nat.le_of_ble_eq_true rfl) (Nat.le_of_ble_eq_true rfl) (Nat.le_of_ble_eq_true rfl) (Nat.le_of_ble_eq_true rfl) (Nat.le_of_ble_eq_true rfl) dX2_readClause_53 ?_
        cases h
        exact g_vret C E dX2_readClause_56
      · refine g_aload_n (pc := 43) C 0 rfl dX2_readClause_43 ?_
        refine g_aload_n (pc := 44) C 1 rfl dX2_readClause_44 ?_
        obtain ⟨c12, c13, c14, c15, c16, c17, hc, h⟩ := b6_of h
        refine g_callV (pc := 45) C (w' := cs_X2 J.2.2.1 a0 p_beds p_letters c12 p_far p_drain p_length p_words c13 ++ cs_X7 J.2.2.1 a1 t_bytes t_held t_end c14 c15 c16 c17) (As := [.ref (a1 0)]) (st := []) (ci := 2) (q0 := 0) rfl rfl (t_X2_readReader hc) Sub.same kw_718 kw_719 kw_720 kw_92 hy_X2_readReader kw_721 rfl (Nat.le_of_ble_eq_true rfl) (Nat.le_of_ble_eq_true rfl) (Nat.le_of_ble_eq_true rfl) (Nat.le_of_ble_eq_true rfl) (Nat.le_of_ble_eq_true rfl) dX2_readClause_45 ?_
        refine g_goto (pc := 48) C (tgt := 56) dX2_readClause_48 rfl ?_
        cases h
        exact g_vret C E dX2_readClause_56
    · refine g_aload_n (pc := 26) C 0 rfl dX2_readClause_26 ?_
      refine g_aload_n (pc := 27) C 1 rfl dX2_readClause_27 ?_
      obtain ⟨c18, c19, c20, c21, c22, c23, c24, c25, hc, h⟩ := b8_of h
      refine g_callV (pc := 28) C (w' := cs_X2 J.2.2.1 a0 p_beds c18 p_readers p_far c19 c20 c21 p_home ++ cs_X7 J.2.2.1 a1 t_bytes t_held t_end c22 c23 c24 c25) (As := [.ref (a1 0)]) (st := []) (ci := 2) (q0 := 0) rfl rfl (t_X2_readLetter hc) Sub.same kw_709 kw_710 kw_711 kw_92 hy_X2_readLetter kw_712 rfl (Nat.le_of_ble_eq_true rfl) (Nat.le_of_ble_eq_true rfl) (Nat.le_of_ble_eq_true rfl) (Nat.le_of_ble_eq_true rfl) (Nat.le_of_ble_eq_true rfl) dX2_readClause_28 ?_
      refine g_goto (pc := 31) C (tgt := 56) dX2_readClause_31 rfl ?_
      cases h
      exact g_vret C E dX2_readClause_56
  · refine g_aload_n (pc := 9) C 0 rfl dX2_readClause_9 ?_
    refine g_aload_n (pc := 10) C 1 rfl dX2_readClause_10 ?_
    obtain ⟨c26, c27, c28, c29, c30, c31, hc, h⟩ := b6_of h
    refine g_callV (pc := 11) C (w' := cs_X2 J.2.2.1 a0 c26 p_letters p_readers c27 p_drain p_length p_words p_home ++ cs_X7 J.2.2.1 a1 t_bytes t_held t_end c28 c29 c30 c31) (As := [.ref (a1 0)]) (st := []) (ci := 2) (q0 := 0) rfl rfl (t_X2_readBed hc) Sub.same kw_691 kw_692 kw_693 kw_92 hy_X2_readBed kw_694 rfl (Nat.le_of_ble_eq_true rfl) (Nat.le_of_ble_eq_true rfl) (Nat.le_of_ble_eq_true rfl) (Nat.le_of_ble_eq_true rfl) (Nat.le_of_ble_eq_true rfl) dX2_readClause_11 ?_
    refine g_goto (pc := 14) C (tgt := 56) dX2_readClause_14 rfl ?_
    cases h
    exact g_vret C E dX2_readClause_56
noncomputable def f_X2_read_17 (t_bytes : Nat → Int32) (t_end : Int32) : Nat → Int32 → Int32 → Int32 → Int32 → (Nat → Int32) → (Nat → Int32) → (Nat → Int32) → (Nat → Int32) → (Nat → Int32) → Int32 → Int32 → Int32 → Int32 → Option (Int32 × Int32 × Int32 × (Nat → Int32) × (Nat → Int32) × (Nat → Int32) × (Nat → Int32) × (Nat → Int32) × Int32 × Int32 × Int32 × Int32)
  | 0, _, _, _, _, _, _, _, _, _, _, _, _, _ => none
  | n + 1, x2, p_beds, p_letters, p_readers, p_far, p_drain, p_length, p_words, p_home, t_at, t_start, t_faultKind, t_faultPlace => if 600 ≤ x2 then some (p_beds, p_letters, p_readers, p_far, p_drain, p_length, p_words, p_home, t_at, t_start, t_faultKind, t_faultPlace) else b3 (f_X7_isAtEnd t_bytes t_end t_at t_start t_faultKind) (fun v1 c2 c3 => if v1 = 0 then b12 (f_X2_readClause p_beds p_letters p_readers p_far p_drain p_length p_words p_home t_bytes t_end c2 c3 t_faultKind t_faultPlace) (fun c4 c5 c6 c7 c8 c9 c10 c11 c12 c13 c14 c15 => b4 (f_X7_need t_bytes t_end c12 c13 c14 c15 59) (fun c16 c17 c18 c19 => f_X2_read_17 t_bytes t_end n (x2 + 1) c4 c5 c6 c7 c8 c9 c10 c11 c16 c17 c18 c19)) else some (p_beds, p_letters, p_readers, p_far, p_drain, p_length, p_words, p_home, c2, c3, t_faultKind, t_faultPlace))
noncomputable def f_X2_read (p_beds : Int32) (p_letters : Int32) (p_readers : Int32) (p_far : Nat → Int32) (p_drain : Nat → Int32) (p_length : Nat → Int32) (p_words : Nat → Int32) (p_home : Nat → Int32) (t_bytes : Nat → Int32) (t_end : Int32) (t_at : Int32) (t_start : Int32) (t_faultKind : Int32) (t_faultPlace : Int32) : Option (Int32 × Int32 × Int32 × (Nat → Int32) × (Nat → Int32) × (Nat → Int32) × (Nat → Int32) × (Nat → Int32) × Int32 × Int32 × Int32 × Int32) := f_X2_read_17 t_bytes t_end FU 0 0 0 0 p_far p_drain p_length p_words p_home t_at t_start t_faultKind t_faultPlace
def rm_X2_read : Room := { frames := 11, cells := 0, slots := 0, locals := 1043 }
set_option maxRecDepth 100000 in
set_option maxHeartbeats 4000000 in
theorem j_X2_read_17 {J : Jt} {Z : Zt} {a0 : Nat → Nat} {a1 : Nat → Nat} {t_bytes : Nat → Int32} {t_held : Int32} {t_end : Int32} {o_p_beds : Int32} {o_p_letters : Int32} {o_p_readers : Int32} {o_p_far : Nat → Int32} {o_p_drain : Nat → Int32} {o_p_length : Nat → Int32} {o_p_words : Nat → Int32} {o_p_home : Nat → Int32} {o_t_at : Int32} {o_t_start : Int32} {o_t_faultKind : Int32} {o_t_faultPlace : Int32} (C : Cx J Z cX2_read 3 RX2 none rm_X2_read) (E : Ez J Z 0 0 none (cs_X2 J.2.2.1 a0 o_p_beds o_p_letters o_p_readers o_p_far o_p_drain o_p_length o_p_words o_p_home ++ cs_X7 J.2.2.1 a1 t_bytes t_held t_end o_t_at o_t_start o_t_faultKind o_t_faultPlace)) : ∀ (n : Nat) (x2 : Int32) (p_beds : Int32) (p_letters : Int32) (p_readers : Int32) (p_far : Nat → Int32) (p_drain : Nat → Int32) (p_length : Nat → Int32) (p_words : Nat → Int32) (p_home : Nat → Int32) (t_at : Int32) (t_start : Int32) (t_faultKind : Int32) (t_faultPlace : Int32), f_X2_read_17 t_bytes t_end n x2 p_beds p_letters p_readers p_far p_drain p_length p_words p_home t_at t_start t_faultKind t_faultPlace = some (o_p_beds, o_p_letters, o_p_readers, o_p_far, o_p_drain, o_p_length, o_p_words, o_p_home, o_t_at, o_t_start, o_t_faultKind, o_t_faultPlace) → G J Z 0 0 (cs_X2 J.2.2.1 a0 p_beds p_letters p_readers p_far p_drain p_length p_words p_home ++ cs_X7 J.2.2.1 a1 t_bytes t_held t_end t_at t_start t_faultKind t_faultPlace) 3 [(0, .ref (a0 0)), (1, .ref (a1 0)), (2, .int x2)] 17 [] := by
  intro n
  induction n with
  | zero =>
    intro x2 p_beds p_letters p_readers p_far p_drain p_length p_words p_home t_at t_start t_faultKind t_faultPlace h
    rw [f_X2_read_17] at h
    cases h
  | succ n ih =>
    intro x2 p_beds p_letters p_readers p_far p_drain p_length p_words p_home t_at t_start t_faultKind t_faultPlace h
    rw [f_X2_read_17] at h
    refine g_iload_n (pc := 17) C 2 rfl dX2_read_17 ?_
    refine g_sipush (pc := 18) C dX2_read_18 cs_600 ?_
    refine g_icmp_ge (pc := 21) C (tgt := 48) dX2_read_21 rfl h (fun h => ?_) (fun h => ?_)
    · cases h
      exact g_vret C E dX2_read_48
    · refine g_aload_n (pc := 24) C 1 rfl dX2_read_24 ?_
      obtain ⟨v1, c2, c3, hc, h⟩ := b3_of h
      refine g_callV (pc := 25) C (w' := cs_X2 J.2.2.1 a0 p_beds p_letters p_readers p_far p_drain p_length p_words p_home ++ cs_X7 J.2.2.1 a1 t_bytes t_held t_end c2 c3 t_faultKind t_faultPlace) (As := []) (st := []) (ci := 7) (q0 := 6) rfl rfl (t_X7_isAtEnd hc) (Sub.gen [6, 7] [0, 1, 2, 3, 4, 5] [0, 1, 2, 3, 4, 5, 6, 7] rfl (by decide) rfl (by decide) (by decide) rfl (by decide)) kw_619 kw_620 kw_621 kw_87 hy_X7_isAtEnd kw_622 rfl (Nat.le_of_ble_eq_true rfl) (Nat.le_of_ble_eq_true rfl) (Nat.le_of_ble_eq_true rfl) (Nat.le_of_ble_eq_true rfl) (Nat.le_of_ble_eq_true rfl) dX2_read_25 ?_
      refine g_if_ne (pc := 28) C (tgt := 48) dX2_read_28 rfl h (fun h => ?_) (fun h => ?_)
      · cases h
        exact g_vret C E dX2_read_48
      · refine g_aload_n (pc := 31) C 0 rfl dX2_read_31 ?_
        refine g_aload_n (pc := 32) C 1 rfl dX2_read_32 ?_
        obtain ⟨c4, c5, c6, c7, c8, c9, c10, c11, c12, c13, c14, c15, hc, h⟩ := b12_of h
        refine g_callV (pc := 33) C (w' := cs_X2 J.2.2.1 a0 c4 c5 c6 c7 c8 c9 c10 c11 ++ cs_X7 J.2.2.1 a1 t_bytes t_held t_end c12 c13 c14 c15) (As := [.ref (a1 0)]) (st := []) (ci := 2) (q0 := 0) rfl rfl (t_X2_readClause hc) Sub.same kw_627 kw_628 kw_629 kw_92 hy_X2_readClause kw_630 rfl (Nat.le_of_ble_eq_true rfl) (Nat.le_of_ble_eq_true rfl) (Nat.le_of_ble_eq_true rfl) (Nat.le_of_ble_eq_true rfl) (Nat.le_of_ble_eq_true rfl) dX2_read_33 ?_
        refine g_aload_n (pc := 36) C 1 rfl dX2_read_36 ?_
        refine g_bipush (pc := 37) C dX2_read_37 cb_59 ?_
        obtain ⟨c16, c17, c18, c19, hc, h⟩ := b4_of h
        refine g_callV (pc := 39) C (w' := cs_X2 J.2.2.1 a0 c4 c5 c6 c7 c8 c9 c10 c11 ++ cs_X7 J.2.2.1 a1 t_bytes t_held t_end c16 c17 c18 c19) (As := [.int 59]) (st := []) (ci := 7) (q0 := 6) rfl rfl (t_X7_need hc) (Sub.gen [6, 7] [0, 1, 2, 3, 4, 5] [0, 1, 2, 3, 4, 5, 6, 7] rfl (by decide) rfl (by decide) (by decide) rfl (by decide)) kw_722 kw_723 kw_724 kw_87 hy_X7_need kw_725 rfl (Nat.le_of_ble_eq_true rfl) (Nat.le_of_ble_eq_true rfl) (Nat.le_of_ble_eq_true rfl) (Nat.le_of_ble_eq_true rfl) (Nat.le_of_ble_eq_true rfl) dX2_read_39 ?_
        refine g_iinc (pc := 42) C (j := 2) [(2, .int (x2 + 1)), (0, .ref (a0 0)), (1, .ref (a1 0))] dX2_read_42 rfl (ii_1 _) (by decide) rfl ?_
        refine g_goto (pc := 45) C (tgt := 17) dX2_read_45 rfl ?_
        refine g_lv [1, 2, 0] rfl ?_
        exact ih (x2 + 1) c4 c5 c6 c7 c8 c9 c10 c11 c16 c17 c18 c19 h
set_option maxRecDepth 100000 in
set_option maxHeartbeats 4000000 in
theorem t_X2_read {J : Jt} {a0 : Nat → Nat} {a1 : Nat → Nat} {p_beds : Int32} {p_letters : Int32} {p_readers : Int32} {p_far : Nat → Int32} {p_drain : Nat → Int32} {p_length : Nat → Int32} {p_words : Nat → Int32} {p_home : Nat → Int32} {t_bytes : Nat → Int32} {t_held : Int32} {t_end : Int32} {t_at : Int32} {t_start : Int32} {t_faultKind : Int32} {t_faultPlace : Int32} {o_p_beds : Int32} {o_p_letters : Int32} {o_p_readers : Int32} {o_p_far : Nat → Int32} {o_p_drain : Nat → Int32} {o_p_length : Nat → Int32} {o_p_words : Nat → Int32} {o_p_home : Nat → Int32} {o_t_at : Int32} {o_t_start : Int32} {o_t_faultKind : Int32} {o_t_faultPlace : Int32} (h : f_X2_read p_beds p_letters p_readers p_far p_drain p_length p_words p_home t_bytes t_end t_at t_start t_faultKind t_faultPlace = some (o_p_beds, o_p_letters, o_p_readers, o_p_far, o_p_drain, o_p_length, o_p_words, o_p_home, o_t_at, o_t_start, o_t_faultKind, o_t_faultPlace)) : Mt J yX2_read cX2_read 3 none rm_X2_read [.ref (a0 0), .ref (a1 0)] (cs_X2 J.2.2.1 a0 p_beds p_letters p_readers p_far p_drain p_length p_words p_home ++ cs_X7 J.2.2.1 a1 t_bytes t_held t_end t_at t_start t_faultKind t_faultPlace) none (cs_X2 J.2.2.1 a0 o_p_beds o_p_letters o_p_readers o_p_far o_p_drain o_p_length o_p_words o_p_home ++ cs_X7 J.2.2.1 a1 t_bytes t_held t_end o_t_at o_t_start o_t_faultKind o_t_faultPlace) := by
  refine Mt_of (own := RX2) (by decide) rfl (Nat.le_of_ble_eq_true rfl) rfl (fun Z C E => ?_)
  unfold f_X2_read at h
  show G J Z 0 0 (cs_X2 J.2.2.1 a0 p_beds p_letters p_readers p_far p_drain p_length p_words p_home ++ cs_X7 J.2.2.1 a1 t_bytes t_held t_end t_at t_start t_faultKind t_faultPlace) 3 [(0, .ref (a0 0)), (1, .ref (a1 0))] 0 []
  refine g_aload_n (pc := 0) C 0 rfl dX2_read_0 ?_
  refine g_iconst (pc := 1) C dX2_read_1 ci_0 ?_
  refine g_put (pc := 2) C (w' := cs_X2 J.2.2.1 a0 0 p_letters p_readers p_far p_drain p_length p_words p_home ++ cs_X7 J.2.2.1 a1 t_bytes t_held t_end t_at t_start t_faultKind t_faultPlace) FOK_X2 0 rfl rfl 0 (by decide) kw_275 rfl rfl rfl (Nat.le_of_ble_eq_true rfl) dX2_read_2 rfl ?_
  refine g_aload_n (pc := 5) C 0 rfl dX2_read_5 ?_
  refine g_iconst (pc := 6) C dX2_read_6 ci_0 ?_
  refine g_put (pc := 7) C (w' := cs_X2 J.2.2.1 a0 0 0 p_readers p_far p_drain p_length p_words p_home ++ cs_X7 J.2.2.1 a1 t_bytes t_held t_end t_at t_start t_faultKind t_faultPlace) FOK_X2 0 rfl rfl 1 (by decide) kw_281 rfl rfl rfl (Nat.le_of_ble_eq_true rfl) dX2_read_7 rfl ?_
  refine g_aload_n (pc := 10) C 0 rfl dX2_read_10 ?_
  refine g_iconst (pc := 11) C dX2_read_11 ci_0 ?_
  refine g_put (pc := 12) C (w' := cs_X2 J.2.2.1 a0 0 0 0 p_far p_drain p_length p_words p_home ++ cs_X7 J.2.2.1 a1 t_bytes t_held t_end t_at t_start t_faultKind t_faultPlace) FOK_X2 0 rfl rfl 2 (by decide) kw_286 rfl rfl rfl (Nat.le_of_ble_eq_true rfl) dX2_read_12 rfl ?_
  refine g_iconst (pc := 15) C dX2_read_15 ci_0 ?_
  refine g_istore_n (pc := 16) C [(2, .int 0), (0, .ref (a0 0)), (1, .ref (a1 0))] dX2_read_16 rfl (by decide) rfl ?_
  refine g_lv [1, 2, 0] rfl ?_
  exact j_X2_read_17 C E  FU 0 0 0 0 p_far p_drain p_length p_words p_home t_at t_start t_faultKind t_faultPlace h
noncomputable def f_X4_begin_85 (p_home : Nat → Int32) : Nat → Int32 → Int32 → Int32 → Int32 → Int32 → Int32 → Int32 → (Nat → Int32) → (Nat → Int32) → (Nat → Int32) → (Nat → Int32) → Option (Int32 × Int32 × Int32 × Int32 × Int32 × Int32 × (Nat → Int32) × (Nat → Int32) × (Nat → Int32) × (Nat → Int32))
  | 0, _, _, _, _, _, _, _, _, _, _, _ => none
  | n + 1, x2, s_year, s_wet, s_lost, s_eaten, s_tied, s_ripeMany, s_gone, s_place, s_heard, s_many => if 6 ≤ x2 then some (s_year, s_wet, s_lost, s_eaten, s_tied, s_ripeMany, s_gone, s_place, s_heard, s_many) else if ixb x2 6 then f_X4_begin_85 p_home n (x2 + 1) s_year s_wet s_lost s_eaten s_tied s_ripeMany s_gone s_place s_heard (upd s_many x2.toNatClampNeg 0) else none
noncomputable def f_X4_begin_53 (p_home : Nat → Int32) : Nat → Int32 → Int32 → Int32 → Int32 → Int32 → Int32 → Int32 → (Nat → Int32) → (Nat → Int32) → (Nat → Int32) → (Nat → Int32) → Option (Int32 × Int32 × Int32 × Int32 × Int32 × Int32 × (Nat → Int32) × (Nat → Int32) × (Nat → Int32) × (Nat → Int32))
  | 0, _, _, _, _, _, _, _, _, _, _, _ => none
  | n + 1, x2, s_year, s_wet, s_lost, s_eaten, s_tied, s_ripeMany, s_gone, s_place, s_heard, s_many => if 5 ≤ x2 then f_X4_begin_85 p_home FU 0 s_year s_wet s_lost s_eaten s_tied s_ripeMany s_gone s_place s_heard s_many else if ixb x2 5 then if ixb x2 5 then if ixb x2 5 then f_X4_begin_53 p_home n (x2 + 1) s_year s_wet s_lost s_eaten s_tied s_ripeMany s_gone (upd s_place x2.toNatClampNeg (p_home x2.toNatClampNeg)) (upd s_heard x2.toNatClampNeg 0) s_many else none else none else none
noncomputable def f_X4_begin_32 (p_home : Nat → Int32) : Nat → Int32 → Int32 → Int32 → Int32 → Int32 → Int32 → Int32 → (Nat → Int32) → (Nat → Int32) → (Nat → Int32) → (Nat → Int32) → Option (Int32 × Int32 × Int32 × Int32 × Int32 × Int32 × (Nat → Int32) × (Nat → Int32) × (Nat → Int32) × (Nat → Int32))
  | 0, _, _, _, _, _, _, _, _, _, _, _ => none
  | n + 1, x2, s_year, s_wet, s_lost, s_eaten, s_tied, s_ripeMany, s_gone, s_place, s_heard, s_many => if 6 ≤ x2 then f_X4_begin_53 p_home FU 0 s_year s_wet s_lost s_eaten s_tied s_ripeMany s_gone s_place s_heard s_many else if ixb x2 6 then f_X4_begin_32 p_home n (x2 + 1) s_year s_wet s_lost s_eaten s_tied s_ripeMany (upd s_gone x2.toNatClampNeg 0) s_place s_heard s_many else none
noncomputable def f_X4_begin (s_year : Int32) (s_wet : Int32) (s_lost : Int32) (s_eaten : Int32) (s_tied : Int32) (s_ripeMany : Int32) (s_gone : Nat → Int32) (s_place : Nat → Int32) (s_heard : Nat → Int32) (s_many : Nat → Int32) (p_home : Nat → Int32) : Option (Int32 × Int32 × Int32 × Int32 × Int32 × Int32 × (Nat → Int32) × (Nat → Int32) × (Nat → Int32) × (Nat → Int32)) := f_X4_begin_32 p_home FU 0 0 0 0 0 0 0 s_gone s_place s_heard s_many
def rm_X4_begin : Room := { frames := 0, cells := 0, slots := 0, locals := 0 }
set_option maxRecDepth 100000 in
set_option maxHeartbeats 4000000 in
theorem j_X4_begin_85 {J : Jt} {Z : Zt} {a0 : Nat → Nat} {a1 : Nat → Nat} {s_lying : Nat → Int32} {s_ripe : Nat → Int32} {p_beds : Int32} {p_letters : Int32} {p_readers : Int32} {p_far : Nat → Int32} {p_drain : Nat → Int32} {p_length : Nat → Int32} {p_words : Nat → Int32} {p_home : Nat → Int32} {o_s_year : Int32} {o_s_wet : Int32} {o_s_lost : Int32} {o_s_eaten : Int32} {o_s_tied : Int32} {o_s_ripeMany : Int32} {o_s_gone : Nat → Int32} {o_s_place : Nat → Int32} {o_s_heard : Nat → Int32} {o_s_many : Nat → Int32} (C : Cx J Z cX4_begin 3 RX4 none rm_X4_begin) (E : Ez J Z 0 0 none (cs_X4 J.2.2.1 a0 o_s_year o_s_wet o_s_lost o_s_eaten o_s_tied o_s_ripeMany o_s_gone o_s_place o_s_heard o_s_many s_lying s_ripe ++ cs_X2 J.2.2.1 a1 p_beds p_letters p_readers p_far p_drain p_length p_words p_home)) : ∀ (n : Nat) (x2 : Int32) (s_year : Int32) (s_wet : Int32) (s_lost : Int32) (s_eaten : Int32) (s_tied : Int32) (s_ripeMany : Int32) (s_gone : Nat → Int32) (s_place : Nat → Int32) (s_heard : Nat → Int32) (s_many : Nat → Int32), f_X4_begin_85 p_home n x2 s_year s_wet s_lost s_eaten s_tied s_ripeMany s_gone s_place s_heard s_many = some (o_s_year, o_s_wet, o_s_lost, o_s_eaten, o_s_tied, o_s_ripeMany, o_s_gone, o_s_place, o_s_heard, o_s_many) → G J Z 0 0 (cs_X4 J.2.2.1 a0 s_year s_wet s_lost s_eaten s_tied s_ripeMany s_gone s_place s_heard s_many s_lying s_ripe ++ cs_X2 J.2.2.1 a1 p_beds p_letters p_readers p_far p_drain p_length p_words p_home) 3 [(0, .ref (a0 0)), (2, .int x2)] 85 [] := by
  intro n
  induction n with
  | zero =>
    intro x2 s_year s_wet s_lost s_eaten s_tied s_ripeMany s_gone s_place s_heard s_many h
    rw [f_X4_begin_85] at h
    cases h
  | succ n ih =>
    intro x2 s_year s_wet s_lost s_eaten s_tied s_ripeMany s_gone s_place s_heard s_many h
    rw [f_X4_begin_85] at h
    refine g_iload_n (pc := 85) C 1 rfl dX4_begin_85 ?_
    refine g_bipush (pc := 86) C dX4_begin_86 cb_6 ?_
    refine g_icmp_ge (pc := 88) C (tgt := 104) dX4_begin_88 rfl h (fun h => ?_) (fun h => ?_)
    · cases h
      exact g_vret C E dX4_begin_104
    · refine g_aload_n (pc := 91) C 0 rfl dX4_begin_91 ?_
      refine g_get (pc := 92) C FOK_X4 0 rfl rfl 9 (by decide) kw_172 rfl dX4_begin_92 ?_
      refine g_iload_n (pc := 95) C 1 rfl dX4_begin_95 ?_
      refine g_iconst (pc := 96) C dX4_begin_96 ci_0 ?_
      obtain ⟨hi, h⟩ := ix_of h
      refine g_iast (pc := 97) C (w' := cs_X4 J.2.2.1 a0 s_year s_wet s_lost s_eaten s_tied s_ripeMany s_gone s_place s_heard (upd s_many x2.toNatClampNeg 0) s_lying s_ripe ++ cs_X2 J.2.2.1 a1 p_beds p_letters p_readers p_far p_drain p_length p_words p_home) 4 rfl hi dX4_begin_97 rfl ?_
      refine g_iinc (pc := 98) C (j := 1) [(2, .int (x2 + 1)), (0, .ref (a0 0))] dX4_begin_98 rfl (ii_1 _) (by decide) rfl ?_
      refine g_goto (pc := 101) C (tgt := 85) dX4_begin_101 rfl ?_
      refine g_lv [1, 0] rfl ?_
      exact ih (x2 + 1) s_year s_wet s_lost s_eaten s_tied s_ripeMany s_gone s_place s_heard (upd s_many x2.toNatClampNeg 0) h
set_option maxRecDepth 100000 in
set_option maxHeartbeats 4000000 in
theorem j_X4_begin_53 {J : Jt} {Z : Zt} {a0 : Nat → Nat} {a1 : Nat → Nat} {s_lying : Nat → Int32} {s_ripe : Nat → Int32} {p_beds : Int32} {p_letters : Int32} {p_readers : Int32} {p_far : Nat → Int32} {p_drain : Nat → Int32} {p_length : Nat → Int32} {p_words : Nat → Int32} {p_home : Nat → Int32} {o_s_year : Int32} {o_s_wet : Int32} {o_s_lost : Int32} {o_s_eaten : Int32} {o_s_tied : Int32} {o_s_ripeMany : Int32} {o_s_gone : Nat → Int32} {o_s_place : Nat → Int32} {o_s_heard : Nat → Int32} {o_s_many : Nat → Int32} (C : Cx J Z cX4_begin 3 RX4 none rm_X4_begin) (E : Ez J Z 0 0 none (cs_X4 J.2.2.1 a0 o_s_year o_s_wet o_s_lost o_s_eaten o_s_tied o_s_ripeMany o_s_gone o_s_place o_s_heard o_s_many s_lying s_ripe ++ cs_X2 J.2.2.1 a1 p_beds p_letters p_readers p_far p_drain p_length p_words p_home)) : ∀ (n : Nat) (x2 : Int32) (s_year : Int32) (s_wet : Int32) (s_lost : Int32) (s_eaten : Int32) (s_tied : Int32) (s_ripeMany : Int32) (s_gone : Nat → Int32) (s_place : Nat → Int32) (s_heard : Nat → Int32) (s_many : Nat → Int32), f_X4_begin_53 p_home n x2 s_year s_wet s_lost s_eaten s_tied s_ripeMany s_gone s_place s_heard s_many = some (o_s_year, o_s_wet, o_s_lost, o_s_eaten, o_s_tied, o_s_ripeMany, o_s_gone, o_s_place, o_s_heard, o_s_many) → G J Z 0 0 (cs_X4 J.2.2.1 a0 s_year s_wet s_lost s_eaten s_tied s_ripeMany s_gone s_place s_heard s_many s_lying s_ripe ++ cs_X2 J.2.2.1 a1 p_beds p_letters p_readers p_far p_drain p_length p_words p_home) 3 [(0, .ref (a0 0)), (1, .ref (a1 0)), (2, .int x2)] 53 [] := by
  intro n
  induction n with
  | zero =>
    intro x2 s_year s_wet s_lost s_eaten s_tied s_ripeMany s_gone s_place s_heard s_many h
    rw [f_X4_begin_53] at h
    cases h
  | succ n ih =>
    intro x2 s_year s_wet s_lost s_eaten s_tied s_ripeMany s_gone s_place s_heard s_many h
    rw [f_X4_begin_53] at h
    refine g_iload_n (pc := 53) C 2 rfl dX4_begin_53 ?_
    refine g_iconst (pc := 54) C dX4_begin_54 ci_5 ?_
    refine g_icmp_ge (pc := 55) C (tgt := 83) dX4_begin_55 rfl h (fun h => ?_) (fun h => ?_)
    · refine g_iconst (pc := 83) C dX4_begin_83 ci_0 ?_
      refine g_istore_n (pc := 84) C [(2, .int 0), (0, .ref (a0 0)), (1, .ref (a1 0))] dX4_begin_84 rfl (by decide) rfl ?_
      refine g_lv [1, 0] rfl ?_
      exact j_X4_begin_85 C E  FU 0 s_year s_wet s_lost s_eaten s_tied s_ripeMany s_gone s_place s_heard s_many h
    · refine g_aload_n (pc := 58) C 0 rfl dX4_begin_58 ?_
      refine g_get (pc := 59) C FOK_X4 0 rfl rfl 7 (by decide) kw_168 rfl dX4_begin_59 ?_
      refine g_iload_n (pc := 62) C 2 rfl dX4_begin_62 ?_
      refine g_aload_n (pc := 63) C 1 rfl dX4_begin_63 ?_
      refine g_get (pc := 64) C FOK_X2 7 rfl rfl 7 (by decide) kw_303 rfl dX4_begin_64 ?_
      refine g_iload_n (pc := 67) C 2 rfl dX4_begin_67 ?_
      obtain ⟨hi, h⟩ := ix_of h
      refine g_iald (pc := 68) C 12 rfl hi dX4_begin_68 ?_
      obtain ⟨hi, h⟩ := ix_of h
      refine g_iast (pc := 69) C (w' := cs_X4 J.2.2.1 a0 s_year s_wet s_lost s_eaten s_tied s_ripeMany s_gone (upd s_place x2.toNatClampNeg (p_home x2.toNatClampNeg)) s_heard s_many s_lying s_ripe ++ cs_X2 J.2.2.1 a1 p_beds p_letters p_readers p_far p_drain p_length p_words p_home) 2 rfl hi dX4_begin_69 rfl ?_
      refine g_aload_n (pc := 70) C 0 rfl dX4_begin_70 ?_
      refine g_get (pc := 71) C FOK_X4 0 rfl rfl 8 (by decide) kw_170 rfl dX4_begin_71 ?_
      refine g_iload_n (pc := 74) C 2 rfl dX4_begin_74 ?_
      refine g_iconst (pc := 75) C dX4_begin_75 ci_0 ?_
      obtain ⟨hi, h⟩ := ix_of h
      refine g_iast (pc := 76) C (w' := cs_X4 J.2.2.1 a0 s_year s_wet s_lost s_eaten s_tied s_ripeMany s_gone (upd s_place x2.toNatClampNeg (p_home x2.toNatClampNeg)) (upd s_heard x2.toNatClampNeg 0) s_many s_lying s_ripe ++ cs_X2 J.2.2.1 a1 p_beds p_letters p_readers p_far p_drain p_length p_words p_home) 3 rfl hi dX4_begin_76 rfl ?_
      refine g_iinc (pc := 77) C (j := 2) [(2, .int (x2 + 1)), (0, .ref (a0 0)), (1, .ref (a1 0))] dX4_begin_77 rfl (ii_1 _) (by decide) rfl ?_
      refine g_goto (pc := 80) C (tgt := 53) dX4_begin_80 rfl ?_
      refine g_lv [1, 2, 0] rfl ?_
      exact ih (x2 + 1) s_year s_wet s_lost s_eaten s_tied s_ripeMany s_gone (upd s_place x2.toNatClampNeg (p_home x2.toNatClampNeg)) (upd s_heard x2.toNatClampNeg 0) s_many h
set_option maxRecDepth 100000 in
set_option maxHeartbeats 4000000 in
theorem j_X4_begin_32 {J : Jt} {Z : Zt} {a0 : Nat → Nat} {a1 : Nat → Nat} {s_lying : Nat → Int32} {s_ripe : Nat → Int32} {p_beds : Int32} {p_letters : Int32} {p_readers : Int32} {p_far : Nat → Int32} {p_drain : Nat → Int32} {p_length : Nat → Int32} {p_words : Nat → Int32} {p_home : Nat → Int32} {o_s_year : Int32} {o_s_wet : Int32} {o_s_lost : Int32} {o_s_eaten : Int32} {o_s_tied : Int32} {o_s_ripeMany : Int32} {o_s_gone : Nat → Int32} {o_s_place : Nat → Int32} {o_s_heard : Nat → Int32} {o_s_many : Nat → Int32} (C : Cx J Z cX4_begin 3 RX4 none rm_X4_begin) (E : Ez J Z 0 0 none (cs_X4 J.2.2.1 a0 o_s_year o_s_wet o_s_lost o_s_eaten o_s_tied o_s_ripeMany o_s_gone o_s_place o_s_heard o_s_many s_lying s_ripe ++ cs_X2 J.2.2.1 a1 p_beds p_letters p_readers p_far p_drain p_length p_words p_home)) : ∀ (n : Nat) (x2 : Int32) (s_year : Int32) (s_wet : Int32) (s_lost : Int32) (s_eaten : Int32) (s_tied : Int32) (s_ripeMany : Int32) (s_gone : Nat → Int32) (s_place : Nat → Int32) (s_heard : Nat → Int32) (s_many : Nat → Int32), f_X4_begin_32 p_home n x2 s_year s_wet s_lost s_eaten s_tied s_ripeMany s_gone s_place s_heard s_many = some (o_s_year, o_s_wet, o_s_lost, o_s_eaten, o_s_tied, o_s_ripeMany, o_s_gone, o_s_place, o_s_heard, o_s_many) → G J Z 0 0 (cs_X4 J.2.2.1 a0 s_year s_wet s_lost s_eaten s_tied s_ripeMany s_gone s_place s_heard s_many s_lying s_ripe ++ cs_X2 J.2.2.1 a1 p_beds p_letters p_readers p_far p_drain p_length p_words p_home) 3 [(0, .ref (a0 0)), (1, .ref (a1 0)), (2, .int x2)] 32 [] := by
  intro n
  induction n with
  | zero =>
    intro x2 s_year s_wet s_lost s_eaten s_tied s_ripeMany s_gone s_place s_heard s_many h
    rw [f_X4_begin_32] at h
    cases h
  | succ n ih =>
    intro x2 s_year s_wet s_lost s_eaten s_tied s_ripeMany s_gone s_place s_heard s_many h
    rw [f_X4_begin_32] at h
    refine g_iload_n (pc := 32) C 2 rfl dX4_begin_32 ?_
    refine g_bipush (pc := 33) C dX4_begin_33 cb_6 ?_
    refine g_icmp_ge (pc := 35) C (tgt := 51) dX4_begin_35 rfl h (fun h => ?_) (fun h => ?_)
    · refine g_iconst (pc := 51) C dX4_begin_51 ci_0 ?_
      refine g_istore_n (pc := 52) C [(2, .int 0), (0, .ref (a0 0)), (1, .ref (a1 0))] dX4_begin_52 rfl (by decide) rfl ?_
      refine g_lv [1, 2, 0] rfl ?_
      exact j_X4_begin_53 C E  FU 0 s_year s_wet s_lost s_eaten s_tied s_ripeMany s_gone s_place s_heard s_many h
    · refine g_aload_n (pc := 38) C 0 rfl dX4_begin_38 ?_
      refine g_get (pc := 39) C FOK_X4 0 rfl rfl 6 (by decide) kw_167 rfl dX4_begin_39 ?_
      refine g_iload_n (pc := 42) C 2 rfl dX4_begin_42 ?_
      refine g_iconst (pc := 43) C dX4_begin_43 ci_0 ?_
      obtain ⟨hi, h⟩ := ix_of h
      refine g_iast (pc := 44) C (w' := cs_X4 J.2.2.1 a0 s_year s_wet s_lost s_eaten s_tied s_ripeMany (upd s_gone x2.toNatClampNeg 0) s_place s_heard s_many s_lying s_ripe ++ cs_X2 J.2.2.1 a1 p_beds p_letters p_readers p_far p_drain p_length p_words p_home) 1 rfl hi dX4_begin_44 rfl ?_
      refine g_iinc (pc := 45) C (j := 2) [(2, .int (x2 + 1)), (0, .ref (a0 0)), (1, .ref (a1 0))] dX4_begin_45 rfl (ii_1 _) (by decide) rfl ?_
      refine g_goto (pc := 48) C (tgt := 32) dX4_begin_48 rfl ?_
      refine g_lv [1, 2, 0] rfl ?_
      exact ih (x2 + 1) s_year s_wet s_lost s_eaten s_tied s_ripeMany (upd s_gone x2.toNatClampNeg 0) s_place s_heard s_many h
set_option maxRecDepth 100000 in
set_option maxHeartbeats 4000000 in
theorem t_X4_begin {J : Jt} {a0 : Nat → Nat} {a1 : Nat → Nat} {s_year : Int32} {s_wet : Int32} {s_lost : Int32} {s_eaten : Int32} {s_tied : Int32} {s_ripeMany : Int32} {s_gone : Nat → Int32} {s_place : Nat → Int32} {s_heard : Nat → Int32} {s_many : Nat → Int32} {s_lying : Nat → Int32} {s_ripe : Nat → Int32} {p_beds : Int32} {p_letters : Int32} {p_readers : Int32} {p_far : Nat → Int32} {p_drain : Nat → Int32} {p_length : Nat → Int32} {p_words : Nat → Int32} {p_home : Nat → Int32} {o_s_year : Int32} {o_s_wet : Int32} {o_s_lost : Int32} {o_s_eaten : Int32} {o_s_tied : Int32} {o_s_ripeMany : Int32} {o_s_gone : Nat → Int32} {o_s_place : Nat → Int32} {o_s_heard : Nat → Int32} {o_s_many : Nat → Int32} (h : f_X4_begin s_year s_wet s_lost s_eaten s_tied s_ripeMany s_gone s_place s_heard s_many p_home = some (o_s_year, o_s_wet, o_s_lost, o_s_eaten, o_s_tied, o_s_ripeMany, o_s_gone, o_s_place, o_s_heard, o_s_many)) : Mt J yX4_begin cX4_begin 3 none rm_X4_begin [.ref (a0 0), .ref (a1 0)] (cs_X4 J.2.2.1 a0 s_year s_wet s_lost s_eaten s_tied s_ripeMany s_gone s_place s_heard s_many s_lying s_ripe ++ cs_X2 J.2.2.1 a1 p_beds p_letters p_readers p_far p_drain p_length p_words p_home) none (cs_X4 J.2.2.1 a0 o_s_year o_s_wet o_s_lost o_s_eaten o_s_tied o_s_ripeMany o_s_gone o_s_place o_s_heard o_s_many s_lying s_ripe ++ cs_X2 J.2.2.1 a1 p_beds p_letters p_readers p_far p_drain p_length p_words p_home) := by
  refine Mt_of (own := RX4) (by decide) rfl (Nat.le_of_ble_eq_true rfl) rfl (fun Z C E => ?_)
  unfold f_X4_begin at h
  show G J Z 0 0 (cs_X4 J.2.2.1 a0 s_year s_wet s_lost s_eaten s_tied s_ripeMany s_gone s_place s_heard s_many s_lying s_ripe ++ cs_X2 J.2.2.1 a1 p_beds p_letters p_readers p_far p_drain p_length p_words p_home) 3 [(0, .ref (a0 0)), (1, .ref (a1 0))] 0 []
  refine g_aload_n (pc := 0) C 0 rfl dX4_begin_0 ?_
  refine g_iconst (pc := 1) C dX4_begin_1 ci_0 ?_
  refine g_put (pc := 2) C (w' := cs_X4 J.2.2.1 a0 0 s_wet s_lost s_eaten s_tied s_ripeMany s_gone s_place s_heard s_many s_lying s_ripe ++ cs_X2 J.2.2.1 a1 p_beds p_letters p_readers p_far p_drain p_length p_words p_home) FOK_X4 0 rfl rfl 0 (by decide) kw_154 rfl rfl rfl (Nat.le_of_ble_eq_true rfl) dX4_begin_2 rfl ?_
  refine g_aload_n (pc := 5) C 0 rfl dX4_begin_5 ?_
  refine g_iconst (pc := 6) C dX4_begin_6 ci_0 ?_
  refine g_put (pc := 7) C (w' := cs_X4 J.2.2.1 a0 0 0 s_lost s_eaten s_tied s_ripeMany s_gone s_place s_heard s_many s_lying s_ripe ++ cs_X2 J.2.2.1 a1 p_beds p_letters p_readers p_far p_drain p_length p_words p_home) FOK_X4 0 rfl rfl 1 (by decide) kw_157 rfl rfl rfl (Nat.le_of_ble_eq_true rfl) dX4_begin_7 rfl ?_
  refine g_aload_n (pc := 10) C 0 rfl dX4_begin_10 ?_
  refine g_iconst (pc := 11) C dX4_begin_11 ci_0 ?_
  refine g_put (pc := 12) C (w' := cs_X4 J.2.2.1 a0 0 0 0 s_eaten s_tied s_ripeMany s_gone s_place s_heard s_many s_lying s_ripe ++ cs_X2 J.2.2.1 a1 p_beds p_letters p_readers p_far p_drain p_length p_words p_home) FOK_X4 0 rfl rfl 2 (by decide) kw_159 rfl rfl rfl (Nat.le_of_ble_eq_true rfl) dX4_begin_12 rfl ?_
  refine g_aload_n (pc := 15) C 0 rfl dX4_begin_15 ?_
  refine g_iconst (pc := 16) C dX4_begin_16 ci_0 ?_
  refine g_put (pc := 17) C (w' := cs_X4 J.2.2.1 a0 0 0 0 0 s_tied s_ripeMany s_gone s_place s_heard s_many s_lying s_ripe ++ cs_X2 J.2.2.1 a1 p_beds p_letters p_readers p_far p_drain p_length p_words p_home) FOK_X4 0 rfl rfl 3 (by decide) kw_161 rfl rfl rfl (Nat.le_of_ble_eq_true rfl) dX4_begin_17 rfl ?_
  refine g_aload_n (pc := 20) C 0 rfl dX4_begin_20 ?_
  refine g_iconst (pc := 21) C dX4_begin_21 ci_0 ?_
  refine g_put (pc := 22) C (w' := cs_X4 J.2.2.1 a0 0 0 0 0 0 s_ripeMany s_gone s_place s_heard s_many s_lying s_ripe ++ cs_X2 J.2.2.1 a1 p_beds p_letters p_readers p_far p_drain p_length p_words p_home) FOK_X4 0 rfl rfl 4 (by decide) kw_163 rfl rfl rfl (Nat.le_of_ble_eq_true rfl) dX4_begin_22 rfl ?_
  refine g_aload_n (pc := 25) C 0 rfl dX4_begin_25 ?_
  refine g_iconst (pc := 26) C dX4_begin_26 ci_0 ?_
  refine g_put (pc := 27) C (w' := cs_X4 J.2.2.1 a0 0 0 0 0 0 0 s_gone s_place s_heard s_many s_lying s_ripe ++ cs_X2 J.2.2.1 a1 p_beds p_letters p_readers p_far p_drain p_length p_words p_home) FOK_X4 0 rfl rfl 5 (by decide) kw_165 rfl rfl rfl (Nat.le_of_ble_eq_true rfl) dX4_begin_27 rfl ?_
  refine g_iconst (pc := 30) C dX4_begin_30 ci_0 ?_
  refine g_istore_n (pc := 31) C [(2, .int 0), (0, .ref (a0 0)), (1, .ref (a1 0))] dX4_begin_31 rfl (by decide) rfl ?_
  refine g_lv [1, 2, 0] rfl ?_
  exact j_X4_begin_32 C E  FU 0 0 0 0 0 0 0 s_gone s_place s_heard s_many h
noncomputable def f_X4_copy (s_year : Int32) (s_wet : Int32) (s_lost : Int32) (s_eaten : Int32) (s_tied : Int32) (s_ripeMany : Int32) (s_gone : Nat → Int32) (s_place : Nat → Int32) (s_heard : Nat → Int32) (s_many : Nat → Int32) (s_lying : Nat → Int32) (s_ripe : Nat → Int32) (s2_year : Int32) (s2_wet : Int32) (s2_lost : Int32) (s2_eaten : Int32) (s2_tied : Int32) (s2_ripeMany : Int32) (s2_gone : Nat → Int32) (s2_place : Nat → Int32) (s2_heard : Nat → Int32) (s2_many : Nat → Int32) (s2_lying : Nat → Int32) (s2_ripe : Nat → Int32) : Option (Int32 × Int32 × Int32 × Int32 × Int32 × Int32 × (Nat → Int32) × (Nat → Int32) × (Nat → Int32) × (Nat → Int32) × (Nat → Int32) × (Nat → Int32)) := if cpb 0 0 6 6 6 then if cpb 0 0 5 5 5 then if cpb 0 0 5 5 5 then if cpb 0 0 6 6 6 then if cpb 0 0 72 72 72 then if cpb 0 0 60 60 60 then some (s2_year, s2_wet, s2_lost, s2_eaten, s2_tied, s2_ripeMany, va_cpy s2_gone s_gone 0.toNatClampNeg 0.toNatClampNeg 6.toNatClampNeg, va_cpy s2_place s_place 0.toNatClampNeg 0.toNatClampNeg 5.toNatClampNeg, va_cpy s2_heard s_heard 0.toNatClampNeg 0.toNatClampNeg 5.toNatClampNeg, va_cpy s2_many s_many 0.toNatClampNeg 0.toNatClampNeg 6.toNatClampNeg, va_cpy s2_lying s_lying 0.toNatClampNeg 0.toNatClampNeg 72.toNatClampNeg, va_cpy s2_ripe s_ripe 0.toNatClampNeg 0.toNatClampNeg 60.toNatClampNeg) else none else none else none else none else none else none
def rm_X4_copy : Room := { frames := 1, cells := 0, slots := 0, locals := 80 }
set_option maxRecDepth 100000 in
set_option maxHeartbeats 4000000 in
theorem t_X4_copy {J : Jt} {a0 : Nat → Nat} {a1 : Nat → Nat} {s_year : Int32} {s_wet : Int32} {s_lost : Int32} {s_eaten : Int32} {s_tied : Int32} {s_ripeMany : Int32} {s_gone : Nat → Int32} {s_place : Nat → Int32} {s_heard : Nat → Int32} {s_many : Nat → Int32} {s_lying : Nat → Int32} {s_ripe : Nat → Int32} {s2_year : Int32} {s2_wet : Int32} {s2_lost : Int32} {s2_eaten : Int32} {s2_tied : Int32} {s2_ripeMany : Int32} {s2_gone : Nat → Int32} {s2_place : Nat → Int32} {s2_heard : Nat → Int32} {s2_many : Nat → Int32} {s2_lying : Nat → Int32} {s2_ripe : Nat → Int32} {o_s_year : Int32} {o_s_wet : Int32} {o_s_lost : Int32} {o_s_eaten : Int32} {o_s_tied : Int32} {o_s_ripeMany : Int32} {o_s_gone : Nat → Int32} {o_s_place : Nat → Int32} {o_s_heard : Nat → Int32} {o_s_many : Nat → Int32} {o_s_lying : Nat → Int32} {o_s_ripe : Nat → Int32} (h : f_X4_copy s_year s_wet s_lost s_eaten s_tied s_ripeMany s_gone s_place s_heard s_many s_lying s_ripe s2_year s2_wet s2_lost s2_eaten s2_tied s2_ripeMany s2_gone s2_place s2_heard s2_many s2_lying s2_ripe = some (o_s_year, o_s_wet, o_s_lost, o_s_eaten, o_s_tied, o_s_ripeMany, o_s_gone, o_s_place, o_s_heard, o_s_many, o_s_lying, o_s_ripe)) : Mt J yX4_copy cX4_copy 2 none rm_X4_copy [.ref (a0 0), .ref (a1 0)] (cs_X4 J.2.2.1 a0 s_year s_wet s_lost s_eaten s_tied s_ripeMany s_gone s_place s_heard s_many s_lying s_ripe ++ cs_X4 J.2.2.1 a1 s2_year s2_wet s2_lost s2_eaten s2_tied s2_ripeMany s2_gone s2_place s2_heard s2_many s2_lying s2_ripe) none (cs_X4 J.2.2.1 a0 o_s_year o_s_wet o_s_lost o_s_eaten o_s_tied o_s_ripeMany o_s_gone o_s_place o_s_heard o_s_many o_s_lying o_s_ripe ++ cs_X4 J.2.2.1 a1 s2_year s2_wet s2_lost s2_eaten s2_tied s2_ripeMany s2_gone s2_place s2_heard s2_many s2_lying s2_ripe) := by
  refine Mt_of (own := RX4) (by decide) rfl (Nat.le_of_ble_eq_true rfl) rfl (fun Z C E => ?_)
  unfold f_X4_copy at h
  show G J Z 0 0 (cs_X4 J.2.2.1 a0 s_year s_wet s_lost s_eaten s_tied s_ripeMany s_gone s_place s_heard s_many s_lying s_ripe ++ cs_X4 J.2.2.1 a1 s2_year s2_wet s2_lost s2_eaten s2_tied s2_ripeMany s2_gone s2_place s2_heard s2_many s2_lying s2_ripe) 2 [(0, .ref (a0 0)), (1, .ref (a1 0))] 0 []
  refine g_aload_n (pc := 0) C 0 rfl dX4_copy_0 ?_
  refine g_aload_n (pc := 1) C 1 rfl dX4_copy_1 ?_
  refine g_get (pc := 2) C FOK_X4 7 rfl rfl 0 (by decide) kw_154 rfl dX4_copy_2 ?_
  refine g_put (pc := 5) C (w' := cs_X4 J.2.2.1 a0 s2_year s_wet s_lost s_eaten s_tied s_ripeMany s_gone s_place s_heard s_many s_lying s_ripe ++ cs_X4 J.2.2.1 a1 s2_year s2_wet s2_lost s2_eaten s2_tied s2_ripeMany s2_gone s2_place s2_heard s2_many s2_lying s2_ripe) FOK_X4 0 rfl rfl 0 (by decide) kw_154 rfl rfl rfl (Nat.le_of_ble_eq_true rfl) dX4_copy_5 rfl ?_
  refine g_aload_n (pc := 8) C 0 rfl dX4_copy_8 ?_
  refine g_aload_n (pc := 9) C 1 rfl dX4_copy_9 ?_
  refine g_get (pc := 10) C FOK_X4 7 rfl rfl 1 (by decide) kw_157 rfl dX4_copy_10 ?_
  refine g_put (pc := 13) C (w' := cs_X4 J.2.2.1 a0 s2_year s2_wet s_lost s_eaten s_tied s_ripeMany s_gone s_place s_heard s_many s_lying s_ripe ++ cs_X4 J.2.2.1 a1 s2_year s2_wet s2_lost s2_eaten s2_tied s2_ripeMany s2_gone s2_place s2_heard s2_many s2_lying s2_ripe) FOK_X4 0 rfl rfl 1 (by decide) kw_157 rfl rfl rfl (Nat.le_of_ble_eq_true rfl) dX4_copy_13 rfl ?_
  refine g_aload_n (pc := 16) C 0 rfl dX4_copy_16 ?_
  refine g_aload_n (pc := 17) C 1 rfl dX4_copy_17 ?_
  refine g_get (pc := 18) C FOK_X4 7 rfl rfl 2 (by decide) kw_159 rfl dX4_copy_18 ?_
  refine g_put (pc := 21) C (w' := cs_X4 J.2.2.1 a0 s2_year s2_wet s2_lost s_eaten s_tied s_ripeMany s_gone s_place s_heard s_many s_lying s_ripe ++ cs_X4 J.2.2.1 a1 s2_year s2_wet s2_lost s2_eaten s2_tied s2_ripeMany s2_gone s2_place s2_heard s2_many s2_lying s2_ripe) FOK_X4 0 rfl rfl 2 (by decide) kw_159 rfl rfl rfl (Nat.le_of_ble_eq_true rfl) dX4_copy_21 rfl ?_
  refine g_aload_n (pc := 24) C 0 rfl dX4_copy_24 ?_
  refine g_aload_n (pc := 25) C 1 rfl dX4_copy_25 ?_
  refine g_get (pc := 26) C FOK_X4 7 rfl rfl 3 (by decide) kw_161 rfl dX4_copy_26 ?_
  refine g_put (pc := 29) C (w' := cs_X4 J.2.2.1 a0 s2_year s2_wet s2_lost s2_eaten s_tied s_ripeMany s_gone s_place s_heard s_many s_lying s_ripe ++ cs_X4 J.2.2.1 a1 s2_year s2_wet s2_lost s2_eaten s2_tied s2_ripeMany s2_gone s2_place s2_heard s2_many s2_lying s2_ripe) FOK_X4 0 rfl rfl 3 (by decide) kw_161 rfl rfl rfl (Nat.le_of_ble_eq_true rfl) dX4_copy_29 rfl ?_
  refine g_aload_n (pc := 32) C 0 rfl dX4_copy_32 ?_
  refine g_aload_n (pc := 33) C 1 rfl dX4_copy_33 ?_
  refine g_get (pc := 34) C FOK_X4 7 rfl rfl 4 (by decide) kw_163 rfl dX4_copy_34 ?_
  refine g_put (pc := 37) C (w' := cs_X4 J.2.2.1 a0 s2_year s2_wet s2_lost s2_eaten s2_tied s_ripeMany s_gone s_place s_heard s_many s_lying s_ripe ++ cs_X4 J.2.2.1 a1 s2_year s2_wet s2_lost s2_eaten s2_tied s2_ripeMany s2_gone s2_place s2_heard s2_many s2_lying s2_ripe) FOK_X4 0 rfl rfl 4 (by decide) kw_163 rfl rfl rfl (Nat.le_of_ble_eq_true rfl) dX4_copy_37 rfl ?_
  refine g_aload_n (pc := 40) C 0 rfl dX4_copy_40 ?_
  refine g_aload_n (pc := 41) C 1 rfl dX4_copy_41 ?_
  refine g_get (pc := 42) C FOK_X4 7 rfl rfl 5 (by decide) kw_165 rfl dX4_copy_42 ?_
  refine g_put (pc := 45) C (w' := cs_X4 J.2.2.1 a0 s2_year s2_wet s2_lost s2_eaten s2_tied s2_ripeMany s_gone s_place s_heard s_many s_lying s_ripe ++ cs_X4 J.2.2.1 a1 s2_year s2_wet s2_lost s2_eaten s2_tied s2_ripeMany s2_gone s2_place s2_heard s2_many s2_lying s2_ripe) FOK_X4 0 rfl rfl 5 (by decide) kw_165 rfl rfl rfl (Nat.le_of_ble_eq_true rfl) dX4_copy_45 rfl ?_
  refine g_aload_n (pc := 48) C 1 rfl dX4_copy_48 ?_
  refine g_get (pc := 49) C FOK_X4 7 rfl rfl 6 (by decide) kw_167 rfl dX4_copy_49 ?_
  refine g_iconst (pc := 52) C dX4_copy_52 ci_0 ?_
  refine g_aload_n (pc := 53) C 0 rfl dX4_copy_53 ?_
  refine g_get (pc := 54) C FOK_X4 0 rfl rfl 6 (by decide) kw_167 rfl dX4_copy_54 ?_
  refine g_iconst (pc := 57) C dX4_copy_57 ci_0 ?_
  refine g_bipush (pc := 58) C dX4_copy_58 cb_6 ?_
  obtain ⟨hi, h⟩ := cp_of h
  refine g_copyi (pc := 60) C (w' := cs_X4 J.2.2.1 a0 s2_year s2_wet s2_lost s2_eaten s2_tied s2_ripeMany (va_cpy s2_gone s_gone 0.toNatClampNeg 0.toNatClampNeg 6.toNatClampNeg) s_place s_heard s_many s_lying s_ripe ++ cs_X4 J.2.2.1 a1 s2_year s2_wet s2_lost s2_eaten s2_tied s2_ripeMany s2_gone s2_place s2_heard s2_many s2_lying s2_ripe) kw_449 kw_451 kw_450 kw_106 8 1 rfl rfl hi (Nat.le_of_ble_eq_true rfl) (Nat.le_of_ble_eq_true rfl) dX4_copy_60 rfl ?_
  refine g_aload_n (pc := 63) C 1 rfl dX4_copy_63 ?_
  refine g_get (pc := 64) C FOK_X4 7 rfl rfl 7 (by decide) kw_168 rfl dX4_copy_64 ?_
  refine g_iconst (pc := 67) C dX4_copy_67 ci_0 ?_
  refine g_aload_n (pc := 68) C 0 rfl dX4_copy_68 ?_
  refine g_get (pc := 69) C FOK_X4 0 rfl rfl 7 (by decide) kw_168 rfl dX4_copy_69 ?_
  refine g_iconst (pc := 72) C dX4_copy_72 ci_0 ?_
  refine g_iconst (pc := 73) C dX4_copy_73 ci_5 ?_
  obtain ⟨hi, h⟩ := cp_of h
  refine g_copyi (pc := 74) C (w' := cs_X4 J.2.2.1 a0 s2_year s2_wet s2_lost s2_eaten s2_tied s2_ripeMany (va_cpy s2_gone s_gone 0.toNatClampNeg 0.toNatClampNeg 6.toNatClampNeg) (va_cpy s2_place s_place 0.toNatClampNeg 0.toNatClampNeg 5.toNatClampNeg) s_heard s_many s_lying s_ripe ++ cs_X4 J.2.2.1 a1 s2_year s2_wet s2_lost s2_eaten s2_tied s2_ripeMany s2_gone s2_place s2_heard s2_many s2_lying s2_ripe) kw_449 kw_451 kw_450 kw_106 9 2 rfl rfl hi (Nat.le_of_ble_eq_true rfl) (Nat.le_of_ble_eq_true rfl) dX4_copy_74 rfl ?_
  refine g_aload_n (pc := 77) C 1 rfl dX4_copy_77 ?_
  refine g_get (pc := 78) C FOK_X4 7 rfl rfl 8 (by decide) kw_170 rfl dX4_copy_78 ?_
  refine g_iconst (pc := 81) C dX4_copy_81 ci_0 ?_
  refine g_aload_n (pc := 82) C 0 rfl dX4_copy_82 ?_
  refine g_get (pc := 83) C FOK_X4 0 rfl rfl 8 (by decide) kw_170 rfl dX4_copy_83 ?_
  refine g_iconst (pc := 86) C dX4_copy_86 ci_0 ?_
  refine g_iconst (pc := 87) C dX4_copy_87 ci_5 ?_
  obtain ⟨hi, h⟩ := cp_of h
  refine g_copyi (pc := 88) C (w' := cs_X4 J.2.2.1 a0 s2_year s2_wet s2_lost s2_eaten s2_tied s2_ripeMany (va_cpy s2_gone s_gone 0.toNatClampNeg 0.toNatClampNeg 6.toNatClampNeg) (va_cpy s2_place s_place 0.toNatClampNeg 0.toNatClampNeg 5.toNatClampNeg) (va_cpy s2_heard s_heard 0.toNatClampNeg 0.toNatClampNeg 5.toNatClampNeg) s_many s_lying s_ripe ++ cs_X4 J.2.2.1 a1 s2_year s2_wet s2_lost s2_eaten s2_tied s2_ripeMany s2_gone s2_place s2_heard s2_many s2_lying s2_ripe) kw_449 kw_451 kw_450 kw_106 10 3 rfl rfl hi (Nat.le_of_ble_eq_true rfl) (Nat.le_of_ble_eq_true rfl) dX4_copy_88 rfl ?_
  refine g_aload_n (pc := 91) C 1 rfl dX4_copy_91 ?_
  refine g_get (pc := 92) C FOK_X4 7 rfl rfl 9 (by decide) kw_172 rfl dX4_copy_92 ?_
  refine g_iconst (pc := 95) C dX4_copy_95 ci_0 ?_
  refine g_aload_n (pc := 96) C 0 rfl dX4_copy_96 ?_
  refine g_get (pc := 97) C FOK_X4 0 rfl rfl 9 (by decide) kw_172 rfl dX4_copy_97 ?_
  refine g_iconst (pc := 100) C dX4_copy_100 ci_0 ?_
  refine g_bipush (pc := 101) C dX4_copy_101 cb_6 ?_
  obtain ⟨hi, h⟩ := cp_of h
  refine g_copyi (pc := 103) C (w' := cs_X4 J.2.2.1 a0 s2_year s2_wet s2_lost s2_eaten s2_tied s2_ripeMany (va_cpy s2_gone s_gone 0.toNatClampNeg 0.toNatClampNeg 6.toNatClampNeg) (va_cpy s2_place s_place 0.toNatClampNeg 0.toNatClampNeg 5.toNatClampNeg) (va_cpy s2_heard s_heard 0.toNatClampNeg 0.toNatClampNeg 5.toNatClampNeg) (va_cpy s2_many s_many 0.toNatClampNeg 0.toNatClampNeg 6.toNatClampNeg) s_lying s_ripe ++ cs_X4 J.2.2.1 a1 s2_year s2_wet s2_lost s2_eaten s2_tied s2_ripeMany s2_gone s2_place s2_heard s2_many s2_lying s2_ripe) kw_449 kw_451 kw_450 kw_106 11 4 rfl rfl hi (Nat.le_of_ble_eq_true rfl) (Nat.le_of_ble_eq_true rfl) dX4_copy_103 rfl ?_
  refine g_aload_n (pc := 106) C 1 rfl dX4_copy_106 ?_
  refine g_get (pc := 107) C FOK_X4 7 rfl rfl 10 (by decide) kw_174 rfl dX4_copy_107 ?_
  refine g_iconst (pc := 110) C dX4_copy_110 ci_0 ?_
  refine g_aload_n (pc := 111) C 0 rfl dX4_copy_111 ?_
  refine g_get (pc := 112) C FOK_X4 0 rfl rfl 10 (by decide) kw_174 rfl dX4_copy_112 ?_
  refine g_iconst (pc := 115) C dX4_copy_115 ci_0 ?_
  refine g_bipush (pc := 116) C dX4_copy_116 cb_72 ?_
  obtain ⟨hi, h⟩ := cp_of h
  refine g_copyi (pc := 118) C (w' := cs_X4 J.2.2.1 a0 s2_year s2_wet s2_lost s2_eaten s2_tied s2_ripeMany (va_cpy s2_gone s_gone 0.toNatClampNeg 0.toNatClampNeg 6.toNatClampNeg) (va_cpy s2_place s_place 0.toNatClampNeg 0.toNatClampNeg 5.toNatClampNeg) (va_cpy s2_heard s_heard 0.toNatClampNeg 0.toNatClampNeg 5.toNatClampNeg) (va_cpy s2_many s_many 0.toNatClampNeg 0.toNatClampNeg 6.toNatClampNeg) (va_cpy s2_lying s_lying 0.toNatClampNeg 0.toNatClampNeg 72.toNatClampNeg) s_ripe ++ cs_X4 J.2.2.1 a1 s2_year s2_wet s2_lost s2_eaten s2_tied s2_ripeMany s2_gone s2_place s2_heard s2_many s2_lying s2_ripe) kw_449 kw_451 kw_450 kw_106 12 5 rfl rfl hi (Nat.le_of_ble_eq_true rfl) (Nat.le_of_ble_eq_true rfl) dX4_copy_118 rfl ?_
  refine g_aload_n (pc := 121) C 1 rfl dX4_copy_121 ?_
  refine g_get (pc := 122) C FOK_X4 7 rfl rfl 11 (by decide) kw_175 rfl dX4_copy_122 ?_
  refine g_iconst (pc := 125) C dX4_copy_125 ci_0 ?_
  refine g_aload_n (pc := 126) C 0 rfl dX4_copy_126 ?_
  refine g_get (pc := 127) C FOK_X4 0 rfl rfl 11 (by decide) kw_175 rfl dX4_copy_127 ?_
  refine g_iconst (pc := 130) C dX4_copy_130 ci_0 ?_
  refine g_bipush (pc := 131) C dX4_copy_131 cb_60 ?_
  obtain ⟨hi, h⟩ := cp_of h
  refine g_copyi (pc := 133) C (w' := cs_X4 J.2.2.1 a0 s2_year s2_wet s2_lost s2_eaten s2_tied s2_ripeMany (va_cpy s2_gone s_gone 0.toNatClampNeg 0.toNatClampNeg 6.toNatClampNeg) (va_cpy s2_place s_place 0.toNatClampNeg 0.toNatClampNeg 5.toNatClampNeg) (va_cpy s2_heard s_heard 0.toNatClampNeg 0.toNatClampNeg 5.toNatClampNeg) (va_cpy s2_many s_many 0.toNatClampNeg 0.toNatClampNeg 6.toNatClampNeg) (va_cpy s2_lying s_lying 0.toNatClampNeg 0.toNatClampNeg 72.toNatClampNeg) (va_cpy s2_ripe s_ripe 0.toNatClampNeg 0.toNatClampNeg 60.toNatClampNeg) ++ cs_X4 J.2.2.1 a1 s2_year s2_wet s2_lost s2_eaten s2_tied s2_ripeMany s2_gone s2_place s2_heard s2_many s2_lying s2_ripe) kw_449 kw_451 kw_450 kw_106 13 6 rfl rfl hi (Nat.le_of_ble_eq_true rfl) (Nat.le_of_ble_eq_true rfl) dX4_copy_133 rfl ?_
  cases h
  exact g_vret C E dX4_copy_136
noncomputable def f_X9_has  (n1 : Int32) (n2 : Int32) : Option (Int32) := if ((n1 >>> (n2 &&& 31)) &&& 1) = 1 then some 1 else some 0
def rm_X9_has : Room := { frames := 0, cells := 0, slots := 0, locals := 0 }
set_option maxRecDepth 100000 in
set_option maxHeartbeats 4000000 in
theorem t_X9_has {J : Jt}  {n1 : Int32} {n2 : Int32} {r : Int32} (h : f_X9_has n1 n2 = some r) : Mt J yX9_has cX9_has 2 (some .boolean) rm_X9_has [.int n1, .int n2] ([]) (some (.int r)) ([]) := by
  refine Mt_of (own := RX9) (by decide) rfl (Nat.le_of_ble_eq_true rfl) rfl (fun Z C E => ?_)
  unfold f_X9_has at h
  show G J Z 0 0 ([]) 2 [(0, .int n1), (1, .int n2)] 0 []
  refine g_iload_n (pc := 0) C 0 rfl dX9_has_0 ?_
  refine g_iload_n (pc := 1) C 1 rfl dX9_has_1 ?_
  refine g_ishr (pc := 2) C dX9_has_2 ?_
  refine g_iconst (pc := 3) C dX9_has_3 ci_1 ?_
  refine g_iand (pc := 4) C dX9_has_4 ?_
  refine g_iconst (pc := 5) C dX9_has_5 ci_1 ?_
  refine g_icmp_ne (pc := 6) C (tgt := 13) dX9_has_6 rfl h (fun h => ?_) (fun h => ?_)
  · refine g_iconst (pc := 13) C dX9_has_13 ci_0 ?_
    cases h
    exact g_zret C rfl E dX9_has_14
  · refine g_iconst (pc := 9) C dX9_has_9 ci_1 ?_
    refine g_goto (pc := 10) C (tgt := 14) dX9_has_10 rfl ?_
    cases h
    exact g_zret C rfl E dX9_has_14
noncomputable def f_X4_isTied (s_tied : Int32) (n1 : Int32) : Option (Int32) := b1 (f_X9_has s_tied n1) (fun v1 => if zok v1 then some v1 else none)
def rm_X4_isTied : Room := { frames := 1, cells := 0, slots := 0, locals := 21 }
set_option maxRecDepth 100000 in
set_option maxHeartbeats 4000000 in
theorem t_X4_isTied {J : Jt} {a0 : Nat → Nat} {s_year : Int32} {s_wet : Int32} {s_lost : Int32} {s_eaten : Int32} {s_tied : Int32} {s_ripeMany : Int32} {s_gone : Nat → Int32} {s_place : Nat → Int32} {s_heard : Nat → Int32} {s_many : Nat → Int32} {s_lying : Nat → Int32} {s_ripe : Nat → Int32} {n1 : Int32} {r : Int32} (h : f_X4_isTied s_tied n1 = some r) : Mt J yX4_isTied cX4_isTied 2 (some .boolean) rm_X4_isTied [.ref (a0 0), .int n1] (cs_X4 J.2.2.1 a0 s_year s_wet s_lost s_eaten s_tied s_ripeMany s_gone s_place s_heard s_many s_lying s_ripe) (some (.int r)) (cs_X4 J.2.2.1 a0 s_year s_wet s_lost s_eaten s_tied s_ripeMany s_gone s_place s_heard s_many s_lying s_ripe) := by
  refine Mt_of (own := RX4) (by decide) rfl (Nat.le_of_ble_eq_true rfl) rfl (fun Z C E => ?_)
  unfold f_X4_isTied at h
  show G J Z 0 0 (cs_X4 J.2.2.1 a0 s_year s_wet s_lost s_eaten s_tied s_ripeMany s_gone s_place s_heard s_many s_lying s_ripe) 2 [(0, .ref (a0 0)), (1, .int n1)] 0 []
  refine g_aload_n (pc := 0) C 0 rfl dX4_isTied_0 ?_
  refine g_get (pc := 1) C FOK_X4 0 rfl rfl 4 (by decide) kw_163 rfl dX4_isTied_1 ?_
  refine g_iload_n (pc := 4) C 1 rfl dX4_isTied_4 ?_
  obtain ⟨v1, hc, h⟩ := b1_of h
  refine g_callSN (pc := 5) C (w' := cs_X4 J.2.2.1 a0 s_year s_wet s_lost s_eaten s_tied s_ripeMany s_gone s_place s_heard s_many s_lying s_ripe) (As := [.int s_tied, .int n1]) (st := []) (t_X9_has hc) Sub.nil (by decide) kw_483 kw_86 hn_X9_has kw_484 rfl (Nat.le_of_ble_eq_true rfl) (Nat.le_of_ble_eq_true rfl) (Nat.le_of_ble_eq_true rfl) (Nat.le_of_ble_eq_true rfl) (Nat.le_of_ble_eq_true rfl) dX4_isTied_5 ?_
  obtain ⟨hz, h⟩ := zok_of h
  cases h
  exact g_zret C hz E dX4_isTied_8
noncomputable def f_X4_leftOfAll_4 (s_gone : Nat → Int32) (p_letters : Int32) (p_length : Nat → Int32) : Nat → Int32 → Int32 → Option (Int32)
  | 0, _, _ => none
  | n + 1, x2, x3 => if p_letters ≤ x3 then some x2 else b1 (f_X4_leftOf s_gone p_length x3) (fun v1 => f_X4_leftOfAll_4 s_gone p_letters p_length n (x2 + v1) (x3 + 1))
noncomputable def f_X4_leftOfAll (s_gone : Nat → Int32) (p_letters : Int32) (p_length : Nat → Int32) : Option (Int32) := f_X4_leftOfAll_4 s_gone p_letters p_length FU 0 0
def rm_X4_leftOfAll : Room := { frames := 1, cells := 0, slots := 0, locals := 22 }
set_option maxRecDepth 100000 in
set_option maxHeartbeats 4000000 in
theorem j_X4_leftOfAll_4 {J : Jt} {Z : Zt} {a0 : Nat → Nat} {a1 : Nat → Nat} {s_year : Int32} {s_wet : Int32} {s_lost : Int32} {s_eaten : Int32} {s_tied : Int32} {s_ripeMany : Int32} {s_gone : Nat → Int32} {s_place : Nat → Int32} {s_heard : Nat → Int32} {s_many : Nat → Int32} {s_lying : Nat → Int32} {s_ripe : Nat → Int32} {p_beds : Int32} {p_letters : Int32} {p_readers : Int32} {p_far : Nat → Int32} {p_drain : Nat → Int32} {p_length : Nat → Int32} {p_words : Nat → Int32} {p_home : Nat → Int32} {r : Int32} (C : Cx J Z cX4_leftOfAll 4 RX4 (some .int) rm_X4_leftOfAll) (E : Ez J Z 0 0 (some (.int r)) (cs_X4 J.2.2.1 a0 s_year s_wet s_lost s_eaten s_tied s_ripeMany s_gone s_place s_heard s_many s_lying s_ripe ++ cs_X2 J.2.2.1 a1 p_beds p_letters p_readers p_far p_drain p_length p_words p_home)) : ∀ (n : Nat) (x2 : Int32) (x3 : Int32), f_X4_leftOfAll_4 s_gone p_letters p_length n x2 x3 = some r → G J Z 0 0 (cs_X4 J.2.2.1 a0 s_year s_wet s_lost s_eaten s_tied s_ripeMany s_gone s_place s_heard s_many s_lying s_ripe ++ cs_X2 J.2.2.1 a1 p_beds p_letters p_readers p_far p_drain p_length p_words p_home) 4 [(0, .ref (a0 0)), (1, .ref (a1 0)), (2, .int x2), (3, .int x3)] 4 [] := by
  intro n
  induction n with
  | zero =>
    intro x2 x3 h
    rw [f_X4_leftOfAll_4] at h
    cases h
  | succ n ih =>
    intro x2 x3 h
    rw [f_X4_leftOfAll_4] at h
    refine g_iload_n (pc := 4) C 3 rfl dX4_leftOfAll_4 ?_
    refine g_aload_n (pc := 5) C 1 rfl dX4_leftOfAll_5 ?_
    refine g_get (pc := 6) C FOK_X2 7 rfl rfl 1 (by decide) kw_285 rfl dX4_leftOfAll_6 ?_
    refine g_icmp_ge (pc := 9) C (tgt := 27) dX4_leftOfAll_9 rfl h (fun h => ?_) (fun h => ?_)
    · refine g_iload_n (pc := 27) C 2 rfl dX4_leftOfAll_27 ?_
      cases h
      exact g_iret C E dX4_leftOfAll_28
    · refine g_iload_n (pc := 12) C 2 rfl dX4_leftOfAll_12 ?_
      refine g_aload_n (pc := 13) C 0 rfl dX4_leftOfAll_13 ?_
      refine g_aload_n (pc := 14) C 1 rfl dX4_leftOfAll_14 ?_
      refine g_iload_n (pc := 15) C 3 rfl dX4_leftOfAll_15 ?_
      obtain ⟨v1, hc, h⟩ := b1_of h
      refine g_callV (pc := 16) C (w' := cs_X4 J.2.2.1 a0 s_year s_wet s_lost s_eaten s_tied s_ripeMany s_gone s_place s_heard s_many s_lying s_ripe ++ cs_X2 J.2.2.1 a1 p_beds p_letters p_readers p_far p_drain p_length p_words p_home) (As := [.ref (a1 0), .int x3]) (st := [.int x2]) (ci := 4) (q0 := 0) rfl rfl (t_X4_leftOf hc) Sub.same kw_476 kw_465 kw_466 kw_88 hy_X4_leftOf kw_467 rfl (Nat.le_of_ble_eq_true rfl) (Nat.le_of_ble_eq_true rfl) (Nat.le_of_ble_eq_true rfl) (Nat.le_of_ble_eq_true rfl) (Nat.le_of_ble_eq_true rfl) dX4_leftOfAll_16 ?_
      refine g_iadd (pc := 19) C dX4_leftOfAll_19 ?_
      refine g_istore_n (pc := 20) C [(2, .int (x2 + v1)), (0, .ref (a0 0)), (1, .ref (a1 0)), (3, .int x3)] dX4_leftOfAll_20 rfl (by decide) rfl ?_
      refine g_iinc (pc := 21) C (j := 3) [(3, .int (x3 + 1)), (2, .int (x2 + v1)), (0, .ref (a0 0)), (1, .ref (a1 0))] dX4_leftOfAll_21 rfl (ii_1 _) (by decide) rfl ?_
      refine g_goto (pc := 24) C (tgt := 4) dX4_leftOfAll_24 rfl ?_
      refine g_lv [2, 3, 1, 0] rfl ?_
      exact ih (x2 + v1) (x3 + 1) h
set_option maxRecDepth 100000 in
set_option maxHeartbeats 4000000 in
theorem t_X4_leftOfAll {J : Jt} {a0 : Nat → Nat} {a1 : Nat → Nat} {s_year : Int32} {s_wet : Int32} {s_lost : Int32} {s_eaten : Int32} {s_tied : Int32} {s_ripeMany : Int32} {s_gone : Nat → Int32} {s_place : Nat → Int32} {s_heard : Nat → Int32} {s_many : Nat → Int32} {s_lying : Nat → Int32} {s_ripe : Nat → Int32} {p_beds : Int32} {p_letters : Int32} {p_readers : Int32} {p_far : Nat → Int32} {p_drain : Nat → Int32} {p_length : Nat → Int32} {p_words : Nat → Int32} {p_home : Nat → Int32} {r : Int32} (h : f_X4_leftOfAll s_gone p_letters p_length = some r) : Mt J yX4_leftOfAll cX4_leftOfAll 4 (some .int) rm_X4_leftOfAll [.ref (a0 0), .ref (a1 0)] (cs_X4 J.2.2.1 a0 s_year s_wet s_lost s_eaten s_tied s_ripeMany s_gone s_place s_heard s_many s_lying s_ripe ++ cs_X2 J.2.2.1 a1 p_beds p_letters p_readers p_far p_drain p_length p_words p_home) (some (.int r)) (cs_X4 J.2.2.1 a0 s_year s_wet s_lost s_eaten s_tied s_ripeMany s_gone s_place s_heard s_many s_lying s_ripe ++ cs_X2 J.2.2.1 a1 p_beds p_letters p_readers p_far p_drain p_length p_words p_home) := by
  refine Mt_of (own := RX4) (by decide) rfl (Nat.le_of_ble_eq_true rfl) rfl (fun Z C E => ?_)
  unfold f_X4_leftOfAll at h
  show G J Z 0 0 (cs_X4 J.2.2.1 a0 s_year s_wet s_lost s_eaten s_tied s_ripeMany s_gone s_place s_heard s_many s_lying s_ripe ++ cs_X2 J.2.2.1 a1 p_beds p_letters p_readers p_far p_drain p_length p_words p_home) 4 [(0, .ref (a0 0)), (1, .ref (a1 0))] 0 []
  refine g_iconst (pc := 0) C dX4_leftOfAll_0 ci_0 ?_
  refine g_istore_n (pc := 1) C [(2, .int 0), (0, .ref (a0 0)), (1, .ref (a1 0))] dX4_leftOfAll_1 rfl (by decide) rfl ?_
  refine g_iconst (pc := 2) C dX4_leftOfAll_2 ci_0 ?_
  refine g_istore_n (pc := 3) C [(3, .int 0), (2, .int 0), (0, .ref (a0 0)), (1, .ref (a1 0))] dX4_leftOfAll_3 rfl (by decide) rfl ?_
  refine g_lv [2, 3, 1, 0] rfl ?_
  exact j_X4_leftOfAll_4 C E  FU 0 0 h
noncomputable def f_X4_nextOf (s_gone : Nat → Int32) (p_length : Nat → Int32) (p_words : Nat → Int32) (n1 : Int32) : Option (Int32) := b1 (f_X4_leftOf s_gone p_length n1) (fun v1 => if v1 ≤ 0 then some (-1) else if ixb n1 6 then b1 (f_X2_wordAt p_words n1 (s_gone n1.toNatClampNeg)) (fun v2 => some v2) else none)
def rm_X4_nextOf : Room := { frames := 1, cells := 0, slots := 0, locals := 22 }
set_option maxRecDepth 100000 in
set_option maxHeartbeats 4000000 in
theorem t_X4_nextOf {J : Jt} {a0 : Nat → Nat} {a1 : Nat → Nat} {s_year : Int32} {s_wet : Int32} {s_lost : Int32} {s_eaten : Int32} {s_tied : Int32} {s_ripeMany : Int32} {s_gone : Nat → Int32} {s_place : Nat → Int32} {s_heard : Nat → Int32} {s_many : Nat → Int32} {s_lying : Nat → Int32} {s_ripe : Nat → Int32} {p_beds : Int32} {p_letters : Int32} {p_readers : Int32} {p_far : Nat → Int32} {p_drain : Nat → Int32} {p_length : Nat → Int32} {p_words : Nat → Int32} {p_home : Nat → Int32} {n1 : Int32} {r : Int32} (h : f_X4_nextOf s_gone p_length p_words n1 = some r) : Mt J yX4_nextOf cX4_nextOf 3 (some .int) rm_X4_nextOf [.ref (a0 0), .ref (a1 0), .int n1] (cs_X4 J.2.2.1 a0 s_year s_wet s_lost s_eaten s_tied s_ripeMany s_gone s_place s_heard s_many s_lying s_ripe ++ cs_X2 J.2.2.1 a1 p_beds p_letters p_readers p_far p_drain p_length p_words p_home) (some (.int r)) (cs_X4 J.2.2.1 a0 s_year s_wet s_lost s_eaten s_tied s_ripeMany s_gone s_place s_heard s_many s_lying s_ripe ++ cs_X2 J.2.2.1 a1 p_beds p_letters p_readers p_far p_drain p_length p_words p_home) := by
  refine Mt_of (own := RX4) (by decide) rfl (Nat.le_of_ble_eq_true rfl) rfl (fun Z C E => ?_)
  unfold f_X4_nextOf at h
  show G J Z 0 0 (cs_X4 J.2.2.1 a0 s_year s_wet s_lost s_eaten s_tied s_ripeMany s_gone s_place s_heard s_many s_lying s_ripe ++ cs_X2 J.2.2.1 a1 p_beds p_letters p_readers p_far p_drain p_length p_words p_home) 3 [(0, .ref (a0 0)), (1, .ref (a1 0)), (2, .int n1)] 0 []
  refine g_aload_n (pc := 0) C 0 rfl dX4_nextOf_0 ?_
  refine g_aload_n (pc := 1) C 1 rfl dX4_nextOf_1 ?_
  refine g_iload_n (pc := 2) C 2 rfl dX4_nextOf_2 ?_
  obtain ⟨v1, hc, h⟩ := b1_of h
  refine g_callV (pc := 3) C (w' := cs_X4 J.2.2.1 a0 s_year s_wet s_lost s_eaten s_tied s_ripeMany s_gone s_place s_heard s_many s_lying s_ripe ++ cs_X2 J.2.2.1 a1 p_beds p_letters p_readers p_far p_drain p_length p_words p_home) (As := [.ref (a1 0), .int n1]) (st := []) (ci := 4) (q0 := 0) rfl rfl (t_X4_leftOf hc) Sub.same kw_476 kw_465 kw_466 kw_88 hy_X4_leftOf kw_467 rfl (Nat.le_of_ble_eq_true rfl) (Nat.le_of_ble_eq_true rfl) (Nat.le_of_ble_eq_true rfl) (Nat.le_of_ble_eq_true rfl) (Nat.le_of_ble_eq_true rfl) dX4_nextOf_3 ?_
  refine g_if_le (pc := 6) C (tgt := 23) dX4_nextOf_6 rfl h (fun h => ?_) (fun h => ?_)
  · refine g_iconst (pc := 23) C dX4_nextOf_23 ci_m1 ?_
    cases h
    exact g_iret C E dX4_nextOf_24
  · refine g_aload_n (pc := 9) C 1 rfl dX4_nextOf_9 ?_
    refine g_iload_n (pc := 10) C 2 rfl dX4_nextOf_10 ?_
    refine g_aload_n (pc := 11) C 0 rfl dX4_nextOf_11 ?_
    refine g_get (pc := 12) C FOK_X4 0 rfl rfl 6 (by decide) kw_167 rfl dX4_nextOf_12 ?_
    refine g_iload_n (pc := 15) C 2 rfl dX4_nextOf_15 ?_
    obtain ⟨hi, h⟩ := ix_of h
    refine g_iald (pc := 16) C 1 rfl hi dX4_nextOf_16 ?_
    obtain ⟨v2, hc, h⟩ := b1_of h
    refine g_callV (pc := 17) C (w' := cs_X4 J.2.2.1 a0 s_year s_wet s_lost s_eaten s_tied s_ripeMany s_gone s_place s_heard s_many s_lying s_ripe ++ cs_X2 J.2.2.1 a1 p_beds p_letters p_readers p_far p_drain p_length p_words p_home) (As := [.int n1, .int (s_gone n1.toNatClampNeg)]) (st := []) (ci := 2) (q0 := 7) rfl rfl (t_X2_wordAt hc) (Sub.gen [7, 8, 9, 10, 11, 12] [0, 1, 2, 3, 4, 5, 6] [0, 1, 2, 3, 4, 5, 6, 7, 8, 9, 10, 11, 12] rfl (by decide) rfl (by decide) (by decide) rfl (by decide)) kw_477 kw_469 kw_470 kw_92 hy_X2_wordAt kw_471 rfl (Nat.le_of_ble_eq_true rfl) (Nat.le_of_ble_eq_true rfl) (Nat.le_of_ble_eq_true rfl) (Nat.le_of_ble_eq_true rfl) (Nat.le_of_ble_eq_true rfl) dX4_nextOf_17 ?_
    refine g_goto (pc := 20) C (tgt := 24) dX4_nextOf_20 rfl ?_
    cases h
    exact g_iret C E dX4_nextOf_24
noncomputable def f_X4_lyingInAll_4 (s_many : Nat → Int32) : Nat → Int32 → Int32 → Option (Int32)
  | 0, _, _ => none
  | n + 1, x1, x2 => if 6 ≤ x2 then some x1 else if ixb x2 6 then f_X4_lyingInAll_4 s_many n (x1 + (s_many x2.toNatClampNeg)) (x2 + 1) else none
noncomputable def f_X4_lyingInAll (s_many : Nat → Int32) : Option (Int32) := f_X4_lyingInAll_4 s_many FU 0 0
def rm_X4_lyingInAll : Room := { frames := 0, cells := 0, slots := 0, locals := 0 }
set_option maxRecDepth 100000 in
set_option maxHeartbeats 4000000 in
theorem j_X4_lyingInAll_4 {J : Jt} {Z : Zt} {a0 : Nat → Nat} {s_year : Int32} {s_wet : Int32} {s_lost : Int32} {s_eaten : Int32} {s_tied : Int32} {s_ripeMany : Int32} {s_gone : Nat → Int32} {s_place : Nat → Int32} {s_heard : Nat → Int32} {s_many : Nat → Int32} {s_lying : Nat → Int32} {s_ripe : Nat → Int32} {r : Int32} (C : Cx J Z cX4_lyingInAll 3 RX4 (some .int) rm_X4_lyingInAll) (E : Ez J Z 0 0 (some (.int r)) (cs_X4 J.2.2.1 a0 s_year s_wet s_lost s_eaten s_tied s_ripeMany s_gone s_place s_heard s_many s_lying s_ripe)) : ∀ (n : Nat) (x1 : Int32) (x2 : Int32), f_X4_lyingInAll_4 s_many n x1 x2 = some r → G J Z 0 0 (cs_X4 J.2.2.1 a0 s_year s_wet s_lost s_eaten s_tied s_ripeMany s_gone s_place s_heard s_many s_lying s_ripe) 3 [(0, .ref (a0 0)), (1, .int x1), (2, .int x2)] 4 [] := by
  intro n
  induction n with
  | zero =>
    intro x1 x2 h
    rw [f_X4_lyingInAll_4] at h
    cases h
  | succ n ih =>
    intro x1 x2 h
    rw [f_X4_lyingInAll_4] at h
    refine g_iload_n (pc := 4) C 2 rfl dX4_lyingInAll_4 ?_
    refine g_bipush (pc := 5) C dX4_lyingInAll_5 cb_6 ?_
    refine g_icmp_ge (pc := 7) C (tgt := 25) dX4_lyingInAll_7 rfl h (fun h => ?_) (fun h => ?_)
    · refine g_iload_n (pc := 25) C 1 rfl dX4_lyingInAll_25 ?_
      cases h
      exact g_iret C E dX4_lyingInAll_26
    · refine g_iload_n (pc := 10) C 1 rfl dX4_lyingInAll_10 ?_
      refine g_aload_n (pc := 11) C 0 rfl dX4_lyingInAll_11 ?_
      refine g_get (pc := 12) C FOK_X4 0 rfl rfl 9 (by decide) kw_172 rfl dX4_lyingInAll_12 ?_
      refine g_iload_n (pc := 15) C 2 rfl dX4_lyingInAll_15 ?_
      obtain ⟨hi, h⟩ := ix_of h
      refine g_iald (pc := 16) C 4 rfl hi dX4_lyingInAll_16 ?_
      refine g_iadd (pc := 17) C dX4_lyingInAll_17 ?_
      refine g_istore_n (pc := 18) C [(1, .int (x1 + (s_many x2.toNatClampNeg))), (0, .ref (a0 0)), (2, .int x2)] dX4_lyingInAll_18 rfl (by decide) rfl ?_
      refine g_iinc (pc := 19) C (j := 2) [(2, .int (x2 + 1)), (1, .int (x1 + (s_many x2.toNatClampNeg))), (0, .ref (a0 0))] dX4_lyingInAll_19 rfl (ii_1 _) (by decide) rfl ?_
      refine g_goto (pc := 22) C (tgt := 4) dX4_lyingInAll_22 rfl ?_
      refine g_lv [2, 1, 0] rfl ?_
      exact ih (x1 + (s_many x2.toNatClampNeg)) (x2 + 1) h
set_option maxRecDepth 100000 in
set_option maxHeartbeats 4000000 in
theorem t_X4_lyingInAll {J : Jt} {a0 : Nat → Nat} {s_year : Int32} {s_wet : Int32} {s_lost : Int32} {s_eaten : Int32} {s_tied : Int32} {s_ripeMany : Int32} {s_gone : Nat → Int32} {s_place : Nat → Int32} {s_heard : Nat → Int32} {s_many : Nat → Int32} {s_lying : Nat → Int32} {s_ripe : Nat → Int32} {r : Int32} (h : f_X4_lyingInAll s_many = some r) : Mt J yX4_lyingInAll cX4_lyingInAll 3 (some .int) rm_X4_lyingInAll [.ref (a0 0)] (cs_X4 J.2.2.1 a0 s_year s_wet s_lost s_eaten s_tied s_ripeMany s_gone s_place s_heard s_many s_lying s_ripe) (some (.int r)) (cs_X4 J.2.2.1 a0 s_year s_wet s_lost s_eaten s_tied s_ripeMany s_gone s_place s_heard s_many s_lying s_ripe) := by
  refine Mt_of (own := RX4) (by decide) rfl (Nat.le_of_ble_eq_true rfl) rfl (fun Z C E => ?_)
  unfold f_X4_lyingInAll at h
  show G J Z 0 0 (cs_X4 J.2.2.1 a0 s_year s_wet s_lost s_eaten s_tied s_ripeMany s_gone s_place s_heard s_many s_lying s_ripe) 3 [(0, .ref (a0 0))] 0 []
  refine g_iconst (pc := 0) C dX4_lyingInAll_0 ci_0 ?_
  refine g_istore_n (pc := 1) C [(1, .int 0), (0, .ref (a0 0))] dX4_lyingInAll_1 rfl (by decide) rfl ?_
  refine g_iconst (pc := 2) C dX4_lyingInAll_2 ci_0 ?_
  refine g_istore_n (pc := 3) C [(2, .int 0), (1, .int 0), (0, .ref (a0 0))] dX4_lyingInAll_3 rfl (by decide) rfl ?_
  refine g_lv [2, 1, 0] rfl ?_
  exact j_X4_lyingInAll_4 C E  FU 0 0 h
noncomputable def f_X4_wordsIn_4 (s_many : Nat → Int32) (s_lying : Nat → Int32) (n1 : Int32) : Nat → Int32 → Int32 → Option (Int32)
  | 0, _, _ => none
  | n + 1, x2, x3 => if ixb n1 6 then if (s_many n1.toNatClampNeg) ≤ x3 then some x2 else b1 (f_X4_lyingAt s_many s_lying n1 x3) (fun v1 => f_X4_wordsIn_4 s_many s_lying n1 n (x2 ||| (1 <<< (v1 &&& 31))) (x3 + 1)) else none
noncomputable def f_X4_wordsIn (s_many : Nat → Int32) (s_lying : Nat → Int32) (n1 : Int32) : Option (Int32) := f_X4_wordsIn_4 s_many s_lying n1 FU 0 0
def rm_X4_wordsIn : Room := { frames := 1, cells := 0, slots := 0, locals := 22 }
set_option maxRecDepth 100000 in
set_option maxHeartbeats 4000000 in
theorem j_X4_wordsIn_4 {J : Jt} {Z : Zt} {a0 : Nat → Nat} {s_year : Int32} {s_wet : Int32} {s_lost : Int32} {s_eaten : Int32} {s_tied : Int32} {s_ripeMany : Int32} {s_gone : Nat → Int32} {s_place : Nat → Int32} {s_heard : Nat → Int32} {s_many : Nat → Int32} {s_lying : Nat → Int32} {s_ripe : Nat → Int32} {n1 : Int32} {r : Int32} (C : Cx J Z cX4_wordsIn 4 RX4 (some .int) rm_X4_wordsIn) (E : Ez J Z 0 0 (some (.int r)) (cs_X4 J.2.2.1 a0 s_year s_wet s_lost s_eaten s_tied s_ripeMany s_gone s_place s_heard s_many s_lying s_ripe)) : ∀ (n : Nat) (x2 : Int32) (x3 : Int32), f_X4_wordsIn_4 s_many s_lying n1 n x2 x3 = some r → G J Z 0 0 (cs_X4 J.2.2.1 a0 s_year s_wet s_lost s_eaten s_tied s_ripeMany s_gone s_place s_heard s_many s_lying s_ripe) 4 [(0, .ref (a0 0)), (1, .int n1), (2, .int x2), (3, .int x3)] 4 [] := by
  intro n
  induction n with
  | zero =>
    intro x2 x3 h
    rw [f_X4_wordsIn_4] at h
    cases h
  | succ n ih =>
    intro x2 x3 h
    rw [f_X4_wordsIn_4] at h
    refine g_iload_n (pc := 4) C 3 rfl dX4_wordsIn_4 ?_
    refine g_aload_n (pc := 5) C 0 rfl dX4_wordsIn_5 ?_
    refine g_get (pc := 6) C FOK_X4 0 rfl rfl 9 (by decide) kw_172 rfl dX4_wordsIn_6 ?_
    refine g_iload_n (pc := 9) C 1 rfl dX4_wordsIn_9 ?_
    obtain ⟨hi, h⟩ := ix_of h
    refine g_iald (pc := 10) C 4 rfl hi dX4_wordsIn_10 ?_
    refine g_icmp_ge (pc := 11) C (tgt := 31) dX4_wordsIn_11 rfl h (fun h => ?_) (fun h => ?_)
    · refine g_iload_n (pc := 31) C 2 rfl dX4_wordsIn_31 ?_
      cases h
      exact g_iret C E dX4_wordsIn_32
    · refine g_iload_n (pc := 14) C 2 rfl dX4_wordsIn_14 ?_
      refine g_iconst (pc := 15) C dX4_wordsIn_15 ci_1 ?_
      refine g_aload_n (pc := 16) C 0 rfl dX4_wordsIn_16 ?_
      refine g_iload_n (pc := 17) C 1 rfl dX4_wordsIn_17 ?_
      refine g_iload_n (pc := 18) C 3 rfl dX4_wordsIn_18 ?_
      obtain ⟨v1, hc, h⟩ := b1_of h
      refine g_callV (pc := 19) C (w' := cs_X4 J.2.2.1 a0 s_year s_wet s_lost s_eaten s_tied s_ripeMany s_gone s_place s_heard s_many s_lying s_ripe) (As := [.int n1, .int x3]) (st := [.int 1, .int x2]) (ci := 4) (q0 := 0) rfl rfl (t_X4_lyingAt hc) Sub.same kw_873 kw_874 kw_875 kw_88 hy_X4_lyingAt kw_876 rfl (Nat.le_of_ble_eq_true rfl) (Nat.le_of_ble_eq_true rfl) (Nat.le_of_ble_eq_true rfl) (Nat.le_of_ble_eq_true rfl) (Nat.le_of_ble_eq_true rfl) dX4_wordsIn_19 ?_
      refine g_ishl (pc := 22) C dX4_wordsIn_22 ?_
      refine g_ior (pc := 23) C dX4_wordsIn_23 ?_
      refine g_istore_n (pc := 24) C [(2, .int (x2 ||| (1 <<< (v1 &&& 31)))), (0, .ref (a0 0)), (1, .int n1), (3, .int x3)] dX4_wordsIn_24 rfl (by decide) rfl ?_
      refine g_iinc (pc := 25) C (j := 3) [(3, .int (x3 + 1)), (2, .int (x2 ||| (1 <<< (v1 &&& 31)))), (0, .ref (a0 0)), (1, .int n1)] dX4_wordsIn_25 rfl (ii_1 _) (by decide) rfl ?_
      refine g_goto (pc := 28) C (tgt := 4) dX4_wordsIn_28 rfl ?_
      refine g_lv [2, 3, 1, 0] rfl ?_
      exact ih (x2 ||| (1 <<< (v1 &&& 31))) (x3 + 1) h
set_option maxRecDepth 100000 in
set_option maxHeartbeats 4000000 in
theorem t_X4_wordsIn {J : Jt} {a0 : Nat → Nat} {s_year : Int32} {s_wet : Int32} {s_lost : Int32} {s_eaten : Int32} {s_tied : Int32} {s_ripeMany : Int32} {s_gone : Nat → Int32} {s_place : Nat → Int32} {s_heard : Nat → Int32} {s_many : Nat → Int32} {s_lying : Nat → Int32} {s_ripe : Nat → Int32} {n1 : Int32} {r : Int32} (h : f_X4_wordsIn s_many s_lying n1 = some r) : Mt J yX4_wordsIn cX4_wordsIn 4 (some .int) rm_X4_wordsIn [.ref (a0 0), .int n1] (cs_X4 J.2.2.1 a0 s_year s_wet s_lost s_eaten s_tied s_ripeMany s_gone s_place s_heard s_many s_lying s_ripe) (some (.int r)) (cs_X4 J.2.2.1 a0 s_year s_wet s_lost s_eaten s_tied s_ripeMany s_gone s_place s_heard s_many s_lying s_ripe) := by
  refine Mt_of (own := RX4) (by decide) rfl (Nat.le_of_ble_eq_true rfl) rfl (fun Z C E => ?_)
  unfold f_X4_wordsIn at h
  show G J Z 0 0 (cs_X4 J.2.2.1 a0 s_year s_wet s_lost s_eaten s_tied s_ripeMany s_gone s_place s_heard s_many s_lying s_ripe) 4 [(0, .ref (a0 0)), (1, .int n1)] 0 []
  refine g_iconst (pc := 0) C dX4_wordsIn_0 ci_0 ?_
  refine g_istore_n (pc := 1) C [(2, .int 0), (0, .ref (a0 0)), (1, .int n1)] dX4_wordsIn_1 rfl (by decide) rfl ?_
  refine g_iconst (pc := 2) C dX4_wordsIn_2 ci_0 ?_
  refine g_istore_n (pc := 3) C [(3, .int 0), (2, .int 0), (0, .ref (a0 0)), (1, .int n1)] dX4_wordsIn_3 rfl (by decide) rfl ?_
  refine g_lv [2, 3, 1, 0] rfl ?_
  exact j_X4_wordsIn_4 C E  FU 0 0 h
noncomputable def f_X4_wordsInAll_4 (s_many : Nat → Int32) (s_lying : Nat → Int32) (p_beds : Int32) : Nat → Int32 → Int32 → Option (Int32)
  | 0, _, _ => none
  | n + 1, x2, x3 => if p_beds ≤ x3 then some x2 else b1 (f_X4_wordsIn s_many s_lying x3) (fun v1 => f_X4_wordsInAll_4 s_many s_lying p_beds n (x2 ||| v1) (x3 + 1))
noncomputable def f_X4_wordsInAll (s_many : Nat → Int32) (s_lying : Nat → Int32) (p_beds : Int32) : Option (Int32) := f_X4_wordsInAll_4 s_many s_lying p_beds FU 0 0
def rm_X4_wordsInAll : Room := { frames := 2, cells := 0, slots := 0, locals := 45 }
set_option maxRecDepth 100000 in
set_option maxHeartbeats 4000000 in
theorem j_X4_wordsInAll_4 {J : Jt} {Z : Zt} {a0 : Nat → Nat} {a1 : Nat → Nat} {s_year : Int32} {s_wet : Int32} {s_lost : Int32} {s_eaten : Int32} {s_tied : Int32} {s_ripeMany : Int32} {s_gone : Nat → Int32} {s_place : Nat → Int32} {s_heard : Nat → Int32} {s_many : Nat → Int32} {s_lying : Nat → Int32} {s_ripe : Nat → Int32} {p_beds : Int32} {p_letters : Int32} {p_readers : Int32} {p_far : Nat → Int32} {p_drain : Nat → Int32} {p_length : Nat → Int32} {p_words : Nat → Int32} {p_home : Nat → Int32} {r : Int32} (C : Cx J Z cX4_wordsInAll 4 RX4 (some .int) rm_X4_wordsInAll) (E : Ez J Z 0 0 (some (.int r)) (cs_X4 J.2.2.1 a0 s_year s_wet s_lost s_eaten s_tied s_ripeMany s_gone s_place s_heard s_many s_lying s_ripe ++ cs_X2 J.2.2.1 a1 p_beds p_letters p_readers p_far p_drain p_length p_words p_home)) : ∀ (n : Nat) (x2 : Int32) (x3 : Int32), f_X4_wordsInAll_4 s_many s_lying p_beds n x2 x3 = some r → G J Z 0 0 (cs_X4 J.2.2.1 a0 s_year s_wet s_lost s_eaten s_tied s_ripeMany s_gone s_place s_heard s_many s_lying s_ripe ++ cs_X2 J.2.2.1 a1 p_beds p_letters p_readers p_far p_drain p_length p_words p_home) 4 [(0, .ref (a0 0)), (1, .ref (a1 0)), (2, .int x2), (3, .int x3)] 4 [] := by
  intro n
  induction n with
  | zero =>
    intro x2 x3 h
    rw [f_X4_wordsInAll_4] at h
    cases h
  | succ n ih =>
    intro x2 x3 h
    rw [f_X4_wordsInAll_4] at h
    refine g_iload_n (pc := 4) C 3 rfl dX4_wordsInAll_4 ?_
    refine g_aload_n (pc := 5) C 1 rfl dX4_wordsInAll_5 ?_
    refine g_get (pc := 6) C FOK_X2 7 rfl rfl 0 (by decide) kw_280 rfl dX4_wordsInAll_6 ?_
    refine g_icmp_ge (pc := 9) C (tgt := 26) dX4_wordsInAll_9 rfl h (fun h => ?_) (fun h => ?_)
    · refine g_iload_n (pc := 26) C 2 rfl dX4_wordsInAll_26 ?_
      cases h
      exact g_iret C E dX4_wordsInAll_27
    · refine g_iload_n (pc := 12) C 2 rfl dX4_wordsInAll_12 ?_
      refine g_aload_n (pc := 13) C 0 rfl dX4_wordsInAll_13 ?_
      refine g_iload_n (pc := 14) C 3 rfl dX4_wordsInAll_14 ?_
      obtain ⟨v1, hc, h⟩ := b1_of h
      refine g_callV (pc := 15) C (w' := cs_X4 J.2.2.1 a0 s_year s_wet s_lost s_eaten s_tied s_ripeMany s_gone s_place s_heard s_many s_lying s_ripe ++ cs_X2 J.2.2.1 a1 p_beds p_letters p_readers p_far p_drain p_length p_words p_home) (As := [.int x3]) (st := [.int x2]) (ci := 4) (q0 := 0) rfl rfl (t_X4_wordsIn hc) (Sub.gen [0, 1, 2, 3, 4, 5, 6] [7, 8, 9, 10, 11, 12] [6, 7, 8, 9, 10, 11, 12, 0, 1, 2, 3, 4, 5] rfl (by decide) rfl (by decide) (by decide) rfl (by decide)) kw_869 kw_870 kw_871 kw_88 hy_X4_wordsIn kw_872 rfl (Nat.le_of_ble_eq_true rfl) (Nat.le_of_ble_eq_true rfl) (Nat.le_of_ble_eq_true rfl) (Nat.le_of_ble_eq_true rfl) (Nat.le_of_ble_eq_true rfl) dX4_wordsInAll_15 ?_
      refine g_ior (pc := 18) C dX4_wordsInAll_18 ?_
      refine g_istore_n (pc := 19) C [(2, .int (x2 ||| v1)), (0, .ref (a0 0)), (1, .ref (a1 0)), (3, .int x3)] dX4_wordsInAll_19 rfl (by decide) rfl ?_
      refine g_iinc (pc := 20) C (j := 3) [(3, .int (x3 + 1)), (2, .int (x2 ||| v1)), (0, .ref (a0 0)), (1, .ref (a1 0))] dX4_wordsInAll_20 rfl (ii_1 _) (by decide) rfl ?_
      refine g_goto (pc := 23) C (tgt := 4) dX4_wordsInAll_23 rfl ?_
      refine g_lv [2, 3, 1, 0] rfl ?_
      exact ih (x2 ||| v1) (x3 + 1) h
set_option maxRecDepth 100000 in
set_option maxHeartbeats 4000000 in
theorem t_X4_wordsInAll {J : Jt} {a0 : Nat → Nat} {a1 : Nat → Nat} {s_year : Int32} {s_wet : Int32} {s_lost : Int32} {s_eaten : Int32} {s_tied : Int32} {s_ripeMany : Int32} {s_gone : Nat → Int32} {s_place : Nat → Int32} {s_heard : Nat → Int32} {s_many : Nat → Int32} {s_lying : Nat → Int32} {s_ripe : Nat → Int32} {p_beds : Int32} {p_letters : Int32} {p_readers : Int32} {p_far : Nat → Int32} {p_drain : Nat → Int32} {p_length : Nat → Int32} {p_words : Nat → Int32} {p_home : Nat → Int32} {r : Int32} (h : f_X4_wordsInAll s_many s_lying p_beds = some r) : Mt J yX4_wordsInAll cX4_wordsInAll 4 (some .int) rm_X4_wordsInAll [.ref (a0 0), .ref (a1 0)] (cs_X4 J.2.2.1 a0 s_year s_wet s_lost s_eaten s_tied s_ripeMany s_gone s_place s_heard s_many s_lying s_ripe ++ cs_X2 J.2.2.1 a1 p_beds p_letters p_readers p_far p_drain p_length p_words p_home) (some (.int r)) (cs_X4 J.2.2.1 a0 s_year s_wet s_lost s_eaten s_tied s_ripeMany s_gone s_place s_heard s_many s_lying s_ripe ++ cs_X2 J.2.2.1 a1 p_beds p_letters p_readers p_far p_drain p_length p_words p_home) := by
  refine Mt_of (own := RX4) (by decide) rfl (Nat.le_of_ble_eq_true rfl) rfl (fun Z C E => ?_)
  unfold f_X4_wordsInAll at h
  show G J Z 0 0 (cs_X4 J.2.2.1 a0 s_year s_wet s_lost s_eaten s_tied s_ripeMany s_gone s_place s_heard s_many s_lying s_ripe ++ cs_X2 J.2.2.1 a1 p_beds p_letters p_readers p_far p_drain p_length p_words p_home) 4 [(0, .ref (a0 0)), (1, .ref (a1 0))] 0 []
  refine g_iconst (pc := 0) C dX4_wordsInAll_0 ci_0 ?_
  refine g_istore_n (pc := 1) C [(2, .int 0), (0, .ref (a0 0)), (1, .ref (a1 0))] dX4_wordsInAll_1 rfl (by decide) rfl ?_
  refine g_iconst (pc := 2) C dX4_wordsInAll_2 ci_0 ?_
  refine g_istore_n (pc := 3) C [(3, .int 0), (2, .int 0), (0, .ref (a0 0)), (1, .ref (a1 0))] dX4_wordsInAll_3 rfl (by decide) rfl ?_
  refine g_lv [2, 3, 1, 0] rfl ?_
  exact j_X4_wordsInAll_4 C E  FU 0 0 h
noncomputable def f_X4_timesOf_17 (s_many : Nat → Int32) (s_lying : Nat → Int32) (p_beds : Int32) (n1 : Int32) (k5 : Int32 → Int32 → Option (Int32)) : Nat → Int32 → Int32 → Int32 → Option (Int32)
  | 0, _, _, _ => none
  | n + 1, x3, x4, x5 => if ixb x4 6 then if (s_many x4.toNatClampNeg) ≤ x5 then k5 x3 (x4 + 1) else b1 (f_X4_lyingAt s_many s_lying x4 x5) (fun v1 => if v1 = n1 then f_X4_timesOf_17 s_many s_lying p_beds n1 k5 n (x3 + 1) x4 (x5 + 1) else f_X4_timesOf_17 s_many s_lying p_beds n1 k5 n (x3 + 0) x4 (x5 + 1)) else none
noncomputable def f_X4_timesOf_5 (s_many : Nat → Int32) (s_lying : Nat → Int32) (p_beds : Int32) (n1 : Int32) : Nat → Int32 → Int32 → Option (Int32)
  | 0, _, _ => none
  | n + 1, x3, x4 => if p_beds ≤ x4 then some x3 else f_X4_timesOf_17 s_many s_lying p_beds n1 (f_X4_timesOf_5 s_many s_lying p_beds n1 n) FU x3 x4 0
noncomputable def f_X4_timesOf (s_many : Nat → Int32) (s_lying : Nat → Int32) (p_beds : Int32) (n1 : Int32) : Option (Int32) := f_X4_timesOf_5 s_many s_lying p_beds n1 FU 0 0
def rm_X4_timesOf : Room := { frames := 1, cells := 0, slots := 0, locals := 22 }
set_option maxRecDepth 100000 in
set_option maxHeartbeats 4000000 in
theorem j_X4_timesOf_17 {J : Jt} {Z : Zt} {a0 : Nat → Nat} {a1 : Nat → Nat} {s_year : Int32} {s_wet : Int32} {s_lost : Int32} {s_eaten : Int32} {s_tied : Int32} {s_ripeMany : Int32} {s_gone : Nat → Int32} {s_place : Nat → Int32} {s_heard : Nat → Int32} {s_many : Nat → Int32} {s_lying : Nat → Int32} {s_ripe : Nat → Int32} {p_beds : Int32} {p_letters : Int32} {p_readers : Int32} {p_far : Nat → Int32} {p_drain : Nat → Int32} {p_length : Nat → Int32} {p_words : Nat → Int32} {p_home : Nat → Int32} {n1 : Int32} {r : Int32} {k5 : Int32 → Int32 → Option (Int32)} (C : Cx J Z cX4_timesOf 6 RX4 (some .int) rm_X4_timesOf) (E : Ez J Z 0 0 (some (.int r)) (cs_X4 J.2.2.1 a0 s_year s_wet s_lost s_eaten s_tied s_ripeMany s_gone s_place s_heard s_many s_lying s_ripe ++ cs_X2 J.2.2.1 a1 p_beds p_letters p_readers p_far p_drain p_length p_words p_home)) (hk5 : ∀ (x3 : Int32) (x4 : Int32), k5 x3 x4 = some r → G J Z 0 0 (cs_X4 J.2.2.1 a0 s_year s_wet s_lost s_eaten s_tied s_ripeMany s_gone s_place s_heard s_many s_lying s_ripe ++ cs_X2 J.2.2.1 a1 p_beds p_letters p_readers p_far p_drain p_length p_words p_home) 6 [(0, .ref (a0 0)), (1, .ref (a1 0)), (2, .int n1), (3, .int x3), (4, .int x4)] 5 []) : ∀ (n : Nat) (x3 : Int32) (x4 : Int32) (x5 : Int32), f_X4_timesOf_17 s_many s_lying p_beds n1 k5 n x3 x4 x5 = some r → G J Z 0 0 (cs_X4 J.2.2.1 a0 s_year s_wet s_lost s_eaten s_tied s_ripeMany s_gone s_place s_heard s_many s_lying s_ripe ++ cs_X2 J.2.2.1 a1 p_beds p_letters p_readers p_far p_drain p_length p_words p_home) 6 [(0, .ref (a0 0)), (1, .ref (a1 0)), (2, .int n1), (3, .int x3), (4, .int x4), (5, .int x5)] 17 [] := by
  intro n
  induction n with
  | zero =>
    intro x3 x4 x5 h
    rw [f_X4_timesOf_17] at h
    cases h
  | succ n ih =>
    intro x3 x4 x5 h
    rw [f_X4_timesOf_17] at h
    refine g_iload (pc := 17) C 5 rfl dX4_timesOf_17 ?_
    refine g_aload_n (pc := 19) C 0 rfl dX4_timesOf_19 ?_
    refine g_get (pc := 20) C FOK_X4 0 rfl rfl 9 (by decide) kw_172 rfl dX4_timesOf_20 ?_
    refine g_iload (pc := 23) C 4 rfl dX4_timesOf_23 ?_
    obtain ⟨hi, h⟩ := ix_of h
    refine g_iald (pc := 25) C 4 rfl hi dX4_timesOf_25 ?_
    refine g_icmp_ge (pc := 26) C (tgt := 55) dX4_timesOf_26 rfl h (fun h => ?_) (fun h => ?_)
    · refine g_iinc (pc := 55) C (j := 4) [(4, .int (x4 + 1)), (0, .ref (a0 0)), (1, .ref (a1 0)), (2, .int n1), (3, .int x3), (5, .int x5)] dX4_timesOf_55 rfl (ii_1 _) (by decide) rfl ?_
      refine g_goto (pc := 58) C (tgt := 5) dX4_timesOf_58 rfl ?_
      refine g_lv [1, 2, 3, 4, 0] rfl ?_
      exact hk5 x3 (x4 + 1) h
    · refine g_iload_n (pc := 29) C 3 rfl dX4_timesOf_29 ?_
      refine g_aload_n (pc := 30) C 0 rfl dX4_timesOf_30 ?_
      refine g_iload (pc := 31) C 4 rfl dX4_timesOf_31 ?_
      refine g_iload (pc := 33) C 5 rfl dX4_timesOf_33 ?_
      obtain ⟨v1, hc, h⟩ := b1_of h
      refine g_callV (pc := 35) C (w' := cs_X4 J.2.2.1 a0 s_year s_wet s_lost s_eaten s_tied s_ripeMany s_gone s_place s_heard s_many s_lying s_ripe ++ cs_X2 J.2.2.1 a1 p_beds p_letters p_readers p_far p_drain p_length p_words p_home) (As := [.int x4, .int x5]) (st := [.int x3]) (ci := 4) (q0 := 0) rfl rfl (t_X4_lyingAt hc) (Sub.gen [0, 1, 2, 3, 4, 5, 6] [7, 8, 9, 10, 11, 12] [6, 7, 8, 9, 10, 11, 12, 0, 1, 2, 3, 4, 5] rfl (by decide) rfl (by decide) (by decide) rfl (by decide)) kw_873 kw_874 kw_875 kw_88 hy_X4_lyingAt kw_876 rfl (Nat.le_of_ble_eq_true rfl) (Nat.le_of_ble_eq_true rfl) (Nat.le_of_ble_eq_true rfl) (Nat.le_of_ble_eq_true rfl) (Nat.le_of_ble_eq_true rfl) dX4_timesOf_35 ?_
      refine g_iload_n (pc := 38) C 2 rfl dX4_timesOf_38 ?_
      refine g_icmp_ne (pc := 39) C (tgt := 46) dX4_timesOf_39 rfl h (fun h => ?_) (fun h => ?_)
      · refine g_iconst (pc := 46) C dX4_timesOf_46 ci_0 ?_
        refine g_iadd (pc := 47) C dX4_timesOf_47 ?_
        refine g_istore_n (pc := 48) C [(3, .int (x3 + 0)), (0, .ref (a0 0)), (1, .ref (a1 0)), (2, .int n1), (4, .int x4), (5, .int x5)] dX4_timesOf_48 rfl (by decide) rfl ?_
        refine g_iinc (pc := 49) C (j := 5) [(5, .int (x5 + 1)), (3, .int (x3 + 0)), (0, .ref (a0 0)), (1, .ref (a1 0)), (2, .int n1), (4, .int x4)] dX4_timesOf_49 rfl (ii_1 _) (by decide) rfl ?_
        refine g_goto (pc := 52) C (tgt := 17) dX4_timesOf_52 rfl ?_
        refine g_lv [2, 3, 4, 1, 5, 0] rfl ?_
        exact ih (x3 + 0) x4 (x5 + 1) h
      · refine g_iconst (pc := 42) C dX4_timesOf_42 ci_1 ?_
        refine g_goto (pc := 43) C (tgt := 47) dX4_timesOf_43 rfl ?_
        refine g_iadd (pc := 47) C dX4_timesOf_47 ?_
        refine g_istore_n (pc := 48) C [(3, .int (x3 + 1)), (0, .ref (a0 0)), (1, .ref (a1 0)), (2, .int n1), (4, .int x4), (5, .int x5)] dX4_timesOf_48 rfl (by decide) rfl ?_
        refine g_iinc (pc := 49) C (j := 5) [(5, .int (x5 + 1)), (3, .int (x3 + 1)), (0, .ref (a0 0)), (1, .ref (a1 0)), (2, .int n1), (4, .int x4)] dX4_timesOf_49 rfl (ii_1 _) (by decide) rfl ?_
        refine g_goto (pc := 52) C (tgt := 17) dX4_timesOf_52 rfl ?_
        refine g_lv [2, 3, 4, 1, 5, 0] rfl ?_
        exact ih (x3 + 1) x4 (x5 + 1) h
set_option maxRecDepth 100000 in
set_option maxHeartbeats 4000000 in
theorem j_X4_timesOf_5 {J : Jt} {Z : Zt} {a0 : Nat → Nat} {a1 : Nat → Nat} {s_year : Int32} {s_wet : Int32} {s_lost : Int32} {s_eaten : Int32} {s_tied : Int32} {s_ripeMany : Int32} {s_gone : Nat → Int32} {s_place : Nat → Int32} {s_heard : Nat → Int32} {s_many : Nat → Int32} {s_lying : Nat → Int32} {s_ripe : Nat → Int32} {p_beds : Int32} {p_letters : Int32} {p_readers : Int32} {p_far : Nat → Int32} {p_drain : Nat → Int32} {p_length : Nat → Int32} {p_words : Nat → Int32} {p_home : Nat → Int32} {n1 : Int32} {r : Int32} (C : Cx J Z cX4_timesOf 6 RX4 (some .int) rm_X4_timesOf) (E : Ez J Z 0 0 (some (.int r)) (cs_X4 J.2.2.1 a0 s_year s_wet s_lost s_eaten s_tied s_ripeMany s_gone s_place s_heard s_many s_lying s_ripe ++ cs_X2 J.2.2.1 a1 p_beds p_letters p_readers p_far p_drain p_length p_words p_home)) : ∀ (n : Nat) (x3 : Int32) (x4 : Int32), f_X4_timesOf_5 s_many s_lying p_beds n1 n x3 x4 = some r → G J Z 0 0 (cs_X4 J.2.2.1 a0 s_year s_wet s_lost s_eaten s_tied s_ripeMany s_gone s_place s_heard s_many s_lying s_ripe ++ cs_X2 J.2.2.1 a1 p_beds p_letters p_readers p_far p_drain p_length p_words p_home) 6 [(0, .ref (a0 0)), (1, .ref (a1 0)), (2, .int n1), (3, .int x3), (4, .int x4)] 5 [] := by
  intro n
  induction n with
  | zero =>
    intro x3 x4 h
    rw [f_X4_timesOf_5] at h
    cases h
  | succ n ih =>
    intro x3 x4 h
    rw [f_X4_timesOf_5] at h
    refine g_iload (pc := 5) C 4 rfl dX4_timesOf_5 ?_
    refine g_aload_n (pc := 7) C 1 rfl dX4_timesOf_7 ?_
    refine g_get (pc := 8) C FOK_X2 7 rfl rfl 0 (by decide) kw_280 rfl dX4_timesOf_8 ?_
    refine g_icmp_ge (pc := 11) C (tgt := 61) dX4_timesOf_11 rfl h (fun h => ?_) (fun h => ?_)
    · refine g_iload_n (pc := 61) C 3 rfl dX4_timesOf_61 ?_
      cases h
      exact g_iret C E dX4_timesOf_62
    · refine g_iconst (pc := 14) C dX4_timesOf_14 ci_0 ?_
      refine g_istore (pc := 15) C [(5, .int 0), (0, .ref (a0 0)), (1, .ref (a1 0)), (2, .int n1), (3, .int x3), (4, .int x4)] dX4_timesOf_15 (by decide) rfl ?_
      refine g_lv [1, 2, 3, 4, 5, 0] rfl ?_
      exact j_X4_timesOf_17 C E ih FU x3 x4 0 h
set_option maxRecDepth 100000 in
set_option maxHeartbeats 4000000 in
theorem t_X4_timesOf {J : Jt} {a0 : Nat → Nat} {a1 : Nat → Nat} {s_year : Int32} {s_wet : Int32} {s_lost : Int32} {s_eaten : Int32} {s_tied : Int32} {s_ripeMany : Int32} {s_gone : Nat → Int32} {s_place : Nat → Int32} {s_heard : Nat → Int32} {s_many : Nat → Int32} {s_lying : Nat → Int32} {s_ripe : Nat → Int32} {p_beds : Int32} {p_letters : Int32} {p_readers : Int32} {p_far : Nat → Int32} {p_drain : Nat → Int32} {p_length : Nat → Int32} {p_words : Nat → Int32} {p_home : Nat → Int32} {n1 : Int32} {r : Int32} (h : f_X4_timesOf s_many s_lying p_beds n1 = some r) : Mt J yX4_timesOf cX4_timesOf 6 (some .int) rm_X4_timesOf [.ref (a0 0), .ref (a1 0), .int n1] (cs_X4 J.2.2.1 a0 s_year s_wet s_lost s_eaten s_tied s_ripeMany s_gone s_place s_heard s_many s_lying s_ripe ++ cs_X2 J.2.2.1 a1 p_beds p_letters p_readers p_far p_drain p_length p_words p_home) (some (.int r)) (cs_X4 J.2.2.1 a0 s_year s_wet s_lost s_eaten s_tied s_ripeMany s_gone s_place s_heard s_many s_lying s_ripe ++ cs_X2 J.2.2.1 a1 p_beds p_letters p_readers p_far p_drain p_length p_words p_home) := by
  refine Mt_of (own := RX4) (by decide) rfl (Nat.le_of_ble_eq_true rfl) rfl (fun Z C E => ?_)
  unfold f_X4_timesOf at h
  show G J Z 0 0 (cs_X4 J.2.2.1 a0 s_year s_wet s_lost s_eaten s_tied s_ripeMany s_gone s_place s_heard s_many s_lying s_ripe ++ cs_X2 J.2.2.1 a1 p_beds p_letters p_readers p_far p_drain p_length p_words p_home) 6 [(0, .ref (a0 0)), (1, .ref (a1 0)), (2, .int n1)] 0 []
  refine g_iconst (pc := 0) C dX4_timesOf_0 ci_0 ?_
  refine g_istore_n (pc := 1) C [(3, .int 0), (0, .ref (a0 0)), (1, .ref (a1 0)), (2, .int n1)] dX4_timesOf_1 rfl (by decide) rfl ?_
  refine g_iconst (pc := 2) C dX4_timesOf_2 ci_0 ?_
  refine g_istore (pc := 3) C [(4, .int 0), (3, .int 0), (0, .ref (a0 0)), (1, .ref (a1 0)), (2, .int n1)] dX4_timesOf_3 (by decide) rfl ?_
  refine g_lv [2, 3, 4, 1, 0] rfl ?_
  exact j_X4_timesOf_5 C E  FU 0 0 h
noncomputable def f_X4_readersAt_5 (s_place : Nat → Int32) (p_readers : Int32) (n1 : Int32) : Nat → Int32 → Int32 → Option (Int32)
  | 0, _, _ => none
  | n + 1, x3, x4 => if p_readers ≤ x4 then some x3 else if ixb x4 5 then if (s_place x4.toNatClampNeg) = n1 then f_X4_readersAt_5 s_place p_readers n1 n (x3 ||| (1 <<< (x4 &&& 31))) (x4 + 1) else f_X4_readersAt_5 s_place p_readers n1 n (x3 ||| 0) (x4 + 1) else none
noncomputable def f_X4_readersAt (s_place : Nat → Int32) (p_readers : Int32) (n1 : Int32) : Option (Int32) := f_X4_readersAt_5 s_place p_readers n1 FU 0 0
def rm_X4_readersAt : Room := { frames := 0, cells := 0, slots := 0, locals := 0 }
set_option maxRecDepth 100000 in
set_option maxHeartbeats 4000000 in
theorem j_X4_readersAt_5 {J : Jt} {Z : Zt} {a0 : Nat → Nat} {a1 : Nat → Nat} {s_year : Int32} {s_wet : Int32} {s_lost : Int32} {s_eaten : Int32} {s_tied : Int32} {s_ripeMany : Int32} {s_gone : Nat → Int32} {s_place : Nat → Int32} {s_heard : Nat → Int32} {s_many : Nat → Int32} {s_lying : Nat → Int32} {s_ripe : Nat → Int32} {p_beds : Int32} {p_letters : Int32} {p_readers : Int32} {p_far : Nat → Int32} {p_drain : Nat → Int32} {p_length : Nat → Int32} {p_words : Nat → Int32} {p_home : Nat → Int32} {n1 : Int32} {r : Int32} (C : Cx J Z cX4_readersAt 5 RX4 (some .int) rm_X4_readersAt) (E : Ez J Z 0 0 (some (.int r)) (cs_X4 J.2.2.1 a0 s_year s_wet s_lost s_eaten s_tied s_ripeMany s_gone s_place s_heard s_many s_lying s_ripe ++ cs_X2 J.2.2.1 a1 p_beds p_letters p_readers p_far p_drain p_length p_words p_home)) : ∀ (n : Nat) (x3 : Int32) (x4 : Int32), f_X4_readersAt_5 s_place p_readers n1 n x3 x4 = some r → G J Z 0 0 (cs_X4 J.2.2.1 a0 s_year s_wet s_lost s_eaten s_tied s_ripeMany s_gone s_place s_heard s_many s_lying s_ripe ++ cs_X2 J.2.2.1 a1 p_beds p_letters p_readers p_far p_drain p_length p_words p_home) 5 [(0, .ref (a0 0)), (1, .ref (a1 0)), (2, .int n1), (3, .int x3), (4, .int x4)] 5 [] := by
  intro n
  induction n with
  | zero =>
    intro x3 x4 h
    rw [f_X4_readersAt_5] at h
    cases h
  | succ n ih =>
    intro x3 x4 h
    rw [f_X4_readersAt_5] at h
    refine g_iload (pc := 5) C 4 rfl dX4_readersAt_5 ?_
    refine g_aload_n (pc := 7) C 1 rfl dX4_readersAt_7 ?_
    refine g_get (pc := 8) C FOK_X2 7 rfl rfl 2 (by decide) kw_290 rfl dX4_readersAt_8 ?_
    refine g_icmp_ge (pc := 11) C (tgt := 42) dX4_readersAt_11 rfl h (fun h => ?_) (fun h => ?_)
    · refine g_iload_n (pc := 42) C 3 rfl dX4_readersAt_42 ?_
      cases h
      exact g_iret C E dX4_readersAt_43
    · refine g_iload_n (pc := 14) C 3 rfl dX4_readersAt_14 ?_
      refine g_aload_n (pc := 15) C 0 rfl dX4_readersAt_15 ?_
      refine g_get (pc := 16) C FOK_X4 0 rfl rfl 7 (by decide) kw_168 rfl dX4_readersAt_16 ?_
      refine g_iload (pc := 19) C 4 rfl dX4_readersAt_19 ?_
      obtain ⟨hi, h⟩ := ix_of h
      refine g_iald (pc := 21) C 2 rfl hi dX4_readersAt_21 ?_
      refine g_iload_n (pc := 22) C 2 rfl dX4_readersAt_22 ?_
      refine g_icmp_ne (pc := 23) C (tgt := 33) dX4_readersAt_23 rfl h (fun h => ?_) (fun h => ?_)
      · refine g_iconst (pc := 33) C dX4_readersAt_33 ci_0 ?_
        refine g_ior (pc := 34) C dX4_readersAt_34 ?_
        refine g_istore_n (pc := 35) C [(3, .int (x3 ||| 0)), (0, .ref (a0 0)), (1, .ref (a1 0)), (2, .int n1), (4, .int x4)] dX4_readersAt_35 rfl (by decide) rfl ?_
        refine g_iinc (pc := 36) C (j := 4) [(4, .int (x4 + 1)), (3, .int (x3 ||| 0)), (0, .ref (a0 0)), (1, .ref (a1 0)), (2, .int n1)] dX4_readersAt_36 rfl (ii_1 _) (by decide) rfl ?_
        refine g_goto (pc := 39) C (tgt := 5) dX4_readersAt_39 rfl ?_
        refine g_lv [2, 3, 4, 1, 0] rfl ?_
        exact ih (x3 ||| 0) (x4 + 1) h
      · refine g_iconst (pc := 26) C dX4_readersAt_26 ci_1 ?_
        refine g_iload (pc := 27) C 4 rfl dX4_readersAt_27 ?_
        refine g_ishl (pc := 29) C dX4_readersAt_29 ?_
        refine g_goto (pc := 30) C (tgt := 34) dX4_readersAt_30 rfl ?_
        refine g_ior (pc := 34) C dX4_readersAt_34 ?_
        refine g_istore_n (pc := 35) C [(3, .int (x3 ||| (1 <<< (x4 &&& 31)))), (0, .ref (a0 0)), (1, .ref (a1 0)), (2, .int n1), (4, .int x4)] dX4_readersAt_35 rfl (by decide) rfl ?_
        refine g_iinc (pc := 36) C (j := 4) [(4, .int (x4 + 1)), (3, .int (x3 ||| (1 <<< (x4 &&& 31)))), (0, .ref (a0 0)), (1, .ref (a1 0)), (2, .int n1)] dX4_readersAt_36 rfl (ii_1 _) (by decide) rfl ?_
        refine g_goto (pc := 39) C (tgt := 5) dX4_readersAt_39 rfl ?_
        refine g_lv [2, 3, 4, 1, 0] rfl ?_
        exact ih (x3 ||| (1 <<< (x4 &&& 31))) (x4 + 1) h
set_option maxRecDepth 100000 in
set_option maxHeartbeats 4000000 in
theorem t_X4_readersAt {J : Jt} {a0 : Nat → Nat} {a1 : Nat → Nat} {s_year : Int32} {s_wet : Int32} {s_lost : Int32} {s_eaten : Int32} {s_tied : Int32} {s_ripeMany : Int32} {s_gone : Nat → Int32} {s_place : Nat → Int32} {s_heard : Nat → Int32} {s_many : Nat → Int32} {s_lying : Nat → Int32} {s_ripe : Nat → Int32} {p_beds : Int32} {p_letters : Int32} {p_readers : Int32} {p_far : Nat → Int32} {p_drain : Nat → Int32} {p_length : Nat → Int32} {p_words : Nat → Int32} {p_home : Nat → Int32} {n1 : Int32} {r : Int32} (h : f_X4_readersAt s_place p_readers n1 = some r) : Mt J yX4_readersAt cX4_readersAt 5 (some .int) rm_X4_readersAt [.ref (a0 0), .ref (a1 0), .int n1] (cs_X4 J.2.2.1 a0 s_year s_wet s_lost s_eaten s_tied s_ripeMany s_gone s_place s_heard s_many s_lying s_ripe ++ cs_X2 J.2.2.1 a1 p_beds p_letters p_readers p_far p_drain p_length p_words p_home) (some (.int r)) (cs_X4 J.2.2.1 a0 s_year s_wet s_lost s_eaten s_tied s_ripeMany s_gone s_place s_heard s_many s_lying s_ripe ++ cs_X2 J.2.2.1 a1 p_beds p_letters p_readers p_far p_drain p_length p_words p_home) := by
  refine Mt_of (own := RX4) (by decide) rfl (Nat.le_of_ble_eq_true rfl) rfl (fun Z C E => ?_)
  unfold f_X4_readersAt at h
  show G J Z 0 0 (cs_X4 J.2.2.1 a0 s_year s_wet s_lost s_eaten s_tied s_ripeMany s_gone s_place s_heard s_many s_lying s_ripe ++ cs_X2 J.2.2.1 a1 p_beds p_letters p_readers p_far p_drain p_length p_words p_home) 5 [(0, .ref (a0 0)), (1, .ref (a1 0)), (2, .int n1)] 0 []
  refine g_iconst (pc := 0) C dX4_readersAt_0 ci_0 ?_
  refine g_istore_n (pc := 1) C [(3, .int 0), (0, .ref (a0 0)), (1, .ref (a1 0)), (2, .int n1)] dX4_readersAt_1 rfl (by decide) rfl ?_
  refine g_iconst (pc := 2) C dX4_readersAt_2 ci_0 ?_
  refine g_istore (pc := 3) C [(4, .int 0), (3, .int 0), (0, .ref (a0 0)), (1, .ref (a1 0)), (2, .int n1)] dX4_readersAt_3 (by decide) rfl ?_
  refine g_lv [2, 3, 4, 1, 0] rfl ?_
  exact j_X4_readersAt_5 C E  FU 0 0 h
noncomputable def f_X4_heardByAny_4 (s_heard : Nat → Int32) (p_readers : Int32) : Nat → Int32 → Int32 → Option (Int32)
  | 0, _, _ => none
  | n + 1, x2, x3 => if p_readers ≤ x3 then some x2 else if ixb x3 5 then f_X4_heardByAny_4 s_heard p_readers n (x2 ||| (s_heard x3.toNatClampNeg)) (x3 + 1) else none
noncomputable def f_X4_heardByAny (s_heard : Nat → Int32) (p_readers : Int32) : Option (Int32) := f_X4_heardByAny_4 s_heard p_readers FU 0 0
def rm_X4_heardByAny : Room := { frames := 0, cells := 0, slots := 0, locals := 0 }
set_option maxRecDepth 100000 in
set_option maxHeartbeats 4000000 in
theorem j_X4_heardByAny_4 {J : Jt} {Z : Zt} {a0 : Nat → Nat} {a1 : Nat → Nat} {s_year : Int32} {s_wet : Int32} {s_lost : Int32} {s_eaten : Int32} {s_tied : Int32} {s_ripeMany : Int32} {s_gone : Nat → Int32} {s_place : Nat → Int32} {s_heard : Nat → Int32} {s_many : Nat → Int32} {s_lying : Nat → Int32} {s_ripe : Nat → Int32} {p_beds : Int32} {p_letters : Int32} {p_readers : Int32} {p_far : Nat → Int32} {p_drain : Nat → Int32} {p_length : Nat → Int32} {p_words : Nat → Int32} {p_home : Nat → Int32} {r : Int32} (C : Cx J Z cX4_heardByAny 4 RX4 (some .int) rm_X4_heardByAny) (E : Ez J Z 0 0 (some (.int r)) (cs_X4 J.2.2.1 a0 s_year s_wet s_lost s_eaten s_tied s_ripeMany s_gone s_place s_heard s_many s_lying s_ripe ++ cs_X2 J.2.2.1 a1 p_beds p_letters p_readers p_far p_drain p_length p_words p_home)) : ∀ (n : Nat) (x2 : Int32) (x3 : Int32), f_X4_heardByAny_4 s_heard p_readers n x2 x3 = some r → G J Z 0 0 (cs_X4 J.2.2.1 a0 s_year s_wet s_lost s_eaten s_tied s_ripeMany s_gone s_place s_heard s_many s_lying s_ripe ++ cs_X2 J.2.2.1 a1 p_beds p_letters p_readers p_far p_drain p_length p_words p_home) 4 [(0, .ref (a0 0)), (1, .ref (a1 0)), (2, .int x2), (3, .int x3)] 4 [] := by
  intro n
  induction n with
  | zero =>
    intro x2 x3 h
    rw [f_X4_heardByAny_4] at h
    cases h
  | succ n ih =>
    intro x2 x3 h
    rw [f_X4_heardByAny_4] at h
    refine g_iload_n (pc := 4) C 3 rfl dX4_heardByAny_4 ?_
    refine g_aload_n (pc := 5) C 1 rfl dX4_heardByAny_5 ?_
    refine g_get (pc := 6) C FOK_X2 7 rfl rfl 2 (by decide) kw_290 rfl dX4_heardByAny_6 ?_
    refine g_icmp_ge (pc := 9) C (tgt := 27) dX4_heardByAny_9 rfl h (fun h => ?_) (fun h => ?_)
    · refine g_iload_n (pc := 27) C 2 rfl dX4_heardByAny_27 ?_
      cases h
      exact g_iret C E dX4_heardByAny_28
    · refine g_iload_n (pc := 12) C 2 rfl dX4_heardByAny_12 ?_
      refine g_aload_n (pc := 13) C 0 rfl dX4_heardByAny_13 ?_
      refine g_get (pc := 14) C FOK_X4 0 rfl rfl 8 (by decide) kw_170 rfl dX4_heardByAny_14 ?_
      refine g_iload_n (pc := 17) C 3 rfl dX4_heardByAny_17 ?_
      obtain ⟨hi, h⟩ := ix_of h
      refine g_iald (pc := 18) C 3 rfl hi dX4_heardByAny_18 ?_
      refine g_ior (pc := 19) C dX4_heardByAny_19 ?_
      refine g_istore_n (pc := 20) C [(2, .int (x2 ||| (s_heard x3.toNatClampNeg))), (0, .ref (a0 0)), (1, .ref (a1 0)), (3, .int x3)] dX4_heardByAny_20 rfl (by decide) rfl ?_
      refine g_iinc (pc := 21) C (j := 3) [(3, .int (x3 + 1)), (2, .int (x2 ||| (s_heard x3.toNatClampNeg))), (0, .ref (a0 0)), (1, .ref (a1 0))] dX4_heardByAny_21 rfl (ii_1 _) (by decide) rfl ?_
      refine g_goto (pc := 24) C (tgt := 4) dX4_heardByAny_24 rfl ?_
      refine g_lv [2, 3, 1, 0] rfl ?_
      exact ih (x2 ||| (s_heard x3.toNatClampNeg)) (x3 + 1) h
set_option maxRecDepth 100000 in
set_option maxHeartbeats 4000000 in
theorem t_X4_heardByAny {J : Jt} {a0 : Nat → Nat} {a1 : Nat → Nat} {s_year : Int32} {s_wet : Int32} {s_lost : Int32} {s_eaten : Int32} {s_tied : Int32} {s_ripeMany : Int32} {s_gone : Nat → Int32} {s_place : Nat → Int32} {s_heard : Nat → Int32} {s_many : Nat → Int32} {s_lying : Nat → Int32} {s_ripe : Nat → Int32} {p_beds : Int32} {p_letters : Int32} {p_readers : Int32} {p_far : Nat → Int32} {p_drain : Nat → Int32} {p_length : Nat → Int32} {p_words : Nat → Int32} {p_home : Nat → Int32} {r : Int32} (h : f_X4_heardByAny s_heard p_readers = some r) : Mt J yX4_heardByAny cX4_heardByAny 4 (some .int) rm_X4_heardByAny [.ref (a0 0), .ref (a1 0)] (cs_X4 J.2.2.1 a0 s_year s_wet s_lost s_eaten s_tied s_ripeMany s_gone s_place s_heard s_many s_lying s_ripe ++ cs_X2 J.2.2.1 a1 p_beds p_letters p_readers p_far p_drain p_length p_words p_home) (some (.int r)) (cs_X4 J.2.2.1 a0 s_year s_wet s_lost s_eaten s_tied s_ripeMany s_gone s_place s_heard s_many s_lying s_ripe ++ cs_X2 J.2.2.1 a1 p_beds p_letters p_readers p_far p_drain p_length p_words p_home) := by
  refine Mt_of (own := RX4) (by decide) rfl (Nat.le_of_ble_eq_true rfl) rfl (fun Z C E => ?_)
  unfold f_X4_heardByAny at h
  show G J Z 0 0 (cs_X4 J.2.2.1 a0 s_year s_wet s_lost s_eaten s_tied s_ripeMany s_gone s_place s_heard s_many s_lying s_ripe ++ cs_X2 J.2.2.1 a1 p_beds p_letters p_readers p_far p_drain p_length p_words p_home) 4 [(0, .ref (a0 0)), (1, .ref (a1 0))] 0 []
  refine g_iconst (pc := 0) C dX4_heardByAny_0 ci_0 ?_
  refine g_istore_n (pc := 1) C [(2, .int 0), (0, .ref (a0 0)), (1, .ref (a1 0))] dX4_heardByAny_1 rfl (by decide) rfl ?_
  refine g_iconst (pc := 2) C dX4_heardByAny_2 ci_0 ?_
  refine g_istore_n (pc := 3) C [(3, .int 0), (2, .int 0), (0, .ref (a0 0)), (1, .ref (a1 0))] dX4_heardByAny_3 rfl (by decide) rfl ?_
  refine g_lv [2, 3, 1, 0] rfl ?_
  exact j_X4_heardByAny_4 C E  FU 0 0 h
noncomputable def f_X4_wetBy (s_wet : Int32) (n1 : Int32) : Option (Int32) := some (imin 99 (s_wet + n1))
def rm_X4_wetBy : Room := { frames := 1, cells := 0, slots := 0, locals := 40 }
set_option maxRecDepth 100000 in
set_option maxHeartbeats 4000000 in
theorem t_X4_wetBy {J : Jt} {a0 : Nat → Nat} {s_year : Int32} {s_wet : Int32} {s_lost : Int32} {s_eaten : Int32} {s_tied : Int32} {s_ripeMany : Int32} {s_gone : Nat → Int32} {s_place : Nat → Int32} {s_heard : Nat → Int32} {s_many : Nat → Int32} {s_lying : Nat → Int32} {s_ripe : Nat → Int32} {n1 : Int32} {r : Int32} (h : f_X4_wetBy s_wet n1 = some r) : Mt J yX4_wetBy cX4_wetBy 2 (some .int) rm_X4_wetBy [.ref (a0 0), .int n1] (cs_X4 J.2.2.1 a0 s_year s_wet s_lost s_eaten s_tied s_ripeMany s_gone s_place s_heard s_many s_lying s_ripe) (some (.int r)) (cs_X4 J.2.2.1 a0 s_year s_wet s_lost s_eaten s_tied s_ripeMany s_gone s_place s_heard s_many s_lying s_ripe) := by
  refine Mt_of (own := RX4) (by decide) rfl (Nat.le_of_ble_eq_true rfl) rfl (fun Z C E => ?_)
  unfold f_X4_wetBy at h
  show G J Z 0 0 (cs_X4 J.2.2.1 a0 s_year s_wet s_lost s_eaten s_tied s_ripeMany s_gone s_place s_heard s_many s_lying s_ripe) 2 [(0, .ref (a0 0)), (1, .int n1)] 0 []
  refine g_bipush (pc := 0) C dX4_wetBy_0 cb_99 ?_
  refine g_aload_n (pc := 2) C 0 rfl dX4_wetBy_2 ?_
  refine g_get (pc := 3) C FOK_X4 0 rfl rfl 1 (by decide) kw_157 rfl dX4_wetBy_3 ?_
  refine g_iload_n (pc := 6) C 1 rfl dX4_wetBy_6 ?_
  refine g_iadd (pc := 7) C dX4_wetBy_7 ?_
  refine g_imin (pc := 8) C kw_889 kw_543 kw_96 kw_544 (Nat.le_of_ble_eq_true rfl) (Nat.le_of_ble_eq_true rfl) (Nat.le_of_ble_eq_true rfl) (Nat.le_of_ble_eq_true rfl) dX4_wetBy_8 ?_
  cases h
  exact g_iret C E dX4_wetBy_11
noncomputable def f_X4_runOf (s_year : Int32) (s_gone : Nat → Int32) (s_many : Nat → Int32) (p_far : Nat → Int32) (p_drain : Nat → Int32) (p_length : Nat → Int32) (l_code : Nat → Int32) (l_values : Nat → Int32) (l_stack : Nat → Int32) (l_length : Int32) (n1 : Int32) (n2 : Int32) (n3 : Int32) : Option (Int32 × (Nat → Int32) × (Nat → Int32)) := b1 (f_X4_leftOf s_gone p_length n1) (fun v1 => if ixb n1 6 then if ixb (p_drain n1.toNatClampNeg) 6 then if ixb (p_drain n1.toNatClampNeg) 6 then b3 (f_X1_tells l_code l_values l_stack l_length n2 n3 v1 (p_far (p_drain n1.toNatClampNeg).toNatClampNeg) (s_many (p_drain n1.toNatClampNeg).toNatClampNeg) s_year n1) (fun v2 c3 c4 => some (imin v1 v2, c3, c4)) else none else none else none)
def rm_X4_runOf : Room := { frames := 2, cells := 0, slots := 0, locals := 52 }
set_option maxRecDepth 100000 in
set_option maxHeartbeats 4000000 in
theorem t_X4_runOf {J : Jt} {a0 : Nat → Nat} {a1 : Nat → Nat} {a2 : Nat → Nat} {s_year : Int32} {s_wet : Int32} {s_lost : Int32} {s_eaten : Int32} {s_tied : Int32} {s_ripeMany : Int32} {s_gone : Nat → Int32} {s_place : Nat → Int32} {s_heard : Nat → Int32} {s_many : Nat → Int32} {s_lying : Nat → Int32} {s_ripe : Nat → Int32} {p_beds : Int32} {p_letters : Int32} {p_readers : Int32} {p_far : Nat → Int32} {p_drain : Nat → Int32} {p_length : Nat → Int32} {p_words : Nat → Int32} {p_home : Nat → Int32} {l_code : Nat → Int32} {l_values : Nat → Int32} {l_stack : Nat → Int32} {l_length : Int32} {n1 : Int32} {n2 : Int32} {n3 : Int32} {r : Int32} {o_l_values : Nat → Int32} {o_l_stack : Nat → Int32} (h : f_X4_runOf s_year s_gone s_many p_far p_drain p_length l_code l_values l_stack l_length n1 n2 n3 = some (r, o_l_values, o_l_stack)) : Mt J yX4_runOf cX4_runOf 9 (some .int) rm_X4_runOf [.ref (a0 0), .ref (a1 0), .ref (a2 0), .int n1, .int n2, .int n3] (cs_X4 J.2.2.1 a0 s_year s_wet s_lost s_eaten s_tied s_ripeMany s_gone s_place s_heard s_many s_lying s_ripe ++ cs_X2 J.2.2.1 a1 p_beds p_letters p_readers p_far p_drain p_length p_words p_home ++ cs_X1 J.2.2.1 a2 l_code l_values l_stack l_length) (some (.int r)) (cs_X4 J.2.2.1 a0 s_year s_wet s_lost s_eaten s_tied s_ripeMany s_gone s_place s_heard s_many s_lying s_ripe ++ cs_X2 J.2.2.1 a1 p_beds p_letters p_readers p_far p_drain p_length p_words p_home ++ cs_X1 J.2.2.1 a2 l_code o_l_values o_l_stack l_length) := by
  refine Mt_of (own := RX4) (by decide) rfl (Nat.le_of_ble_eq_true rfl) rfl (fun Z C E => ?_)
  unfold f_X4_runOf at h
  show G J Z 0 0 (cs_X4 J.2.2.1 a0 s_year s_wet s_lost s_eaten s_tied s_ripeMany s_gone s_place s_heard s_many s_lying s_ripe ++ cs_X2 J.2.2.1 a1 p_beds p_letters p_readers p_far p_drain p_length p_words p_home ++ cs_X1 J.2.2.1 a2 l_code l_values l_stack l_length) 9 [(0, .ref (a0 0)), (1, .ref (a1 0)), (2, .ref (a2 0)), (3, .int n1), (4, .int n2), (5, .int n3)] 0 []
  refine g_aload_n (pc := 0) C 0 rfl dX4_runOf_0 ?_
  refine g_aload_n (pc := 1) C 1 rfl dX4_runOf_1 ?_
  refine g_iload_n (pc := 2) C 3 rfl dX4_runOf_2 ?_
  obtain ⟨v1, hc, h⟩ := b1_of h
  refine g_callV (pc := 3) C (w' := cs_X4 J.2.2.1 a0 s_year s_wet s_lost s_eaten s_tied s_ripeMany s_gone s_place s_heard s_many s_lying s_ripe ++ cs_X2 J.2.2.1 a1 p_beds p_letters p_readers p_far p_drain p_length p_words p_home ++ cs_X1 J.2.2.1 a2 l_code l_values l_stack l_length) (As := [.ref (a1 0), .int n1]) (st := []) (ci := 4) (q0 := 0) rfl rfl (t_X4_leftOf hc) (Sub.gen [0, 1, 2, 3, 4, 5, 6, 7, 8, 9, 10, 11, 12] [13, 14, 15, 16] [4, 5, 6, 7, 8, 9, 10, 11, 12, 13, 14, 15, 16, 0, 1, 2, 3] rfl (by decide) rfl (by decide) (by decide) rfl (by decide)) kw_476 kw_465 kw_466 kw_88 hy_X4_leftOf kw_467 rfl (Nat.le_of_ble_eq_true rfl) (Nat.le_of_ble_eq_true rfl) (Nat.le_of_ble_eq_true rfl) (Nat.le_of_ble_eq_true rfl) (Nat.le_of_ble_eq_true rfl) dX4_runOf_3 ?_
  refine g_istore (pc := 6) C [(6, .int v1), (0, .ref (a0 0)), (1, .ref (a1 0)), (2, .ref (a2 0)), (3, .int n1), (4, .int n2), (5, .int n3)] dX4_runOf_6 (by decide) rfl ?_
  refine g_aload_n (pc := 8) C 2 rfl dX4_runOf_8 ?_
  refine g_get (pc := 9) C FOK_X2 7 rfl rfl 4 (by decide) kw_296 rfl dX4_runOf_9 ?_
  refine g_iload_n (pc := 12) C 4 rfl dX4_runOf_12 ?_
  obtain ⟨hi, h⟩ := ix_of h
  refine g_iald (pc := 13) C 9 rfl hi dX4_runOf_13 ?_
  refine g_istore (pc := 14) C [(7, .int (p_drain n1.toNatClampNeg)), (6, .int v1), (0, .ref (a0 0)), (1, .ref (a1 0)), (2, .ref (a2 0)), (3, .int n1), (4, .int n2), (5, .int n3)] dX4_runOf_14 (by decide) rfl ?_
  refine g_aload_n (pc := 16) C 4 rfl dX4_runOf_16 ?_
  refine g_iload (pc := 17) C 6 rfl dX4_runOf_17 ?_
  refine g_iload (pc := 19) C 7 rfl dX4_runOf_19 ?_
  refine g_iload (pc := 21) C 1 rfl dX4_runOf_21 ?_
  refine g_aload_n (pc := 23) C 3 rfl dX4_runOf_23 ?_
  refine g_get (pc := 24) C FOK_X2 7 rfl rfl 3 (by decide) kw_293 rfl dX4_runOf_24 ?_
  refine g_iload (pc := 27) C 0 rfl dX4_runOf_27 ?_
  obtain ⟨hi, h⟩ := ix_of h
  refine g_iald (pc := 29) C 8 rfl hi dX4_runOf_29 ?_
  refine g_aload_n (pc := 30) C 2 rfl dX4_runOf_30 ?_
  refine g_get (pc := 31) C FOK_X4 0 rfl rfl 9 (by decide) kw_172 rfl dX4_runOf_31 ?_
  refine g_iload (pc := 34) C 0 rfl dX4_runOf_34 ?_
  obtain ⟨hi, h⟩ := ix_of h
  refine g_iald (pc := 36) C 4 rfl hi dX4_runOf_36 ?_
  refine g_aload_n (pc := 37) C 2 rfl dX4_runOf_37 ?_
  refine g_get (pc := 38) C FOK_X4 0 rfl rfl 0 (by decide) kw_154 rfl dX4_runOf_38 ?_
  refine g_iload_n (pc := 41) C 5 rfl dX4_runOf_41 ?_
  obtain ⟨v2, c3, c4, hc, h⟩ := b3_of h
  refine g_callV (pc := 42) C (w' := cs_X4 J.2.2.1 a0 s_year s_wet s_lost s_eaten s_tied s_ripeMany s_gone s_place s_heard s_many s_lying s_ripe ++ cs_X2 J.2.2.1 a1 p_beds p_letters p_readers p_far p_drain p_length p_words p_home ++ cs_X1 J.2.2.1 a2 l_code c3 c4 l_length) (As := [.int n2, .int n3, .int v1, .int (p_far (p_drain n1.toNatClampNeg).toNatClampNeg), .int (s_many (p_drain n1.toNatClampNeg).toNatClampNeg), .int s_year, .int n1]) (st := []) (ci := 1) (q0 := 13) rfl rfl (t_X1_tells hc) (Sub.gen [13, 14, 15, 16] [0, 1, 2, 3, 4, 5, 6, 7, 8, 9, 10, 11, 12] [0, 1, 2, 3, 4, 5, 6, 7, 8, 9, 10, 11, 12, 13, 14, 15, 16] rfl (by decide) rfl (by decide) (by decide) rfl (by decide)) kw_899 kw_900 kw_901 kw_93 hy_X1_tells kw_902 rfl (Nat.le_of_ble_eq_true rfl) (Nat.le_of_ble_eq_true rfl) (Nat.le_of_ble_eq_true rfl) (Nat.le_of_ble_eq_true rfl) (Nat.le_of_ble_eq_true rfl) dX4_runOf_42 ?_
  refine g_istore (pc := 45) C [(8, .int v2), (7, .int (p_drain n1.toNatClampNeg)), (6, .int v1), (0, .ref (a0 0)), (1, .ref (a1 0)), (2, .ref (a2 0)), (3, .int n1), (4, .int n2), (5, .int n3)] dX4_runOf_45 (by decide) rfl ?_
  refine g_iload (pc := 47) C 2 rfl dX4_runOf_47 ?_
  refine g_iload (pc := 49) C 0 rfl dX4_runOf_49 ?_
  refine g_imin (pc := 51) C kw_889 kw_543 kw_96 kw_544 (Nat.le_of_ble_eq_true rfl) (Nat.le_of_ble_eq_true rfl) (Nat.le_of_ble_eq_true rfl) (Nat.le_of_ble_eq_true rfl) dX4_runOf_51 ?_
  cases h
  exact g_iret C E dX4_runOf_54
noncomputable def f_X4_toldBy_23 (s_gone : Nat → Int32) (s_place : Nat → Int32) (p_letters : Int32) (p_far : Nat → Int32) (p_length : Nat → Int32) (p_words : Nat → Int32) (n1 : Int32) (n2 : Int32) : Nat → Int32 → Int32 → Option (Int32)
  | 0, _, _ => none
  | n + 1, x4, x5 => if p_letters ≤ x5 then some x4 else b1 (f_X4_leftOf s_gone p_length x5) (fun v1 => if v1 ≤ 0 then f_X4_toldBy_23 s_gone s_place p_letters p_far p_length p_words n1 n2 n (x4 ||| 0) (x5 + 1) else b1 (f_X4_nextOf s_gone p_length p_words x5) (fun v2 => f_X4_toldBy_23 s_gone s_place p_letters p_far p_length p_words n1 n2 n (x4 ||| (1 <<< (v2 &&& 31))) (x5 + 1)))
noncomputable def f_X4_toldBy (s_gone : Nat → Int32) (s_place : Nat → Int32) (p_letters : Int32) (p_far : Nat → Int32) (p_length : Nat → Int32) (p_words : Nat → Int32) (n1 : Int32) (n2 : Int32) : Option (Int32) := if ixb n1 5 then if ixb (s_place n1.toNatClampNeg) 6 then if (p_far (s_place n1.toNatClampNeg).toNatClampNeg) ≤ n2 then f_X4_toldBy_23 s_gone s_place p_letters p_far p_length p_words n1 n2 FU 0 0 else some 0 else none else none
def rm_X4_toldBy : Room := { frames := 2, cells := 0, slots := 0, locals := 44 }
set_option maxRecDepth 100000 in
set_option maxHeartbeats 4000000 in
theorem j_X4_toldBy_23 {J : Jt} {Z : Zt} {a0 : Nat → Nat} {a1 : Nat → Nat} {s_year : Int32} {s_wet : Int32} {s_lost : Int32} {s_eaten : Int32} {s_tied : Int32} {s_ripeMany : Int32} {s_gone : Nat → Int32} {s_place : Nat → Int32} {s_heard : Nat → Int32} {s_many : Nat → Int32} {s_lying : Nat → Int32} {s_ripe : Nat → Int32} {p_beds : Int32} {p_letters : Int32} {p_readers : Int32} {p_far : Nat → Int32} {p_drain : Nat → Int32} {p_length : Nat → Int32} {p_words : Nat → Int32} {p_home : Nat → Int32} {n1 : Int32} {n2 : Int32} {r : Int32} (C : Cx J Z cX4_toldBy 6 RX4 (some .int) rm_X4_toldBy) (E : Ez J Z 0 0 (some (.int r)) (cs_X4 J.2.2.1 a0 s_year s_wet s_lost s_eaten s_tied s_ripeMany s_gone s_place s_heard s_many s_lying s_ripe ++ cs_X2 J.2.2.1 a1 p_beds p_letters p_readers p_far p_drain p_length p_words p_home)) : ∀ (n : Nat) (x4 : Int32) (x5 : Int32), f_X4_toldBy_23 s_gone s_place p_letters p_far p_length p_words n1 n2 n x4 x5 = some r → G J Z 0 0 (cs_X4 J.2.2.1 a0 s_year s_wet s_lost s_eaten s_tied s_ripeMany s_gone s_place s_heard s_many s_lying s_ripe ++ cs_X2 J.2.2.1 a1 p_beds p_letters p_readers p_far p_drain p_length p_words p_home) 6 [(0, .ref (a0 0)), (1, .ref (a1 0)), (4, .int x4), (5, .int x5)] 23 [] := by
  intro n
  induction n with
  | zero =>
    intro x4 x5 h
    rw [f_X4_toldBy_23] at h
    cases h
  | succ n ih =>
    intro x4 x5 h
    rw [f_X4_toldBy_23] at h
    refine g_iload (pc := 23) C 3 rfl dX4_toldBy_23 ?_
    refine g_aload_n (pc := 25) C 1 rfl dX4_toldBy_25 ?_
    refine g_get (pc := 26) C FOK_X2 7 rfl rfl 1 (by decide) kw_285 rfl dX4_toldBy_26 ?_
    refine g_icmp_ge (pc := 29) C (tgt := 66) dX4_toldBy_29 rfl h (fun h => ?_) (fun h => ?_)
    · refine g_iload (pc := 66) C 2 rfl dX4_toldBy_66 ?_
      cases h
      exact g_iret C E dX4_toldBy_68
    · refine g_iload (pc := 32) C 2 rfl dX4_toldBy_32 ?_
      refine g_aload_n (pc := 34) C 0 rfl dX4_toldBy_34 ?_
      refine g_aload_n (pc := 35) C 1 rfl dX4_toldBy_35 ?_
      refine g_iload (pc := 36) C 3 rfl dX4_toldBy_36 ?_
      obtain ⟨v1, hc, h⟩ := b1_of h
      refine g_callV (pc := 38) C (w' := cs_X4 J.2.2.1 a0 s_year s_wet s_lost s_eaten s_tied s_ripeMany s_gone s_place s_heard s_many s_lying s_ripe ++ cs_X2 J.2.2.1 a1 p_beds p_letters p_readers p_far p_drain p_length p_words p_home) (As := [.ref (a1 0), .int x5]) (st := [.int x4]) (ci := 4) (q0 := 0) rfl rfl (t_X4_leftOf hc) Sub.same kw_476 kw_465 kw_466 kw_88 hy_X4_leftOf kw_467 rfl (Nat.le_of_ble_eq_true rfl) (Nat.le_of_ble_eq_true rfl) (Nat.le_of_ble_eq_true rfl) (Nat.le_of_ble_eq_true rfl) (Nat.le_of_ble_eq_true rfl) dX4_toldBy_38 ?_
      refine g_if_le (pc := 41) C (tgt := 56) dX4_toldBy_41 rfl h (fun h => ?_) (fun h => ?_)
      · refine g_iconst (pc := 56) C dX4_toldBy_56 ci_0 ?_
        refine g_ior (pc := 57) C dX4_toldBy_57 ?_
        refine g_istore (pc := 58) C [(4, .int (x4 ||| 0)), (0, .ref (a0 0)), (1, .ref (a1 0)), (5, .int x5)] dX4_toldBy_58 (by decide) rfl ?_
        refine g_iinc (pc := 60) C (j := 3) [(5, .int (x5 + 1)), (4, .int (x4 ||| 0)), (0, .ref (a0 0)), (1, .ref (a1 0))] dX4_toldBy_60 rfl (ii_1 _) (by decide) rfl ?_
        refine g_goto (pc := 63) C (tgt := 23) dX4_toldBy_63 rfl ?_
        refine g_lv [2, 3, 1, 0] rfl ?_
        exact ih (x4 ||| 0) (x5 + 1) h
      · refine g_iconst (pc := 44) C dX4_toldBy_44 ci_1 ?_
        refine g_aload_n (pc := 45) C 0 rfl dX4_toldBy_45 ?_
        refine g_aload_n (pc := 46) C 1 rfl dX4_toldBy_46 ?_
        refine g_iload (pc := 47) C 3 rfl dX4_toldBy_47 ?_
        obtain ⟨v2, hc, h⟩ := b1_of h
        refine g_callV (pc := 49) C (w' := cs_X4 J.2.2.1 a0 s_year s_wet s_lost s_eaten s_tied s_ripeMany s_gone s_place s_heard s_many s_lying s_ripe ++ cs_X2 J.2.2.1 a1 p_beds p_letters p_readers p_far p_drain p_length p_words p_home) (As := [.ref (a1 0), .int x5]) (st := [.int 1, .int x4]) (ci := 4) (q0 := 0) rfl rfl (t_X4_nextOf hc) Sub.same kw_864 kw_473 kw_474 kw_88 hy_X4_nextOf kw_475 rfl (Nat.le_of_ble_eq_true rfl) (Nat.le_of_ble_eq_true rfl) (Nat.le_of_ble_eq_true rfl) (Nat.le_of_ble_eq_true rfl) (Nat.le_of_ble_eq_true rfl) dX4_toldBy_49 ?_
        refine g_ishl (pc := 52) C dX4_toldBy_52 ?_
        refine g_goto (pc := 53) C (tgt := 57) dX4_toldBy_53 rfl ?_
        refine g_ior (pc := 57) C dX4_toldBy_57 ?_
        refine g_istore (pc := 58) C [(4, .int (x4 ||| (1 <<< (v2 &&& 31)))), (0, .ref (a0 0)), (1, .ref (a1 0)), (5, .int x5)] dX4_toldBy_58 (by decide) rfl ?_
        refine g_iinc (pc := 60) C (j := 3) [(5, .int (x5 + 1)), (4, .int (x4 ||| (1 <<< (v2 &&& 31)))), (0, .ref (a0 0)), (1, .ref (a1 0))] dX4_toldBy_60 rfl (ii_1 _) (by decide) rfl ?_
        refine g_goto (pc := 63) C (tgt := 23) dX4_toldBy_63 rfl ?_
        refine g_lv [2, 3, 1, 0] rfl ?_
        exact ih (x4 ||| (1 <<< (v2 &&& 31))) (x5 + 1) h
set_option maxRecDepth 100000 in
set_option maxHeartbeats 4000000 in
theorem t_X4_toldBy {J : Jt} {a0 : Nat → Nat} {a1 : Nat → Nat} {s_year : Int32} {s_wet : Int32} {s_lost : Int32} {s_eaten : Int32} {s_tied : Int32} {s_ripeMany : Int32} {s_gone : Nat → Int32} {s_place : Nat → Int32} {s_heard : Nat → Int32} {s_many : Nat → Int32} {s_lying : Nat → Int32} {s_ripe : Nat → Int32} {p_beds : Int32} {p_letters : Int32} {p_readers : Int32} {p_far : Nat → Int32} {p_drain : Nat → Int32} {p_length : Nat → Int32} {p_words : Nat → Int32} {p_home : Nat → Int32} {n1 : Int32} {n2 : Int32} {r : Int32} (h : f_X4_toldBy s_gone s_place p_letters p_far p_length p_words n1 n2 = some r) : Mt J yX4_toldBy cX4_toldBy 6 (some .int) rm_X4_toldBy [.ref (a0 0), .ref (a1 0), .int n1, .int n2] (cs_X4 J.2.2.1 a0 s_year s_wet s_lost s_eaten s_tied s_ripeMany s_gone s_place s_heard s_many s_lying s_ripe ++ cs_X2 J.2.2.1 a1 p_beds p_letters p_readers p_far p_drain p_length p_words p_home) (some (.int r)) (cs_X4 J.2.2.1 a0 s_year s_wet s_lost s_eaten s_tied s_ripeMany s_gone s_place s_heard s_many s_lying s_ripe ++ cs_X2 J.2.2.1 a1 p_beds p_letters p_readers p_far p_drain p_length p_words p_home) := by
  refine Mt_of (own := RX4) (by decide) rfl (Nat.le_of_ble_eq_true rfl) rfl (fun Z C E => ?_)
  unfold f_X4_toldBy at h
  show G J Z 0 0 (cs_X4 J.2.2.1 a0 s_year s_wet s_lost s_eaten s_tied s_ripeMany s_gone s_place s_heard s_many s_lying s_ripe ++ cs_X2 J.2.2.1 a1 p_beds p_letters p_readers p_far p_drain p_length p_words p_home) 6 [(0, .ref (a0 0)), (1, .ref (a1 0)), (2, .int n1), (3, .int n2)] 0 []
  refine g_aload_n (pc := 0) C 1 rfl dX4_toldBy_0 ?_
  refine g_get (pc := 1) C FOK_X2 7 rfl rfl 3 (by decide) kw_293 rfl dX4_toldBy_1 ?_
  refine g_aload_n (pc := 4) C 0 rfl dX4_toldBy_4 ?_
  refine g_get (pc := 5) C FOK_X4 0 rfl rfl 7 (by decide) kw_168 rfl dX4_toldBy_5 ?_
  refine g_iload_n (pc := 8) C 2 rfl dX4_toldBy_8 ?_
  obtain ⟨hi, h⟩ := ix_of h
  refine g_iald (pc := 9) C 2 rfl hi dX4_toldBy_9 ?_
  obtain ⟨hi, h⟩ := ix_of h
  refine g_iald (pc := 10) C 8 rfl hi dX4_toldBy_10 ?_
  refine g_iload_n (pc := 11) C 3 rfl dX4_toldBy_11 ?_
  refine g_icmp_le (pc := 12) C (tgt := 17) dX4_toldBy_12 rfl h (fun h => ?_) (fun h => ?_)
  · refine g_iconst (pc := 17) C dX4_toldBy_17 ci_0 ?_
    refine g_istore (pc := 18) C [(4, .int 0), (0, .ref (a0 0)), (1, .ref (a1 0)), (2, .int n1), (3, .int n2)] dX4_toldBy_18 (by decide) rfl ?_
    refine g_iconst (pc := 20) C dX4_toldBy_20 ci_0 ?_
    refine g_istore (pc := 21) C [(5, .int 0), (4, .int 0), (0, .ref (a0 0)), (1, .ref (a1 0)), (2, .int n1), (3, .int n2)] dX4_toldBy_21 (by decide) rfl ?_
    refine g_lv [2, 3, 1, 0] rfl ?_
    exact j_X4_toldBy_23 C E  FU 0 0 h
  · refine g_iconst (pc := 15) C dX4_toldBy_15 ci_0 ?_
    cases h
    exact g_iret C E dX4_toldBy_16
noncomputable def f_X4_blow_48 (s_gone : Nat → Int32) (s_place : Nat → Int32) (p_letters : Int32) (p_readers : Int32) (p_far : Nat → Int32) (p_length : Nat → Int32) (p_words : Nat → Int32) (n1 : Int32) (k5 : Int32 → Int32 → (Nat → Int32) → Option (Int32 × (Nat → Int32))) (x4 : Int32) (x5 : Int32) (y0 : Int32) (s_heard : Nat → Int32) : Option (Int32 × (Nat → Int32)) := if ixb x4 5 then if ixb x4 5 then k5 y0 (x4 + 1) (upd s_heard x4.toNatClampNeg ((s_heard x4.toNatClampNeg) ||| x5)) else none else none
noncomputable def f_X4_blow_5 (s_gone : Nat → Int32) (s_place : Nat → Int32) (p_letters : Int32) (p_readers : Int32) (p_far : Nat → Int32) (p_length : Nat → Int32) (p_words : Nat → Int32) (n1 : Int32) : Nat → Int32 → Int32 → (Nat → Int32) → Option (Int32 × (Nat → Int32))
  | 0, _, _, _ => none
  | n + 1, x3, x4, s_heard => if p_readers ≤ x4 then if zok x3 then some (x3, s_heard) else none else b1 (f_X4_toldBy s_gone s_place p_letters p_far p_length p_words x4 n1) (fun v1 => if x3 = 0 then if ixb x4 5 then if (v1 &&& ((s_heard x4.toNatClampNeg) ^^^ (-1))) = 0 then f_X4_blow_48 s_gone s_place p_letters p_readers p_far p_length p_words n1 (f_X4_blow_5 s_gone s_place p_letters p_readers p_far p_length p_words n1 n) x4 v1 0 s_heard else f_X4_blow_48 s_gone s_place p_letters p_readers p_far p_length p_words n1 (f_X4_blow_5 s_gone s_place p_letters p_readers p_far p_length p_words n1 n) x4 v1 1 s_heard else none else f_X4_blow_48 s_gone s_place p_letters p_readers p_far p_length p_words n1 (f_X4_blow_5 s_gone s_place p_letters p_readers p_far p_length p_words n1 n) x4 v1 1 s_heard)
noncomputable def f_X4_blow (s_gone : Nat → Int32) (s_place : Nat → Int32) (s_heard : Nat → Int32) (p_letters : Int32) (p_readers : Int32) (p_far : Nat → Int32) (p_length : Nat → Int32) (p_words : Nat → Int32) (n1 : Int32) : Option (Int32 × (Nat → Int32)) := f_X4_blow_5 s_gone s_place p_letters p_readers p_far p_length p_words n1 FU 0 0 s_heard
def rm_X4_blow : Room := { frames := 3, cells := 0, slots := 0, locals := 69 }
set_option maxRecDepth 100000 in
set_option maxHeartbeats 4000000 in
theorem j_X4_blow_48 {J : Jt} {Z : Zt} {a0 : Nat → Nat} {a1 : Nat → Nat} {s_year : Int32} {s_wet : Int32} {s_lost : Int32} {s_eaten : Int32} {s_tied : Int32} {s_ripeMany : Int32} {s_gone : Nat → Int32} {s_place : Nat → Int32} {s_many : Nat → Int32} {s_lying : Nat → Int32} {s_ripe : Nat → Int32} {p_beds : Int32} {p_letters : Int32} {p_readers : Int32} {p_far : Nat → Int32} {p_drain : Nat → Int32} {p_length : Nat → Int32} {p_words : Nat → Int32} {p_home : Nat → Int32} {n1 : Int32} {r : Int32} {o_s_heard : Nat → Int32} {k5 : Int32 → Int32 → (Nat → Int32) → Option (Int32 × (Nat → Int32))} (C : Cx J Z cX4_blow 6 RX4 (some .boolean) rm_X4_blow) (E : Ez J Z 0 0 (some (.int r)) (cs_X4 J.2.2.1 a0 s_year s_wet s_lost s_eaten s_tied s_ripeMany s_gone s_place o_s_heard s_many s_lying s_ripe ++ cs_X2 J.2.2.1 a1 p_beds p_letters p_readers p_far p_drain p_length p_words p_home)) (hk5 : ∀ (x3 : Int32) (x4 : Int32) (s_heard : Nat → Int32), k5 x3 x4 s_heard = some (r, o_s_heard) → G J Z 0 0 (cs_X4 J.2.2.1 a0 s_year s_wet s_lost s_eaten s_tied s_ripeMany s_gone s_place s_heard s_many s_lying s_ripe ++ cs_X2 J.2.2.1 a1 p_beds p_letters p_readers p_far p_drain p_length p_words p_home) 6 [(0, .ref (a0 0)), (1, .ref (a1 0)), (2, .int n1), (3, .int x3), (4, .int x4)] 5 []) : ∀ (x4 : Int32) (x5 : Int32) (y0 : Int32) (s_heard : Nat → Int32), f_X4_blow_48 s_gone s_place p_letters p_readers p_far p_length p_words n1 k5 x4 x5 y0 s_heard = some (r, o_s_heard) → G J Z 0 0 (cs_X4 J.2.2.1 a0 s_year s_wet s_lost s_eaten s_tied s_ripeMany s_gone s_place s_heard s_many s_lying s_ripe ++ cs_X2 J.2.2.1 a1 p_beds p_letters p_readers p_far p_drain p_length p_words p_home) 6 [(0, .ref (a0 0)), (1, .ref (a1 0)), (2, .int n1), (4, .int x4), (5, .int x5)] 48 [.int y0] := by
  intro x4 x5 y0 s_heard h
  unfold f_X4_blow_48 at h
  refine g_istore_n (pc := 48) C [(3, .int y0), (0, .ref (a0 0)), (1, .ref (a1 0)), (2, .int n1), (4, .int x4), (5, .int x5)] dX4_blow_48 rfl (by decide) rfl ?_
  refine g_aload_n (pc := 49) C 1 rfl dX4_blow_49 ?_
  refine g_get (pc := 50) C FOK_X4 0 rfl rfl 8 (by decide) kw_170 rfl dX4_blow_50 ?_
  refine g_iload (pc := 53) C 4 rfl dX4_blow_53 ?_
  refine g_dup2 (pc := 55) C dX4_blow_55 rfl rfl ?_
  obtain ⟨hi, h⟩ := ix_of h
  refine g_iald (pc := 56) C 3 rfl hi dX4_blow_56 ?_
  refine g_iload (pc := 57) C 5 rfl dX4_blow_57 ?_
  refine g_ior (pc := 59) C dX4_blow_59 ?_
  obtain ⟨hi, h⟩ := ix_of h
  refine g_iast (pc := 60) C (w' := cs_X4 J.2.2.1 a0 s_year s_wet s_lost s_eaten s_tied s_ripeMany s_gone s_place (upd s_heard x4.toNatClampNeg ((s_heard x4.toNatClampNeg) ||| x5)) s_many s_lying s_ripe ++ cs_X2 J.2.2.1 a1 p_beds p_letters p_readers p_far p_drain p_length p_words p_home) 3 rfl hi dX4_blow_60 rfl ?_
  refine g_iinc (pc := 61) C (j := 4) [(4, .int (x4 + 1)), (3, .int y0), (0, .ref (a0 0)), (1, .ref (a1 0)), (2, .int n1), (5, .int x5)] dX4_blow_61 rfl (ii_1 _) (by decide) rfl ?_
  refine g_goto (pc := 64) C (tgt := 5) dX4_blow_64 rfl ?_
  refine g_lv [2, 3, 4, 1, 0] rfl ?_
  exact hk5 y0 (x4 + 1) (upd s_heard x4.toNatClampNeg ((s_heard x4.toNatClampNeg) ||| x5)) h
set_option maxRecDepth 100000 in
set_option maxHeartbeats 4000000 in
theorem j_X4_blow_5 {J : Jt} {Z : Zt} {a0 : Nat → Nat} {a1 : Nat → Nat} {s_year : Int32} {s_wet : Int32} {s_lost : Int32} {s_eaten : Int32} {s_tied : Int32} {s_ripeMany : Int32} {s_gone : Nat → Int32} {s_place : Nat → Int32} {s_many : Nat → Int32} {s_lying : Nat → Int32} {s_ripe : Nat → Int32} {p_beds : Int32} {p_letters : Int32} {p_readers : Int32} {p_far : Nat → Int32} {p_drain : Nat → Int32} {p_length : Nat → Int32} {p_words : Nat → Int32} {p_home : Nat → Int32} {n1 : Int32} {r : Int32} {o_s_heard : Nat → Int32} (C : Cx J Z cX4_blow 6 RX4 (some .boolean) rm_X4_blow) (E : Ez J Z 0 0 (some (.int r)) (cs_X4 J.2.2.1 a0 s_year s_wet s_lost s_eaten s_tied s_ripeMany s_gone s_place o_s_heard s_many s_lying s_ripe ++ cs_X2 J.2.2.1 a1 p_beds p_letters p_readers p_far p_drain p_length p_words p_home)) : ∀ (n : Nat) (x3 : Int32) (x4 : Int32) (s_heard : Nat → Int32), f_X4_blow_5 s_gone s_place p_letters p_readers p_far p_length p_words n1 n x3 x4 s_heard = some (r, o_s_heard) → G J Z 0 0 (cs_X4 J.2.2.1 a0 s_year s_wet s_lost s_eaten s_tied s_ripeMany s_gone s_place s_heard s_many s_lying s_ripe ++ cs_X2 J.2.2.1 a1 p_beds p_letters p_readers p_far p_drain p_length p_words p_home) 6 [(0, .ref (a0 0)), (1, .ref (a1 0)), (2, .int n1), (3, .int x3), (4, .int x4)] 5 [] := by
  intro n
  induction n with
  | zero =>
    intro x3 x4 s_heard h
    rw [f_X4_blow_5] at h
    cases h
  | succ n ih =>
    intro x3 x4 s_heard h
    rw [f_X4_blow_5] at h
    refine g_iload (pc := 5) C 4 rfl dX4_blow_5 ?_
    refine g_aload_n (pc := 7) C 1 rfl dX4_blow_7 ?_
    refine g_get (pc := 8) C FOK_X2 7 rfl rfl 2 (by decide) kw_290 rfl dX4_blow_8 ?_
    refine g_icmp_ge (pc := 11) C (tgt := 67) dX4_blow_11 rfl h (fun h => ?_) (fun h => ?_)
    · refine g_iload_n (pc := 67) C 3 rfl dX4_blow_67 ?_
      obtain ⟨hz, h⟩ := zok_of h
      cases h
      exact g_zret C hz E dX4_blow_68
    · refine g_aload_n (pc := 14) C 0 rfl dX4_blow_14 ?_
      refine g_aload_n (pc := 15) C 1 rfl dX4_blow_15 ?_
      refine g_iload (pc := 16) C 4 rfl dX4_blow_16 ?_
      refine g_iload_n (pc := 18) C 2 rfl dX4_blow_18 ?_
      obtain ⟨v1, hc, h⟩ := b1_of h
      refine g_callV (pc := 19) C (w' := cs_X4 J.2.2.1 a0 s_year s_wet s_lost s_eaten s_tied s_ripeMany s_gone s_place s_heard s_many s_lying s_ripe ++ cs_X2 J.2.2.1 a1 p_beds p_letters p_readers p_far p_drain p_length p_words p_home) (As := [.ref (a1 0), .int x4, .int n1]) (st := []) (ci := 4) (q0 := 0) rfl rfl (t_X4_toldBy hc) Sub.same kw_860 kw_861 kw_862 kw_88 hy_X4_toldBy kw_863 rfl (Nat.le_of_ble_eq_true rfl) (Nat.le_of_ble_eq_true rfl) (Nat.le_of_ble_eq_true rfl) (Nat.le_of_ble_eq_true rfl) (Nat.le_of_ble_eq_true rfl) dX4_blow_19 ?_
      refine g_istore (pc := 22) C [(5, .int v1), (0, .ref (a0 0)), (1, .ref (a1 0)), (2, .int n1), (3, .int x3), (4, .int x4)] dX4_blow_22 (by decide) rfl ?_
      refine g_iload_n (pc := 24) C 4 rfl dX4_blow_24 ?_
      refine g_if_ne (pc := 25) C (tgt := 43) dX4_blow_25 rfl h (fun h => ?_) (fun h => ?_)
      · refine g_iconst (pc := 43) C dX4_blow_43 ci_1 ?_
        refine g_goto (pc := 44) C (tgt := 48) dX4_blow_44 rfl ?_
        refine g_lv [1, 2, 3, 5, 0] rfl ?_
        exact j_X4_blow_48 C E ih x4 v1 1 s_heard h
      · refine g_iload (pc := 28) C 0 rfl dX4_blow_28 ?_
        refine g_aload_n (pc := 30) C 1 rfl dX4_blow_30 ?_
        refine g_get (pc := 31) C FOK_X4 0 rfl rfl 8 (by decide) kw_170 rfl dX4_blow_31 ?_
        refine g_iload (pc := 34) C 5 rfl dX4_blow_34 ?_
        obtain ⟨hi, h⟩ := ix_of h
        refine g_iald (pc := 36) C 3 rfl hi dX4_blow_36 ?_
        refine g_iconst (pc := 37) C dX4_blow_37 ci_m1 ?_
        refine g_ixor (pc := 38) C dX4_blow_38 ?_
        refine g_iand (pc := 39) C dX4_blow_39 ?_
        refine g_if_eq (pc := 40) C (tgt := 47) dX4_blow_40 rfl h (fun h => ?_) (fun h => ?_)
        · refine g_iconst (pc := 47) C dX4_blow_47 ci_0 ?_
          refine g_lv [1, 2, 3, 5, 0] rfl ?_
          exact j_X4_blow_48 C E ih x4 v1 0 s_heard h
        · refine g_iconst (pc := 43) C dX4_blow_43 ci_1 ?_
          refine g_goto (pc := 44) C (tgt := 48) dX4_blow_44 rfl ?_
          refine g_lv [1, 2, 3, 5, 0] rfl ?_
          exact j_X4_blow_48 C E ih x4 v1 1 s_heard h
set_option maxRecDepth 100000 in
set_option maxHeartbeats 4000000 in
theorem t_X4_blow {J : Jt} {a0 : Nat → Nat} {a1 : Nat → Nat} {s_year : Int32} {s_wet : Int32} {s_lost : Int32} {s_eaten : Int32} {s_tied : Int32} {s_ripeMany : Int32} {s_gone : Nat → Int32} {s_place : Nat → Int32} {s_heard : Nat → Int32} {s_many : Nat → Int32} {s_lying : Nat → Int32} {s_ripe : Nat → Int32} {p_beds : Int32} {p_letters : Int32} {p_readers : Int32} {p_far : Nat → Int32} {p_drain : Nat → Int32} {p_length : Nat → Int32} {p_words : Nat → Int32} {p_home : Nat → Int32} {n1 : Int32} {r : Int32} {o_s_heard : Nat → Int32} (h : f_X4_blow s_gone s_place s_heard p_letters p_readers p_far p_length p_words n1 = some (r, o_s_heard)) : Mt J yX4_blow cX4_blow 6 (some .boolean) rm_X4_blow [.ref (a0 0), .ref (a1 0), .int n1] (cs_X4 J.2.2.1 a0 s_year s_wet s_lost s_eaten s_tied s_ripeMany s_gone s_place s_heard s_many s_lying s_ripe ++ cs_X2 J.2.2.1 a1 p_beds p_letters p_readers p_far p_drain p_length p_words p_home) (some (.int r)) (cs_X4 J.2.2.1 a0 s_year s_wet s_lost s_eaten s_tied s_ripeMany s_gone s_place o_s_heard s_many s_lying s_ripe ++ cs_X2 J.2.2.1 a1 p_beds p_letters p_readers p_far p_drain p_length p_words p_home) := by
  refine Mt_of (own := RX4) (by decide) rfl (Nat.le_of_ble_eq_true rfl) rfl (fun Z C E => ?_)
  unfold f_X4_blow at h
  show G J Z 0 0 (cs_X4 J.2.2.1 a0 s_year s_wet s_lost s_eaten s_tied s_ripeMany s_gone s_place s_heard s_many s_lying s_ripe ++ cs_X2 J.2.2.1 a1 p_beds p_letters p_readers p_far p_drain p_length p_words p_home) 6 [(0, .ref (a0 0)), (1, .ref (a1 0)), (2, .int n1)] 0 []
  refine g_iconst (pc := 0) C dX4_blow_0 ci_0 ?_
  refine g_istore_n (pc := 1) C [(3, .int 0), (0, .ref (a0 0)), (1, .ref (a1 0)), (2, .int n1)] dX4_blow_1 rfl (by decide) rfl ?_
  refine g_iconst (pc := 2) C dX4_blow_2 ci_0 ?_
  refine g_istore (pc := 3) C [(4, .int 0), (3, .int 0), (0, .ref (a0 0)), (1, .ref (a1 0)), (2, .int n1)] dX4_blow_3 (by decide) rfl ?_
  refine g_lv [2, 3, 4, 1, 0] rfl ?_
  exact j_X4_blow_5 C E  FU 0 0 s_heard h
noncomputable def f_X4_runOut_77 (p_drain : Nat → Int32) (p_length : Nat → Int32) (p_words : Nat → Int32) (n1 : Int32) (n2 : Int32) (k11 : Int32 → Int32 → Int32 → (Nat → Int32) → (Nat → Int32) → (Nat → Int32) → Option (Int32 × (Nat → Int32) × (Nat → Int32) × (Nat → Int32))) (x4 : Int32) (x5 : Int32) (s_lost : Int32) (s_gone : Nat → Int32) (s_many : Nat → Int32) (s_lying : Nat → Int32) : Option (Int32 × (Nat → Int32) × (Nat → Int32) × (Nat → Int32)) := if ixb n1 6 then if ixb n1 6 then k11 x4 (x5 + 1) s_lost (upd s_gone n1.toNatClampNeg ((s_gone n1.toNatClampNeg) + 1)) s_many s_lying else none else none
noncomputable def f_X4_runOut_11 (p_drain : Nat → Int32) (p_length : Nat → Int32) (p_words : Nat → Int32) (n1 : Int32) (n2 : Int32) : Nat → Int32 → Int32 → Int32 → (Nat → Int32) → (Nat → Int32) → (Nat → Int32) → Option (Int32 × (Nat → Int32) × (Nat → Int32) × (Nat → Int32))
  | 0, _, _, _, _, _, _ => none
  | n + 1, x4, x5, s_lost, s_gone, s_many, s_lying => if n2 ≤ x5 then some (s_lost, s_gone, s_many, s_lying) else if ixb x4 6 then if 12 ≤ (s_many x4.toNatClampNeg) then f_X4_runOut_77 p_drain p_length p_words n1 n2 (f_X4_runOut_11 p_drain p_length p_words n1 n2 n) x4 x5 (s_lost + 1) s_gone s_many s_lying else if ixb x4 6 then b1 (f_X4_nextOf s_gone p_length p_words n1) (fun v1 => if ixb ((x4 * 12) + (s_many x4.toNatClampNeg)) 72 then if ixb x4 6 then if ixb x4 6 then f_X4_runOut_77 p_drain p_length p_words n1 n2 (f_X4_runOut_11 p_drain p_length p_words n1 n2 n) x4 x5 s_lost s_gone (upd s_many x4.toNatClampNeg ((s_many x4.toNatClampNeg) + 1)) (upd s_lying ((x4 * 12) + (s_many x4.toNatClampNeg)).toNatClampNeg v1) else none else none else none) else none else none
noncomputable def f_X4_runOut (s_lost : Int32) (s_gone : Nat → Int32) (s_many : Nat → Int32) (s_lying : Nat → Int32) (p_drain : Nat → Int32) (p_length : Nat → Int32) (p_words : Nat → Int32) (n1 : Int32) (n2 : Int32) : Option (Int32 × (Nat → Int32) × (Nat → Int32) × (Nat → Int32)) := if ixb n1 6 then f_X4_runOut_11 p_drain p_length p_words n1 n2 FU (p_drain n1.toNatClampNeg) 0 s_lost s_gone s_many s_lying else none
def rm_X4_runOut : Room := { frames := 2, cells := 0, slots := 0, locals := 44 }
set_option maxRecDepth 100000 in
set_option maxHeartbeats 4000000 in
theorem j_X4_runOut_77 {J : Jt} {Z : Zt} {a0 : Nat → Nat} {a1 : Nat → Nat} {s_year : Int32} {s_wet : Int32} {s_eaten : Int32} {s_tied : Int32} {s_ripeMany : Int32} {s_place : Nat → Int32} {s_heard : Nat → Int32} {s_ripe : Nat → Int32} {p_beds : Int32} {p_letters : Int32} {p_readers : Int32} {p_far : Nat → Int32} {p_drain : Nat → Int32} {p_length : Nat → Int32} {p_words : Nat → Int32} {p_home : Nat → Int32} {n1 : Int32} {n2 : Int32} {o_s_lost : Int32} {o_s_gone : Nat → Int32} {o_s_many : Nat → Int32} {o_s_lying : Nat → Int32} {k11 : Int32 → Int32 → Int32 → (Nat → Int32) → (Nat → Int32) → (Nat → Int32) → Option (Int32 × (Nat → Int32) × (Nat → Int32) × (Nat → Int32))} (C : Cx J Z cX4_runOut 6 RX4 none rm_X4_runOut) (E : Ez J Z 0 0 none (cs_X4 J.2.2.1 a0 s_year s_wet o_s_lost s_eaten s_tied s_ripeMany o_s_gone s_place s_heard o_s_many o_s_lying s_ripe ++ cs_X2 J.2.2.1 a1 p_beds p_letters p_readers p_far p_drain p_length p_words p_home)) (hk11 : ∀ (x4 : Int32) (x5 : Int32) (s_lost : Int32) (s_gone : Nat → Int32) (s_many : Nat → Int32) (s_lying : Nat → Int32), k11 x4 x5 s_lost s_gone s_many s_lying = some (o_s_lost, o_s_gone, o_s_many, o_s_lying) → G J Z 0 0 (cs_X4 J.2.2.1 a0 s_year s_wet s_lost s_eaten s_tied s_ripeMany s_gone s_place s_heard s_many s_lying s_ripe ++ cs_X2 J.2.2.1 a1 p_beds p_letters p_readers p_far p_drain p_length p_words p_home) 6 [(0, .ref (a0 0)), (1, .ref (a1 0)), (2, .int n1), (3, .int n2), (4, .int x4), (5, .int x5)] 11 []) : ∀ (x4 : Int32) (x5 : Int32) (s_lost : Int32) (s_gone : Nat → Int32) (s_many : Nat → Int32) (s_lying : Nat → Int32), f_X4_runOut_77 p_drain p_length p_words n1 n2 k11 x4 x5 s_lost s_gone s_many s_lying = some (o_s_lost, o_s_gone, o_s_many, o_s_lying) → G J Z 0 0 (cs_X4 J.2.2.1 a0 s_year s_wet s_lost s_eaten s_tied s_ripeMany s_gone s_place s_heard s_many s_lying s_ripe ++ cs_X2 J.2.2.1 a1 p_beds p_letters p_readers p_far p_drain p_length p_words p_home) 6 [(0, .ref (a0 0)), (1, .ref (a1 0)), (2, .int n1), (3, .int n2), (4, .int x4), (5, .int x5)] 77 [] := by
  intro x4 x5 s_lost s_gone s_many s_lying h
  unfold f_X4_runOut_77 at h
  refine g_aload_n (pc := 77) C 0 rfl dX4_runOut_77 ?_
  refine g_get (pc := 78) C FOK_X4 0 rfl rfl 6 (by decide) kw_167 rfl dX4_runOut_78 ?_
  refine g_iload_n (pc := 81) C 2 rfl dX4_runOut_81 ?_
  refine g_dup2 (pc := 82) C dX4_runOut_82 rfl rfl ?_
  obtain ⟨hi, h⟩ := ix_of h
  refine g_iald (pc := 83) C 1 rfl hi dX4_runOut_83 ?_
  refine g_iconst (pc := 84) C dX4_runOut_84 ci_1 ?_
  refine g_iadd (pc := 85) C dX4_runOut_85 ?_
  obtain ⟨hi, h⟩ := ix_of h
  refine g_iast (pc := 86) C (w' := cs_X4 J.2.2.1 a0 s_year s_wet s_lost s_eaten s_tied s_ripeMany (upd s_gone n1.toNatClampNeg ((s_gone n1.toNatClampNeg) + 1)) s_place s_heard s_many s_lying s_ripe ++ cs_X2 J.2.2.1 a1 p_beds p_letters p_readers p_far p_drain p_length p_words p_home) 1 rfl hi dX4_runOut_86 rfl ?_
  refine g_iinc (pc := 87) C (j := 5) [(5, .int (x5 + 1)), (0, .ref (a0 0)), (1, .ref (a1 0)), (2, .int n1), (3, .int n2), (4, .int x4)] dX4_runOut_87 rfl (ii_1 _) (by decide) rfl ?_
  refine g_goto (pc := 90) C (tgt := 11) dX4_runOut_90 rfl ?_
  refine g_lv [1, 2, 3, 4, 5, 0] rfl ?_
  exact hk11 x4 (x5 + 1) s_lost (upd s_gone n1.toNatClampNeg ((s_gone n1.toNatClampNeg) + 1)) s_many s_lying h
set_option maxRecDepth 100000 in
set_option maxHeartbeats 4000000 in
theorem j_X4_runOut_11 {J : Jt} {Z : Zt} {a0 : Nat → Nat} {a1 : Nat → Nat} {s_year : Int32} {s_wet : Int32} {s_eaten : Int32} {s_tied : Int32} {s_ripeMany : Int32} {s_place : Nat → Int32} {s_heard : Nat → Int32} {s_ripe : Nat → Int32} {p_beds : Int32} {p_letters : Int32} {p_readers : Int32} {p_far : Nat → Int32} {p_drain : Nat → Int32} {p_length : Nat → Int32} {p_words : Nat → Int32} {p_home : Nat → Int32} {n1 : Int32} {n2 : Int32} {o_s_lost : Int32} {o_s_gone : Nat → Int32} {o_s_many : Nat → Int32} {o_s_lying : Nat → Int32} (C : Cx J Z cX4_runOut 6 RX4 none rm_X4_runOut) (E : Ez J Z 0 0 none (cs_X4 J.2.2.1 a0 s_year s_wet o_s_lost s_eaten s_tied s_ripeMany o_s_gone s_place s_heard o_s_many o_s_lying s_ripe ++ cs_X2 J.2.2.1 a1 p_beds p_letters p_readers p_far p_drain p_length p_words p_home)) : ∀ (n : Nat) (x4 : Int32) (x5 : Int32) (s_lost : Int32) (s_gone : Nat → Int32) (s_many : Nat → Int32) (s_lying : Nat → Int32), f_X4_runOut_11 p_drain p_length p_words n1 n2 n x4 x5 s_lost s_gone s_many s_lying = some (o_s_lost, o_s_gone, o_s_many, o_s_lying) → G J Z 0 0 (cs_X4 J.2.2.1 a0 s_year s_wet s_lost s_eaten s_tied s_ripeMany s_gone s_place s_heard s_many s_lying s_ripe ++ cs_X2 J.2.2.1 a1 p_beds p_letters p_readers p_far p_drain p_length p_words p_home) 6 [(0, .ref (a0 0)), (1, .ref (a1 0)), (2, .int n1), (3, .int n2), (4, .int x4), (5, .int x5)] 11 [] := by
  intro n
  induction n with
  | zero =>
    intro x4 x5 s_lost s_gone s_many s_lying h
    rw [f_X4_runOut_11] at h
    cases h
  | succ n ih =>
    intro x4 x5 s_lost s_gone s_many s_lying h
    rw [f_X4_runOut_11] at h
    refine g_iload (pc := 11) C 5 rfl dX4_runOut_11 ?_
    refine g_iload_n (pc := 13) C 3 rfl dX4_runOut_13 ?_
    refine g_icmp_ge (pc := 14) C (tgt := 93) dX4_runOut_14 rfl h (fun h => ?_) (fun h => ?_)
    · cases h
      exact g_vret C E dX4_runOut_93
    · refine g_aload_n (pc := 17) C 0 rfl dX4_runOut_17 ?_
      refine g_get (pc := 18) C FOK_X4 0 rfl rfl 9 (by decide) kw_172 rfl dX4_runOut_18 ?_
      refine g_iload (pc := 21) C 4 rfl dX4_runOut_21 ?_
      obtain ⟨hi, h⟩ := ix_of h
      refine g_iald (pc := 23) C 4 rfl hi dX4_runOut_23 ?_
      refine g_bipush (pc := 24) C dX4_runOut_24 cb_12 ?_
      refine g_icmp_ge (pc := 26) C (tgt := 67) dX4_runOut_26 rfl h (fun h => ?_) (fun h => ?_)
      · refine g_aload_n (pc := 67) C 0 rfl dX4_runOut_67 ?_
        refine g_dup (pc := 68) C dX4_runOut_68 rfl ?_
        refine g_get (pc := 69) C FOK_X4 0 rfl rfl 2 (by decide) kw_159 rfl dX4_runOut_69 ?_
        refine g_iconst (pc := 72) C dX4_runOut_72 ci_1 ?_
        refine g_iadd (pc := 73) C dX4_runOut_73 ?_
        refine g_put (pc := 74) C (w' := cs_X4 J.2.2.1 a0 s_year s_wet (s_lost + 1) s_eaten s_tied s_ripeMany s_gone s_place s_heard s_many s_lying s_ripe ++ cs_X2 J.2.2.1 a1 p_beds p_letters p_readers p_far p_drain p_length p_words p_home) FOK_X4 0 rfl rfl 2 (by decide) kw_159 rfl rfl rfl (Nat.le_of_ble_eq_true rfl) dX4_runOut_74 rfl ?_
        exact j_X4_runOut_77 C E ih x4 x5 (s_lost + 1) s_gone s_many s_lying h
      · refine g_aload_n (pc := 29) C 0 rfl dX4_runOut_29 ?_
        refine g_get (pc := 30) C FOK_X4 0 rfl rfl 10 (by decide) kw_174 rfl dX4_runOut_30 ?_
        refine g_iload (pc := 33) C 4 rfl dX4_runOut_33 ?_
        refine g_bipush (pc := 35) C dX4_runOut_35 cb_12 ?_
        refine g_imul (pc := 37) C dX4_runOut_37 ?_
        refine g_aload_n (pc := 38) C 0 rfl dX4_runOut_38 ?_
        refine g_get (pc := 39) C FOK_X4 0 rfl rfl 9 (by decide) kw_172 rfl dX4_runOut_39 ?_
        refine g_iload (pc := 42) C 4 rfl dX4_runOut_42 ?_
        obtain ⟨hi, h⟩ := ix_of h
        refine g_iald (pc := 44) C 4 rfl hi dX4_runOut_44 ?_
        refine g_iadd (pc := 45) C dX4_runOut_45 ?_
        refine g_aload_n (pc := 46) C 0 rfl dX4_runOut_46 ?_
        refine g_aload_n (pc := 47) C 1 rfl dX4_runOut_47 ?_
        refine g_iload_n (pc := 48) C 2 rfl dX4_runOut_48 ?_
        obtain ⟨v1, hc, h⟩ := b1_of h
        refine g_callV (pc := 49) C (w' := cs_X4 J.2.2.1 a0 s_year s_wet s_lost s_eaten s_tied s_ripeMany s_gone s_place s_heard s_many s_lying s_ripe ++ cs_X2 J.2.2.1 a1 p_beds p_letters p_readers p_far p_drain p_length p_words p_home) (As := [.ref (a1 0), .int n1]) (st := [.int ((x4 * 12) + (s_many x4.toNatClampNeg)), .ref (a0 5)]) (ci := 4) (q0 := 0) rfl rfl (t_X4_nextOf hc) Sub.same kw_864 kw_473 kw_474 kw_88 hy_X4_nextOf kw_475 rfl (Nat.le_of_ble_eq_true rfl) (Nat.le_of_ble_eq_true rfl) (Nat.le_of_ble_eq_true rfl) (Nat.le_of_ble_eq_true rfl) (Nat.le_of_ble_eq_true rfl) dX4_runOut_49 ?_
        obtain ⟨hi, h⟩ := ix_of h
        refine g_iast (pc := 52) C (w' := cs_X4 J.2.2.1 a0 s_year s_wet s_lost s_eaten s_tied s_ripeMany s_gone s_place s_heard s_many (upd s_lying ((x4 * 12) + (s_many x4.toNatClampNeg)).toNatClampNeg v1) s_ripe ++ cs_X2 J.2.2.1 a1 p_beds p_letters p_readers p_far p_drain p_length p_words p_home) 5 rfl hi dX4_runOut_52 rfl ?_
        refine g_aload_n (pc := 53) C 0 rfl dX4_runOut_53 ?_
        refine g_get (pc := 54) C FOK_X4 0 rfl rfl 9 (by decide) kw_172 rfl dX4_runOut_54 ?_
        refine g_iload (pc := 57) C 4 rfl dX4_runOut_57 ?_
        refine g_dup2 (pc := 59) C dX4_runOut_59 rfl rfl ?_
        obtain ⟨hi, h⟩ := ix_of h
        refine g_iald (pc := 60) C 4 rfl hi dX4_runOut_60 ?_
        refine g_iconst (pc := 61) C dX4_runOut_61 ci_1 ?_
        refine g_iadd (pc := 62) C dX4_runOut_62 ?_
        obtain ⟨hi, h⟩ := ix_of h
        refine g_iast (pc := 63) C (w' := cs_X4 J.2.2.1 a0 s_year s_wet s_lost s_eaten s_tied s_ripeMany s_gone s_place s_heard (upd s_many x4.toNatClampNeg ((s_many x4.toNatClampNeg) + 1)) (upd s_lying ((x4 * 12) + (s_many x4.toNatClampNeg)).toNatClampNeg v1) s_ripe ++ cs_X2 J.2.2.1 a1 p_beds p_letters p_readers p_far p_drain p_length p_words p_home) 4 rfl hi dX4_runOut_63 rfl ?_
        refine g_goto (pc := 64) C (tgt := 77) dX4_runOut_64 rfl ?_
        exact j_X4_runOut_77 C E ih x4 x5 s_lost s_gone (upd s_many x4.toNatClampNeg ((s_many x4.toNatClampNeg) + 1)) (upd s_lying ((x4 * 12) + (s_many x4.toNatClampNeg)).toNatClampNeg v1) h
set_option maxRecDepth 100000 in
set_option maxHeartbeats 4000000 in
theorem t_X4_runOut {J : Jt} {a0 : Nat → Nat} {a1 : Nat → Nat} {s_year : Int32} {s_wet : Int32} {s_lost : Int32} {s_eaten : Int32} {s_tied : Int32} {s_ripeMany : Int32} {s_gone : Nat → Int32} {s_place : Nat → Int32} {s_heard : Nat → Int32} {s_many : Nat → Int32} {s_lying : Nat → Int32} {s_ripe : Nat → Int32} {p_beds : Int32} {p_letters : Int32} {p_readers : Int32} {p_far : Nat → Int32} {p_drain : Nat → Int32} {p_length : Nat → Int32} {p_words : Nat → Int32} {p_home : Nat → Int32} {n1 : Int32} {n2 : Int32} {o_s_lost : Int32} {o_s_gone : Nat → Int32} {o_s_many : Nat → Int32} {o_s_lying : Nat → Int32} (h : f_X4_runOut s_lost s_gone s_many s_lying p_drain p_length p_words n1 n2 = some (o_s_lost, o_s_gone, o_s_many, o_s_lying)) : Mt J yX4_runOut cX4_runOut 6 none rm_X4_runOut [.ref (a0 0), .ref (a1 0), .int n1, .int n2] (cs_X4 J.2.2.1 a0 s_year s_wet s_lost s_eaten s_tied s_ripeMany s_gone s_place s_heard s_many s_lying s_ripe ++ cs_X2 J.2.2.1 a1 p_beds p_letters p_readers p_far p_drain p_length p_words p_home) none (cs_X4 J.2.2.1 a0 s_year s_wet o_s_lost s_eaten s_tied s_ripeMany o_s_gone s_place s_heard o_s_many o_s_lying s_ripe ++ cs_X2 J.2.2.1 a1 p_beds p_letters p_readers p_far p_drain p_length p_words p_home) := by
  refine Mt_of (own := RX4) (by decide) rfl (Nat.le_of_ble_eq_true rfl) rfl (fun Z C E => ?_)
  unfold f_X4_runOut at h
  show G J Z 0 0 (cs_X4 J.2.2.1 a0 s_year s_wet s_lost s_eaten s_tied s_ripeMany s_gone s_place s_heard s_many s_lying s_ripe ++ cs_X2 J.2.2.1 a1 p_beds p_letters p_readers p_far p_drain p_length p_words p_home) 6 [(0, .ref (a0 0)), (1, .ref (a1 0)), (2, .int n1), (3, .int n2)] 0 []
  refine g_aload_n (pc := 0) C 1 rfl dX4_runOut_0 ?_
  refine g_get (pc := 1) C FOK_X2 7 rfl rfl 4 (by decide) kw_296 rfl dX4_runOut_1 ?_
  refine g_iload_n (pc := 4) C 2 rfl dX4_runOut_4 ?_
  obtain ⟨hi, h⟩ := ix_of h
  refine g_iald (pc := 5) C 9 rfl hi dX4_runOut_5 ?_
  refine g_istore (pc := 6) C [(4, .int (p_drain n1.toNatClampNeg)), (0, .ref (a0 0)), (1, .ref (a1 0)), (2, .int n1), (3, .int n2)] dX4_runOut_6 (by decide) rfl ?_
  refine g_iconst (pc := 8) C dX4_runOut_8 ci_0 ?_
  refine g_istore (pc := 9) C [(5, .int 0), (4, .int (p_drain n1.toNatClampNeg)), (0, .ref (a0 0)), (1, .ref (a1 0)), (2, .int n1), (3, .int n2)] dX4_runOut_9 (by decide) rfl ?_
  refine g_lv [2, 3, 4, 5, 1, 0] rfl ?_
  exact j_X4_runOut_11 C E  FU (p_drain n1.toNatClampNeg) 0 s_lost s_gone s_many s_lying h
noncomputable def f_X4_pour_12 (s_year : Int32) (s_tied : Int32) (p_letters : Int32) (p_far : Nat → Int32) (p_drain : Nat → Int32) (p_length : Nat → Int32) (p_words : Nat → Int32) (l_code : Nat → Int32) (l_length : Int32) (n1 : Int32) : Nat → Int32 → Int32 → Int32 → (Nat → Int32) → (Nat → Int32) → (Nat → Int32) → (Nat → Int32) → (Nat → Int32) → Option (Int32 × Int32 × (Nat → Int32) × (Nat → Int32) × (Nat → Int32) × (Nat → Int32) × (Nat → Int32))
  | 0, _, _, _, _, _, _, _, _ => none
  | n + 1, x4, s_wet, s_lost, s_gone, s_many, s_lying, l_values, l_stack => if p_letters ≤ x4 then some (s_wet, s_lost, s_gone, s_many, s_lying, l_values, l_stack) else b1 (f_X4_isTied s_tied x4) (fun v1 => if v1 = 0 then b1 (f_X4_leftOf s_gone p_length x4) (fun v2 => if v2 ≤ 0 then f_X4_pour_12 s_year s_tied p_letters p_far p_drain p_length p_words l_code l_length n1 n (x4 + 1) s_wet s_lost s_gone s_many s_lying l_values l_stack else b3 (f_X4_runOf s_year s_gone s_many p_far p_drain p_length l_code l_values l_stack l_length x4 n1 s_wet) (fun v3 c4 c5 => b4 (f_X4_runOut s_lost s_gone s_many s_lying p_drain p_length p_words x4 v3) (fun c6 c7 c8 c9 => f_X4_pour_12 s_year s_tied p_letters p_far p_drain p_length p_words l_code l_length n1 n (x4 + 1) s_wet c6 c7 c8 c9 c4 c5))) else f_X4_pour_12 s_year s_tied p_letters p_far p_drain p_length p_words l_code l_length n1 n (x4 + 1) s_wet s_lost s_gone s_many s_lying l_values l_stack)
noncomputable def f_X4_pour (s_year : Int32) (s_wet : Int32) (s_lost : Int32) (s_tied : Int32) (s_gone : Nat → Int32) (s_many : Nat → Int32) (s_lying : Nat → Int32) (p_letters : Int32) (p_far : Nat → Int32) (p_drain : Nat → Int32) (p_length : Nat → Int32) (p_words : Nat → Int32) (l_code : Nat → Int32) (l_values : Nat → Int32) (l_stack : Nat → Int32) (l_length : Int32) (n1 : Int32) : Option (Int32 × Int32 × (Nat → Int32) × (Nat → Int32) × (Nat → Int32) × (Nat → Int32) × (Nat → Int32)) := b1 (f_X4_wetBy s_wet n1) (fun v10 => f_X4_pour_12 s_year s_tied p_letters p_far p_drain p_length p_words l_code l_length n1 FU 0 v10 s_lost s_gone s_many s_lying l_values l_stack)
def rm_X4_pour : Room := { frames := 3, cells := 0, slots := 0, locals := 80 }
set_option maxRecDepth 100000 in
set_option maxHeartbeats 4000000 in
theorem j_X4_pour_12 {J : Jt} {Z : Zt} {a0 : Nat → Nat} {a1 : Nat → Nat} {a2 : Nat → Nat} {s_year : Int32} {s_eaten : Int32} {s_tied : Int32} {s_ripeMany : Int32} {s_place : Nat → Int32} {s_heard : Nat → Int32} {s_ripe : Nat → Int32} {p_beds : Int32} {p_letters : Int32} {p_readers : Int32} {p_far : Nat → Int32} {p_drain : Nat → Int32} {p_length : Nat → Int32} {p_words : Nat → Int32} {p_home : Nat → Int32} {l_code : Nat → Int32} {l_length : Int32} {n1 : Int32} {o_s_wet : Int32} {o_s_lost : Int32} {o_s_gone : Nat → Int32} {o_s_many : Nat → Int32} {o_s_lying : Nat → Int32} {o_l_values : Nat → Int32} {o_l_stack : Nat → Int32} (C : Cx J Z cX4_pour 5 RX4 none rm_X4_pour) (E : Ez J Z 0 0 none (cs_X4 J.2.2.1 a0 s_year o_s_wet o_s_lost s_eaten s_tied s_ripeMany o_s_gone s_place s_heard o_s_many o_s_lying s_ripe ++ cs_X2 J.2.2.1 a1 p_beds p_letters p_readers p_far p_drain p_length p_words p_home ++ cs_X1 J.2.2.1 a2 l_code o_l_values o_l_stack l_length)) : ∀ (n : Nat) (x4 : Int32) (s_wet : Int32) (s_lost : Int32) (s_gone : Nat → Int32) (s_many : Nat → Int32) (s_lying : Nat → Int32) (l_values : Nat → Int32) (l_stack : Nat → Int32), f_X4_pour_12 s_year s_tied p_letters p_far p_drain p_length p_words l_code l_length n1 n x4 s_wet s_lost s_gone s_many s_lying l_values l_stack = some (o_s_wet, o_s_lost, o_s_gone, o_s_many, o_s_lying, o_l_values, o_l_stack) → G J Z 0 0 (cs_X4 J.2.2.1 a0 s_year s_wet s_lost s_eaten s_tied s_ripeMany s_gone s_place s_heard s_many s_lying s_ripe ++ cs_X2 J.2.2.1 a1 p_beds p_letters p_readers p_far p_drain p_length p_words p_home ++ cs_X1 J.2.2.1 a2 l_code l_values l_stack l_length) 5 [(0, .ref (a0 0)), (1, .ref (a1 0)), (2, .ref (a2 0)), (3, .int n1), (4, .int x4)] 12 [] := by
  intro n
  induction n with
  | zero =>
    intro x4 s_wet s_lost s_gone s_many s_lying l_values l_stack h
    rw [f_X4_pour_12] at h
    cases h
  | succ n ih =>
    intro x4 s_wet s_lost s_gone s_many s_lying l_values l_stack h
    rw [f_X4_pour_12] at h
    refine g_iload (pc := 12) C 4 rfl dX4_pour_12 ?_
    refine g_aload_n (pc := 14) C 1 rfl dX4_pour_14 ?_
    refine g_get (pc := 15) C FOK_X2 7 rfl rfl 1 (by decide) kw_285 rfl dX4_pour_15 ?_
    refine g_icmp_ge (pc := 18) C (tgt := 66) dX4_pour_18 rfl h (fun h => ?_) (fun h => ?_)
    · cases h
      exact g_vret C E dX4_pour_66
    · refine g_aload_n (pc := 21) C 0 rfl dX4_pour_21 ?_
      refine g_iload (pc := 22) C 4 rfl dX4_pour_22 ?_
      obtain ⟨v1, hc, h⟩ := b1_of h
      refine g_callV (pc := 24) C (w' := cs_X4 J.2.2.1 a0 s_year s_wet s_lost s_eaten s_tied s_ripeMany s_gone s_place s_heard s_many s_lying s_ripe ++ cs_X2 J.2.2.1 a1 p_beds p_letters p_readers p_far p_drain p_length p_words p_home ++ cs_X1 J.2.2.1 a2 l_code l_values l_stack l_length) (As := [.int x4]) (st := []) (ci := 4) (q0 := 0) rfl rfl (t_X4_isTied hc) (Sub.gen [0, 1, 2, 3, 4, 5, 6] [7, 8, 9, 10, 11, 12, 13, 14, 15, 16] [10, 11, 12, 13, 14, 15, 16, 0, 1, 2, 3, 4, 5, 6, 7, 8, 9] rfl (by decide) rfl (by decide) (by decide) rfl (by decide)) kw_890 kw_891 kw_892 kw_88 hy_X4_isTied kw_893 rfl (Nat.le_of_ble_eq_true rfl) (Nat.le_of_ble_eq_true rfl) (Nat.le_of_ble_eq_true rfl) (Nat.le_of_ble_eq_true rfl) (Nat.le_of_ble_eq_true rfl) dX4_pour_24 ?_
      refine g_if_ne (pc := 27) C (tgt := 60) dX4_pour_27 rfl h (fun h => ?_) (fun h => ?_)
      · refine g_iinc (pc := 60) C (j := 4) [(4, .int (x4 + 1)), (0, .ref (a0 0)), (1, .ref (a1 0)), (2, .ref (a2 0)), (3, .int n1)] dX4_pour_60 rfl (ii_1 _) (by decide) rfl ?_
        refine g_goto (pc := 63) C (tgt := 12) dX4_pour_63 rfl ?_
        refine g_lv [1, 2, 3, 4, 0] rfl ?_
        exact ih (x4 + 1) s_wet s_lost s_gone s_many s_lying l_values l_stack h
      · refine g_aload_n (pc := 30) C 0 rfl dX4_pour_30 ?_
        refine g_aload_n (pc := 31) C 1 rfl dX4_pour_31 ?_
        refine g_iload (pc := 32) C 4 rfl dX4_pour_32 ?_
        obtain ⟨v2, hc, h⟩ := b1_of h
        refine g_callV (pc := 34) C (w' := cs_X4 J.2.2.1 a0 s_year s_wet s_lost s_eaten s_tied s_ripeMany s_gone s_place s_heard s_many s_lying s_ripe ++ cs_X2 J.2.2.1 a1 p_beds p_letters p_readers p_far p_drain p_length p_words p_home ++ cs_X1 J.2.2.1 a2 l_code l_values l_stack l_length) (As := [.ref (a1 0), .int x4]) (st := []) (ci := 4) (q0 := 0) rfl rfl (t_X4_leftOf hc) (Sub.gen [0, 1, 2, 3, 4, 5, 6, 7, 8, 9, 10, 11, 12] [13, 14, 15, 16] [4, 5, 6, 7, 8, 9, 10, 11, 12, 13, 14, 15, 16, 0, 1, 2, 3] rfl (by decide) rfl (by decide) (by decide) rfl (by decide)) kw_476 kw_465 kw_466 kw_88 hy_X4_leftOf kw_467 rfl (Nat.le_of_ble_eq_true rfl) (Nat.le_of_ble_eq_true rfl) (Nat.le_of_ble_eq_true rfl) (Nat.le_of_ble_eq_true rfl) (Nat.le_of_ble_eq_true rfl) dX4_pour_34 ?_
        refine g_if_le (pc := 37) C (tgt := 60) dX4_pour_37 rfl h (fun h => ?_) (fun h => ?_)
        · refine g_iinc (pc := 60) C (j := 4) [(4, .int (x4 + 1)), (0, .ref (a0 0)), (1, .ref (a1 0)), (2, .ref (a2 0)), (3, .int n1)] dX4_pour_60 rfl (ii_1 _) (by decide) rfl ?_
          refine g_goto (pc := 63) C (tgt := 12) dX4_pour_63 rfl ?_
          refine g_lv [1, 2, 3, 4, 0] rfl ?_
          exact ih (x4 + 1) s_wet s_lost s_gone s_many s_lying l_values l_stack h
        · refine g_aload_n (pc := 40) C 0 rfl dX4_pour_40 ?_
          refine g_aload_n (pc := 41) C 1 rfl dX4_pour_41 ?_
          refine g_iload (pc := 42) C 4 rfl dX4_pour_42 ?_
          refine g_aload_n (pc := 44) C 0 rfl dX4_pour_44 ?_
          refine g_aload_n (pc := 45) C 1 rfl dX4_pour_45 ?_
          refine g_aload_n (pc := 46) C 2 rfl dX4_pour_46 ?_
          refine g_iload (pc := 47) C 4 rfl dX4_pour_47 ?_
          refine g_iload_n (pc := 49) C 3 rfl dX4_pour_49 ?_
          refine g_aload_n (pc := 50) C 0 rfl dX4_pour_50 ?_
          refine g_get (pc := 51) C FOK_X4 0 rfl rfl 1 (by decide) kw_157 rfl dX4_pour_51 ?_
          obtain ⟨v3, c4, c5, hc, h⟩ := b3_of h
          refine g_callV (pc := 54) C (w' := cs_X4 J.2.2.1 a0 s_year s_wet s_lost s_eaten s_tied s_ripeMany s_gone s_place s_heard s_many s_lying s_ripe ++ cs_X2 J.2.2.1 a1 p_beds p_letters p_readers p_far p_drain p_length p_words p_home ++ cs_X1 J.2.2.1 a2 l_code c4 c5 l_length) (As := [.ref (a1 0), .ref (a2 0), .int x4, .int n1, .int s_wet]) (st := [.int x4, .ref (a1 0), .ref (a0 0)]) (ci := 4) (q0 := 0) rfl rfl (t_X4_runOf hc) Sub.same kw_895 kw_896 kw_897 kw_88 hy_X4_runOf kw_898 rfl (Nat.le_of_ble_eq_true rfl) (Nat.le_of_ble_eq_true rfl) (Nat.le_of_ble_eq_true rfl) (Nat.le_of_ble_eq_true rfl) (Nat.le_of_ble_eq_true rfl) dX4_pour_54 ?_
          obtain ⟨c6, c7, c8, c9, hc, h⟩ := b4_of h
          refine g_callV (pc := 57) C (w' := cs_X4 J.2.2.1 a0 s_year s_wet c6 s_eaten s_tied s_ripeMany c7 s_place s_heard c8 c9 s_ripe ++ cs_X2 J.2.2.1 a1 p_beds p_letters p_readers p_far p_drain p_length p_words p_home ++ cs_X1 J.2.2.1 a2 l_code c4 c5 l_length) (As := [.ref (a1 0), .int x4, .int v3]) (st := []) (ci := 4) (q0 := 0) rfl rfl (t_X4_runOut hc) (Sub.gen [0, 1, 2, 3, 4, 5, 6, 7, 8, 9, 10, 11, 12] [13, 14, 15, 16] [4, 5, 6, 7, 8, 9, 10, 11, 12, 13, 14, 15, 16, 0, 1, 2, 3] rfl (by decide) rfl (by decide) (by decide) rfl (by decide)) kw_906 kw_907 kw_908 kw_88 hy_X4_runOut kw_909 rfl (Nat.le_of_ble_eq_true rfl) (Nat.le_of_ble_eq_true rfl) (Nat.le_of_ble_eq_true rfl) (Nat.le_of_ble_eq_true rfl) (Nat.le_of_ble_eq_true rfl) dX4_pour_57 ?_
          refine g_iinc (pc := 60) C (j := 4) [(4, .int (x4 + 1)), (0, .ref (a0 0)), (1, .ref (a1 0)), (2, .ref (a2 0)), (3, .int n1)] dX4_pour_60 rfl (ii_1 _) (by decide) rfl ?_
          refine g_goto (pc := 63) C (tgt := 12) dX4_pour_63 rfl ?_
          refine g_lv [1, 2, 3, 4, 0] rfl ?_
          exact ih (x4 + 1) s_wet c6 c7 c8 c9 c4 c5 h
set_option maxRecDepth 100000 in
set_option maxHeartbeats 4000000 in
theorem t_X4_pour {J : Jt} {a0 : Nat → Nat} {a1 : Nat → Nat} {a2 : Nat → Nat} {s_year : Int32} {s_wet : Int32} {s_lost : Int32} {s_eaten : Int32} {s_tied : Int32} {s_ripeMany : Int32} {s_gone : Nat → Int32} {s_place : Nat → Int32} {s_heard : Nat → Int32} {s_many : Nat → Int32} {s_lying : Nat → Int32} {s_ripe : Nat → Int32} {p_beds : Int32} {p_letters : Int32} {p_readers : Int32} {p_far : Nat → Int32} {p_drain : Nat → Int32} {p_length : Nat → Int32} {p_words : Nat → Int32} {p_home : Nat → Int32} {l_code : Nat → Int32} {l_values : Nat → Int32} {l_stack : Nat → Int32} {l_length : Int32} {n1 : Int32} {o_s_wet : Int32} {o_s_lost : Int32} {o_s_gone : Nat → Int32} {o_s_many : Nat → Int32} {o_s_lying : Nat → Int32} {o_l_values : Nat → Int32} {o_l_stack : Nat → Int32} (h : f_X4_pour s_year s_wet s_lost s_tied s_gone s_many s_lying p_letters p_far p_drain p_length p_words l_code l_values l_stack l_length n1 = some (o_s_wet, o_s_lost, o_s_gone, o_s_many, o_s_lying, o_l_values, o_l_stack)) : Mt J yX4_pour cX4_pour 5 none rm_X4_pour [.ref (a0 0), .ref (a1 0), .ref (a2 0), .int n1] (cs_X4 J.2.2.1 a0 s_year s_wet s_lost s_eaten s_tied s_ripeMany s_gone s_place s_heard s_many s_lying s_ripe ++ cs_X2 J.2.2.1 a1 p_beds p_letters p_readers p_far p_drain p_length p_words p_home ++ cs_X1 J.2.2.1 a2 l_code l_values l_stack l_length) none (cs_X4 J.2.2.1 a0 s_year o_s_wet o_s_lost s_eaten s_tied s_ripeMany o_s_gone s_place s_heard o_s_many o_s_lying s_ripe ++ cs_X2 J.2.2.1 a1 p_beds p_letters p_readers p_far p_drain p_length p_words p_home ++ cs_X1 J.2.2.1 a2 l_code o_l_values o_l_stack l_length) := by
  refine Mt_of (own := RX4) (by decide) rfl (Nat.le_of_ble_eq_true rfl) rfl (fun Z C E => ?_)
  unfold f_X4_pour at h
  show G J Z 0 0 (cs_X4 J.2.2.1 a0 s_year s_wet s_lost s_eaten s_tied s_ripeMany s_gone s_place s_heard s_many s_lying s_ripe ++ cs_X2 J.2.2.1 a1 p_beds p_letters p_readers p_far p_drain p_length p_words p_home ++ cs_X1 J.2.2.1 a2 l_code l_values l_stack l_length) 5 [(0, .ref (a0 0)), (1, .ref (a1 0)), (2, .ref (a2 0)), (3, .int n1)] 0 []
  refine g_aload_n (pc := 0) C 0 rfl dX4_pour_0 ?_
  refine g_aload_n (pc := 1) C 0 rfl dX4_pour_1 ?_
  refine g_iload_n (pc := 2) C 3 rfl dX4_pour_2 ?_
  obtain ⟨v10, hc, h⟩ := b1_of h
  refine g_callV (pc := 3) C (w' := cs_X4 J.2.2.1 a0 s_year s_wet s_lost s_eaten s_tied s_ripeMany s_gone s_place s_heard s_many s_lying s_ripe ++ cs_X2 J.2.2.1 a1 p_beds p_letters p_readers p_far p_drain p_length p_words p_home ++ cs_X1 J.2.2.1 a2 l_code l_values l_stack l_length) (As := [.int n1]) (st := [.ref (a0 0)]) (ci := 4) (q0 := 0) rfl rfl (t_X4_wetBy hc) (Sub.gen [0, 1, 2, 3, 4, 5, 6] [7, 8, 9, 10, 11, 12, 13, 14, 15, 16] [10, 11, 12, 13, 14, 15, 16, 0, 1, 2, 3, 4, 5, 6, 7, 8, 9] rfl (by decide) rfl (by decide) (by decide) rfl (by decide)) kw_885 kw_886 kw_887 kw_88 hy_X4_wetBy kw_888 rfl (Nat.le_of_ble_eq_true rfl) (Nat.le_of_ble_eq_true rfl) (Nat.le_of_ble_eq_true rfl) (Nat.le_of_ble_eq_true rfl) (Nat.le_of_ble_eq_true rfl) dX4_pour_3 ?_
  refine g_put (pc := 6) C (w' := cs_X4 J.2.2.1 a0 s_year v10 s_lost s_eaten s_tied s_ripeMany s_gone s_place s_heard s_many s_lying s_ripe ++ cs_X2 J.2.2.1 a1 p_beds p_letters p_readers p_far p_drain p_length p_words p_home ++ cs_X1 J.2.2.1 a2 l_code l_values l_stack l_length) FOK_X4 0 rfl rfl 1 (by decide) kw_157 rfl rfl rfl (Nat.le_of_ble_eq_true rfl) dX4_pour_6 rfl ?_
  refine g_iconst (pc := 9) C dX4_pour_9 ci_0 ?_
  refine g_istore (pc := 10) C [(4, .int 0), (0, .ref (a0 0)), (1, .ref (a1 0)), (2, .ref (a2 0)), (3, .int n1)] dX4_pour_10 (by decide) rfl ?_
  refine g_lv [1, 2, 3, 4, 0] rfl ?_
  exact j_X4_pour_12 C E  FU 0 v10 s_lost s_gone s_many s_lying l_values l_stack h
noncomputable def f_X4_go (s_place : Nat → Int32) (s_heard : Nat → Int32) (s_many : Nat → Int32) (s_lying : Nat → Int32) (n1 : Int32) (n2 : Int32) : Option (Int32 × (Nat → Int32) × (Nat → Int32)) := if ixb n1 5 then if (s_place n1.toNatClampNeg) = n2 then some (0, s_place, s_heard) else if ixb n1 5 then if ixb n1 5 then b1 (f_X4_wordsIn s_many s_lying n2) (fun v1 => if ixb n1 5 then some (1, upd s_place n1.toNatClampNeg n2, upd s_heard n1.toNatClampNeg ((s_heard n1.toNatClampNeg) ||| v1)) else none) else none else none else none
def rm_X4_go : Room := { frames := 2, cells := 0, slots := 0, locals := 45 }
set_option maxRecDepth 100000 in
set_option maxHeartbeats 4000000 in
theorem t_X4_go {J : Jt} {a0 : Nat → Nat} {s_year : Int32} {s_wet : Int32} {s_lost : Int32} {s_eaten : Int32} {s_tied : Int32} {s_ripeMany : Int32} {s_gone : Nat → Int32} {s_place : Nat → Int32} {s_heard : Nat → Int32} {s_many : Nat → Int32} {s_lying : Nat → Int32} {s_ripe : Nat → Int32} {n1 : Int32} {n2 : Int32} {r : Int32} {o_s_place : Nat → Int32} {o_s_heard : Nat → Int32} (h : f_X4_go s_place s_heard s_many s_lying n1 n2 = some (r, o_s_place, o_s_heard)) : Mt J yX4_go cX4_go 3 (some .boolean) rm_X4_go [.ref (a0 0), .int n1, .int n2] (cs_X4 J.2.2.1 a0 s_year s_wet s_lost s_eaten s_tied s_ripeMany s_gone s_place s_heard s_many s_lying s_ripe) (some (.int r)) (cs_X4 J.2.2.1 a0 s_year s_wet s_lost s_eaten s_tied s_ripeMany s_gone o_s_place o_s_heard s_many s_lying s_ripe) := by
  refine Mt_of (own := RX4) (by decide) rfl (Nat.le_of_ble_eq_true rfl) rfl (fun Z C E => ?_)
  unfold f_X4_go at h
  show G J Z 0 0 (cs_X4 J.2.2.1 a0 s_year s_wet s_lost s_eaten s_tied s_ripeMany s_gone s_place s_heard s_many s_lying s_ripe) 3 [(0, .ref (a0 0)), (1, .int n1), (2, .int n2)] 0 []
  refine g_aload_n (pc := 0) C 0 rfl dX4_go_0 ?_
  refine g_get (pc := 1) C FOK_X4 0 rfl rfl 7 (by decide) kw_168 rfl dX4_go_1 ?_
  refine g_iload_n (pc := 4) C 1 rfl dX4_go_4 ?_
  obtain ⟨hi, h⟩ := ix_of h
  refine g_iald (pc := 5) C 2 rfl hi dX4_go_5 ?_
  refine g_iload_n (pc := 6) C 2 rfl dX4_go_6 ?_
  refine g_icmp_ne (pc := 7) C (tgt := 12) dX4_go_7 rfl h (fun h => ?_) (fun h => ?_)
  · refine g_aload_n (pc := 12) C 0 rfl dX4_go_12 ?_
    refine g_get (pc := 13) C FOK_X4 0 rfl rfl 7 (by decide) kw_168 rfl dX4_go_13 ?_
    refine g_iload_n (pc := 16) C 1 rfl dX4_go_16 ?_
    refine g_iload_n (pc := 17) C 2 rfl dX4_go_17 ?_
    obtain ⟨hi, h⟩ := ix_of h
    refine g_iast (pc := 18) C (w' := cs_X4 J.2.2.1 a0 s_year s_wet s_lost s_eaten s_tied s_ripeMany s_gone (upd s_place n1.toNatClampNeg n2) s_heard s_many s_lying s_ripe) 2 rfl hi dX4_go_18 rfl ?_
    refine g_aload_n (pc := 19) C 0 rfl dX4_go_19 ?_
    refine g_get (pc := 20) C FOK_X4 0 rfl rfl 8 (by decide) kw_170 rfl dX4_go_20 ?_
    refine g_iload_n (pc := 23) C 1 rfl dX4_go_23 ?_
    refine g_dup2 (pc := 24) C dX4_go_24 rfl rfl ?_
    obtain ⟨hi, h⟩ := ix_of h
    refine g_iald (pc := 25) C 3 rfl hi dX4_go_25 ?_
    refine g_aload_n (pc := 26) C 0 rfl dX4_go_26 ?_
    refine g_iload_n (pc := 27) C 2 rfl dX4_go_27 ?_
    obtain ⟨v1, hc, h⟩ := b1_of h
    refine g_callV (pc := 28) C (w' := cs_X4 J.2.2.1 a0 s_year s_wet s_lost s_eaten s_tied s_ripeMany s_gone (upd s_place n1.toNatClampNeg n2) s_heard s_many s_lying s_ripe) (As := [.int n2]) (st := [.int (s_heard n1.toNatClampNeg), .int n1, .ref (a0 3)]) (ci := 4) (q0 := 0) rfl rfl (t_X4_wordsIn hc) Sub.same kw_869 kw_870 kw_871 kw_88 hy_X4_wordsIn kw_872 rfl (Nat.le_of_ble_eq_true rfl) (Nat.le_of_ble_eq_true rfl) (Nat.le_of_ble_eq_true rfl) (Nat.le_of_ble_eq_true rfl) (Nat.le_of_ble_eq_true rfl) dX4_go_28 ?_
    refine g_ior (pc := 31) C dX4_go_31 ?_
    obtain ⟨hi, h⟩ := ix_of h
    refine g_iast (pc := 32) C (w' := cs_X4 J.2.2.1 a0 s_year s_wet s_lost s_eaten s_tied s_ripeMany s_gone (upd s_place n1.toNatClampNeg n2) (upd s_heard n1.toNatClampNeg ((s_heard n1.toNatClampNeg) ||| v1)) s_many s_lying s_ripe) 3 rfl hi dX4_go_32 rfl ?_
    refine g_iconst (pc := 33) C dX4_go_33 ci_1 ?_
    cases h
    exact g_zret C rfl E dX4_go_34
  · refine g_iconst (pc := 10) C dX4_go_10 ci_0 ?_
    cases h
    exact g_zret C rfl E dX4_go_11
noncomputable def f_X4_clearBed (s_eaten : Int32) (s_many : Nat → Int32) (n1 : Int32) : Option (Int32 × Int32 × (Nat → Int32)) := if ixb n1 6 then if (s_many n1.toNatClampNeg) = 0 then some (0, s_eaten, s_many) else if ixb n1 6 then if ixb n1 6 then some (1, s_eaten + (s_many n1.toNatClampNeg), upd s_many n1.toNatClampNeg 0) else none else none else none
def rm_X4_clearBed : Room := { frames := 0, cells := 0, slots := 0, locals := 0 }
set_option maxRecDepth 100000 in
set_option maxHeartbeats 4000000 in
theorem t_X4_clearBed {J : Jt} {a0 : Nat → Nat} {s_year : Int32} {s_wet : Int32} {s_lost : Int32} {s_eaten : Int32} {s_tied : Int32} {s_ripeMany : Int32} {s_gone : Nat → Int32} {s_place : Nat → Int32} {s_heard : Nat → Int32} {s_many : Nat → Int32} {s_lying : Nat → Int32} {s_ripe : Nat → Int32} {n1 : Int32} {r : Int32} {o_s_eaten : Int32} {o_s_many : Nat → Int32} (h : f_X4_clearBed s_eaten s_many n1 = some (r, o_s_eaten, o_s_many)) : Mt J yX4_clearBed cX4_clearBed 2 (some .boolean) rm_X4_clearBed [.ref (a0 0), .int n1] (cs_X4 J.2.2.1 a0 s_year s_wet s_lost s_eaten s_tied s_ripeMany s_gone s_place s_heard s_many s_lying s_ripe) (some (.int r)) (cs_X4 J.2.2.1 a0 s_year s_wet s_lost o_s_eaten s_tied s_ripeMany s_gone s_place s_heard o_s_many s_lying s_ripe) := by
  refine Mt_of (own := RX4) (by decide) rfl (Nat.le_of_ble_eq_true rfl) rfl (fun Z C E => ?_)
  unfold f_X4_clearBed at h
  show G J Z 0 0 (cs_X4 J.2.2.1 a0 s_year s_wet s_lost s_eaten s_tied s_ripeMany s_gone s_place s_heard s_many s_lying s_ripe) 2 [(0, .ref (a0 0)), (1, .int n1)] 0 []
  refine g_aload_n (pc := 0) C 0 rfl dX4_clearBed_0 ?_
  refine g_get (pc := 1) C FOK_X4 0 rfl rfl 9 (by decide) kw_172 rfl dX4_clearBed_1 ?_
  refine g_iload_n (pc := 4) C 1 rfl dX4_clearBed_4 ?_
  obtain ⟨hi, h⟩ := ix_of h
  refine g_iald (pc := 5) C 4 rfl hi dX4_clearBed_5 ?_
  refine g_if_ne (pc := 6) C (tgt := 11) dX4_clearBed_6 rfl h (fun h => ?_) (fun h => ?_)
  · refine g_aload_n (pc := 11) C 0 rfl dX4_clearBed_11 ?_
    refine g_dup (pc := 12) C dX4_clearBed_12 rfl ?_
    refine g_get (pc := 13) C FOK_X4 0 rfl rfl 3 (by decide) kw_161 rfl dX4_clearBed_13 ?_
    refine g_aload_n (pc := 16) C 0 rfl dX4_clearBed_16 ?_
    refine g_get (pc := 17) C FOK_X4 0 rfl rfl 9 (by decide) kw_172 rfl dX4_clearBed_17 ?_
    refine g_iload_n (pc := 20) C 1 rfl dX4_clearBed_20 ?_
    obtain ⟨hi, h⟩ := ix_of h
    refine g_iald (pc := 21) C 4 rfl hi dX4_clearBed_21 ?_
    refine g_iadd (pc := 22) C dX4_clearBed_22 ?_
    refine g_put (pc := 23) C (w' := cs_X4 J.2.2.1 a0 s_year s_wet s_lost (s_eaten + (s_many n1.toNatClampNeg)) s_tied s_ripeMany s_gone s_place s_heard s_many s_lying s_ripe) FOK_X4 0 rfl rfl 3 (by decide) kw_161 rfl rfl rfl (Nat.le_of_ble_eq_true rfl) dX4_clearBed_23 rfl ?_
    refine g_aload_n (pc := 26) C 0 rfl dX4_clearBed_26 ?_
    refine g_get (pc := 27) C FOK_X4 0 rfl rfl 9 (by decide) kw_172 rfl dX4_clearBed_27 ?_
    refine g_iload_n (pc := 30) C 1 rfl dX4_clearBed_30 ?_
    refine g_iconst (pc := 31) C dX4_clearBed_31 ci_0 ?_
    obtain ⟨hi, h⟩ := ix_of h
    refine g_iast (pc := 32) C (w' := cs_X4 J.2.2.1 a0 s_year s_wet s_lost (s_eaten + (s_many n1.toNatClampNeg)) s_tied s_ripeMany s_gone s_place s_heard (upd s_many n1.toNatClampNeg 0) s_lying s_ripe) 4 rfl hi dX4_clearBed_32 rfl ?_
    refine g_iconst (pc := 33) C dX4_clearBed_33 ci_1 ?_
    cases h
    exact g_zret C rfl E dX4_clearBed_34
  · refine g_iconst (pc := 9) C dX4_clearBed_9 ci_0 ?_
    cases h
    exact g_zret C rfl E dX4_clearBed_10
noncomputable def f_X4_ripen_30  (n1 : Int32) (s_ripeMany : Int32) (s_ripe : Nat → Int32) : Option (Int32 × (Nat → Int32)) := if ixb s_ripeMany 60 then some (s_ripeMany + 1, upd s_ripe s_ripeMany.toNatClampNeg n1) else none
noncomputable def f_X4_ripen (s_ripeMany : Int32) (s_ripe : Nat → Int32) (n1 : Int32) : Option (Int32 × (Nat → Int32)) := if s_ripeMany < 60 then f_X4_ripen_30 n1 s_ripeMany s_ripe else if cpb 1 0 59 60 60 then f_X4_ripen_30 n1 59 (va_cpy s_ripe s_ripe 1.toNatClampNeg 0.toNatClampNeg 59.toNatClampNeg) else none
def rm_X4_ripen : Room := { frames := 1, cells := 0, slots := 0, locals := 80 }
set_option maxRecDepth 100000 in
set_option maxHeartbeats 4000000 in
theorem j_X4_ripen_30 {J : Jt} {Z : Zt} {a0 : Nat → Nat} {s_year : Int32} {s_wet : Int32} {s_lost : Int32} {s_eaten : Int32} {s_tied : Int32} {s_gone : Nat → Int32} {s_place : Nat → Int32} {s_heard : Nat → Int32} {s_many : Nat → Int32} {s_lying : Nat → Int32} {n1 : Int32} {o_s_ripeMany : Int32} {o_s_ripe : Nat → Int32} (C : Cx J Z cX4_ripen 2 RX4 none rm_X4_ripen) (E : Ez J Z 0 0 none (cs_X4 J.2.2.1 a0 s_year s_wet s_lost s_eaten s_tied o_s_ripeMany s_gone s_place s_heard s_many s_lying o_s_ripe)) : ∀ (s_ripeMany : Int32) (s_ripe : Nat → Int32), f_X4_ripen_30 n1 s_ripeMany s_ripe = some (o_s_ripeMany, o_s_ripe) → G J Z 0 0 (cs_X4 J.2.2.1 a0 s_year s_wet s_lost s_eaten s_tied s_ripeMany s_gone s_place s_heard s_many s_lying s_ripe) 2 [(0, .ref (a0 0)), (1, .int n1)] 30 [] := by
  intro s_ripeMany s_ripe h
  unfold f_X4_ripen_30 at h
  refine g_aload_n (pc := 30) C 0 rfl dX4_ripen_30 ?_
  refine g_get (pc := 31) C FOK_X4 0 rfl rfl 11 (by decide) kw_175 rfl dX4_ripen_31 ?_
  refine g_aload_n (pc := 34) C 0 rfl dX4_ripen_34 ?_
  refine g_get (pc := 35) C FOK_X4 0 rfl rfl 5 (by decide) kw_165 rfl dX4_ripen_35 ?_
  refine g_iload_n (pc := 38) C 1 rfl dX4_ripen_38 ?_
  obtain ⟨hi, h⟩ := ix_of h
  refine g_iast (pc := 39) C (w' := cs_X4 J.2.2.1 a0 s_year s_wet s_lost s_eaten s_tied s_ripeMany s_gone s_place s_heard s_many s_lying (upd s_ripe s_ripeMany.toNatClampNeg n1)) 6 rfl hi dX4_ripen_39 rfl ?_
  refine g_aload_n (pc := 40) C 0 rfl dX4_ripen_40 ?_
  refine g_dup (pc := 41) C dX4_ripen_41 rfl ?_
  refine g_get (pc := 42) C FOK_X4 0 rfl rfl 5 (by decide) kw_165 rfl dX4_ripen_42 ?_
  refine g_iconst (pc := 45) C dX4_ripen_45 ci_1 ?_
  refine g_iadd (pc := 46) C dX4_ripen_46 ?_
  refine g_put (pc := 47) C (w' := cs_X4 J.2.2.1 a0 s_year s_wet s_lost s_eaten s_tied (s_ripeMany + 1) s_gone s_place s_heard s_many s_lying (upd s_ripe s_ripeMany.toNatClampNeg n1)) FOK_X4 0 rfl rfl 5 (by decide) kw_165 rfl rfl rfl (Nat.le_of_ble_eq_true rfl) dX4_ripen_47 rfl ?_
  cases h
  exact g_vret C E dX4_ripen_50
set_option maxRecDepth 100000 in
set_option maxHeartbeats 4000000 in
theorem t_X4_ripen {J : Jt} {a0 : Nat → Nat} {s_year : Int32} {s_wet : Int32} {s_lost : Int32} {s_eaten : Int32} {s_tied : Int32} {s_ripeMany : Int32} {s_gone : Nat → Int32} {s_place : Nat → Int32} {s_heard : Nat → Int32} {s_many : Nat → Int32} {s_lying : Nat → Int32} {s_ripe : Nat → Int32} {n1 : Int32} {o_s_ripeMany : Int32} {o_s_ripe : Nat → Int32} (h : f_X4_ripen s_ripeMany s_ripe n1 = some (o_s_ripeMany, o_s_ripe)) : Mt J yX4_ripen cX4_ripen 2 none rm_X4_ripen [.ref (a0 0), .int n1] (cs_X4 J.2.2.1 a0 s_year s_wet s_lost s_eaten s_tied s_ripeMany s_gone s_place s_heard s_many s_lying s_ripe) none (cs_X4 J.2.2.1 a0 s_year s_wet s_lost s_eaten s_tied o_s_ripeMany s_gone s_place s_heard s_many s_lying o_s_ripe) := by
  refine Mt_of (own := RX4) (by decide) rfl (Nat.le_of_ble_eq_true rfl) rfl (fun Z C E => ?_)
  unfold f_X4_ripen at h
  show G J Z 0 0 (cs_X4 J.2.2.1 a0 s_year s_wet s_lost s_eaten s_tied s_ripeMany s_gone s_place s_heard s_many s_lying s_ripe) 2 [(0, .ref (a0 0)), (1, .int n1)] 0 []
  refine g_aload_n (pc := 0) C 0 rfl dX4_ripen_0 ?_
  refine g_get (pc := 1) C FOK_X4 0 rfl rfl 5 (by decide) kw_165 rfl dX4_ripen_1 ?_
  refine g_bipush (pc := 4) C dX4_ripen_4 cb_60 ?_
  refine g_icmp_lt (pc := 6) C (tgt := 30) dX4_ripen_6 rfl h (fun h => ?_) (fun h => ?_)
  · exact j_X4_ripen_30 C E  s_ripeMany s_ripe h
  · refine g_aload_n (pc := 9) C 0 rfl dX4_ripen_9 ?_
    refine g_get (pc := 10) C FOK_X4 0 rfl rfl 11 (by decide) kw_175 rfl dX4_ripen_10 ?_
    refine g_iconst (pc := 13) C dX4_ripen_13 ci_1 ?_
    refine g_aload_n (pc := 14) C 0 rfl dX4_ripen_14 ?_
    refine g_get (pc := 15) C FOK_X4 0 rfl rfl 11 (by decide) kw_175 rfl dX4_ripen_15 ?_
    refine g_iconst (pc := 18) C dX4_ripen_18 ci_0 ?_
    refine g_bipush (pc := 19) C dX4_ripen_19 cb_59 ?_
    obtain ⟨hi, h⟩ := cp_of h
    refine g_copyi (pc := 21) C (w' := cs_X4 J.2.2.1 a0 s_year s_wet s_lost s_eaten s_tied s_ripeMany s_gone s_place s_heard s_many s_lying (va_cpy s_ripe s_ripe 1.toNatClampNeg 0.toNatClampNeg 59.toNatClampNeg)) kw_449 kw_451 kw_450 kw_106 6 6 rfl rfl hi (Nat.le_of_ble_eq_true rfl) (Nat.le_of_ble_eq_true rfl) dX4_ripen_21 rfl ?_
    refine g_aload_n (pc := 24) C 0 rfl dX4_ripen_24 ?_
    refine g_bipush (pc := 25) C dX4_ripen_25 cb_59 ?_
    refine g_put (pc := 27) C (w' := cs_X4 J.2.2.1 a0 s_year s_wet s_lost s_eaten s_tied 59 s_gone s_place s_heard s_many s_lying (va_cpy s_ripe s_ripe 1.toNatClampNeg 0.toNatClampNeg 59.toNatClampNeg)) FOK_X4 0 rfl rfl 5 (by decide) kw_165 rfl rfl rfl (Nat.le_of_ble_eq_true rfl) dX4_ripen_27 rfl ?_
    exact j_X4_ripen_30 C E  59 (va_cpy s_ripe s_ripe 1.toNatClampNeg 0.toNatClampNeg 59.toNatClampNeg) h
noncomputable def f_X4_passYear_2 (p_beds : Int32) : Nat → Int32 → Int32 → Int32 → Int32 → (Nat → Int32) → (Nat → Int32) → (Nat → Int32) → Option (Int32 × Int32 × Int32 × (Nat → Int32) × (Nat → Int32) × (Nat → Int32))
  | 0, _, _, _, _, _, _, _ => none
  | n + 1, x2, s_year, s_wet, s_ripeMany, s_many, s_lying, s_ripe => if p_beds ≤ x2 then some (s_year + 1, s_wet / 2, s_ripeMany, s_many, s_lying, s_ripe) else if ixb x2 6 then if (s_many x2.toNatClampNeg) ≤ 0 then f_X4_passYear_2 p_beds n (x2 + 1) s_year s_wet s_ripeMany s_many s_lying s_ripe else b1 (f_X4_lyingAt s_many s_lying x2 0) (fun v1 => b2 (f_X4_ripen s_ripeMany s_ripe v1) (fun c2 c3 => if cpb ((x2 * 12) + 1) (x2 * 12) 11 72 72 then if ixb x2 6 then if ixb x2 6 then f_X4_passYear_2 p_beds n (x2 + 1) s_year s_wet c2 (upd s_many x2.toNatClampNeg ((s_many x2.toNatClampNeg) - 1)) (va_cpy s_lying s_lying ((x2 * 12) + 1).toNatClampNeg (x2 * 12).toNatClampNeg 11.toNatClampNeg) c3 else none else none else none)) else none
noncomputable def f_X4_passYear (s_year : Int32) (s_wet : Int32) (s_ripeMany : Int32) (s_many : Nat → Int32) (s_lying : Nat → Int32) (s_ripe : Nat → Int32) (p_beds : Int32) : Option (Int32 × Int32 × Int32 × (Nat → Int32) × (Nat → Int32) × (Nat → Int32)) := f_X4_passYear_2 p_beds FU 0 s_year s_wet s_ripeMany s_many s_lying s_ripe
def rm_X4_passYear : Room := { frames := 2, cells := 0, slots := 0, locals := 101 }
set_option maxRecDepth 100000 in
set_option maxHeartbeats 4000000 in
theorem j_X4_passYear_2 {J : Jt} {Z : Zt} {a0 : Nat → Nat} {a1 : Nat → Nat} {s_lost : Int32} {s_eaten : Int32} {s_tied : Int32} {s_gone : Nat → Int32} {s_place : Nat → Int32} {s_heard : Nat → Int32} {p_beds : Int32} {p_letters : Int32} {p_readers : Int32} {p_far : Nat → Int32} {p_drain : Nat → Int32} {p_length : Nat → Int32} {p_words : Nat → Int32} {p_home : Nat → Int32} {o_s_year : Int32} {o_s_wet : Int32} {o_s_ripeMany : Int32} {o_s_many : Nat → Int32} {o_s_lying : Nat → Int32} {o_s_ripe : Nat → Int32} (C : Cx J Z cX4_passYear 3 RX4 none rm_X4_passYear) (E : Ez J Z 0 0 none (cs_X4 J.2.2.1 a0 o_s_year o_s_wet s_lost s_eaten s_tied o_s_ripeMany s_gone s_place s_heard o_s_many o_s_lying o_s_ripe ++ cs_X2 J.2.2.1 a1 p_beds p_letters p_readers p_far p_drain p_length p_words p_home)) : ∀ (n : Nat) (x2 : Int32) (s_year : Int32) (s_wet : Int32) (s_ripeMany : Int32) (s_many : Nat → Int32) (s_lying : Nat → Int32) (s_ripe : Nat → Int32), f_X4_passYear_2 p_beds n x2 s_year s_wet s_ripeMany s_many s_lying s_ripe = some (o_s_year, o_s_wet, o_s_ripeMany, o_s_many, o_s_lying, o_s_ripe) → G J Z 0 0 (cs_X4 J.2.2.1 a0 s_year s_wet s_lost s_eaten s_tied s_ripeMany s_gone s_place s_heard s_many s_lying s_ripe ++ cs_X2 J.2.2.1 a1 p_beds p_letters p_readers p_far p_drain p_length p_words p_home) 3 [(0, .ref (a0 0)), (1, .ref (a1 0)), (2, .int x2)] 2 [] := by
  intro n
  induction n with
  | zero =>
    intro x2 s_year s_wet s_ripeMany s_many s_lying s_ripe h
    rw [f_X4_passYear_2] at h
    cases h
  | succ n ih =>
    intro x2 s_year s_wet s_ripeMany s_many s_lying s_ripe h
    rw [f_X4_passYear_2] at h
    refine g_iload_n (pc := 2) C 2 rfl dX4_passYear_2 ?_
    refine g_aload_n (pc := 3) C 1 rfl dX4_passYear_3 ?_
    refine g_get (pc := 4) C FOK_X2 7 rfl rfl 0 (by decide) kw_280 rfl dX4_passYear_4 ?_
    refine g_icmp_ge (pc := 7) C (tgt := 68) dX4_passYear_7 rfl h (fun h => ?_) (fun h => ?_)
    · refine g_aload_n (pc := 68) C 0 rfl dX4_passYear_68 ?_
      refine g_dup (pc := 69) C dX4_passYear_69 rfl ?_
      refine g_get (pc := 70) C FOK_X4 0 rfl rfl 1 (by decide) kw_157 rfl dX4_passYear_70 ?_
      refine g_iconst (pc := 73) C dX4_passYear_73 ci_2 ?_
      refine g_idiv (pc := 74) C dX4_passYear_74 (by decide) ?_
      refine g_put (pc := 75) C (w' := cs_X4 J.2.2.1 a0 s_year (s_wet / 2) s_lost s_eaten s_tied s_ripeMany s_gone s_place s_heard s_many s_lying s_ripe ++ cs_X2 J.2.2.1 a1 p_beds p_letters p_readers p_far p_drain p_length p_words p_home) FOK_X4 0 rfl rfl 1 (by decide) kw_157 rfl rfl rfl (Nat.le_of_ble_eq_true rfl) dX4_passYear_75 rfl ?_
      refine g_aload_n (pc := 78) C 0 rfl dX4_passYear_78 ?_
      refine g_dup (pc := 79) C dX4_passYear_79 rfl ?_
      refine g_get (pc := 80) C FOK_X4 0 rfl rfl 0 (by decide) kw_154 rfl dX4_passYear_80 ?_
      refine g_iconst (pc := 83) C dX4_passYear_83 ci_1 ?_
      refine g_iadd (pc := 84) C dX4_passYear_84 ?_
      refine g_put (pc := 85) C (w' := cs_X4 J.2.2.1 a0 (s_year + 1) (s_wet / 2) s_lost s_eaten s_tied s_ripeMany s_gone s_place s_heard s_many s_lying s_ripe ++ cs_X2 J.2.2.1 a1 p_beds p_letters p_readers p_far p_drain p_length p_words p_home) FOK_X4 0 rfl rfl 0 (by decide) kw_154 rfl rfl rfl (Nat.le_of_ble_eq_true rfl) dX4_passYear_85 rfl ?_
      cases h
      exact g_vret C E dX4_passYear_88
    · refine g_aload_n (pc := 10) C 0 rfl dX4_passYear_10 ?_
      refine g_get (pc := 11) C FOK_X4 0 rfl rfl 9 (by decide) kw_172 rfl dX4_passYear_11 ?_
      refine g_iload_n (pc := 14) C 2 rfl dX4_passYear_14 ?_
      obtain ⟨hi, h⟩ := ix_of h
      refine g_iald (pc := 15) C 4 rfl hi dX4_passYear_15 ?_
      refine g_if_le (pc := 16) C (tgt := 62) dX4_passYear_16 rfl h (fun h => ?_) (fun h => ?_)
      · refine g_iinc (pc := 62) C (j := 2) [(2, .int (x2 + 1)), (0, .ref (a0 0)), (1, .ref (a1 0))] dX4_passYear_62 rfl (ii_1 _) (by decide) rfl ?_
        refine g_goto (pc := 65) C (tgt := 2) dX4_passYear_65 rfl ?_
        refine g_lv [1, 2, 0] rfl ?_
        exact ih (x2 + 1) s_year s_wet s_ripeMany s_many s_lying s_ripe h
      · refine g_aload_n (pc := 19) C 0 rfl dX4_passYear_19 ?_
        refine g_aload_n (pc := 20) C 0 rfl dX4_passYear_20 ?_
        refine g_iload_n (pc := 21) C 2 rfl dX4_passYear_21 ?_
        refine g_iconst (pc := 22) C dX4_passYear_22 ci_0 ?_
        obtain ⟨v1, hc, h⟩ := b1_of h
        refine g_callV (pc := 23) C (w' := cs_X4 J.2.2.1 a0 s_year s_wet s_lost s_eaten s_tied s_ripeMany s_gone s_place s_heard s_many s_lying s_ripe ++ cs_X2 J.2.2.1 a1 p_beds p_letters p_readers p_far p_drain p_length p_words p_home) (As := [.int x2, .int 0]) (st := [.ref (a0 0)]) (ci := 4) (q0 := 0) rfl rfl (t_X4_lyingAt hc) (Sub.gen [0, 1, 2, 3, 4, 5, 6] [7, 8, 9, 10, 11, 12] [6, 7, 8, 9, 10, 11, 12, 0, 1, 2, 3, 4, 5] rfl (by decide) rfl (by decide) (by decide) rfl (by decide)) kw_873 kw_874 kw_875 kw_88 hy_X4_lyingAt kw_876 rfl (Nat.le_of_ble_eq_true rfl) (Nat.le_of_ble_eq_true rfl) (Nat.le_of_ble_eq_true rfl) (Nat.le_of_ble_eq_true rfl) (Nat.le_of_ble_eq_true rfl) dX4_passYear_23 ?_
        obtain ⟨c2, c3, hc, h⟩ := b2_of h
        refine g_callV (pc := 26) C (w' := cs_X4 J.2.2.1 a0 s_year s_wet s_lost s_eaten s_tied c2 s_gone s_place s_heard s_many s_lying c3 ++ cs_X2 J.2.2.1 a1 p_beds p_letters p_readers p_far p_drain p_length p_words p_home) (As := [.int v1]) (st := []) (ci := 4) (q0 := 0) rfl rfl (t_X4_ripen hc) (Sub.gen [0, 1, 2, 3, 4, 5, 6] [7, 8, 9, 10, 11, 12] [6, 7, 8, 9, 10, 11, 12, 0, 1, 2, 3, 4, 5] rfl (by decide) rfl (by decide) (by decide) rfl (by decide)) kw_914 kw_915 kw_916 kw_88 hy_X4_ripen kw_917 rfl (Nat.le_of_ble_eq_true rfl) (Nat.le_of_ble_eq_true rfl) (Nat.le_of_ble_eq_true rfl) (Nat.le_of_ble_eq_true rfl) (Nat.le_of_ble_eq_true rfl) dX4_passYear_26 ?_
        refine g_aload_n (pc := 29) C 0 rfl dX4_passYear_29 ?_
        refine g_get (pc := 30) C FOK_X4 0 rfl rfl 10 (by decide) kw_174 rfl dX4_passYear_30 ?_
        refine g_iload_n (pc := 33) C 2 rfl dX4_passYear_33 ?_
        refine g_bipush (pc := 34) C dX4_passYear_34 cb_12 ?_
        refine g_imul (pc := 36) C dX4_passYear_36 ?_
        refine g_iconst (pc := 37) C dX4_passYear_37 ci_1 ?_
        refine g_iadd (pc := 38) C dX4_passYear_38 ?_
        refine g_aload_n (pc := 39) C 0 rfl dX4_passYear_39 ?_
        refine g_get (pc := 40) C FOK_X4 0 rfl rfl 10 (by decide) kw_174 rfl dX4_passYear_40 ?_
        refine g_iload_n (pc := 43) C 2 rfl dX4_passYear_43 ?_
        refine g_bipush (pc := 44) C dX4_passYear_44 cb_12 ?_
        refine g_imul (pc := 46) C dX4_passYear_46 ?_
        refine g_bipush (pc := 47) C dX4_passYear_47 cb_11 ?_
        obtain ⟨hi, h⟩ := cp_of h
        refine g_copyi (pc := 49) C (w' := cs_X4 J.2.2.1 a0 s_year s_wet s_lost s_eaten s_tied c2 s_gone s_place s_heard s_many (va_cpy s_lying s_lying ((x2 * 12) + 1).toNatClampNeg (x2 * 12).toNatClampNeg 11.toNatClampNeg) c3 ++ cs_X2 J.2.2.1 a1 p_beds p_letters p_readers p_far p_drain p_length p_words p_home) kw_449 kw_451 kw_450 kw_106 5 5 rfl rfl hi (Nat.le_of_ble_eq_true rfl) (Nat.le_of_ble_eq_true rfl) dX4_passYear_49 rfl ?_
        refine g_aload_n (pc := 52) C 0 rfl dX4_passYear_52 ?_
        refine g_get (pc := 53) C FOK_X4 0 rfl rfl 9 (by decide) kw_172 rfl dX4_passYear_53 ?_
        refine g_iload_n (pc := 56) C 2 rfl dX4_passYear_56 ?_
        refine g_dup2 (pc := 57) C dX4_passYear_57 rfl rfl ?_
        obtain ⟨hi, h⟩ := ix_of h
        refine g_iald (pc := 58) C 4 rfl hi dX4_passYear_58 ?_
        refine g_iconst (pc := 59) C dX4_passYear_59 ci_1 ?_
        refine g_isub (pc := 60) C dX4_passYear_60 ?_
        obtain ⟨hi, h⟩ := ix_of h
        refine g_iast (pc := 61) C (w' := cs_X4 J.2.2.1 a0 s_year s_wet s_lost s_eaten s_tied c2 s_gone s_place s_heard (upd s_many x2.toNatClampNeg ((s_many x2.toNatClampNeg) - 1)) (va_cpy s_lying s_lying ((x2 * 12) + 1).toNatClampNeg (x2 * 12).toNatClampNeg 11.toNatClampNeg) c3 ++ cs_X2 J.2.2.1 a1 p_beds p_letters p_readers p_far p_drain p_length p_words p_home) 4 rfl hi dX4_passYear_61 rfl ?_
        refine g_iinc (pc := 62) C (j := 2) [(2, .int (x2 + 1)), (0, .ref (a0 0)), (1, .ref (a1 0))] dX4_passYear_62 rfl (ii_1 _) (by decide) rfl ?_
        refine g_goto (pc := 65) C (tgt := 2) dX4_passYear_65 rfl ?_
        refine g_lv [1, 2, 0] rfl ?_
        exact ih (x2 + 1) s_year s_wet c2 (upd s_many x2.toNatClampNeg ((s_many x2.toNatClampNeg) - 1)) (va_cpy s_lying s_lying ((x2 * 12) + 1).toNatClampNeg (x2 * 12).toNatClampNeg 11.toNatClampNeg) c3 h
set_option maxRecDepth 100000 in
set_option maxHeartbeats 4000000 in
theorem t_X4_passYear {J : Jt} {a0 : Nat → Nat} {a1 : Nat → Nat} {s_year : Int32} {s_wet : Int32} {s_lost : Int32} {s_eaten : Int32} {s_tied : Int32} {s_ripeMany : Int32} {s_gone : Nat → Int32} {s_place : Nat → Int32} {s_heard : Nat → Int32} {s_many : Nat → Int32} {s_lying : Nat → Int32} {s_ripe : Nat → Int32} {p_beds : Int32} {p_letters : Int32} {p_readers : Int32} {p_far : Nat → Int32} {p_drain : Nat → Int32} {p_length : Nat → Int32} {p_words : Nat → Int32} {p_home : Nat → Int32} {o_s_year : Int32} {o_s_wet : Int32} {o_s_ripeMany : Int32} {o_s_many : Nat → Int32} {o_s_lying : Nat → Int32} {o_s_ripe : Nat → Int32} (h : f_X4_passYear s_year s_wet s_ripeMany s_many s_lying s_ripe p_beds = some (o_s_year, o_s_wet, o_s_ripeMany, o_s_many, o_s_lying, o_s_ripe)) : Mt J yX4_passYear cX4_passYear 3 none rm_X4_passYear [.ref (a0 0), .ref (a1 0)] (cs_X4 J.2.2.1 a0 s_year s_wet s_lost s_eaten s_tied s_ripeMany s_gone s_place s_heard s_many s_lying s_ripe ++ cs_X2 J.2.2.1 a1 p_beds p_letters p_readers p_far p_drain p_length p_words p_home) none (cs_X4 J.2.2.1 a0 o_s_year o_s_wet s_lost s_eaten s_tied o_s_ripeMany s_gone s_place s_heard o_s_many o_s_lying o_s_ripe ++ cs_X2 J.2.2.1 a1 p_beds p_letters p_readers p_far p_drain p_length p_words p_home) := by
  refine Mt_of (own := RX4) (by decide) rfl (Nat.le_of_ble_eq_true rfl) rfl (fun Z C E => ?_)
  unfold f_X4_passYear at h
  show G J Z 0 0 (cs_X4 J.2.2.1 a0 s_year s_wet s_lost s_eaten s_tied s_ripeMany s_gone s_place s_heard s_many s_lying s_ripe ++ cs_X2 J.2.2.1 a1 p_beds p_letters p_readers p_far p_drain p_length p_words p_home) 3 [(0, .ref (a0 0)), (1, .ref (a1 0))] 0 []
  refine g_iconst (pc := 0) C dX4_passYear_0 ci_0 ?_
  refine g_istore_n (pc := 1) C [(2, .int 0), (0, .ref (a0 0)), (1, .ref (a1 0))] dX4_passYear_1 rfl (by decide) rfl ?_
  refine g_lv [1, 2, 0] rfl ?_
  exact j_X4_passYear_2 C E  FU 0 s_year s_wet s_ripeMany s_many s_lying s_ripe h
noncomputable def f_X5_worth_20 (f_seam : Nat → Int32) (f_toCome : Nat → Int32) (n1 : Int32) (n2 : Int32) (n3 : Int32) (y0 : Int32) : Option (Int32) := if ixb (((n3 &&& ((1 <<< (n2 &&& 31)) ^^^ (-1))) * 6) + n2) 384 then some (y0 + (f_toCome (((n3 &&& ((1 <<< (n2 &&& 31)) ^^^ (-1))) * 6) + n2).toNatClampNeg)) else none
noncomputable def f_X5_worth (f_seam : Nat → Int32) (f_toCome : Nat → Int32) (n1 : Int32) (n2 : Int32) (n3 : Int32) : Option (Int32) := if n1 = (-1) then f_X5_worth_20 f_seam f_toCome n1 n2 n3 0 else if ixb ((n1 * 6) + n2) 36 then f_X5_worth_20 f_seam f_toCome n1 n2 n3 (f_seam ((n1 * 6) + n2).toNatClampNeg) else none
def rm_X5_worth : Room := { frames := 0, cells := 0, slots := 0, locals := 0 }
set_option maxRecDepth 100000 in
set_option maxHeartbeats 4000000 in
theorem j_X5_worth_20 {J : Jt} {Z : Zt} {a0 : Nat → Nat} {f_order : Nat → Int32} {f_seam : Nat → Int32} {f_toCome : Nat → Int32} {f_places : Int32} {f_seams : Int32} {n1 : Int32} {n2 : Int32} {n3 : Int32} {r : Int32} (C : Cx J Z cX5_worth 5 RX5 (some .int) rm_X5_worth) (E : Ez J Z 0 0 (some (.int r)) (cs_X5 J.2.2.1 a0 f_order f_seam f_toCome f_places f_seams)) : ∀ (y0 : Int32), f_X5_worth_20 f_seam f_toCome n1 n2 n3 y0 = some r → G J Z 0 0 (cs_X5 J.2.2.1 a0 f_order f_seam f_toCome f_places f_seams) 5 [(0, .ref (a0 0)), (2, .int n2), (3, .int n3)] 20 [.int y0] := by
  intro y0 h
  unfold f_X5_worth_20 at h
  refine g_istore (pc := 20) C [(4, .int y0), (0, .ref (a0 0)), (2, .int n2), (3, .int n3)] dX5_worth_20 (by decide) rfl ?_
  refine g_iload (pc := 22) C 0 rfl dX5_worth_22 ?_
  refine g_aload_n (pc := 24) C 1 rfl dX5_worth_24 ?_
  refine g_get (pc := 25) C FOK_X5 0 rfl rfl 2 (by decide) kw_251 rfl dX5_worth_25 ?_
  refine g_iload_n (pc := 28) C 3 rfl dX5_worth_28 ?_
  refine g_iconst (pc := 29) C dX5_worth_29 ci_1 ?_
  refine g_iload_n (pc := 30) C 2 rfl dX5_worth_30 ?_
  refine g_ishl (pc := 31) C dX5_worth_31 ?_
  refine g_iconst (pc := 32) C dX5_worth_32 ci_m1 ?_
  refine g_ixor (pc := 33) C dX5_worth_33 ?_
  refine g_iand (pc := 34) C dX5_worth_34 ?_
  refine g_bipush (pc := 35) C dX5_worth_35 cb_6 ?_
  refine g_imul (pc := 37) C dX5_worth_37 ?_
  refine g_iload_n (pc := 38) C 2 rfl dX5_worth_38 ?_
  refine g_iadd (pc := 39) C dX5_worth_39 ?_
  obtain ⟨hi, h⟩ := ix_of h
  refine g_iald (pc := 40) C 3 rfl hi dX5_worth_40 ?_
  refine g_iadd (pc := 41) C dX5_worth_41 ?_
  cases h
  exact g_iret C E dX5_worth_42
set_option maxRecDepth 100000 in
set_option maxHeartbeats 4000000 in
theorem t_X5_worth {J : Jt} {a0 : Nat → Nat} {f_order : Nat → Int32} {f_seam : Nat → Int32} {f_toCome : Nat → Int32} {f_places : Int32} {f_seams : Int32} {n1 : Int32} {n2 : Int32} {n3 : Int32} {r : Int32} (h : f_X5_worth f_seam f_toCome n1 n2 n3 = some r) : Mt J yX5_worth cX5_worth 5 (some .int) rm_X5_worth [.ref (a0 0), .int n1, .int n2, .int n3] (cs_X5 J.2.2.1 a0 f_order f_seam f_toCome f_places f_seams) (some (.int r)) (cs_X5 J.2.2.1 a0 f_order f_seam f_toCome f_places f_seams) := by
  refine Mt_of (own := RX5) (by decide) rfl (Nat.le_of_ble_eq_true rfl) rfl (fun Z C E => ?_)
  unfold f_X5_worth at h
  show G J Z 0 0 (cs_X5 J.2.2.1 a0 f_order f_seam f_toCome f_places f_seams) 5 [(0, .ref (a0 0)), (1, .int n1), (2, .int n2), (3, .int n3)] 0 []
  refine g_iload_n (pc := 0) C 1 rfl dX5_worth_0 ?_
  refine g_iconst (pc := 1) C dX5_worth_1 ci_m1 ?_
  refine g_icmp_ne (pc := 2) C (tgt := 9) dX5_worth_2 rfl h (fun h => ?_) (fun h => ?_)
  · refine g_aload_n (pc := 9) C 0 rfl dX5_worth_9 ?_
    refine g_get (pc := 10) C FOK_X5 0 rfl rfl 1 (by decide) kw_250 rfl dX5_worth_10 ?_
    refine g_iload_n (pc := 13) C 1 rfl dX5_worth_13 ?_
    refine g_bipush (pc := 14) C dX5_worth_14 cb_6 ?_
    refine g_imul (pc := 16) C dX5_worth_16 ?_
    refine g_iload_n (pc := 17) C 2 rfl dX5_worth_17 ?_
    refine g_iadd (pc := 18) C dX5_worth_18 ?_
    obtain ⟨hi, h⟩ := ix_of h
    refine g_iald (pc := 19) C 2 rfl hi dX5_worth_19 ?_
    refine g_lv [0, 2, 3] rfl ?_
    exact j_X5_worth_20 C E  (f_seam ((n1 * 6) + n2).toNatClampNeg) h
  · refine g_iconst (pc := 5) C dX5_worth_5 ci_0 ?_
    refine g_goto (pc := 6) C (tgt := 20) dX5_worth_6 rfl ?_
    refine g_lv [0, 2, 3] rfl ?_
    exact j_X5_worth_20 C E  0 h
noncomputable def f_X5_bestBehind_5 (f_seam : Nat → Int32) (f_toCome : Nat → Int32) (n1 : Int32) (n2 : Int32) : Nat → Int32 → Int32 → Option (Int32)
  | 0, _, _ => none
  | n + 1, x3, x4 => if 6 ≤ x4 then some x3 else b1 (f_X9_has n2 x4) (fun v1 => if v1 = 0 then f_X5_bestBehind_5 f_seam f_toCome n1 n2 n x3 (x4 + 1) else if x3 = (-1) then f_X5_bestBehind_5 f_seam f_toCome n1 n2 n x4 (x4 + 1) else b1 (f_X5_worth f_seam f_toCome n1 x4 n2) (fun v2 => b1 (f_X5_worth f_seam f_toCome n1 x3 n2) (fun v3 => if v2 ≤ v3 then f_X5_bestBehind_5 f_seam f_toCome n1 n2 n x3 (x4 + 1) else f_X5_bestBehind_5 f_seam f_toCome n1 n2 n x4 (x4 + 1))))
noncomputable def f_X5_bestBehind (f_seam : Nat → Int32) (f_toCome : Nat → Int32) (n1 : Int32) (n2 : Int32) : Option (Int32) := f_X5_bestBehind_5 f_seam f_toCome n1 n2 FU (-1) 0
def rm_X5_bestBehind : Room := { frames := 1, cells := 0, slots := 0, locals := 24 }
set_option maxRecDepth 100000 in
set_option maxHeartbeats 4000000 in
theorem j_X5_bestBehind_5 {J : Jt} {Z : Zt} {a0 : Nat → Nat} {f_order : Nat → Int32} {f_seam : Nat → Int32} {f_toCome : Nat → Int32} {f_places : Int32} {f_seams : Int32} {n1 : Int32} {n2 : Int32} {r : Int32} (C : Cx J Z cX5_bestBehind 5 RX5 (some .int) rm_X5_bestBehind) (E : Ez J Z 0 0 (some (.int r)) (cs_X5 J.2.2.1 a0 f_order f_seam f_toCome f_places f_seams)) : ∀ (n : Nat) (x3 : Int32) (x4 : Int32), f_X5_bestBehind_5 f_seam f_toCome n1 n2 n x3 x4 = some r → G J Z 0 0 (cs_X5 J.2.2.1 a0 f_order f_seam f_toCome f_places f_seams) 5 [(0, .ref (a0 0)), (1, .int n1), (2, .int n2), (3, .int x3), (4, .int x4)] 5 [] := by
  intro n
  induction n with
  | zero =>
    intro x3 x4 h
    rw [f_X5_bestBehind_5] at h
    cases h
  | succ n ih =>
    intro x3 x4 h
    rw [f_X5_bestBehind_5] at h
    refine g_iload (pc := 5) C 4 rfl dX5_bestBehind_5 ?_
    refine g_bipush (pc := 7) C dX5_bestBehind_7 cb_6 ?_
    refine g_icmp_ge (pc := 9) C (tgt := 53) dX5_bestBehind_9 rfl h (fun h => ?_) (fun h => ?_)
    · refine g_iload_n (pc := 53) C 3 rfl dX5_bestBehind_53 ?_
      cases h
      exact g_iret C E dX5_bestBehind_54
    · refine g_iload_n (pc := 12) C 2 rfl dX5_bestBehind_12 ?_
      refine g_iload (pc := 13) C 4 rfl dX5_bestBehind_13 ?_
      obtain ⟨v1, hc, h⟩ := b1_of h
      refine g_callSN (pc := 15) C (w' := cs_X5 J.2.2.1 a0 f_order f_seam f_toCome f_places f_seams) (As := [.int n2, .int x4]) (st := []) (t_X9_has hc) Sub.nil (by decide) kw_483 kw_86 hn_X9_has kw_484 rfl (Nat.le_of_ble_eq_true rfl) (Nat.le_of_ble_eq_true rfl) (Nat.le_of_ble_eq_true rfl) (Nat.le_of_ble_eq_true rfl) (Nat.le_of_ble_eq_true rfl) dX5_bestBehind_15 ?_
      refine g_if_eq (pc := 18) C (tgt := 47) dX5_bestBehind_18 rfl h (fun h => ?_) (fun h => ?_)
      · refine g_iinc (pc := 47) C (j := 4) [(4, .int (x4 + 1)), (0, .ref (a0 0)), (1, .int n1), (2, .int n2), (3, .int x3)] dX5_bestBehind_47 rfl (ii_1 _) (by decide) rfl ?_
        refine g_goto (pc := 50) C (tgt := 5) dX5_bestBehind_50 rfl ?_
        refine g_lv [1, 2, 3, 4, 0] rfl ?_
        exact ih x3 (x4 + 1) h
      · refine g_iload_n (pc := 21) C 3 rfl dX5_bestBehind_21 ?_
        refine g_iconst (pc := 22) C dX5_bestBehind_22 ci_m1 ?_
        refine g_icmp_eq (pc := 23) C (tgt := 44) dX5_bestBehind_23 rfl h (fun h => ?_) (fun h => ?_)
        · refine g_iload (pc := 44) C 4 rfl dX5_bestBehind_44 ?_
          refine g_istore_n (pc := 46) C [(3, .int x4), (0, .ref (a0 0)), (1, .int n1), (2, .int n2), (4, .int x4)] dX5_bestBehind_46 rfl (by decide) rfl ?_
          refine g_iinc (pc := 47) C (j := 4) [(4, .int (x4 + 1)), (3, .int x4), (0, .ref (a0 0)), (1, .int n1), (2, .int n2)] dX5_bestBehind_47 rfl (ii_1 _) (by decide) rfl ?_
          refine g_goto (pc := 50) C (tgt := 5) dX5_bestBehind_50 rfl ?_
          refine g_lv [2, 3, 4, 1, 0] rfl ?_
          exact ih x4 (x4 + 1) h
        · refine g_aload_n (pc := 26) C 0 rfl dX5_bestBehind_26 ?_
          refine g_iload_n (pc := 27) C 1 rfl dX5_bestBehind_27 ?_
          refine g_iload (pc := 28) C 4 rfl dX5_bestBehind_28 ?_
          refine g_iload_n (pc := 30) C 2 rfl dX5_bestBehind_30 ?_
          obtain ⟨v2, hc, h⟩ := b1_of h
          refine g_callV (pc := 31) C (w' := cs_X5 J.2.2.1 a0 f_order f_seam f_toCome f_places f_seams) (As := [.int n1, .int x4, .int n2]) (st := []) (ci := 5) (q0 := 0) rfl rfl (t_X5_worth hc) Sub.same kw_485 kw_486 kw_487 kw_91 hy_X5_worth kw_488 rfl (Nat.le_of_ble_eq_true rfl) (Nat.le_of_ble_eq_true rfl) (Nat.le_of_ble_eq_true rfl) (Nat.le_of_ble_eq_true rfl) (Nat.le_of_ble_eq_true rfl) dX5_bestBehind_31 ?_
          refine g_aload_n (pc := 34) C 0 rfl dX5_bestBehind_34 ?_
          refine g_iload_n (pc := 35) C 1 rfl dX5_bestBehind_35 ?_
          refine g_iload_n (pc := 36) C 3 rfl dX5_bestBehind_36 ?_
          refine g_iload_n (pc := 37) C 2 rfl dX5_bestBehind_37 ?_
          obtain ⟨v3, hc, h⟩ := b1_of h
          refine g_callV (pc := 38) C (w' := cs_X5 J.2.2.1 a0 f_order f_seam f_toCome f_places f_seams) (As := [.int n1, .int x3, .int n2]) (st := [.int v2]) (ci := 5) (q0 := 0) rfl rfl (t_X5_worth hc) Sub.same kw_485 kw_486 kw_487 kw_91 hy_X5_worth kw_488 rfl (Nat.le_of_ble_eq_true rfl) (Nat.le_of_ble_eq_true rfl) (Nat.le_of_ble_eq_true rfl) (Nat.le_of_ble_eq_true rfl) (Nat.le_of_ble_eq_true rfl) dX5_bestBehind_38 ?_
          refine g_icmp_le (pc := 41) C (tgt := 47) dX5_bestBehind_41 rfl h (fun h => ?_) (fun h => ?_)
          · refine g_iinc (pc := 47) C (j := 4) [(4, .int (x4 + 1)), (0, .ref (a0 0)), (1, .int n1), (2, .int n2), (3, .int x3)] dX5_bestBehind_47 rfl (ii_1 _) (by decide) rfl ?_
            refine g_goto (pc := 50) C (tgt := 5) dX5_bestBehind_50 rfl ?_
            refine g_lv [1, 2, 3, 4, 0] rfl ?_
            exact ih x3 (x4 + 1) h
          · refine g_iload (pc := 44) C 4 rfl dX5_bestBehind_44 ?_
            refine g_istore_n (pc := 46) C [(3, .int x4), (0, .ref (a0 0)), (1, .int n1), (2, .int n2), (4, .int x4)] dX5_bestBehind_46 rfl (by decide) rfl ?_
            refine g_iinc (pc := 47) C (j := 4) [(4, .int (x4 + 1)), (3, .int x4), (0, .ref (a0 0)), (1, .int n1), (2, .int n2)] dX5_bestBehind_47 rfl (ii_1 _) (by decide) rfl ?_
            refine g_goto (pc := 50) C (tgt := 5) dX5_bestBehind_50 rfl ?_
            refine g_lv [2, 3, 4, 1, 0] rfl ?_
            exact ih x4 (x4 + 1) h
set_option maxRecDepth 100000 in
set_option maxHeartbeats 4000000 in
theorem t_X5_bestBehind {J : Jt} {a0 : Nat → Nat} {f_order : Nat → Int32} {f_seam : Nat → Int32} {f_toCome : Nat → Int32} {f_places : Int32} {f_seams : Int32} {n1 : Int32} {n2 : Int32} {r : Int32} (h : f_X5_bestBehind f_seam f_toCome n1 n2 = some r) : Mt J yX5_bestBehind cX5_bestBehind 5 (some .int) rm_X5_bestBehind [.ref (a0 0), .int n1, .int n2] (cs_X5 J.2.2.1 a0 f_order f_seam f_toCome f_places f_seams) (some (.int r)) (cs_X5 J.2.2.1 a0 f_order f_seam f_toCome f_places f_seams) := by
  refine Mt_of (own := RX5) (by decide) rfl (Nat.le_of_ble_eq_true rfl) rfl (fun Z C E => ?_)
  unfold f_X5_bestBehind at h
  show G J Z 0 0 (cs_X5 J.2.2.1 a0 f_order f_seam f_toCome f_places f_seams) 5 [(0, .ref (a0 0)), (1, .int n1), (2, .int n2)] 0 []
  refine g_iconst (pc := 0) C dX5_bestBehind_0 ci_m1 ?_
  refine g_istore_n (pc := 1) C [(3, .int (-1)), (0, .ref (a0 0)), (1, .int n1), (2, .int n2)] dX5_bestBehind_1 rfl (by decide) rfl ?_
  refine g_iconst (pc := 2) C dX5_bestBehind_2 ci_0 ?_
  refine g_istore (pc := 3) C [(4, .int 0), (3, .int (-1)), (0, .ref (a0 0)), (1, .int n1), (2, .int n2)] dX5_bestBehind_3 (by decide) rfl ?_
  refine g_lv [2, 3, 4, 1, 0] rfl ?_
  exact j_X5_bestBehind_5 C E  FU (-1) 0 h
noncomputable def f_X5_choose_64 (f_seam : Nat → Int32) (f_toCome : Nat → Int32) (n1 : Int32) (k17 : Int32 → Int32 → Int32 → (Nat → Int32) → Int32 → Int32 → Option ((Nat → Int32) × Int32 × Int32)) (x2 : Int32) (x4 : Int32) (x5 : Int32) (y1 : Int32) (f_order : Nat → Int32) (f_places : Int32) (f_seams : Int32) : Option ((Nat → Int32) × Int32 × Int32) := if ixb x4 6 then k17 (x2 &&& ((1 <<< (x5 &&& 31)) ^^^ (-1))) x5 (x4 + 1) (upd f_order x4.toNatClampNeg x5) (f_places + 1) y1 else none
noncomputable def f_X5_choose_17 (f_seam : Nat → Int32) (f_toCome : Nat → Int32) (n1 : Int32) : Nat → Int32 → Int32 → Int32 → (Nat → Int32) → Int32 → Int32 → Option ((Nat → Int32) × Int32 × Int32)
  | 0, _, _, _, _, _, _ => none
  | n + 1, x2, x3, x4, f_order, f_places, f_seams => if 6 ≤ x4 then some (f_order, f_places, f_seams) else if x2 = 0 then some (f_order, f_places, f_seams) else b1 (f_X5_bestBehind f_seam f_toCome x3 x2) (fun v1 => if v1 = (-1) then some (f_order, f_places, f_seams) else if x4 = 0 then b1 (f_X5_worth f_seam f_toCome x3 v1 x2) (fun v2 => f_X5_choose_64 f_seam f_toCome n1 (f_X5_choose_17 f_seam f_toCome n1 n) x2 x4 v1 v2 f_order f_places f_seams) else f_X5_choose_64 f_seam f_toCome n1 (f_X5_choose_17 f_seam f_toCome n1 n) x2 x4 v1 f_seams f_order f_places f_seams)
noncomputable def f_X5_choose (f_order : Nat → Int32) (f_seam : Nat → Int32) (f_toCome : Nat → Int32) (f_places : Int32) (f_seams : Int32) (n1 : Int32) : Option ((Nat → Int32) × Int32 × Int32) := f_X5_choose_17 f_seam f_toCome n1 FU n1 (-1) 0 f_order 0 0
def rm_X5_choose : Room := { frames := 2, cells := 0, slots := 0, locals := 48 }
set_option maxRecDepth 100000 in
set_option maxHeartbeats 4000000 in
theorem j_X5_choose_64 {J : Jt} {Z : Zt} {a0 : Nat → Nat} {f_seam : Nat → Int32} {f_toCome : Nat → Int32} {n1 : Int32} {o_f_order : Nat → Int32} {o_f_places : Int32} {o_f_seams : Int32} {k17 : Int32 → Int32 → Int32 → (Nat → Int32) → Int32 → Int32 → Option ((Nat → Int32) × Int32 × Int32)} (C : Cx J Z cX5_choose 6 RX5 none rm_X5_choose) (E : Ez J Z 0 0 none (cs_X5 J.2.2.1 a0 o_f_order f_seam f_toCome o_f_places o_f_seams)) (hk17 : ∀ (x2 : Int32) (x3 : Int32) (x4 : Int32) (f_order : Nat → Int32) (f_places : Int32) (f_seams : Int32), k17 x2 x3 x4 f_order f_places f_seams = some (o_f_order, o_f_places, o_f_seams) → G J Z 0 0 (cs_X5 J.2.2.1 a0 f_order f_seam f_toCome f_places f_seams) 6 [(0, .ref (a0 0)), (2, .int x2), (3, .int x3), (4, .int x4)] 17 []) : ∀ (x2 : Int32) (x4 : Int32) (x5 : Int32) (y1 : Int32) (f_order : Nat → Int32) (f_places : Int32) (f_seams : Int32), f_X5_choose_64 f_seam f_toCome n1 k17 x2 x4 x5 y1 f_order f_places f_seams = some (o_f_order, o_f_places, o_f_seams) → G J Z 0 0 (cs_X5 J.2.2.1 a0 f_order f_seam f_toCome f_places f_seams) 6 [(0, .ref (a0 0)), (2, .int x2), (4, .int x4), (5, .int x5)] 64 [.int y1, .ref (a0 0)] := by
  intro x2 x4 x5 y1 f_order f_places f_seams h
  unfold f_X5_choose_64 at h
  refine g_put (pc := 64) C (w' := cs_X5 J.2.2.1 a0 f_order f_seam f_toCome f_places y1) FOK_X5 0 rfl rfl 4 (by decide) kw_254 rfl rfl rfl (Nat.le_of_ble_eq_true rfl) dX5_choose_64 rfl ?_
  refine g_aload_n (pc := 67) C 0 rfl dX5_choose_67 ?_
  refine g_get (pc := 68) C FOK_X5 0 rfl rfl 0 (by decide) kw_248 rfl dX5_choose_68 ?_
  refine g_iload (pc := 71) C 2 rfl dX5_choose_71 ?_
  refine g_iload (pc := 73) C 3 rfl dX5_choose_73 ?_
  obtain ⟨hi, h⟩ := ix_of h
  refine g_iast (pc := 75) C (w' := cs_X5 J.2.2.1 a0 (upd f_order x4.toNatClampNeg x5) f_seam f_toCome f_places y1) 1 rfl hi dX5_choose_75 rfl ?_
  refine g_aload_n (pc := 76) C 0 rfl dX5_choose_76 ?_
  refine g_dup (pc := 77) C dX5_choose_77 rfl ?_
  refine g_get (pc := 78) C FOK_X5 0 rfl rfl 3 (by decide) kw_252 rfl dX5_choose_78 ?_
  refine g_iconst (pc := 81) C dX5_choose_81 ci_1 ?_
  refine g_iadd (pc := 82) C dX5_choose_82 ?_
  refine g_put (pc := 83) C (w' := cs_X5 J.2.2.1 a0 (upd f_order x4.toNatClampNeg x5) f_seam f_toCome (f_places + 1) y1) FOK_X5 0 rfl rfl 3 (by decide) kw_252 rfl rfl rfl (Nat.le_of_ble_eq_true rfl) dX5_choose_83 rfl ?_
  refine g_iload_n (pc := 86) C 1 rfl dX5_choose_86 ?_
  refine g_iconst (pc := 87) C dX5_choose_87 ci_1 ?_
  refine g_iload (pc := 88) C 3 rfl dX5_choose_88 ?_
  refine g_ishl (pc := 90) C dX5_choose_90 ?_
  refine g_iconst (pc := 91) C dX5_choose_91 ci_m1 ?_
  refine g_ixor (pc := 92) C dX5_choose_92 ?_
  refine g_iand (pc := 93) C dX5_choose_93 ?_
  refine g_istore_n (pc := 94) C [(2, .int (x2 &&& ((1 <<< (x5 &&& 31)) ^^^ (-1)))), (0, .ref (a0 0)), (4, .int x4), (5, .int x5)] dX5_choose_94 rfl (by decide) rfl ?_
  refine g_iload (pc := 95) C 3 rfl dX5_choose_95 ?_
  refine g_istore_n (pc := 97) C [(3, .int x5), (2, .int (x2 &&& ((1 <<< (x5 &&& 31)) ^^^ (-1)))), (0, .ref (a0 0)), (4, .int x4), (5, .int x5)] dX5_choose_97 rfl (by decide) rfl ?_
  refine g_iinc (pc := 98) C (j := 3) [(4, .int (x4 + 1)), (3, .int x5), (2, .int (x2 &&& ((1 <<< (x5 &&& 31)) ^^^ (-1)))), (0, .ref (a0 0)), (5, .int x5)] dX5_choose_98 rfl (ii_1 _) (by decide) rfl ?_
  refine g_goto (pc := 101) C (tgt := 17) dX5_choose_101 rfl ?_
  refine g_lv [3, 2, 1, 0] rfl ?_
  exact hk17 (x2 &&& ((1 <<< (x5 &&& 31)) ^^^ (-1))) x5 (x4 + 1) (upd f_order x4.toNatClampNeg x5) (f_places + 1) y1 h
set_option maxRecDepth 100000 in
set_option maxHeartbeats 4000000 in
theorem j_X5_choose_17 {J : Jt} {Z : Zt} {a0 : Nat → Nat} {f_seam : Nat → Int32} {f_toCome : Nat → Int32} {n1 : Int32} {o_f_order : Nat → Int32} {o_f_places : Int32} {o_f_seams : Int32} (C : Cx J Z cX5_choose 6 RX5 none rm_X5_choose) (E : Ez J Z 0 0 none (cs_X5 J.2.2.1 a0 o_f_order f_seam f_toCome o_f_places o_f_seams)) : ∀ (n : Nat) (x2 : Int32) (x3 : Int32) (x4 : Int32) (f_order : Nat → Int32) (f_places : Int32) (f_seams : Int32), f_X5_choose_17 f_seam f_toCome n1 n x2 x3 x4 f_order f_places f_seams = some (o_f_order, o_f_places, o_f_seams) → G J Z 0 0 (cs_X5 J.2.2.1 a0 f_order f_seam f_toCome f_places f_seams) 6 [(0, .ref (a0 0)), (2, .int x2), (3, .int x3), (4, .int x4)] 17 [] := by
  intro n
  induction n with
  | zero =>
    intro x2 x3 x4 f_order f_places f_seams h
    rw [f_X5_choose_17] at h
    cases h
  | succ n ih =>
    intro x2 x3 x4 f_order f_places f_seams h
    rw [f_X5_choose_17] at h
    refine g_iload (pc := 17) C 3 rfl dX5_choose_17 ?_
    refine g_bipush (pc := 19) C dX5_choose_19 cb_6 ?_
    refine g_icmp_ge (pc := 21) C (tgt := 104) dX5_choose_21 rfl h (fun h => ?_) (fun h => ?_)
    · cases h
      exact g_vret C E dX5_choose_104
    · refine g_iload_n (pc := 24) C 1 rfl dX5_choose_24 ?_
      refine g_if_eq (pc := 25) C (tgt := 104) dX5_choose_25 rfl h (fun h => ?_) (fun h => ?_)
      · cases h
        exact g_vret C E dX5_choose_104
      · refine g_aload_n (pc := 28) C 0 rfl dX5_choose_28 ?_
        refine g_iload_n (pc := 29) C 2 rfl dX5_choose_29 ?_
        refine g_iload_n (pc := 30) C 1 rfl dX5_choose_30 ?_
        obtain ⟨v1, hc, h⟩ := b1_of h
        refine g_callV (pc := 31) C (w' := cs_X5 J.2.2.1 a0 f_order f_seam f_toCome f_places f_seams) (As := [.int x3, .int x2]) (st := []) (ci := 5) (q0 := 0) rfl rfl (t_X5_bestBehind hc) Sub.same kw_478 kw_479 kw_480 kw_91 hy_X5_bestBehind kw_481 rfl (Nat.le_of_ble_eq_true rfl) (Nat.le_of_ble_eq_true rfl) (Nat.le_of_ble_eq_true rfl) (Nat.le_of_ble_eq_true rfl) (Nat.le_of_ble_eq_true rfl) dX5_choose_31 ?_
        refine g_istore (pc := 34) C [(5, .int v1), (0, .ref (a0 0)), (2, .int x2), (3, .int x3), (4, .int x4)] dX5_choose_34 (by decide) rfl ?_
        refine g_iload (pc := 36) C 0 rfl dX5_choose_36 ?_
        refine g_iconst (pc := 38) C dX5_choose_38 ci_m1 ?_
        refine g_icmp_ne (pc := 39) C (tgt := 43) dX5_choose_39 rfl h (fun h => ?_) (fun h => ?_)
        · refine g_aload_n (pc := 43) C 1 rfl dX5_choose_43 ?_
          refine g_iload (pc := 44) C 4 rfl dX5_choose_44 ?_
          refine g_if_ne (pc := 46) C (tgt := 60) dX5_choose_46 rfl h (fun h => ?_) (fun h => ?_)
          · refine g_aload_n (pc := 60) C 1 rfl dX5_choose_60 ?_
            refine g_get (pc := 61) C FOK_X5 0 rfl rfl 4 (by decide) kw_254 rfl dX5_choose_61 ?_
            refine g_lv [1, 2, 4, 0] rfl ?_
            exact j_X5_choose_64 C E ih x2 x4 v1 f_seams f_order f_places f_seams h
          · refine g_aload_n (pc := 49) C 1 rfl dX5_choose_49 ?_
            refine g_iload_n (pc := 50) C 3 rfl dX5_choose_50 ?_
            refine g_iload (pc := 51) C 0 rfl dX5_choose_51 ?_
            refine g_iload_n (pc := 53) C 2 rfl dX5_choose_53 ?_
            obtain ⟨v2, hc, h⟩ := b1_of h
            refine g_callV (pc := 54) C (w' := cs_X5 J.2.2.1 a0 f_order f_seam f_toCome f_places f_seams) (As := [.int x3, .int v1, .int x2]) (st := [.ref (a0 0)]) (ci := 5) (q0 := 0) rfl rfl (t_X5_worth hc) Sub.same kw_485 kw_486 kw_487 kw_91 hy_X5_worth kw_488 rfl (Nat.le_of_ble_eq_true rfl) (Nat.le_of_ble_eq_true rfl) (Nat.le_of_ble_eq_true rfl) (Nat.le_of_ble_eq_true rfl) (Nat.le_of_ble_eq_true rfl) dX5_choose_54 ?_
            refine g_goto (pc := 57) C (tgt := 64) dX5_choose_57 rfl ?_
            refine g_lv [1, 2, 4, 0] rfl ?_
            exact j_X5_choose_64 C E ih x2 x4 v1 v2 f_order f_places f_seams h
        · cases h
          exact g_vret C E dX5_choose_42
set_option maxRecDepth 100000 in
set_option maxHeartbeats 4000000 in
theorem t_X5_choose {J : Jt} {a0 : Nat → Nat} {f_order : Nat → Int32} {f_seam : Nat → Int32} {f_toCome : Nat → Int32} {f_places : Int32} {f_seams : Int32} {n1 : Int32} {o_f_order : Nat → Int32} {o_f_places : Int32} {o_f_seams : Int32} (h : f_X5_choose f_order f_seam f_toCome f_places f_seams n1 = some (o_f_order, o_f_places, o_f_seams)) : Mt J yX5_choose cX5_choose 6 none rm_X5_choose [.ref (a0 0), .int n1] (cs_X5 J.2.2.1 a0 f_order f_seam f_toCome f_places f_seams) none (cs_X5 J.2.2.1 a0 o_f_order f_seam f_toCome o_f_places o_f_seams) := by
  refine Mt_of (own := RX5) (by decide) rfl (Nat.le_of_ble_eq_true rfl) rfl (fun Z C E => ?_)
  unfold f_X5_choose at h
  show G J Z 0 0 (cs_X5 J.2.2.1 a0 f_order f_seam f_toCome f_places f_seams) 6 [(0, .ref (a0 0)), (1, .int n1)] 0 []
  refine g_aload_n (pc := 0) C 0 rfl dX5_choose_0 ?_
  refine g_iconst (pc := 1) C dX5_choose_1 ci_0 ?_
  refine g_put (pc := 2) C (w' := cs_X5 J.2.2.1 a0 f_order f_seam f_toCome 0 f_seams) FOK_X5 0 rfl rfl 3 (by decide) kw_252 rfl rfl rfl (Nat.le_of_ble_eq_true rfl) dX5_choose_2 rfl ?_
  refine g_aload_n (pc := 5) C 0 rfl dX5_choose_5 ?_
  refine g_iconst (pc := 6) C dX5_choose_6 ci_0 ?_
  refine g_put (pc := 7) C (w' := cs_X5 J.2.2.1 a0 f_order f_seam f_toCome 0 0) FOK_X5 0 rfl rfl 4 (by decide) kw_254 rfl rfl rfl (Nat.le_of_ble_eq_true rfl) dX5_choose_7 rfl ?_
  refine g_iload_n (pc := 10) C 1 rfl dX5_choose_10 ?_
  refine g_istore_n (pc := 11) C [(2, .int n1), (0, .ref (a0 0)), (1, .int n1)] dX5_choose_11 rfl (by decide) rfl ?_
  refine g_iconst (pc := 12) C dX5_choose_12 ci_m1 ?_
  refine g_istore_n (pc := 13) C [(3, .int (-1)), (2, .int n1), (0, .ref (a0 0)), (1, .int n1)] dX5_choose_13 rfl (by decide) rfl ?_
  refine g_iconst (pc := 14) C dX5_choose_14 ci_0 ?_
  refine g_istore (pc := 15) C [(4, .int 0), (3, .int (-1)), (2, .int n1), (0, .ref (a0 0)), (1, .int n1)] dX5_choose_15 (by decide) rfl ?_
  refine g_lv [3, 2, 1, 0] rfl ?_
  exact j_X5_choose_17 C E  FU n1 (-1) 0 f_order 0 0 h
noncomputable def f_X5_find_123 (s_gone : Nat → Int32) (p_letters : Int32) (p_length : Nat → Int32) (p_words : Nat → Int32) (k109 : Int32 → Int32 → (Nat → Int32) → (Nat → Int32) → (Nat → Int32) → Int32 → Int32 → Option ((Nat → Int32) × (Nat → Int32) × (Nat → Int32) × Int32 × Int32)) : Nat → Int32 → Int32 → Int32 → (Nat → Int32) → (Nat → Int32) → (Nat → Int32) → Int32 → Int32 → Option ((Nat → Int32) × (Nat → Int32) × (Nat → Int32) × Int32 × Int32)
  | 0, _, _, _, _, _, _, _, _ => none
  | n + 1, x3, x4, x5, f_order, f_seam, f_toCome, f_places, f_seams => if p_letters ≤ x5 then k109 x3 (x4 + 1) f_order f_seam f_toCome f_places f_seams else b1 (f_X5_bestBehind f_seam f_toCome x5 x4) (fun v1 => if v1 = (-1) then if ixb ((x4 * 6) + x5) 384 then f_X5_find_123 s_gone p_letters p_length p_words k109 n x3 x4 (x5 + 1) f_order f_seam (upd f_toCome ((x4 * 6) + x5).toNatClampNeg 0) f_places f_seams else none else b1 (f_X5_worth f_seam f_toCome x5 v1 x4) (fun v2 => if ixb ((x4 * 6) + x5) 384 then f_X5_find_123 s_gone p_letters p_length p_words k109 n x3 x4 (x5 + 1) f_order f_seam (upd f_toCome ((x4 * 6) + x5).toNatClampNeg v2) f_places f_seams else none))
noncomputable def f_X5_find_109 (s_gone : Nat → Int32) (p_letters : Int32) (p_length : Nat → Int32) (p_words : Nat → Int32) : Nat → Int32 → Int32 → (Nat → Int32) → (Nat → Int32) → (Nat → Int32) → Int32 → Int32 → Option ((Nat → Int32) × (Nat → Int32) × (Nat → Int32) × Int32 × Int32)
  | 0, _, _, _, _, _, _, _ => none
  | n + 1, x3, x4, f_order, f_seam, f_toCome, f_places, f_seams => if (1 <<< (p_letters &&& 31)) ≤ x4 then b3 (f_X5_choose f_order f_seam f_toCome f_places f_seams x3) (fun c3 c4 c5 => some (c3, f_seam, f_toCome, c4, c5)) else f_X5_find_123 s_gone p_letters p_length p_words (f_X5_find_109 s_gone p_letters p_length p_words n) FU x3 x4 0 f_order f_seam f_toCome f_places f_seams
noncomputable def f_X5_find_38 (s_gone : Nat → Int32) (p_letters : Int32) (p_length : Nat → Int32) (p_words : Nat → Int32) (k5 : Int32 → Int32 → (Nat → Int32) → (Nat → Int32) → (Nat → Int32) → Int32 → Int32 → Option ((Nat → Int32) × (Nat → Int32) × (Nat → Int32) × Int32 × Int32)) : Nat → Int32 → Int32 → Int32 → (Nat → Int32) → (Nat → Int32) → (Nat → Int32) → Int32 → Int32 → Option ((Nat → Int32) × (Nat → Int32) × (Nat → Int32) × Int32 × Int32)
  | 0, _, _, _, _, _, _, _, _ => none
  | n + 1, x3, x4, x5, f_order, f_seam, f_toCome, f_places, f_seams => if p_letters ≤ x5 then k5 x3 (x4 + 1) f_order f_seam f_toCome f_places f_seams else if ixb x4 6 then b1 (f_X2_wordAt p_words x4 ((p_length x4.toNatClampNeg) - 1)) (fun v6 => b1 (f_X4_nextOf s_gone p_length p_words x5) (fun v7 => if v6 = v7 then if ixb ((x4 * 6) + x5) 36 then f_X5_find_38 s_gone p_letters p_length p_words k5 n x3 x4 (x5 + 1) f_order (upd f_seam ((x4 * 6) + x5).toNatClampNeg 1) f_toCome f_places f_seams else none else if ixb ((x4 * 6) + x5) 36 then f_X5_find_38 s_gone p_letters p_length p_words k5 n x3 x4 (x5 + 1) f_order (upd f_seam ((x4 * 6) + x5).toNatClampNeg 0) f_toCome f_places f_seams else none)) else none
noncomputable def f_X5_find_5 (s_gone : Nat → Int32) (p_letters : Int32) (p_length : Nat → Int32) (p_words : Nat → Int32) : Nat → Int32 → Int32 → (Nat → Int32) → (Nat → Int32) → (Nat → Int32) → Int32 → Int32 → Option ((Nat → Int32) × (Nat → Int32) × (Nat → Int32) × Int32 × Int32)
  | 0, _, _, _, _, _, _, _ => none
  | n + 1, x3, x4, f_order, f_seam, f_toCome, f_places, f_seams => if p_letters ≤ x4 then f_X5_find_109 s_gone p_letters p_length p_words FU x3 0 f_order f_seam f_toCome f_places f_seams else b1 (f_X4_leftOf s_gone p_length x4) (fun v8 => if v8 ≤ 0 then f_X5_find_38 s_gone p_letters p_length p_words (f_X5_find_5 s_gone p_letters p_length p_words n) FU (x3 ||| 0) x4 0 f_order f_seam f_toCome f_places f_seams else f_X5_find_38 s_gone p_letters p_length p_words (f_X5_find_5 s_gone p_letters p_length p_words n) FU (x3 ||| (1 <<< (x4 &&& 31))) x4 0 f_order f_seam f_toCome f_places f_seams)
noncomputable def f_X5_find (f_order : Nat → Int32) (f_seam : Nat → Int32) (f_toCome : Nat → Int32) (f_places : Int32) (f_seams : Int32) (s_gone : Nat → Int32) (p_letters : Int32) (p_length : Nat → Int32) (p_words : Nat → Int32) : Option ((Nat → Int32) × (Nat → Int32) × (Nat → Int32) × Int32 × Int32) := f_X5_find_5 s_gone p_letters p_length p_words FU 0 0 f_order f_seam f_toCome f_places f_seams
def rm_X5_find : Room := { frames := 3, cells := 0, slots := 0, locals := 73 }
set_option maxRecDepth 100000 in
set_option maxHeartbeats 4000000 in
theorem j_X5_find_123 {J : Jt} {Z : Zt} {a0 : Nat → Nat} {a1 : Nat → Nat} {a2 : Nat → Nat} {s_year : Int32} {s_wet : Int32} {s_lost : Int32} {s_eaten : Int32} {s_tied : Int32} {s_ripeMany : Int32} {s_gone : Nat → Int32} {s_place : Nat → Int32} {s_heard : Nat → Int32} {s_many : Nat → Int32} {s_lying : Nat → Int32} {s_ripe : Nat → Int32} {p_beds : Int32} {p_letters : Int32} {p_readers : Int32} {p_far : Nat → Int32} {p_drain : Nat → Int32} {p_length : Nat → Int32} {p_words : Nat → Int32} {p_home : Nat → Int32} {o_f_order : Nat → Int32} {o_f_seam : Nat → Int32} {o_f_toCome : Nat → Int32} {o_f_places : Int32} {o_f_seams : Int32} {k109 : Int32 → Int32 → (Nat → Int32) → (Nat → Int32) → (Nat → Int32) → Int32 → Int32 → Option ((Nat → Int32) × (Nat → Int32) × (Nat → Int32) × Int32 × Int32)} (C : Cx J Z cX5_find 7 RX5 none rm_X5_find) (E : Ez J Z 0 0 none (cs_X5 J.2.2.1 a0 o_f_order o_f_seam o_f_toCome o_f_places o_f_seams ++ cs_X4 J.2.2.1 a1 s_year s_wet s_lost s_eaten s_tied s_ripeMany s_gone s_place s_heard s_many s_lying s_ripe ++ cs_X2 J.2.2.1 a2 p_beds p_letters p_readers p_far p_drain p_length p_words p_home)) (hk109 : ∀ (x3 : Int32) (x4 : Int32) (f_order : Nat → Int32) (f_seam : Nat → Int32) (f_toCome : Nat → Int32) (f_places : Int32) (f_seams : Int32), k109 x3 x4 f_order f_seam f_toCome f_places f_seams = some (o_f_order, o_f_seam, o_f_toCome, o_f_places, o_f_seams) → G J Z 0 0 (cs_X5 J.2.2.1 a0 f_order f_seam f_toCome f_places f_seams ++ cs_X4 J.2.2.1 a1 s_year s_wet s_lost s_eaten s_tied s_ripeMany s_gone s_place s_heard s_many s_lying s_ripe ++ cs_X2 J.2.2.1 a2 p_beds p_letters p_readers p_far p_drain p_length p_words p_home) 7 [(0, .ref (a0 0)), (2, .ref (a2 0)), (3, .int x3), (4, .int x4)] 109 []) : ∀ (n : Nat) (x3 : Int32) (x4 : Int32) (x5 : Int32) (f_order : Nat → Int32) (f_seam : Nat → Int32) (f_toCome : Nat → Int32) (f_places : Int32) (f_seams : Int32), f_X5_find_123 s_gone p_letters p_length p_words k109 n x3 x4 x5 f_order f_seam f_toCome f_places f_seams = some (o_f_order, o_f_seam, o_f_toCome, o_f_places, o_f_seams) → G J Z 0 0 (cs_X5 J.2.2.1 a0 f_order f_seam f_toCome f_places f_seams ++ cs_X4 J.2.2.1 a1 s_year s_wet s_lost s_eaten s_tied s_ripeMany s_gone s_place s_heard s_many s_lying s_ripe ++ cs_X2 J.2.2.1 a2 p_beds p_letters p_readers p_far p_drain p_length p_words p_home) 7 [(0, .ref (a0 0)), (2, .ref (a2 0)), (3, .int x3), (4, .int x4), (5, .int x5)] 123 [] := by
  intro n
  induction n with
  | zero =>
    intro x3 x4 x5 f_order f_seam f_toCome f_places f_seams h
    rw [f_X5_find_123] at h
    cases h
  | succ n ih =>
    intro x3 x4 x5 f_order f_seam f_toCome f_places f_seams h
    rw [f_X5_find_123] at h
    refine g_iload (pc := 123) C 4 rfl dX5_find_123 ?_
    refine g_aload_n (pc := 125) C 1 rfl dX5_find_125 ?_
    refine g_get (pc := 126) C FOK_X2 11 rfl rfl 1 (by decide) kw_282 rfl dX5_find_126 ?_
    refine g_icmp_ge (pc := 129) C (tgt := 181) dX5_find_129 rfl h (fun h => ?_) (fun h => ?_)
    · refine g_iinc (pc := 181) C (j := 3) [(4, .int (x4 + 1)), (0, .ref (a0 0)), (2, .ref (a2 0)), (3, .int x3), (5, .int x5)] dX5_find_181 rfl (ii_1 _) (by decide) rfl ?_
      refine g_goto (pc := 184) C (tgt := 109) dX5_find_184 rfl ?_
      refine g_lv [1, 2, 3, 0] rfl ?_
      exact hk109 x3 (x4 + 1) f_order f_seam f_toCome f_places f_seams h
    · refine g_aload_n (pc := 132) C 0 rfl dX5_find_132 ?_
      refine g_iload (pc := 133) C 4 rfl dX5_find_133 ?_
      refine g_iload (pc := 135) C 3 rfl dX5_find_135 ?_
      obtain ⟨v1, hc, h⟩ := b1_of h
      refine g_callV (pc := 137) C (w' := cs_X5 J.2.2.1 a0 f_order f_seam f_toCome f_places f_seams ++ cs_X4 J.2.2.1 a1 s_year s_wet s_lost s_eaten s_tied s_ripeMany s_gone s_place s_heard s_many s_lying s_ripe ++ cs_X2 J.2.2.1 a2 p_beds p_letters p_readers p_far p_drain p_length p_words p_home) (As := [.int x5, .int x4]) (st := []) (ci := 5) (q0 := 0) rfl rfl (t_X5_bestBehind hc) (Sub.gen [0, 1, 2, 3] [4, 5, 6, 7, 8, 9, 10, 11, 12, 13, 14, 15, 16] [13, 14, 15, 16, 0, 1, 2, 3, 4, 5, 6, 7, 8, 9, 10, 11, 12] rfl (by decide) rfl (by decide) (by decide) rfl (by decide)) kw_478 kw_479 kw_480 kw_91 hy_X5_bestBehind kw_481 rfl (Nat.le_of_ble_eq_true rfl) (Nat.le_of_ble_eq_true rfl) (Nat.le_of_ble_eq_true rfl) (Nat.le_of_ble_eq_true rfl) (Nat.le_of_ble_eq_true rfl) dX5_find_137 ?_
      refine g_istore (pc := 140) C [(6, .int v1), (0, .ref (a0 0)), (2, .ref (a2 0)), (3, .int x3), (4, .int x4), (5, .int x5)] dX5_find_140 (by decide) rfl ?_
      refine g_aload_n (pc := 142) C 1 rfl dX5_find_142 ?_
      refine g_get (pc := 143) C FOK_X5 0 rfl rfl 2 (by decide) kw_251 rfl dX5_find_143 ?_
      refine g_iload (pc := 146) C 4 rfl dX5_find_146 ?_
      refine g_bipush (pc := 148) C dX5_find_148 cb_6 ?_
      refine g_imul (pc := 150) C dX5_find_150 ?_
      refine g_iload (pc := 151) C 5 rfl dX5_find_151 ?_
      refine g_iadd (pc := 153) C dX5_find_153 ?_
      refine g_iload (pc := 154) C 0 rfl dX5_find_154 ?_
      refine g_iconst (pc := 156) C dX5_find_156 ci_m1 ?_
      refine g_icmp_ne (pc := 157) C (tgt := 164) dX5_find_157 rfl h (fun h => ?_) (fun h => ?_)
      · refine g_aload_n (pc := 164) C 1 rfl dX5_find_164 ?_
        refine g_iload (pc := 165) C 5 rfl dX5_find_165 ?_
        refine g_iload (pc := 167) C 0 rfl dX5_find_167 ?_
        refine g_iload (pc := 169) C 4 rfl dX5_find_169 ?_
        obtain ⟨v2, hc, h⟩ := b1_of h
        refine g_callV (pc := 171) C (w' := cs_X5 J.2.2.1 a0 f_order f_seam f_toCome f_places f_seams ++ cs_X4 J.2.2.1 a1 s_year s_wet s_lost s_eaten s_tied s_ripeMany s_gone s_place s_heard s_many s_lying s_ripe ++ cs_X2 J.2.2.1 a2 p_beds p_letters p_readers p_far p_drain p_length p_words p_home) (As := [.int x5, .int v1, .int x4]) (st := [.int ((x4 * 6) + x5), .ref (a0 3)]) (ci := 5) (q0 := 0) rfl rfl (t_X5_worth hc) (Sub.gen [0, 1, 2, 3] [4, 5, 6, 7, 8, 9, 10, 11, 12, 13, 14, 15, 16] [13, 14, 15, 16, 0, 1, 2, 3, 4, 5, 6, 7, 8, 9, 10, 11, 12] rfl (by decide) rfl (by decide) (by decide) rfl (by decide)) kw_485 kw_486 kw_487 kw_91 hy_X5_worth kw_488 rfl (Nat.le_of_ble_eq_true rfl) (Nat.le_of_ble_eq_true rfl) (Nat.le_of_ble_eq_true rfl) (Nat.le_of_ble_eq_true rfl) (Nat.le_of_ble_eq_true rfl) dX5_find_171 ?_
        obtain ⟨hi, h⟩ := ix_of h
        refine g_iast (pc := 174) C (w' := cs_X5 J.2.2.1 a0 f_order f_seam (upd f_toCome ((x4 * 6) + x5).toNatClampNeg v2) f_places f_seams ++ cs_X4 J.2.2.1 a1 s_year s_wet s_lost s_eaten s_tied s_ripeMany s_gone s_place s_heard s_many s_lying s_ripe ++ cs_X2 J.2.2.1 a2 p_beds p_letters p_readers p_far p_drain p_length p_words p_home) 3 rfl hi dX5_find_174 rfl ?_
        refine g_iinc (pc := 175) C (j := 5) [(5, .int (x5 + 1)), (6, .int v1), (0, .ref (a0 0)), (2, .ref (a2 0)), (3, .int x3), (4, .int x4)] dX5_find_175 rfl (ii_1 _) (by decide) rfl ?_
        refine g_goto (pc := 178) C (tgt := 123) dX5_find_178 rfl ?_
        refine g_lv [2, 3, 4, 5, 0] rfl ?_
        exact ih x3 x4 (x5 + 1) f_order f_seam (upd f_toCome ((x4 * 6) + x5).toNatClampNeg v2) f_places f_seams h
      · refine g_iconst (pc := 160) C dX5_find_160 ci_0 ?_
        refine g_goto (pc := 161) C (tgt := 174) dX5_find_161 rfl ?_
        obtain ⟨hi, h⟩ := ix_of h
        refine g_iast (pc := 174) C (w' := cs_X5 J.2.2.1 a0 f_order f_seam (upd f_toCome ((x4 * 6) + x5).toNatClampNeg 0) f_places f_seams ++ cs_X4 J.2.2.1 a1 s_year s_wet s_lost s_eaten s_tied s_ripeMany s_gone s_place s_heard s_many s_lying s_ripe ++ cs_X2 J.2.2.1 a2 p_beds p_letters p_readers p_far p_drain p_length p_words p_home) 3 rfl hi dX5_find_174 rfl ?_
        refine g_iinc (pc := 175) C (j := 5) [(5, .int (x5 + 1)), (6, .int v1), (0, .ref (a0 0)), (2, .ref (a2 0)), (3, .int x3), (4, .int x4)] dX5_find_175 rfl (ii_1 _) (by decide) rfl ?_
        refine g_goto (pc := 178) C (tgt := 123) dX5_find_178 rfl ?_
        refine g_lv [2, 3, 4, 5, 0] rfl ?_
        exact ih x3 x4 (x5 + 1) f_order f_seam (upd f_toCome ((x4 * 6) + x5).toNatClampNeg 0) f_places f_seams h
set_option maxRecDepth 100000 in
set_option maxHeartbeats 4000000 in
theorem j_X5_find_109 {J : Jt} {Z : Zt} {a0 : Nat → Nat} {a1 : Nat → Nat} {a2 : Nat → Nat} {s_year : Int32} {s_wet : Int32} {s_lost : Int32} {s_eaten : Int32} {s_tied : Int32} {s_ripeMany : Int32} {s_gone : Nat → Int32} {s_place : Nat → Int32} {s_heard : Nat → Int32} {s_many : Nat → Int32} {s_lying : Nat → Int32} {s_ripe : Nat → Int32} {p_beds : Int32} {p_letters : Int32} {p_readers : Int32} {p_far : Nat → Int32} {p_drain : Nat → Int32} {p_length : Nat → Int32} {p_words : Nat → Int32} {p_home : Nat → Int32} {o_f_order : Nat → Int32} {o_f_seam : Nat → Int32} {o_f_toCome : Nat → Int32} {o_f_places : Int32} {o_f_seams : Int32} (C : Cx J Z cX5_find 7 RX5 none rm_X5_find) (E : Ez J Z 0 0 none (cs_X5 J.2.2.1 a0 o_f_order o_f_seam o_f_toCome o_f_places o_f_seams ++ cs_X4 J.2.2.1 a1 s_year s_wet s_lost s_eaten s_tied s_ripeMany s_gone s_place s_heard s_many s_lying s_ripe ++ cs_X2 J.2.2.1 a2 p_beds p_letters p_readers p_far p_drain p_length p_words p_home)) : ∀ (n : Nat) (x3 : Int32) (x4 : Int32) (f_order : Nat → Int32) (f_seam : Nat → Int32) (f_toCome : Nat → Int32) (f_places : Int32) (f_seams : Int32), f_X5_find_109 s_gone p_letters p_length p_words n x3 x4 f_order f_seam f_toCome f_places f_seams = some (o_f_order, o_f_seam, o_f_toCome, o_f_places, o_f_seams) → G J Z 0 0 (cs_X5 J.2.2.1 a0 f_order f_seam f_toCome f_places f_seams ++ cs_X4 J.2.2.1 a1 s_year s_wet s_lost s_eaten s_tied s_ripeMany s_gone s_place s_heard s_many s_lying s_ripe ++ cs_X2 J.2.2.1 a2 p_beds p_letters p_readers p_far p_drain p_length p_words p_home) 7 [(0, .ref (a0 0)), (2, .ref (a2 0)), (3, .int x3), (4, .int x4)] 109 [] := by
  intro n
  induction n with
  | zero =>
    intro x3 x4 f_order f_seam f_toCome f_places f_seams h
    rw [f_X5_find_109] at h
    cases h
  | succ n ih =>
    intro x3 x4 f_order f_seam f_toCome f_places f_seams h
    rw [f_X5_find_109] at h
    refine g_iload (pc := 109) C 3 rfl dX5_find_109 ?_
    refine g_iconst (pc := 111) C dX5_find_111 ci_1 ?_
    refine g_aload_n (pc := 112) C 1 rfl dX5_find_112 ?_
    refine g_get (pc := 113) C FOK_X2 11 rfl rfl 1 (by decide) kw_282 rfl dX5_find_113 ?_
    refine g_ishl (pc := 116) C dX5_find_116 ?_
    refine g_icmp_ge (pc := 117) C (tgt := 187) dX5_find_117 rfl h (fun h => ?_) (fun h => ?_)
    · refine g_aload_n (pc := 187) C 0 rfl dX5_find_187 ?_
      refine g_iload_n (pc := 188) C 2 rfl dX5_find_188 ?_
      obtain ⟨c3, c4, c5, hc, h⟩ := b3_of h
      refine g_callV (pc := 189) C (w' := cs_X5 J.2.2.1 a0 c3 f_seam f_toCome c4 c5 ++ cs_X4 J.2.2.1 a1 s_year s_wet s_lost s_eaten s_tied s_ripeMany s_gone s_place s_heard s_many s_lying s_ripe ++ cs_X2 J.2.2.1 a2 p_beds p_letters p_readers p_far p_drain p_length p_words p_home) (As := [.int x3]) (st := []) (ci := 5) (q0 := 0) rfl rfl (t_X5_choose hc) (Sub.gen [0, 1, 2, 3] [4, 5, 6, 7, 8, 9, 10, 11, 12, 13, 14, 15, 16] [13, 14, 15, 16, 0, 1, 2, 3, 4, 5, 6, 7, 8, 9, 10, 11, 12] rfl (by decide) rfl (by decide) (by decide) rfl (by decide)) kw_489 kw_490 kw_491 kw_91 hy_X5_choose kw_492 rfl (Nat.le_of_ble_eq_true rfl) (Nat.le_of_ble_eq_true rfl) (Nat.le_of_ble_eq_true rfl) (Nat.le_of_ble_eq_true rfl) (Nat.le_of_ble_eq_true rfl) dX5_find_189 ?_
      cases h
      exact g_vret C E dX5_find_192
    · refine g_iconst (pc := 120) C dX5_find_120 ci_0 ?_
      refine g_istore (pc := 121) C [(5, .int 0), (0, .ref (a0 0)), (2, .ref (a2 0)), (3, .int x3), (4, .int x4)] dX5_find_121 (by decide) rfl ?_
      refine g_lv [1, 2, 3, 4, 0] rfl ?_
      exact j_X5_find_123 C E ih FU x3 x4 0 f_order f_seam f_toCome f_places f_seams h
set_option maxRecDepth 100000 in
set_option maxHeartbeats 4000000 in
theorem j_X5_find_38 {J : Jt} {Z : Zt} {a0 : Nat → Nat} {a1 : Nat → Nat} {a2 : Nat → Nat} {s_year : Int32} {s_wet : Int32} {s_lost : Int32} {s_eaten : Int32} {s_tied : Int32} {s_ripeMany : Int32} {s_gone : Nat → Int32} {s_place : Nat → Int32} {s_heard : Nat → Int32} {s_many : Nat → Int32} {s_lying : Nat → Int32} {s_ripe : Nat → Int32} {p_beds : Int32} {p_letters : Int32} {p_readers : Int32} {p_far : Nat → Int32} {p_drain : Nat → Int32} {p_length : Nat → Int32} {p_words : Nat → Int32} {p_home : Nat → Int32} {o_f_order : Nat → Int32} {o_f_seam : Nat → Int32} {o_f_toCome : Nat → Int32} {o_f_places : Int32} {o_f_seams : Int32} {k5 : Int32 → Int32 → (Nat → Int32) → (Nat → Int32) → (Nat → Int32) → Int32 → Int32 → Option ((Nat → Int32) × (Nat → Int32) × (Nat → Int32) × Int32 × Int32)} (C : Cx J Z cX5_find 7 RX5 none rm_X5_find) (E : Ez J Z 0 0 none (cs_X5 J.2.2.1 a0 o_f_order o_f_seam o_f_toCome o_f_places o_f_seams ++ cs_X4 J.2.2.1 a1 s_year s_wet s_lost s_eaten s_tied s_ripeMany s_gone s_place s_heard s_many s_lying s_ripe ++ cs_X2 J.2.2.1 a2 p_beds p_letters p_readers p_far p_drain p_length p_words p_home)) (hk5 : ∀ (x3 : Int32) (x4 : Int32) (f_order : Nat → Int32) (f_seam : Nat → Int32) (f_toCome : Nat → Int32) (f_places : Int32) (f_seams : Int32), k5 x3 x4 f_order f_seam f_toCome f_places f_seams = some (o_f_order, o_f_seam, o_f_toCome, o_f_places, o_f_seams) → G J Z 0 0 (cs_X5 J.2.2.1 a0 f_order f_seam f_toCome f_places f_seams ++ cs_X4 J.2.2.1 a1 s_year s_wet s_lost s_eaten s_tied s_ripeMany s_gone s_place s_heard s_many s_lying s_ripe ++ cs_X2 J.2.2.1 a2 p_beds p_letters p_readers p_far p_drain p_length p_words p_home) 7 [(0, .ref (a0 0)), (1, .ref (a1 0)), (2, .ref (a2 0)), (3, .int x3), (4, .int x4)] 5 []) : ∀ (n : Nat) (x3 : Int32) (x4 : Int32) (x5 : Int32) (f_order : Nat → Int32) (f_seam : Nat → Int32) (f_toCome : Nat → Int32) (f_places : Int32) (f_seams : Int32), f_X5_find_38 s_gone p_letters p_length p_words k5 n x3 x4 x5 f_order f_seam f_toCome f_places f_seams = some (o_f_order, o_f_seam, o_f_toCome, o_f_places, o_f_seams) → G J Z 0 0 (cs_X5 J.2.2.1 a0 f_order f_seam f_toCome f_places f_seams ++ cs_X4 J.2.2.1 a1 s_year s_wet s_lost s_eaten s_tied s_ripeMany s_gone s_place s_heard s_many s_lying s_ripe ++ cs_X2 J.2.2.1 a2 p_beds p_letters p_readers p_far p_drain p_length p_words p_home) 7 [(0, .ref (a0 0)), (1, .ref (a1 0)), (2, .ref (a2 0)), (3, .int x3), (4, .int x4), (5, .int x5)] 38 [] := by
  intro n
  induction n with
  | zero =>
    intro x3 x4 x5 f_order f_seam f_toCome f_places f_seams h
    rw [f_X5_find_38] at h
    cases h
  | succ n ih =>
    intro x3 x4 x5 f_order f_seam f_toCome f_places f_seams h
    rw [f_X5_find_38] at h
    refine g_iload (pc := 38) C 5 rfl dX5_find_38 ?_
    refine g_aload_n (pc := 40) C 2 rfl dX5_find_40 ?_
    refine g_get (pc := 41) C FOK_X2 11 rfl rfl 1 (by decide) kw_282 rfl dX5_find_41 ?_
    refine g_icmp_ge (pc := 44) C (tgt := 100) dX5_find_44 rfl h (fun h => ?_) (fun h => ?_)
    · refine g_iinc (pc := 100) C (j := 4) [(4, .int (x4 + 1)), (0, .ref (a0 0)), (1, .ref (a1 0)), (2, .ref (a2 0)), (3, .int x3), (5, .int x5)] dX5_find_100 rfl (ii_1 _) (by decide) rfl ?_
      refine g_goto (pc := 103) C (tgt := 5) dX5_find_103 rfl ?_
      refine g_lv [1, 2, 3, 4, 0] rfl ?_
      exact hk5 x3 (x4 + 1) f_order f_seam f_toCome f_places f_seams h
    · refine g_aload_n (pc := 47) C 2 rfl dX5_find_47 ?_
      refine g_iload (pc := 48) C 4 rfl dX5_find_48 ?_
      refine g_aload_n (pc := 50) C 2 rfl dX5_find_50 ?_
      refine g_get (pc := 51) C FOK_X2 11 rfl rfl 5 (by decide) kw_298 rfl dX5_find_51 ?_
      refine g_iload (pc := 54) C 4 rfl dX5_find_54 ?_
      obtain ⟨hi, h⟩ := ix_of h
      refine g_iald (pc := 56) C 14 rfl hi dX5_find_56 ?_
      refine g_iconst (pc := 57) C dX5_find_57 ci_1 ?_
      refine g_isub (pc := 58) C dX5_find_58 ?_
      obtain ⟨v6, hc, h⟩ := b1_of h
      refine g_callV (pc := 59) C (w' := cs_X5 J.2.2.1 a0 f_order f_seam f_toCome f_places f_seams ++ cs_X4 J.2.2.1 a1 s_year s_wet s_lost s_eaten s_tied s_ripeMany s_gone s_place s_heard s_many s_lying s_ripe ++ cs_X2 J.2.2.1 a2 p_beds p_letters p_readers p_far p_drain p_length p_words p_home) (As := [.int x4, .int ((p_length x4.toNatClampNeg) - 1)]) (st := []) (ci := 2) (q0 := 11) rfl rfl (t_X2_wordAt hc) (Sub.gen [11, 12, 13, 14, 15, 16] [0, 1, 2, 3, 4, 5, 6, 7, 8, 9, 10] [0, 1, 2, 3, 4, 5, 6, 7, 8, 9, 10, 11, 12, 13, 14, 15, 16] rfl (by decide) rfl (by decide) (by decide) rfl (by decide)) kw_468 kw_469 kw_470 kw_92 hy_X2_wordAt kw_471 rfl (Nat.le_of_ble_eq_true rfl) (Nat.le_of_ble_eq_true rfl) (Nat.le_of_ble_eq_true rfl) (Nat.le_of_ble_eq_true rfl) (Nat.le_of_ble_eq_true rfl) dX5_find_59 ?_
      refine g_istore (pc := 62) C [(6, .int v6), (0, .ref (a0 0)), (1, .ref (a1 0)), (2, .ref (a2 0)), (3, .int x3), (4, .int x4), (5, .int x5)] dX5_find_62 (by decide) rfl ?_
      refine g_aload_n (pc := 64) C 1 rfl dX5_find_64 ?_
      refine g_get (pc := 65) C FOK_X5 0 rfl rfl 1 (by decide) kw_250 rfl dX5_find_65 ?_
      refine g_iload (pc := 68) C 5 rfl dX5_find_68 ?_
      refine g_bipush (pc := 70) C dX5_find_70 cb_6 ?_
      refine g_imul (pc := 72) C dX5_find_72 ?_
      refine g_iload (pc := 73) C 6 rfl dX5_find_73 ?_
      refine g_iadd (pc := 75) C dX5_find_75 ?_
      refine g_iload (pc := 76) C 0 rfl dX5_find_76 ?_
      refine g_aload_n (pc := 78) C 2 rfl dX5_find_78 ?_
      refine g_aload_n (pc := 79) C 3 rfl dX5_find_79 ?_
      refine g_iload (pc := 80) C 6 rfl dX5_find_80 ?_
      obtain ⟨v7, hc, h⟩ := b1_of h
      refine g_callV (pc := 82) C (w' := cs_X5 J.2.2.1 a0 f_order f_seam f_toCome f_places f_seams ++ cs_X4 J.2.2.1 a1 s_year s_wet s_lost s_eaten s_tied s_ripeMany s_gone s_place s_heard s_many s_lying s_ripe ++ cs_X2 J.2.2.1 a2 p_beds p_letters p_readers p_far p_drain p_length p_words p_home) (As := [.ref (a2 0), .int x5]) (st := [.int v6, .int ((x4 * 6) + x5), .ref (a0 2)]) (ci := 4) (q0 := 4) rfl rfl (t_X4_nextOf hc) (Sub.gen [4, 5, 6, 7, 8, 9, 10, 11, 12, 13, 14, 15, 16] [0, 1, 2, 3] [0, 1, 2, 3, 4, 5, 6, 7, 8, 9, 10, 11, 12, 13, 14, 15, 16] rfl (by decide) rfl (by decide) (by decide) rfl (by decide)) kw_472 kw_473 kw_474 kw_88 hy_X4_nextOf kw_475 rfl (Nat.le_of_ble_eq_true rfl) (Nat.le_of_ble_eq_true rfl) (Nat.le_of_ble_eq_true rfl) (Nat.le_of_ble_eq_true rfl) (Nat.le_of_ble_eq_true rfl) dX5_find_82 ?_
      refine g_icmp_ne (pc := 85) C (tgt := 92) dX5_find_85 rfl h (fun h => ?_) (fun h => ?_)
      · refine g_iconst (pc := 92) C dX5_find_92 ci_0 ?_
        obtain ⟨hi, h⟩ := ix_of h
        refine g_iast (pc := 93) C (w' := cs_X5 J.2.2.1 a0 f_order (upd f_seam ((x4 * 6) + x5).toNatClampNeg 0) f_toCome f_places f_seams ++ cs_X4 J.2.2.1 a1 s_year s_wet s_lost s_eaten s_tied s_ripeMany s_gone s_place s_heard s_many s_lying s_ripe ++ cs_X2 J.2.2.1 a2 p_beds p_letters p_readers p_far p_drain p_length p_words p_home) 2 rfl hi dX5_find_93 rfl ?_
        refine g_iinc (pc := 94) C (j := 6) [(5, .int (x5 + 1)), (6, .int v6), (0, .ref (a0 0)), (1, .ref (a1 0)), (2, .ref (a2 0)), (3, .int x3), (4, .int x4)] dX5_find_94 rfl (ii_1 _) (by decide) rfl ?_
        refine g_goto (pc := 97) C (tgt := 38) dX5_find_97 rfl ?_
        refine g_lv [2, 3, 4, 5, 6, 0] rfl ?_
        exact ih x3 x4 (x5 + 1) f_order (upd f_seam ((x4 * 6) + x5).toNatClampNeg 0) f_toCome f_places f_seams h
      · refine g_iconst (pc := 88) C dX5_find_88 ci_1 ?_
        refine g_goto (pc := 89) C (tgt := 93) dX5_find_89 rfl ?_
        obtain ⟨hi, h⟩ := ix_of h
        refine g_iast (pc := 93) C (w' := cs_X5 J.2.2.1 a0 f_order (upd f_seam ((x4 * 6) + x5).toNatClampNeg 1) f_toCome f_places f_seams ++ cs_X4 J.2.2.1 a1 s_year s_wet s_lost s_eaten s_tied s_ripeMany s_gone s_place s_heard s_many s_lying s_ripe ++ cs_X2 J.2.2.1 a2 p_beds p_letters p_readers p_far p_drain p_length p_words p_home) 2 rfl hi dX5_find_93 rfl ?_
        refine g_iinc (pc := 94) C (j := 6) [(5, .int (x5 + 1)), (6, .int v6), (0, .ref (a0 0)), (1, .ref (a1 0)), (2, .ref (a2 0)), (3, .int x3), (4, .int x4)] dX5_find_94 rfl (ii_1 _) (by decide) rfl ?_
        refine g_goto (pc := 97) C (tgt := 38) dX5_find_97 rfl ?_
        refine g_lv [2, 3, 4, 5, 6, 0] rfl ?_
        exact ih x3 x4 (x5 + 1) f_order (upd f_seam ((x4 * 6) + x5).toNatClampNeg 1) f_toCome f_places f_seams h
set_option maxRecDepth 100000 in
set_option maxHeartbeats 4000000 in
theorem j_X5_find_5 {J : Jt} {Z : Zt} {a0 : Nat → Nat} {a1 : Nat → Nat} {a2 : Nat → Nat} {s_year : Int32} {s_wet : Int32} {s_lost : Int32} {s_eaten : Int32} {s_tied : Int32} {s_ripeMany : Int32} {s_gone : Nat → Int32} {s_place : Nat → Int32} {s_heard : Nat → Int32} {s_many : Nat → Int32} {s_lying : Nat → Int32} {s_ripe : Nat → Int32} {p_beds : Int32} {p_letters : Int32} {p_readers : Int32} {p_far : Nat → Int32} {p_drain : Nat → Int32} {p_length : Nat → Int32} {p_words : Nat → Int32} {p_home : Nat → Int32} {o_f_order : Nat → Int32} {o_f_seam : Nat → Int32} {o_f_toCome : Nat → Int32} {o_f_places : Int32} {o_f_seams : Int32} (C : Cx J Z cX5_find 7 RX5 none rm_X5_find) (E : Ez J Z 0 0 none (cs_X5 J.2.2.1 a0 o_f_order o_f_seam o_f_toCome o_f_places o_f_seams ++ cs_X4 J.2.2.1 a1 s_year s_wet s_lost s_eaten s_tied s_ripeMany s_gone s_place s_heard s_many s_lying s_ripe ++ cs_X2 J.2.2.1 a2 p_beds p_letters p_readers p_far p_drain p_length p_words p_home)) : ∀ (n : Nat) (x3 : Int32) (x4 : Int32) (f_order : Nat → Int32) (f_seam : Nat → Int32) (f_toCome : Nat → Int32) (f_places : Int32) (f_seams : Int32), f_X5_find_5 s_gone p_letters p_length p_words n x3 x4 f_order f_seam f_toCome f_places f_seams = some (o_f_order, o_f_seam, o_f_toCome, o_f_places, o_f_seams) → G J Z 0 0 (cs_X5 J.2.2.1 a0 f_order f_seam f_toCome f_places f_seams ++ cs_X4 J.2.2.1 a1 s_year s_wet s_lost s_eaten s_tied s_ripeMany s_gone s_place s_heard s_many s_lying s_ripe ++ cs_X2 J.2.2.1 a2 p_beds p_letters p_readers p_far p_drain p_length p_words p_home) 7 [(0, .ref (a0 0)), (1, .ref (a1 0)), (2, .ref (a2 0)), (3, .int x3), (4, .int x4)] 5 [] := by
  intro n
  induction n with
  | zero =>
    intro x3 x4 f_order f_seam f_toCome f_places f_seams h
    rw [f_X5_find_5] at h
    cases h
  | succ n ih =>
    intro x3 x4 f_order f_seam f_toCome f_places f_seams h
    rw [f_X5_find_5] at h
    refine g_iload (pc := 5) C 4 rfl dX5_find_5 ?_
    refine g_aload_n (pc := 7) C 2 rfl dX5_find_7 ?_
    refine g_get (pc := 8) C FOK_X2 11 rfl rfl 1 (by decide) kw_282 rfl dX5_find_8 ?_
    refine g_icmp_ge (pc := 11) C (tgt := 106) dX5_find_11 rfl h (fun h => ?_) (fun h => ?_)
    · refine g_iconst (pc := 106) C dX5_find_106 ci_0 ?_
      refine g_istore (pc := 107) C [(4, .int 0), (0, .ref (a0 0)), (1, .ref (a1 0)), (2, .ref (a2 0)), (3, .int x3)] dX5_find_107 (by decide) rfl ?_
      refine g_lv [1, 3, 4, 0] rfl ?_
      exact j_X5_find_109 C E  FU x3 0 f_order f_seam f_toCome f_places f_seams h
    · refine g_iload_n (pc := 14) C 3 rfl dX5_find_14 ?_
      refine g_aload_n (pc := 15) C 1 rfl dX5_find_15 ?_
      refine g_aload_n (pc := 16) C 2 rfl dX5_find_16 ?_
      refine g_iload (pc := 17) C 4 rfl dX5_find_17 ?_
      obtain ⟨v8, hc, h⟩ := b1_of h
      refine g_callV (pc := 19) C (w' := cs_X5 J.2.2.1 a0 f_order f_seam f_toCome f_places f_seams ++ cs_X4 J.2.2.1 a1 s_year s_wet s_lost s_eaten s_tied s_ripeMany s_gone s_place s_heard s_many s_lying s_ripe ++ cs_X2 J.2.2.1 a2 p_beds p_letters p_readers p_far p_drain p_length p_words p_home) (As := [.ref (a2 0), .int x4]) (st := [.int x3]) (ci := 4) (q0 := 4) rfl rfl (t_X4_leftOf hc) (Sub.gen [4, 5, 6, 7, 8, 9, 10, 11, 12, 13, 14, 15, 16] [0, 1, 2, 3] [0, 1, 2, 3, 4, 5, 6, 7, 8, 9, 10, 11, 12, 13, 14, 15, 16] rfl (by decide) rfl (by decide) (by decide) rfl (by decide)) kw_464 kw_465 kw_466 kw_88 hy_X4_leftOf kw_467 rfl (Nat.le_of_ble_eq_true rfl) (Nat.le_of_ble_eq_true rfl) (Nat.le_of_ble_eq_true rfl) (Nat.le_of_ble_eq_true rfl) (Nat.le_of_ble_eq_true rfl) dX5_find_19 ?_
      refine g_if_le (pc := 22) C (tgt := 32) dX5_find_22 rfl h (fun h => ?_) (fun h => ?_)
      · refine g_iconst (pc := 32) C dX5_find_32 ci_0 ?_
        refine g_ior (pc := 33) C dX5_find_33 ?_
        refine g_istore_n (pc := 34) C [(3, .int (x3 ||| 0)), (0, .ref (a0 0)), (1, .ref (a1 0)), (2, .ref (a2 0)), (4, .int x4)] dX5_find_34 rfl (by decide) rfl ?_
        refine g_iconst (pc := 35) C dX5_find_35 ci_0 ?_
        refine g_istore (pc := 36) C [(5, .int 0), (3, .int (x3 ||| 0)), (0, .ref (a0 0)), (1, .ref (a1 0)), (2, .ref (a2 0)), (4, .int x4)] dX5_find_36 (by decide) rfl ?_
        refine g_lv [2, 3, 4, 1, 5, 0] rfl ?_
        exact j_X5_find_38 C E ih FU (x3 ||| 0) x4 0 f_order f_seam f_toCome f_places f_seams h
      · refine g_iconst (pc := 25) C dX5_find_25 ci_1 ?_
        refine g_iload (pc := 26) C 4 rfl dX5_find_26 ?_
        refine g_ishl (pc := 28) C dX5_find_28 ?_
        refine g_goto (pc := 29) C (tgt := 33) dX5_find_29 rfl ?_
        refine g_ior (pc := 33) C dX5_find_33 ?_
        refine g_istore_n (pc := 34) C [(3, .int (x3 ||| (1 <<< (x4 &&& 31)))), (0, .ref (a0 0)), (1, .ref (a1 0)), (2, .ref (a2 0)), (4, .int x4)] dX5_find_34 rfl (by decide) rfl ?_
        refine g_iconst (pc := 35) C dX5_find_35 ci_0 ?_
        refine g_istore (pc := 36) C [(5, .int 0), (3, .int (x3 ||| (1 <<< (x4 &&& 31)))), (0, .ref (a0 0)), (1, .ref (a1 0)), (2, .ref (a2 0)), (4, .int x4)] dX5_find_36 (by decide) rfl ?_
        refine g_lv [2, 3, 4, 1, 5, 0] rfl ?_
        exact j_X5_find_38 C E ih FU (x3 ||| (1 <<< (x4 &&& 31))) x4 0 f_order f_seam f_toCome f_places f_seams h
set_option maxRecDepth 100000 in
set_option maxHeartbeats 4000000 in
theorem t_X5_find {J : Jt} {a0 : Nat → Nat} {a1 : Nat → Nat} {a2 : Nat → Nat} {f_order : Nat → Int32} {f_seam : Nat → Int32} {f_toCome : Nat → Int32} {f_places : Int32} {f_seams : Int32} {s_year : Int32} {s_wet : Int32} {s_lost : Int32} {s_eaten : Int32} {s_tied : Int32} {s_ripeMany : Int32} {s_gone : Nat → Int32} {s_place : Nat → Int32} {s_heard : Nat → Int32} {s_many : Nat → Int32} {s_lying : Nat → Int32} {s_ripe : Nat → Int32} {p_beds : Int32} {p_letters : Int32} {p_readers : Int32} {p_far : Nat → Int32} {p_drain : Nat → Int32} {p_length : Nat → Int32} {p_words : Nat → Int32} {p_home : Nat → Int32} {o_f_order : Nat → Int32} {o_f_seam : Nat → Int32} {o_f_toCome : Nat → Int32} {o_f_places : Int32} {o_f_seams : Int32} (h : f_X5_find f_order f_seam f_toCome f_places f_seams s_gone p_letters p_length p_words = some (o_f_order, o_f_seam, o_f_toCome, o_f_places, o_f_seams)) : Mt J yX5_find cX5_find 7 none rm_X5_find [.ref (a0 0), .ref (a1 0), .ref (a2 0)] (cs_X5 J.2.2.1 a0 f_order f_seam f_toCome f_places f_seams ++ cs_X4 J.2.2.1 a1 s_year s_wet s_lost s_eaten s_tied s_ripeMany s_gone s_place s_heard s_many s_lying s_ripe ++ cs_X2 J.2.2.1 a2 p_beds p_letters p_readers p_far p_drain p_length p_words p_home) none (cs_X5 J.2.2.1 a0 o_f_order o_f_seam o_f_toCome o_f_places o_f_seams ++ cs_X4 J.2.2.1 a1 s_year s_wet s_lost s_eaten s_tied s_ripeMany s_gone s_place s_heard s_many s_lying s_ripe ++ cs_X2 J.2.2.1 a2 p_beds p_letters p_readers p_far p_drain p_length p_words p_home) := by
  refine Mt_of (own := RX5) (by decide) rfl (Nat.le_of_ble_eq_true rfl) rfl (fun Z C E => ?_)
  unfold f_X5_find at h
  show G J Z 0 0 (cs_X5 J.2.2.1 a0 f_order f_seam f_toCome f_places f_seams ++ cs_X4 J.2.2.1 a1 s_year s_wet s_lost s_eaten s_tied s_ripeMany s_gone s_place s_heard s_many s_lying s_ripe ++ cs_X2 J.2.2.1 a2 p_beds p_letters p_readers p_far p_drain p_length p_words p_home) 7 [(0, .ref (a0 0)), (1, .ref (a1 0)), (2, .ref (a2 0))] 0 []
  refine g_iconst (pc := 0) C dX5_find_0 ci_0 ?_
  refine g_istore_n (pc := 1) C [(3, .int 0), (0, .ref (a0 0)), (1, .ref (a1 0)), (2, .ref (a2 0))] dX5_find_1 rfl (by decide) rfl ?_
  refine g_iconst (pc := 2) C dX5_find_2 ci_0 ?_
  refine g_istore (pc := 3) C [(4, .int 0), (3, .int 0), (0, .ref (a0 0)), (1, .ref (a1 0)), (2, .ref (a2 0))] dX5_find_3 (by decide) rfl ?_
  refine g_lv [2, 3, 4, 1, 0] rfl ?_
  exact j_X5_find_5 C E  FU 0 0 f_order f_seam f_toCome f_places f_seams h
noncomputable def f_X6_draw (u_drawn : Int32) (n1 : Int32) : Option (Int32 × Int32) := if n1 ≤ 0 then some (0, (u_drawn * 1103515245) + 12345) else if n1 = 0 then none else some ((((((u_drawn * 1103515245) + 12345).toUInt32 >>> (16.toUInt32 &&& Int32.toUInt32 31)).toInt32) &&& 32767) - (((((u_drawn * 1103515245) + 12345).toUInt32 >>> (16.toUInt32 &&& Int32.toUInt32 31)).toInt32) &&& 32767) / n1 * n1, (u_drawn * 1103515245) + 12345)
def rm_X6_draw : Room := { frames := 0, cells := 0, slots := 0, locals := 0 }
set_option maxRecDepth 100000 in
set_option maxHeartbeats 4000000 in
theorem t_X6_draw {J : Jt} {a0 : Nat → Nat} {u_drawn : Int32} {n1 : Int32} {r : Int32} {o_u_drawn : Int32} (h : f_X6_draw u_drawn n1 = some (r, o_u_drawn)) : Mt J yX6_draw cX6_draw 3 (some .int) rm_X6_draw [.ref (a0 0), .int n1] (cs_X6 J.2.2.1 a0 u_drawn) (some (.int r)) (cs_X6 J.2.2.1 a0 o_u_drawn) := by
  refine Mt_of (own := RX6) (by decide) rfl (Nat.le_of_ble_eq_true rfl) rfl (fun Z C E => ?_)
  unfold f_X6_draw at h
  show G J Z 0 0 (cs_X6 J.2.2.1 a0 u_drawn) 3 [(0, .ref (a0 0)), (1, .int n1)] 0 []
  refine g_aload_n (pc := 0) C 0 rfl dX6_draw_0 ?_
  refine g_aload_n (pc := 1) C 0 rfl dX6_draw_1 ?_
  refine g_get (pc := 2) C FOK_X6 0 rfl rfl 0 (by decide) kw_238 rfl dX6_draw_2 ?_
  refine g_ldc (pc := 5) C dX6_draw_5 kw_1239 ?_
  refine g_imul (pc := 7) C dX6_draw_7 ?_
  refine g_sipush (pc := 8) C dX6_draw_8 cs_12345 ?_
  refine g_iadd (pc := 11) C dX6_draw_11 ?_
  refine g_put (pc := 12) C (w' := cs_X6 J.2.2.1 a0 ((u_drawn * 1103515245) + 12345)) FOK_X6 0 rfl rfl 0 (by decide) kw_238 rfl rfl rfl (Nat.le_of_ble_eq_true rfl) dX6_draw_12 rfl ?_
  refine g_aload_n (pc := 15) C 0 rfl dX6_draw_15 ?_
  refine g_get (pc := 16) C FOK_X6 0 rfl rfl 0 (by decide) kw_238 rfl dX6_draw_16 ?_
  refine g_bipush (pc := 19) C dX6_draw_19 cb_16 ?_
  refine g_iushr (pc := 21) C dX6_draw_21 ?_
  refine g_sipush (pc := 22) C dX6_draw_22 cs_32767 ?_
  refine g_iand (pc := 25) C dX6_draw_25 ?_
  refine g_istore_n (pc := 26) C [(2, .int (((((u_drawn * 1103515245) + 12345).toUInt32 >>> (16.toUInt32 &&& Int32.toUInt32 31)).toInt32) &&& 32767)), (0, .ref (a0 0)), (1, .int n1)] dX6_draw_26 rfl (by decide) rfl ?_
  refine g_iload_n (pc := 27) C 2 rfl dX6_draw_27 ?_
  refine g_if_le (pc := 28) C (tgt := 37) dX6_draw_28 rfl h (fun h => ?_) (fun h => ?_)
  · refine g_iconst (pc := 37) C dX6_draw_37 ci_0 ?_
    cases h
    exact g_iret C E dX6_draw_38
  · refine g_iload_n (pc := 31) C 0 rfl dX6_draw_31 ?_
    refine g_iload_n (pc := 32) C 2 rfl dX6_draw_32 ?_
    obtain ⟨hz, h⟩ := nz_of h
    refine g_irem (pc := 33) C dX6_draw_33 hz ?_
    refine g_goto (pc := 34) C (tgt := 38) dX6_draw_34 rfl ?_
    cases h
    exact g_iret C E dX6_draw_38
noncomputable def f_X6_passHalf_42 (s_year : Int32) (s_tied : Int32) (p_beds : Int32) (p_letters : Int32) (p_readers : Int32) (p_far : Nat → Int32) (p_drain : Nat → Int32) (p_length : Nat → Int32) (p_words : Nat → Int32) (l_code : Nat → Int32) (l_length : Int32) (n1 : Int32) (u_drawn : Int32) (s_wet : Int32) (s_lost : Int32) (s_gone : Nat → Int32) (s_place : Nat → Int32) (s_heard : Nat → Int32) (s_many : Nat → Int32) (s_lying : Nat → Int32) (l_values : Nat → Int32) (l_stack : Nat → Int32) : Option (Int32 × Int32 × Int32 × (Nat → Int32) × (Nat → Int32) × (Nat → Int32) × (Nat → Int32) × (Nat → Int32) × (Nat → Int32) × (Nat → Int32)) := if p_readers ≤ 0 then some (u_drawn, s_wet, s_lost, s_gone, s_place, s_heard, s_many, s_lying, l_values, l_stack) else b2 (f_X6_draw u_drawn p_readers) (fun v1 c2 => b2 (f_X6_draw c2 p_beds) (fun v3 c4 => b3 (f_X4_go s_place s_heard s_many s_lying v1 v3) (fun v5 c6 c7 => some (c4, s_wet, s_lost, s_gone, c6, c7, s_many, s_lying, l_values, l_stack))))
noncomputable def f_X6_passHalf (u_drawn : Int32) (s_year : Int32) (s_wet : Int32) (s_lost : Int32) (s_tied : Int32) (s_gone : Nat → Int32) (s_place : Nat → Int32) (s_heard : Nat → Int32) (s_many : Nat → Int32) (s_lying : Nat → Int32) (p_beds : Int32) (p_letters : Int32) (p_readers : Int32) (p_far : Nat → Int32) (p_drain : Nat → Int32) (p_length : Nat → Int32) (p_words : Nat → Int32) (l_code : Nat → Int32) (l_values : Nat → Int32) (l_stack : Nat → Int32) (l_length : Int32) (n1 : Int32) : Option (Int32 × Int32 × Int32 × (Nat → Int32) × (Nat → Int32) × (Nat → Int32) × (Nat → Int32) × (Nat → Int32) × (Nat → Int32) × (Nat → Int32)) := b2 (f_X6_draw u_drawn 16) (fun v8 c9 => if n1 ≤ v8 then b2 (f_X6_draw c9 30) (fun v10 c11 => b2 (f_X4_blow s_gone s_place s_heard p_letters p_readers p_far p_length p_words (v10 + 1)) (fun v12 c13 => f_X6_passHalf_42 s_year s_tied p_beds p_letters p_readers p_far p_drain p_length p_words l_code l_length n1 c11 s_wet s_lost s_gone s_place c13 s_many s_lying l_values l_stack)) else b2 (f_X6_draw c9 20) (fun v14 c15 => b7 (f_X4_pour s_year s_wet s_lost s_tied s_gone s_many s_lying p_letters p_far p_drain p_length p_words l_code l_values l_stack l_length (v14 + 1)) (fun c16 c17 c18 c19 c20 c21 c22 => f_X6_passHalf_42 s_year s_tied p_beds p_letters p_readers p_far p_drain p_length p_words l_code l_length n1 c15 c16 c17 c18 s_place s_heard c19 c20 c21 c22)))
def rm_X6_passHalf : Room := { frames := 4, cells := 0, slots := 0, locals := 104 }
set_option maxRecDepth 100000 in
set_option maxHeartbeats 4000000 in
theorem j_X6_passHalf_42 {J : Jt} {Z : Zt} {a0 : Nat → Nat} {a1 : Nat → Nat} {a2 : Nat → Nat} {a3 : Nat → Nat} {s_year : Int32} {s_eaten : Int32} {s_tied : Int32} {s_ripeMany : Int32} {s_ripe : Nat → Int32} {p_beds : Int32} {p_letters : Int32} {p_readers : Int32} {p_far : Nat → Int32} {p_drain : Nat → Int32} {p_length : Nat → Int32} {p_words : Nat → Int32} {p_home : Nat → Int32} {l_code : Nat → Int32} {l_length : Int32} {n1 : Int32} {o_u_drawn : Int32} {o_s_wet : Int32} {o_s_lost : Int32} {o_s_gone : Nat → Int32} {o_s_place : Nat → Int32} {o_s_heard : Nat → Int32} {o_s_many : Nat → Int32} {o_s_lying : Nat → Int32} {o_l_values : Nat → Int32} {o_l_stack : Nat → Int32} (C : Cx J Z cX6_passHalf 6 RX6 none rm_X6_passHalf) (E : Ez J Z 0 0 none (cs_X6 J.2.2.1 a0 o_u_drawn ++ cs_X4 J.2.2.1 a1 s_year o_s_wet o_s_lost s_eaten s_tied s_ripeMany o_s_gone o_s_place o_s_heard o_s_many o_s_lying s_ripe ++ cs_X2 J.2.2.1 a2 p_beds p_letters p_readers p_far p_drain p_length p_words p_home ++ cs_X1 J.2.2.1 a3 l_code o_l_values o_l_stack l_length)) : ∀ (u_drawn : Int32) (s_wet : Int32) (s_lost : Int32) (s_gone : Nat → Int32) (s_place : Nat → Int32) (s_heard : Nat → Int32) (s_many : Nat → Int32) (s_lying : Nat → Int32) (l_values : Nat → Int32) (l_stack : Nat → Int32), f_X6_passHalf_42 s_year s_tied p_beds p_letters p_readers p_far p_drain p_length p_words l_code l_length n1 u_drawn s_wet s_lost s_gone s_place s_heard s_many s_lying l_values l_stack = some (o_u_drawn, o_s_wet, o_s_lost, o_s_gone, o_s_place, o_s_heard, o_s_many, o_s_lying, o_l_values, o_l_stack) → G J Z 0 0 (cs_X6 J.2.2.1 a0 u_drawn ++ cs_X4 J.2.2.1 a1 s_year s_wet s_lost s_eaten s_tied s_ripeMany s_gone s_place s_heard s_many s_lying s_ripe ++ cs_X2 J.2.2.1 a2 p_beds p_letters p_readers p_far p_drain p_length p_words p_home ++ cs_X1 J.2.2.1 a3 l_code l_values l_stack l_length) 6 [(0, .ref (a0 0)), (1, .ref (a1 0)), (2, .ref (a2 0))] 42 [] := by
  intro u_drawn s_wet s_lost s_gone s_place s_heard s_many s_lying l_values l_stack h
  unfold f_X6_passHalf_42 at h
  refine g_aload_n (pc := 42) C 2 rfl dX6_passHalf_42 ?_
  refine g_get (pc := 43) C FOK_X2 8 rfl rfl 2 (by decide) kw_287 rfl dX6_passHalf_43 ?_
  refine g_if_le (pc := 46) C (tgt := 74) dX6_passHalf_46 rfl h (fun h => ?_) (fun h => ?_)
  · cases h
    exact g_vret C E dX6_passHalf_74
  · refine g_aload_n (pc := 49) C 0 rfl dX6_passHalf_49 ?_
    refine g_aload_n (pc := 50) C 2 rfl dX6_passHalf_50 ?_
    refine g_get (pc := 51) C FOK_X2 8 rfl rfl 2 (by decide) kw_287 rfl dX6_passHalf_51 ?_
    obtain ⟨v1, c2, hc, h⟩ := b2_of h
    refine g_callV (pc := 54) C (w' := cs_X6 J.2.2.1 a0 c2 ++ cs_X4 J.2.2.1 a1 s_year s_wet s_lost s_eaten s_tied s_ripeMany s_gone s_place s_heard s_many s_lying s_ripe ++ cs_X2 J.2.2.1 a2 p_beds p_letters p_readers p_far p_drain p_length p_words p_home ++ cs_X1 J.2.2.1 a3 l_code l_values l_stack l_length) (As := [.int p_readers]) (st := []) (ci := 6) (q0 := 0) rfl rfl (t_X6_draw hc) (Sub.gen [0] [1, 2, 3, 4, 5, 6, 7, 8, 9, 10, 11, 12, 13, 14, 15, 16, 17] [17, 0, 1, 2, 3, 4, 5, 6, 7, 8, 9, 10, 11, 12, 13, 14, 15, 16] rfl (by decide) rfl (by decide) (by decide) rfl (by decide)) kw_1235 kw_1236 kw_1237 kw_90 hy_X6_draw kw_1238 rfl (Nat.le_of_ble_eq_true rfl) (Nat.le_of_ble_eq_true rfl) (Nat.le_of_ble_eq_true rfl) (Nat.le_of_ble_eq_true rfl) (Nat.le_of_ble_eq_true rfl) dX6_passHalf_54 ?_
    refine g_istore (pc := 57) C [(5, .int v1), (0, .ref (a0 0)), (1, .ref (a1 0)), (2, .ref (a2 0))] dX6_passHalf_57 (by decide) rfl ?_
    refine g_aload_n (pc := 59) C 2 rfl dX6_passHalf_59 ?_
    refine g_iload (pc := 60) C 0 rfl dX6_passHalf_60 ?_
    refine g_aload_n (pc := 62) C 1 rfl dX6_passHalf_62 ?_
    refine g_aload_n (pc := 63) C 3 rfl dX6_passHalf_63 ?_
    refine g_get (pc := 64) C FOK_X2 8 rfl rfl 0 (by decide) kw_276 rfl dX6_passHalf_64 ?_
    obtain ⟨v3, c4, hc, h⟩ := b2_of h
    refine g_callV (pc := 67) C (w' := cs_X6 J.2.2.1 a0 c4 ++ cs_X4 J.2.2.1 a1 s_year s_wet s_lost s_eaten s_tied s_ripeMany s_gone s_place s_heard s_many s_lying s_ripe ++ cs_X2 J.2.2.1 a2 p_beds p_letters p_readers p_far p_drain p_length p_words p_home ++ cs_X1 J.2.2.1 a3 l_code l_values l_stack l_length) (As := [.int p_beds]) (st := [.int v1, .ref (a1 0)]) (ci := 6) (q0 := 0) rfl rfl (t_X6_draw hc) (Sub.gen [0] [1, 2, 3, 4, 5, 6, 7, 8, 9, 10, 11, 12, 13, 14, 15, 16, 17] [17, 0, 1, 2, 3, 4, 5, 6, 7, 8, 9, 10, 11, 12, 13, 14, 15, 16] rfl (by decide) rfl (by decide) (by decide) rfl (by decide)) kw_1235 kw_1236 kw_1237 kw_90 hy_X6_draw kw_1238 rfl (Nat.le_of_ble_eq_true rfl) (Nat.le_of_ble_eq_true rfl) (Nat.le_of_ble_eq_true rfl) (Nat.le_of_ble_eq_true rfl) (Nat.le_of_ble_eq_true rfl) dX6_passHalf_67 ?_
    obtain ⟨v5, c6, c7, hc, h⟩ := b3_of h
    refine g_callV (pc := 70) C (w' := cs_X6 J.2.2.1 a0 c4 ++ cs_X4 J.2.2.1 a1 s_year s_wet s_lost s_eaten s_tied s_ripeMany s_gone c6 c7 s_many s_lying s_ripe ++ cs_X2 J.2.2.1 a2 p_beds p_letters p_readers p_far p_drain p_length p_words p_home ++ cs_X1 J.2.2.1 a3 l_code l_values l_stack l_length) (As := [.int v1, .int v3]) (st := []) (ci := 4) (q0 := 1) rfl rfl (t_X4_go hc) (Sub.gen [1, 2, 3, 4, 5, 6, 7] [0, 8, 9, 10, 11, 12, 13, 14, 15, 16, 17] [0, 11, 12, 13, 14, 15, 16, 17, 1, 2, 3, 4, 5, 6, 7, 8, 9, 10] rfl (by decide) rfl (by decide) (by decide) rfl (by decide)) kw_1242 kw_866 kw_867 kw_88 hy_X4_go kw_868 rfl (Nat.le_of_ble_eq_true rfl) (Nat.le_of_ble_eq_true rfl) (Nat.le_of_ble_eq_true rfl) (Nat.le_of_ble_eq_true rfl) (Nat.le_of_ble_eq_true rfl) dX6_passHalf_70 ?_
    refine g_pop (pc := 73) C dX6_passHalf_73 rfl ?_
    cases h
    exact g_vret C E dX6_passHalf_74
set_option maxRecDepth 100000 in
set_option maxHeartbeats 4000000 in
theorem t_X6_passHalf {J : Jt} {a0 : Nat → Nat} {a1 : Nat → Nat} {a2 : Nat → Nat} {a3 : Nat → Nat} {u_drawn : Int32} {s_year : Int32} {s_wet : Int32} {s_lost : Int32} {s_eaten : Int32} {s_tied : Int32} {s_ripeMany : Int32} {s_gone : Nat → Int32} {s_place : Nat → Int32} {s_heard : Nat → Int32} {s_many : Nat → Int32} {s_lying : Nat → Int32} {s_ripe : Nat → Int32} {p_beds : Int32} {p_letters : Int32} {p_readers : Int32} {p_far : Nat → Int32} {p_drain : Nat → Int32} {p_length : Nat → Int32} {p_words : Nat → Int32} {p_home : Nat → Int32} {l_code : Nat → Int32} {l_values : Nat → Int32} {l_stack : Nat → Int32} {l_length : Int32} {n1 : Int32} {o_u_drawn : Int32} {o_s_wet : Int32} {o_s_lost : Int32} {o_s_gone : Nat → Int32} {o_s_place : Nat → Int32} {o_s_heard : Nat → Int32} {o_s_many : Nat → Int32} {o_s_lying : Nat → Int32} {o_l_values : Nat → Int32} {o_l_stack : Nat → Int32} (h : f_X6_passHalf u_drawn s_year s_wet s_lost s_tied s_gone s_place s_heard s_many s_lying p_beds p_letters p_readers p_far p_drain p_length p_words l_code l_values l_stack l_length n1 = some (o_u_drawn, o_s_wet, o_s_lost, o_s_gone, o_s_place, o_s_heard, o_s_many, o_s_lying, o_l_values, o_l_stack)) : Mt J yX6_passHalf cX6_passHalf 6 none rm_X6_passHalf [.ref (a0 0), .ref (a1 0), .ref (a2 0), .ref (a3 0), .int n1] (cs_X6 J.2.2.1 a0 u_drawn ++ cs_X4 J.2.2.1 a1 s_year s_wet s_lost s_eaten s_tied s_ripeMany s_gone s_place s_heard s_many s_lying s_ripe ++ cs_X2 J.2.2.1 a2 p_beds p_letters p_readers p_far p_drain p_length p_words p_home ++ cs_X1 J.2.2.1 a3 l_code l_values l_stack l_length) none (cs_X6 J.2.2.1 a0 o_u_drawn ++ cs_X4 J.2.2.1 a1 s_year o_s_wet o_s_lost s_eaten s_tied s_ripeMany o_s_gone o_s_place o_s_heard o_s_many o_s_lying s_ripe ++ cs_X2 J.2.2.1 a2 p_beds p_letters p_readers p_far p_drain p_length p_words p_home ++ cs_X1 J.2.2.1 a3 l_code o_l_values o_l_stack l_length) := by
  refine Mt_of (own := RX6) (by decide) rfl (Nat.le_of_ble_eq_true rfl) rfl (fun Z C E => ?_)
  unfold f_X6_passHalf at h
  show G J Z 0 0 (cs_X6 J.2.2.1 a0 u_drawn ++ cs_X4 J.2.2.1 a1 s_year s_wet s_lost s_eaten s_tied s_ripeMany s_gone s_place s_heard s_many s_lying s_ripe ++ cs_X2 J.2.2.1 a2 p_beds p_letters p_readers p_far p_drain p_length p_words p_home ++ cs_X1 J.2.2.1 a3 l_code l_values l_stack l_length) 6 [(0, .ref (a0 0)), (1, .ref (a1 0)), (2, .ref (a2 0)), (3, .ref (a3 0)), (4, .int n1)] 0 []
  refine g_aload_n (pc := 0) C 0 rfl dX6_passHalf_0 ?_
  refine g_bipush (pc := 1) C dX6_passHalf_1 cb_16 ?_
  obtain ⟨v8, c9, hc, h⟩ := b2_of h
  refine g_callV (pc := 3) C (w' := cs_X6 J.2.2.1 a0 c9 ++ cs_X4 J.2.2.1 a1 s_year s_wet s_lost s_eaten s_tied s_ripeMany s_gone s_place s_heard s_many s_lying s_ripe ++ cs_X2 J.2.2.1 a2 p_beds p_letters p_readers p_far p_drain p_length p_words p_home ++ cs_X1 J.2.2.1 a3 l_code l_values l_stack l_length) (As := [.int 16]) (st := []) (ci := 6) (q0 := 0) rfl rfl (t_X6_draw hc) (Sub.gen [0] [1, 2, 3, 4, 5, 6, 7, 8, 9, 10, 11, 12, 13, 14, 15, 16, 17] [17, 0, 1, 2, 3, 4, 5, 6, 7, 8, 9, 10, 11, 12, 13, 14, 15, 16] rfl (by decide) rfl (by decide) (by decide) rfl (by decide)) kw_1235 kw_1236 kw_1237 kw_90 hy_X6_draw kw_1238 rfl (Nat.le_of_ble_eq_true rfl) (Nat.le_of_ble_eq_true rfl) (Nat.le_of_ble_eq_true rfl) (Nat.le_of_ble_eq_true rfl) (Nat.le_of_ble_eq_true rfl) dX6_passHalf_3 ?_
  refine g_iload (pc := 6) C 4 rfl dX6_passHalf_6 ?_
  refine g_icmp_ge (pc := 8) C (tgt := 28) dX6_passHalf_8 rfl h (fun h => ?_) (fun h => ?_)
  · refine g_aload_n (pc := 28) C 1 rfl dX6_passHalf_28 ?_
    refine g_aload_n (pc := 29) C 2 rfl dX6_passHalf_29 ?_
    refine g_aload_n (pc := 30) C 0 rfl dX6_passHalf_30 ?_
    refine g_bipush (pc := 31) C dX6_passHalf_31 cb_30 ?_
    obtain ⟨v10, c11, hc, h⟩ := b2_of h
    refine g_callV (pc := 33) C (w' := cs_X6 J.2.2.1 a0 c11 ++ cs_X4 J.2.2.1 a1 s_year s_wet s_lost s_eaten s_tied s_ripeMany s_gone s_place s_heard s_many s_lying s_ripe ++ cs_X2 J.2.2.1 a2 p_beds p_letters p_readers p_far p_drain p_length p_words p_home ++ cs_X1 J.2.2.1 a3 l_code l_values l_stack l_length) (As := [.int 30]) (st := [.ref (a2 0), .ref (a1 0)]) (ci := 6) (q0 := 0) rfl rfl (t_X6_draw hc) (Sub.gen [0] [1, 2, 3, 4, 5, 6, 7, 8, 9, 10, 11, 12, 13, 14, 15, 16, 17] [17, 0, 1, 2, 3, 4, 5, 6, 7, 8, 9, 10, 11, 12, 13, 14, 15, 16] rfl (by decide) rfl (by decide) (by decide) rfl (by decide)) kw_1235 kw_1236 kw_1237 kw_90 hy_X6_draw kw_1238 rfl (Nat.le_of_ble_eq_true rfl) (Nat.le_of_ble_eq_true rfl) (Nat.le_of_ble_eq_true rfl) (Nat.le_of_ble_eq_true rfl) (Nat.le_of_ble_eq_true rfl) dX6_passHalf_33 ?_
    refine g_iconst (pc := 36) C dX6_passHalf_36 ci_1 ?_
    refine g_iadd (pc := 37) C dX6_passHalf_37 ?_
    obtain ⟨v12, c13, hc, h⟩ := b2_of h
    refine g_callV (pc := 38) C (w' := cs_X6 J.2.2.1 a0 c11 ++ cs_X4 J.2.2.1 a1 s_year s_wet s_lost s_eaten s_tied s_ripeMany s_gone s_place c13 s_many s_lying s_ripe ++ cs_X2 J.2.2.1 a2 p_beds p_letters p_readers p_far p_drain p_length p_words p_home ++ cs_X1 J.2.2.1 a3 l_code l_values l_stack l_length) (As := [.ref (a2 0), .int (v10 + 1)]) (st := []) (ci := 4) (q0 := 1) rfl rfl (t_X4_blow hc) (Sub.gen [1, 2, 3, 4, 5, 6, 7, 8, 9, 10, 11, 12, 13] [0, 14, 15, 16, 17] [0, 5, 6, 7, 8, 9, 10, 11, 12, 13, 14, 15, 16, 17, 1, 2, 3, 4] rfl (by decide) rfl (by decide) (by decide) rfl (by decide)) kw_1241 kw_857 kw_858 kw_88 hy_X4_blow kw_859 rfl (Nat.le_of_ble_eq_true rfl) (Nat.le_of_ble_eq_true rfl) (Nat.le_of_ble_eq_true rfl) (Nat.le_of_ble_eq_true rfl) (Nat.le_of_ble_eq_true rfl) dX6_passHalf_38 ?_
    refine g_pop (pc := 41) C dX6_passHalf_41 rfl ?_
    refine g_lv [0, 1, 2] rfl ?_
    exact j_X6_passHalf_42 C E  c11 s_wet s_lost s_gone s_place c13 s_many s_lying l_values l_stack h
  · refine g_aload_n (pc := 11) C 1 rfl dX6_passHalf_11 ?_
    refine g_aload_n (pc := 12) C 2 rfl dX6_passHalf_12 ?_
    refine g_aload_n (pc := 13) C 3 rfl dX6_passHalf_13 ?_
    refine g_aload_n (pc := 14) C 0 rfl dX6_passHalf_14 ?_
    refine g_bipush (pc := 15) C dX6_passHalf_15 cb_20 ?_
    obtain ⟨v14, c15, hc, h⟩ := b2_of h
    refine g_callV (pc := 17) C (w' := cs_X6 J.2.2.1 a0 c15 ++ cs_X4 J.2.2.1 a1 s_year s_wet s_lost s_eaten s_tied s_ripeMany s_gone s_place s_heard s_many s_lying s_ripe ++ cs_X2 J.2.2.1 a2 p_beds p_letters p_readers p_far p_drain p_length p_words p_home ++ cs_X1 J.2.2.1 a3 l_code l_values l_stack l_length) (As := [.int 20]) (st := [.ref (a3 0), .ref (a2 0), .ref (a1 0)]) (ci := 6) (q0 := 0) rfl rfl (t_X6_draw hc) (Sub.gen [0] [1, 2, 3, 4, 5, 6, 7, 8, 9, 10, 11, 12, 13, 14, 15, 16, 17] [17, 0, 1, 2, 3, 4, 5, 6, 7, 8, 9, 10, 11, 12, 13, 14, 15, 16] rfl (by decide) rfl (by decide) (by decide) rfl (by decide)) kw_1235 kw_1236 kw_1237 kw_90 hy_X6_draw kw_1238 rfl (Nat.le_of_ble_eq_true rfl) (Nat.le_of_ble_eq_true rfl) (Nat.le_of_ble_eq_true rfl) (Nat.le_of_ble_eq_true rfl) (Nat.le_of_ble_eq_true rfl) dX6_passHalf_17 ?_
    refine g_iconst (pc := 20) C dX6_passHalf_20 ci_1 ?_
    refine g_iadd (pc := 21) C dX6_passHalf_21 ?_
    obtain ⟨c16, c17, c18, c19, c20, c21, c22, hc, h⟩ := b7_of h
    refine g_callV (pc := 22) C (w' := cs_X6 J.2.2.1 a0 c15 ++ cs_X4 J.2.2.1 a1 s_year c16 c17 s_eaten s_tied s_ripeMany c18 s_place s_heard c19 c20 s_ripe ++ cs_X2 J.2.2.1 a2 p_beds p_letters p_readers p_far p_drain p_length p_words p_home ++ cs_X1 J.2.2.1 a3 l_code c21 c22 l_length) (As := [.ref (a2 0), .ref (a3 0), .int (v14 + 1)]) (st := []) (ci := 4) (q0 := 1) rfl rfl (t_X4_pour hc) (Sub.gen [1, 2, 3, 4, 5, 6, 7, 8, 9, 10, 11, 12, 13, 14, 15, 16, 17] [0] [0, 1, 2, 3, 4, 5, 6, 7, 8, 9, 10, 11, 12, 13, 14, 15, 16, 17] rfl (by decide) rfl (by decide) (by decide) rfl (by decide)) kw_1240 kw_882 kw_883 kw_88 hy_X4_pour kw_884 rfl (Nat.le_of_ble_eq_true rfl) (Nat.le_of_ble_eq_true rfl) (Nat.le_of_ble_eq_true rfl) (Nat.le_of_ble_eq_true rfl) (Nat.le_of_ble_eq_true rfl) dX6_passHalf_22 ?_
    refine g_goto (pc := 25) C (tgt := 42) dX6_passHalf_25 rfl ?_
    refine g_lv [0, 1, 2] rfl ?_
    exact j_X6_passHalf_42 C E  c15 c16 c17 c18 s_place s_heard c19 c20 c21 c22 h
noncomputable def f_X6_pass_9 (s_tied : Int32) (p_beds : Int32) (p_letters : Int32) (p_readers : Int32) (p_far : Nat → Int32) (p_drain : Nat → Int32) (p_length : Nat → Int32) (p_words : Nat → Int32) (l_code : Nat → Int32) (l_length : Int32) (n1 : Int32) (n2 : Int32) (n3 : Int32) : Nat → Int32 → Int32 → Int32 → Int32 → Int32 → Int32 → (Nat → Int32) → (Nat → Int32) → (Nat → Int32) → (Nat → Int32) → (Nat → Int32) → (Nat → Int32) → (Nat → Int32) → (Nat → Int32) → Option (Int32 × Int32 × Int32 × Int32 × Int32 × (Nat → Int32) × (Nat → Int32) × (Nat → Int32) × (Nat → Int32) × (Nat → Int32) × (Nat → Int32) × (Nat → Int32) × (Nat → Int32))
  | 0, _, _, _, _, _, _, _, _, _, _, _, _, _, _ => none
  | n + 1, x7, u_drawn, s_year, s_wet, s_lost, s_ripeMany, s_gone, s_place, s_heard, s_many, s_lying, s_ripe, l_values, l_stack => if n3 ≤ x7 then some (u_drawn, s_year, s_wet, s_lost, s_ripeMany, s_gone, s_place, s_heard, s_many, s_lying, s_ripe, l_values, l_stack) else b10 (f_X6_passHalf u_drawn s_year s_wet s_lost s_tied s_gone s_place s_heard s_many s_lying p_beds p_letters p_readers p_far p_drain p_length p_words l_code l_values l_stack l_length n2) (fun c1 c2 c3 c4 c5 c6 c7 c8 c9 c10 => b10 (f_X6_passHalf c1 s_year c2 c3 s_tied c4 c5 c6 c7 c8 p_beds p_letters p_readers p_far p_drain p_length p_words l_code c9 c10 l_length n2) (fun c11 c12 c13 c14 c15 c16 c17 c18 c19 c20 => b6 (f_X4_passYear s_year c12 s_ripeMany c17 c18 s_ripe p_beds) (fun c21 c22 c23 c24 c25 c26 => f_X6_pass_9 s_tied p_beds p_letters p_readers p_far p_drain p_length p_words l_code l_length n1 n2 n3 n (x7 + 1) c11 c21 c22 c13 c23 c14 c15 c16 c24 c25 c26 c19 c20)))
noncomputable def f_X6_pass (u_drawn : Int32) (s_year : Int32) (s_wet : Int32) (s_lost : Int32) (s_tied : Int32) (s_ripeMany : Int32) (s_gone : Nat → Int32) (s_place : Nat → Int32) (s_heard : Nat → Int32) (s_many : Nat → Int32) (s_lying : Nat → Int32) (s_ripe : Nat → Int32) (p_beds : Int32) (p_letters : Int32) (p_readers : Int32) (p_far : Nat → Int32) (p_drain : Nat → Int32) (p_length : Nat → Int32) (p_words : Nat → Int32) (l_code : Nat → Int32) (l_values : Nat → Int32) (l_stack : Nat → Int32) (l_length : Int32) (n1 : Int32) (n2 : Int32) (n3 : Int32) : Option (Int32 × Int32 × Int32 × Int32 × Int32 × (Nat → Int32) × (Nat → Int32) × (Nat → Int32) × (Nat → Int32) × (Nat → Int32) × (Nat → Int32) × (Nat → Int32) × (Nat → Int32)) := f_X6_pass_9 s_tied p_beds p_letters p_readers p_far p_drain p_length p_words l_code l_length n1 n2 n3 FU 0 n1 s_year s_wet s_lost s_ripeMany s_gone s_place s_heard s_many s_lying s_ripe l_values l_stack
def rm_X6_pass : Room := { frames := 5, cells := 0, slots := 0, locals := 129 }
set_option maxRecDepth 100000 in
set_option maxHeartbeats 4000000 in
theorem j_X6_pass_9 {J : Jt} {Z : Zt} {a0 : Nat → Nat} {a1 : Nat → Nat} {a2 : Nat → Nat} {a3 : Nat → Nat} {s_eaten : Int32} {s_tied : Int32} {p_beds : Int32} {p_letters : Int32} {p_readers : Int32} {p_far : Nat → Int32} {p_drain : Nat → Int32} {p_length : Nat → Int32} {p_words : Nat → Int32} {p_home : Nat → Int32} {l_code : Nat → Int32} {l_length : Int32} {n1 : Int32} {n2 : Int32} {n3 : Int32} {o_u_drawn : Int32} {o_s_year : Int32} {o_s_wet : Int32} {o_s_lost : Int32} {o_s_ripeMany : Int32} {o_s_gone : Nat → Int32} {o_s_place : Nat → Int32} {o_s_heard : Nat → Int32} {o_s_many : Nat → Int32} {o_s_lying : Nat → Int32} {o_s_ripe : Nat → Int32} {o_l_values : Nat → Int32} {o_l_stack : Nat → Int32} (C : Cx J Z cX6_pass 8 RX6 none rm_X6_pass) (E : Ez J Z 0 0 none (cs_X6 J.2.2.1 a0 o_u_drawn ++ cs_X4 J.2.2.1 a1 o_s_year o_s_wet o_s_lost s_eaten s_tied o_s_ripeMany o_s_gone o_s_place o_s_heard o_s_many o_s_lying o_s_ripe ++ cs_X2 J.2.2.1 a2 p_beds p_letters p_readers p_far p_drain p_length p_words p_home ++ cs_X1 J.2.2.1 a3 l_code o_l_values o_l_stack l_length)) : ∀ (n : Nat) (x7 : Int32) (u_drawn : Int32) (s_year : Int32) (s_wet : Int32) (s_lost : Int32) (s_ripeMany : Int32) (s_gone : Nat → Int32) (s_place : Nat → Int32) (s_heard : Nat → Int32) (s_many : Nat → Int32) (s_lying : Nat → Int32) (s_ripe : Nat → Int32) (l_values : Nat → Int32) (l_stack : Nat → Int32), f_X6_pass_9 s_tied p_beds p_letters p_readers p_far p_drain p_length p_words l_code l_length n1 n2 n3 n x7 u_drawn s_year s_wet s_lost s_ripeMany s_gone s_place s_heard s_many s_lying s_ripe l_values l_stack = some (o_u_drawn, o_s_year, o_s_wet, o_s_lost, o_s_ripeMany, o_s_gone, o_s_place, o_s_heard, o_s_many, o_s_lying, o_s_ripe, o_l_values, o_l_stack) → G J Z 0 0 (cs_X6 J.2.2.1 a0 u_drawn ++ cs_X4 J.2.2.1 a1 s_year s_wet s_lost s_eaten s_tied s_ripeMany s_gone s_place s_heard s_many s_lying s_ripe ++ cs_X2 J.2.2.1 a2 p_beds p_letters p_readers p_far p_drain p_length p_words p_home ++ cs_X1 J.2.2.1 a3 l_code l_values l_stack l_length) 8 [(0, .ref (a0 0)), (1, .ref (a1 0)), (2, .ref (a2 0)), (3, .ref (a3 0)), (5, .int n2), (6, .int n3), (7, .int x7)] 9 [] := by
  intro n
  induction n with
  | zero =>
    intro x7 u_drawn s_year s_wet s_lost s_ripeMany s_gone s_place s_heard s_many s_lying s_ripe l_values l_stack h
    rw [f_X6_pass_9] at h
    cases h
  | succ n ih =>
    intro x7 u_drawn s_year s_wet s_lost s_ripeMany s_gone s_place s_heard s_many s_lying s_ripe l_values l_stack h
    rw [f_X6_pass_9] at h
    refine g_iload (pc := 9) C 6 rfl dX6_pass_9 ?_
    refine g_iload (pc := 11) C 5 rfl dX6_pass_11 ?_
    refine g_icmp_ge (pc := 13) C (tgt := 45) dX6_pass_13 rfl h (fun h => ?_) (fun h => ?_)
    · cases h
      exact g_vret C E dX6_pass_45
    · refine g_aload_n (pc := 16) C 0 rfl dX6_pass_16 ?_
      refine g_aload_n (pc := 17) C 1 rfl dX6_pass_17 ?_
      refine g_aload_n (pc := 18) C 2 rfl dX6_pass_18 ?_
      refine g_aload_n (pc := 19) C 3 rfl dX6_pass_19 ?_
      refine g_iload (pc := 20) C 4 rfl dX6_pass_20 ?_
      obtain ⟨c1, c2, c3, c4, c5, c6, c7, c8, c9, c10, hc, h⟩ := b10_of h
      refine g_callV (pc := 22) C (w' := cs_X6 J.2.2.1 a0 c1 ++ cs_X4 J.2.2.1 a1 s_year c2 c3 s_eaten s_tied s_ripeMany c4 c5 c6 c7 c8 s_ripe ++ cs_X2 J.2.2.1 a2 p_beds p_letters p_readers p_far p_drain p_length p_words p_home ++ cs_X1 J.2.2.1 a3 l_code c9 c10 l_length) (As := [.ref (a1 0), .ref (a2 0), .ref (a3 0), .int n2]) (st := []) (ci := 6) (q0 := 0) rfl rfl (t_X6_passHalf hc) Sub.same kw_1231 kw_1232 kw_1233 kw_90 hy_X6_passHalf kw_1234 rfl (Nat.le_of_ble_eq_true rfl) (Nat.le_of_ble_eq_true rfl) (Nat.le_of_ble_eq_true rfl) (Nat.le_of_ble_eq_true rfl) (Nat.le_of_ble_eq_true rfl) dX6_pass_22 ?_
      refine g_aload_n (pc := 25) C 0 rfl dX6_pass_25 ?_
      refine g_aload_n (pc := 26) C 1 rfl dX6_pass_26 ?_
      refine g_aload_n (pc := 27) C 2 rfl dX6_pass_27 ?_
      refine g_aload_n (pc := 28) C 3 rfl dX6_pass_28 ?_
      refine g_iload (pc := 29) C 4 rfl dX6_pass_29 ?_
      obtain ⟨c11, c12, c13, c14, c15, c16, c17, c18, c19, c20, hc, h⟩ := b10_of h
      refine g_callV (pc := 31) C (w' := cs_X6 J.2.2.1 a0 c11 ++ cs_X4 J.2.2.1 a1 s_year c12 c13 s_eaten s_tied s_ripeMany c14 c15 c16 c17 c18 s_ripe ++ cs_X2 J.2.2.1 a2 p_beds p_letters p_readers p_far p_drain p_length p_words p_home ++ cs_X1 J.2.2.1 a3 l_code c19 c20 l_length) (As := [.ref (a1 0), .ref (a2 0), .ref (a3 0), .int n2]) (st := []) (ci := 6) (q0 := 0) rfl rfl (t_X6_passHalf hc) Sub.same kw_1231 kw_1232 kw_1233 kw_90 hy_X6_passHalf kw_1234 rfl (Nat.le_of_ble_eq_true rfl) (Nat.le_of_ble_eq_true rfl) (Nat.le_of_ble_eq_true rfl) (Nat.le_of_ble_eq_true rfl) (Nat.le_of_ble_eq_true rfl) dX6_pass_31 ?_
      refine g_aload_n (pc := 34) C 1 rfl dX6_pass_34 ?_
      refine g_aload_n (pc := 35) C 2 rfl dX6_pass_35 ?_
      obtain ⟨c21, c22, c23, c24, c25, c26, hc, h⟩ := b6_of h
      refine g_callV (pc := 36) C (w' := cs_X6 J.2.2.1 a0 c11 ++ cs_X4 J.2.2.1 a1 c21 c22 c13 s_eaten s_tied c23 c14 c15 c16 c24 c25 c26 ++ cs_X2 J.2.2.1 a2 p_beds p_letters p_readers p_far p_drain p_length p_words p_home ++ cs_X1 J.2.2.1 a3 l_code c19 c20 l_length) (As := [.ref (a2 0)]) (st := []) (ci := 4) (q0 := 1) rfl rfl (t_X4_passYear hc) (Sub.gen [1, 2, 3, 4, 5, 6, 7, 8, 9, 10, 11, 12, 13] [0, 14, 15, 16, 17] [0, 5, 6, 7, 8, 9, 10, 11, 12, 13, 14, 15, 16, 17, 1, 2, 3, 4] rfl (by decide) rfl (by decide) (by decide) rfl (by decide)) kw_1243 kw_911 kw_912 kw_88 hy_X4_passYear kw_913 rfl (Nat.le_of_ble_eq_true rfl) (Nat.le_of_ble_eq_true rfl) (Nat.le_of_ble_eq_true rfl) (Nat.le_of_ble_eq_true rfl) (Nat.le_of_ble_eq_true rfl) dX6_pass_36 ?_
      refine g_iinc (pc := 39) C (j := 6) [(7, .int (x7 + 1)), (0, .ref (a0 0)), (1, .ref (a1 0)), (2, .ref (a2 0)), (3, .ref (a3 0)), (5, .int n2), (6, .int n3)] dX6_pass_39 rfl (ii_1 _) (by decide) rfl ?_
      refine g_goto (pc := 42) C (tgt := 9) dX6_pass_42 rfl ?_
      refine g_lv [1, 2, 3, 4, 5, 6, 0] rfl ?_
      exact ih (x7 + 1) c11 c21 c22 c13 c23 c14 c15 c16 c24 c25 c26 c19 c20 h
set_option maxRecDepth 100000 in
set_option maxHeartbeats 4000000 in
theorem t_X6_pass {J : Jt} {a0 : Nat → Nat} {a1 : Nat → Nat} {a2 : Nat → Nat} {a3 : Nat → Nat} {u_drawn : Int32} {s_year : Int32} {s_wet : Int32} {s_lost : Int32} {s_eaten : Int32} {s_tied : Int32} {s_ripeMany : Int32} {s_gone : Nat → Int32} {s_place : Nat → Int32} {s_heard : Nat → Int32} {s_many : Nat → Int32} {s_lying : Nat → Int32} {s_ripe : Nat → Int32} {p_beds : Int32} {p_letters : Int32} {p_readers : Int32} {p_far : Nat → Int32} {p_drain : Nat → Int32} {p_length : Nat → Int32} {p_words : Nat → Int32} {p_home : Nat → Int32} {l_code : Nat → Int32} {l_values : Nat → Int32} {l_stack : Nat → Int32} {l_length : Int32} {n1 : Int32} {n2 : Int32} {n3 : Int32} {o_u_drawn : Int32} {o_s_year : Int32} {o_s_wet : Int32} {o_s_lost : Int32} {o_s_ripeMany : Int32} {o_s_gone : Nat → Int32} {o_s_place : Nat → Int32} {o_s_heard : Nat → Int32} {o_s_many : Nat → Int32} {o_s_lying : Nat → Int32} {o_s_ripe : Nat → Int32} {o_l_values : Nat → Int32} {o_l_stack : Nat → Int32} (h : f_X6_pass u_drawn s_year s_wet s_lost s_tied s_ripeMany s_gone s_place s_heard s_many s_lying s_ripe p_beds p_letters p_readers p_far p_drain p_length p_words l_code l_values l_stack l_length n1 n2 n3 = some (o_u_drawn, o_s_year, o_s_wet, o_s_lost, o_s_ripeMany, o_s_gone, o_s_place, o_s_heard, o_s_many, o_s_lying, o_s_ripe, o_l_values, o_l_stack)) : Mt J yX6_pass cX6_pass 8 none rm_X6_pass [.ref (a0 0), .ref (a1 0), .ref (a2 0), .ref (a3 0), .int n1, .int n2, .int n3] (cs_X6 J.2.2.1 a0 u_drawn ++ cs_X4 J.2.2.1 a1 s_year s_wet s_lost s_eaten s_tied s_ripeMany s_gone s_place s_heard s_many s_lying s_ripe ++ cs_X2 J.2.2.1 a2 p_beds p_letters p_readers p_far p_drain p_length p_words p_home ++ cs_X1 J.2.2.1 a3 l_code l_values l_stack l_length) none (cs_X6 J.2.2.1 a0 o_u_drawn ++ cs_X4 J.2.2.1 a1 o_s_year o_s_wet o_s_lost s_eaten s_tied o_s_ripeMany o_s_gone o_s_place o_s_heard o_s_many o_s_lying o_s_ripe ++ cs_X2 J.2.2.1 a2 p_beds p_letters p_readers p_far p_drain p_length p_words p_home ++ cs_X1 J.2.2.1 a3 l_code o_l_values o_l_stack l_length) := by
  refine Mt_of (own := RX6) (by decide) rfl (Nat.le_of_ble_eq_true rfl) rfl (fun Z C E => ?_)
  unfold f_X6_pass at h
  show G J Z 0 0 (cs_X6 J.2.2.1 a0 u_drawn ++ cs_X4 J.2.2.1 a1 s_year s_wet s_lost s_eaten s_tied s_ripeMany s_gone s_place s_heard s_many s_lying s_ripe ++ cs_X2 J.2.2.1 a2 p_beds p_letters p_readers p_far p_drain p_length p_words p_home ++ cs_X1 J.2.2.1 a3 l_code l_values l_stack l_length) 8 [(0, .ref (a0 0)), (1, .ref (a1 0)), (2, .ref (a2 0)), (3, .ref (a3 0)), (4, .int n1), (5, .int n2), (6, .int n3)] 0 []
  refine g_aload_n (pc := 0) C 0 rfl dX6_pass_0 ?_
  refine g_iload (pc := 1) C 4 rfl dX6_pass_1 ?_
  refine g_put (pc := 3) C (w' := cs_X6 J.2.2.1 a0 n1 ++ cs_X4 J.2.2.1 a1 s_year s_wet s_lost s_eaten s_tied s_ripeMany s_gone s_place s_heard s_many s_lying s_ripe ++ cs_X2 J.2.2.1 a2 p_beds p_letters p_readers p_far p_drain p_length p_words p_home ++ cs_X1 J.2.2.1 a3 l_code l_values l_stack l_length) FOK_X6 0 rfl rfl 0 (by decide) kw_238 rfl rfl rfl (Nat.le_of_ble_eq_true rfl) dX6_pass_3 rfl ?_
  refine g_iconst (pc := 6) C dX6_pass_6 ci_0 ?_
  refine g_istore (pc := 7) C [(7, .int 0), (0, .ref (a0 0)), (1, .ref (a1 0)), (2, .ref (a2 0)), (3, .ref (a3 0)), (4, .int n1), (5, .int n2), (6, .int n3)] dX6_pass_7 (by decide) rfl ?_
  refine g_lv [1, 2, 3, 4, 6, 7, 0] rfl ?_
  exact j_X6_pass_9 C E  FU 0 n1 s_year s_wet s_lost s_ripeMany s_gone s_place s_heard s_many s_lying s_ripe l_values l_stack h
noncomputable def f_X7_hasRoom (t_held : Int32) : Option (Int32) := if 600 < (t_held + 20) then some 0 else some 1
def rm_X7_hasRoom : Room := { frames := 0, cells := 0, slots := 0, locals := 0 }
set_option maxRecDepth 100000 in
set_option maxHeartbeats 4000000 in
theorem t_X7_hasRoom {J : Jt} {a0 : Nat → Nat} {t_bytes : Nat → Int32} {t_held : Int32} {t_end : Int32} {t_at : Int32} {t_start : Int32} {t_faultKind : Int32} {t_faultPlace : Int32} {r : Int32} (h : f_X7_hasRoom t_held = some r) : Mt J yX7_hasRoom cX7_hasRoom 1 (some .boolean) rm_X7_hasRoom [.ref (a0 0)] (cs_X7 J.2.2.1 a0 t_bytes t_held t_end t_at t_start t_faultKind t_faultPlace) (some (.int r)) (cs_X7 J.2.2.1 a0 t_bytes t_held t_end t_at t_start t_faultKind t_faultPlace) := by
  refine Mt_of (own := RX7) (by decide) rfl (Nat.le_of_ble_eq_true rfl) rfl (fun Z C E => ?_)
  unfold f_X7_hasRoom at h
  show G J Z 0 0 (cs_X7 J.2.2.1 a0 t_bytes t_held t_end t_at t_start t_faultKind t_faultPlace) 1 [(0, .ref (a0 0))] 0 []
  refine g_aload_n (pc := 0) C 0 rfl dX7_hasRoom_0 ?_
  refine g_get (pc := 1) C FOK_X7 0 rfl rfl 1 (by decide) kw_124 rfl dX7_hasRoom_1 ?_
  refine g_bipush (pc := 4) C dX7_hasRoom_4 cb_20 ?_
  refine g_iadd (pc := 6) C dX7_hasRoom_6 ?_
  refine g_sipush (pc := 7) C dX7_hasRoom_7 cs_600 ?_
  refine g_icmp_gt (pc := 10) C (tgt := 17) dX7_hasRoom_10 rfl h (fun h => ?_) (fun h => ?_)
  · refine g_iconst (pc := 17) C dX7_hasRoom_17 ci_0 ?_
    cases h
    exact g_zret C rfl E dX7_hasRoom_18
  · refine g_iconst (pc := 13) C dX7_hasRoom_13 ci_1 ?_
    refine g_goto (pc := 14) C (tgt := 18) dX7_hasRoom_14 rfl ?_
    cases h
    exact g_zret C rfl E dX7_hasRoom_18
noncomputable def f_X7_put_3  (n1 : Int32) : Nat → Int32 → (Nat → Int32) → Int32 → Option ((Nat → Int32) × Int32)
  | 0, _, _, _ => none
  | n + 1, x2, t_bytes, t_held => if x2 < 0 then some (t_bytes, t_held) else if 600 ≤ t_held then some (t_bytes, t_held) else if ixb t_held 600 then f_X7_put_3 n1 n (x2 + (-8)) (upd t_bytes t_held.toNatClampNeg (vp_nar .byte ((n1 >>> (x2 &&& 31)).toInt8.toInt32))) (t_held + 1) else none
noncomputable def f_X7_put (t_bytes : Nat → Int32) (t_held : Int32) (n1 : Int32) : Option ((Nat → Int32) × Int32) := f_X7_put_3 n1 FU 24 t_bytes t_held
def rm_X7_put : Room := { frames := 0, cells := 0, slots := 0, locals := 0 }
set_option maxRecDepth 100000 in
set_option maxHeartbeats 4000000 in
theorem j_X7_put_3 {J : Jt} {Z : Zt} {a0 : Nat → Nat} {t_end : Int32} {t_at : Int32} {t_start : Int32} {t_faultKind : Int32} {t_faultPlace : Int32} {n1 : Int32} {o_t_bytes : Nat → Int32} {o_t_held : Int32} (C : Cx J Z cX7_put 3 RX7 none rm_X7_put) (E : Ez J Z 0 0 none (cs_X7 J.2.2.1 a0 o_t_bytes o_t_held t_end t_at t_start t_faultKind t_faultPlace)) : ∀ (n : Nat) (x2 : Int32) (t_bytes : Nat → Int32) (t_held : Int32), f_X7_put_3 n1 n x2 t_bytes t_held = some (o_t_bytes, o_t_held) → G J Z 0 0 (cs_X7 J.2.2.1 a0 t_bytes t_held t_end t_at t_start t_faultKind t_faultPlace) 3 [(0, .ref (a0 0)), (1, .int n1), (2, .int x2)] 3 [] := by
  intro n
  induction n with
  | zero =>
    intro x2 t_bytes t_held h
    rw [f_X7_put_3] at h
    cases h
  | succ n ih =>
    intro x2 t_bytes t_held h
    rw [f_X7_put_3] at h
    refine g_iload_n (pc := 3) C 2 rfl dX7_put_3 ?_
    refine g_if_lt (pc := 4) C (tgt := 46) dX7_put_4 rfl h (fun h => ?_) (fun h => ?_)
    · cases h
      exact g_vret C E dX7_put_46
    · refine g_aload_n (pc := 7) C 0 rfl dX7_put_7 ?_
      refine g_get (pc := 8) C FOK_X7 0 rfl rfl 1 (by decide) kw_124 rfl dX7_put_8 ?_
      refine g_sipush (pc := 11) C dX7_put_11 cs_600 ?_
      refine g_icmp_ge (pc := 14) C (tgt := 46) dX7_put_14 rfl h (fun h => ?_) (fun h => ?_)
      · cases h
        exact g_vret C E dX7_put_46
      · refine g_aload_n (pc := 17) C 0 rfl dX7_put_17 ?_
        refine g_get (pc := 18) C FOK_X7 0 rfl rfl 0 (by decide) kw_123 rfl dX7_put_18 ?_
        refine g_aload_n (pc := 21) C 0 rfl dX7_put_21 ?_
        refine g_get (pc := 22) C FOK_X7 0 rfl rfl 1 (by decide) kw_124 rfl dX7_put_22 ?_
        refine g_iload_n (pc := 25) C 1 rfl dX7_put_25 ?_
        refine g_iload_n (pc := 26) C 2 rfl dX7_put_26 ?_
        refine g_ishr (pc := 27) C dX7_put_27 ?_
        refine g_i2b (pc := 28) C dX7_put_28 ?_
        obtain ⟨hi, h⟩ := ix_of h
        refine g_bast (pc := 29) C (w' := cs_X7 J.2.2.1 a0 (upd t_bytes t_held.toNatClampNeg (vp_nar .byte ((n1 >>> (x2 &&& 31)).toInt8.toInt32))) t_held t_end t_at t_start t_faultKind t_faultPlace) 1 rfl hi dX7_put_29 rfl ?_
        refine g_aload_n (pc := 30) C 0 rfl dX7_put_30 ?_
        refine g_dup (pc := 31) C dX7_put_31 rfl ?_
        refine g_get (pc := 32) C FOK_X7 0 rfl rfl 1 (by decide) kw_124 rfl dX7_put_32 ?_
        refine g_iconst (pc := 35) C dX7_put_35 ci_1 ?_
        refine g_iadd (pc := 36) C dX7_put_36 ?_
        refine g_put (pc := 37) C (w' := cs_X7 J.2.2.1 a0 (upd t_bytes t_held.toNatClampNeg (vp_nar .byte ((n1 >>> (x2 &&& 31)).toInt8.toInt32))) (t_held + 1) t_end t_at t_start t_faultKind t_faultPlace) FOK_X7 0 rfl rfl 1 (by decide) kw_124 rfl rfl rfl (Nat.le_of_ble_eq_true rfl) dX7_put_37 rfl ?_
        refine g_iinc (pc := 40) C (j := 2) [(2, .int (x2 + (-8))), (0, .ref (a0 0)), (1, .int n1)] dX7_put_40 rfl (ii_m8 _) (by decide) rfl ?_
        refine g_goto (pc := 43) C (tgt := 3) dX7_put_43 rfl ?_
        refine g_lv [1, 2, 0] rfl ?_
        exact ih (x2 + (-8)) (upd t_bytes t_held.toNatClampNeg (vp_nar .byte ((n1 >>> (x2 &&& 31)).toInt8.toInt32))) (t_held + 1) h
set_option maxRecDepth 100000 in
set_option maxHeartbeats 4000000 in
theorem t_X7_put {J : Jt} {a0 : Nat → Nat} {t_bytes : Nat → Int32} {t_held : Int32} {t_end : Int32} {t_at : Int32} {t_start : Int32} {t_faultKind : Int32} {t_faultPlace : Int32} {n1 : Int32} {o_t_bytes : Nat → Int32} {o_t_held : Int32} (h : f_X7_put t_bytes t_held n1 = some (o_t_bytes, o_t_held)) : Mt J yX7_put cX7_put 3 none rm_X7_put [.ref (a0 0), .int n1] (cs_X7 J.2.2.1 a0 t_bytes t_held t_end t_at t_start t_faultKind t_faultPlace) none (cs_X7 J.2.2.1 a0 o_t_bytes o_t_held t_end t_at t_start t_faultKind t_faultPlace) := by
  refine Mt_of (own := RX7) (by decide) rfl (Nat.le_of_ble_eq_true rfl) rfl (fun Z C E => ?_)
  unfold f_X7_put at h
  show G J Z 0 0 (cs_X7 J.2.2.1 a0 t_bytes t_held t_end t_at t_start t_faultKind t_faultPlace) 3 [(0, .ref (a0 0)), (1, .int n1)] 0 []
  refine g_bipush (pc := 0) C dX7_put_0 cb_24 ?_
  refine g_istore_n (pc := 2) C [(2, .int 24), (0, .ref (a0 0)), (1, .int n1)] dX7_put_2 rfl (by decide) rfl ?_
  refine g_lv [1, 2, 0] rfl ?_
  exact j_X7_put_3 C E  FU 24 t_bytes t_held h
noncomputable def f_X7_open (t_end : Int32) (t_at : Int32) (t_start : Int32) (t_faultKind : Int32) (t_faultPlace : Int32) (n1 : Int32) : Option (Int32 × Int32 × Int32 × Int32 × Int32) := some (n1, 0, 0, 0, (-1))
def rm_X7_open : Room := { frames := 0, cells := 0, slots := 0, locals := 0 }
set_option maxRecDepth 100000 in
set_option maxHeartbeats 4000000 in
theorem t_X7_open {J : Jt} {a0 : Nat → Nat} {t_bytes : Nat → Int32} {t_held : Int32} {t_end : Int32} {t_at : Int32} {t_start : Int32} {t_faultKind : Int32} {t_faultPlace : Int32} {n1 : Int32} {o_t_end : Int32} {o_t_at : Int32} {o_t_start : Int32} {o_t_faultKind : Int32} {o_t_faultPlace : Int32} (h : f_X7_open t_end t_at t_start t_faultKind t_faultPlace n1 = some (o_t_end, o_t_at, o_t_start, o_t_faultKind, o_t_faultPlace)) : Mt J yX7_open cX7_open 2 none rm_X7_open [.ref (a0 0), .int n1] (cs_X7 J.2.2.1 a0 t_bytes t_held t_end t_at t_start t_faultKind t_faultPlace) none (cs_X7 J.2.2.1 a0 t_bytes t_held o_t_end o_t_at o_t_start o_t_faultKind o_t_faultPlace) := by
  refine Mt_of (own := RX7) (by decide) rfl (Nat.le_of_ble_eq_true rfl) rfl (fun Z C E => ?_)
  unfold f_X7_open at h
  show G J Z 0 0 (cs_X7 J.2.2.1 a0 t_bytes t_held t_end t_at t_start t_faultKind t_faultPlace) 2 [(0, .ref (a0 0)), (1, .int n1)] 0 []
  refine g_aload_n (pc := 0) C 0 rfl dX7_open_0 ?_
  refine g_iload_n (pc := 1) C 1 rfl dX7_open_1 ?_
  refine g_put (pc := 2) C (w' := cs_X7 J.2.2.1 a0 t_bytes t_held n1 t_at t_start t_faultKind t_faultPlace) FOK_X7 0 rfl rfl 2 (by decide) kw_126 rfl rfl rfl (Nat.le_of_ble_eq_true rfl) dX7_open_2 rfl ?_
  refine g_aload_n (pc := 5) C 0 rfl dX7_open_5 ?_
  refine g_iconst (pc := 6) C dX7_open_6 ci_0 ?_
  refine g_put (pc := 7) C (w' := cs_X7 J.2.2.1 a0 t_bytes t_held n1 0 t_start t_faultKind t_faultPlace) FOK_X7 0 rfl rfl 3 (by decide) kw_127 rfl rfl rfl (Nat.le_of_ble_eq_true rfl) dX7_open_7 rfl ?_
  refine g_aload_n (pc := 10) C 0 rfl dX7_open_10 ?_
  refine g_iconst (pc := 11) C dX7_open_11 ci_0 ?_
  refine g_put (pc := 12) C (w' := cs_X7 J.2.2.1 a0 t_bytes t_held n1 0 0 t_faultKind t_faultPlace) FOK_X7 0 rfl rfl 4 (by decide) kw_128 rfl rfl rfl (Nat.le_of_ble_eq_true rfl) dX7_open_12 rfl ?_
  refine g_aload_n (pc := 15) C 0 rfl dX7_open_15 ?_
  refine g_iconst (pc := 16) C dX7_open_16 ci_0 ?_
  refine g_put (pc := 17) C (w' := cs_X7 J.2.2.1 a0 t_bytes t_held n1 0 0 0 t_faultPlace) FOK_X7 0 rfl rfl 5 (by decide) kw_129 rfl rfl rfl (Nat.le_of_ble_eq_true rfl) dX7_open_17 rfl ?_
  refine g_aload_n (pc := 20) C 0 rfl dX7_open_20 ?_
  refine g_iconst (pc := 21) C dX7_open_21 ci_m1 ?_
  refine g_put (pc := 22) C (w' := cs_X7 J.2.2.1 a0 t_bytes t_held n1 0 0 0 (-1)) FOK_X7 0 rfl rfl 6 (by decide) kw_130 rfl rfl rfl (Nat.le_of_ble_eq_true rfl) dX7_open_22 rfl ?_
  cases h
  exact g_vret C E dX7_open_25
noncomputable def f_X7_empty (t_held : Int32) : Option (Int32) := some 0
def rm_X7_empty : Room := { frames := 0, cells := 0, slots := 0, locals := 0 }
set_option maxRecDepth 100000 in
set_option maxHeartbeats 4000000 in
theorem t_X7_empty {J : Jt} {a0 : Nat → Nat} {t_bytes : Nat → Int32} {t_held : Int32} {t_end : Int32} {t_at : Int32} {t_start : Int32} {t_faultKind : Int32} {t_faultPlace : Int32} {o_t_held : Int32} (h : f_X7_empty t_held = some o_t_held) : Mt J yX7_empty cX7_empty 1 none rm_X7_empty [.ref (a0 0)] (cs_X7 J.2.2.1 a0 t_bytes t_held t_end t_at t_start t_faultKind t_faultPlace) none (cs_X7 J.2.2.1 a0 t_bytes o_t_held t_end t_at t_start t_faultKind t_faultPlace) := by
  refine Mt_of (own := RX7) (by decide) rfl (Nat.le_of_ble_eq_true rfl) rfl (fun Z C E => ?_)
  unfold f_X7_empty at h
  show G J Z 0 0 (cs_X7 J.2.2.1 a0 t_bytes t_held t_end t_at t_start t_faultKind t_faultPlace) 1 [(0, .ref (a0 0))] 0 []
  refine g_aload_n (pc := 0) C 0 rfl dX7_empty_0 ?_
  refine g_iconst (pc := 1) C dX7_empty_1 ci_0 ?_
  refine g_put (pc := 2) C (w' := cs_X7 J.2.2.1 a0 t_bytes 0 t_end t_at t_start t_faultKind t_faultPlace) FOK_X7 0 rfl rfl 1 (by decide) kw_124 rfl rfl rfl (Nat.le_of_ble_eq_true rfl) dX7_empty_2 rfl ?_
  cases h
  exact g_vret C E dX7_empty_5
noncomputable def f_X7_isSound (t_faultKind : Int32) : Option (Int32) := if t_faultKind = 0 then some 1 else some 0
def rm_X7_isSound : Room := { frames := 0, cells := 0, slots := 0, locals := 0 }
set_option maxRecDepth 100000 in
set_option maxHeartbeats 4000000 in
theorem t_X7_isSound {J : Jt} {a0 : Nat → Nat} {t_bytes : Nat → Int32} {t_held : Int32} {t_end : Int32} {t_at : Int32} {t_start : Int32} {t_faultKind : Int32} {t_faultPlace : Int32} {r : Int32} (h : f_X7_isSound t_faultKind = some r) : Mt J yX7_isSound cX7_isSound 1 (some .boolean) rm_X7_isSound [.ref (a0 0)] (cs_X7 J.2.2.1 a0 t_bytes t_held t_end t_at t_start t_faultKind t_faultPlace) (some (.int r)) (cs_X7 J.2.2.1 a0 t_bytes t_held t_end t_at t_start t_faultKind t_faultPlace) := by
  refine Mt_of (own := RX7) (by decide) rfl (Nat.le_of_ble_eq_true rfl) rfl (fun Z C E => ?_)
  unfold f_X7_isSound at h
  show G J Z 0 0 (cs_X7 J.2.2.1 a0 t_bytes t_held t_end t_at t_start t_faultKind t_faultPlace) 1 [(0, .ref (a0 0))] 0 []
  refine g_aload_n (pc := 0) C 0 rfl dX7_isSound_0 ?_
  refine g_get (pc := 1) C FOK_X7 0 rfl rfl 5 (by decide) kw_129 rfl dX7_isSound_1 ?_
  refine g_if_ne (pc := 4) C (tgt := 11) dX7_isSound_4 rfl h (fun h => ?_) (fun h => ?_)
  · refine g_iconst (pc := 11) C dX7_isSound_11 ci_0 ?_
    cases h
    exact g_zret C rfl E dX7_isSound_12
  · refine g_iconst (pc := 7) C dX7_isSound_7 ci_1 ?_
    refine g_goto (pc := 8) C (tgt := 12) dX7_isSound_8 rfl ?_
    cases h
    exact g_zret C rfl E dX7_isSound_12
noncomputable def f_X7_answer (t_faultKind : Int32) : Option (Int32) := some (t_faultKind - 10)
def rm_X7_answer : Room := { frames := 0, cells := 0, slots := 0, locals := 0 }
set_option maxRecDepth 100000 in
set_option maxHeartbeats 4000000 in
theorem t_X7_answer {J : Jt} {a0 : Nat → Nat} {t_bytes : Nat → Int32} {t_held : Int32} {t_end : Int32} {t_at : Int32} {t_start : Int32} {t_faultKind : Int32} {t_faultPlace : Int32} {r : Int32} (h : f_X7_answer t_faultKind = some r) : Mt J yX7_answer cX7_answer 1 (some .int) rm_X7_answer [.ref (a0 0)] (cs_X7 J.2.2.1 a0 t_bytes t_held t_end t_at t_start t_faultKind t_faultPlace) (some (.int r)) (cs_X7 J.2.2.1 a0 t_bytes t_held t_end t_at t_start t_faultKind t_faultPlace) := by
  refine Mt_of (own := RX7) (by decide) rfl (Nat.le_of_ble_eq_true rfl) rfl (fun Z C E => ?_)
  unfold f_X7_answer at h
  show G J Z 0 0 (cs_X7 J.2.2.1 a0 t_bytes t_held t_end t_at t_start t_faultKind t_faultPlace) 1 [(0, .ref (a0 0))] 0 []
  refine g_aload_n (pc := 0) C 0 rfl dX7_answer_0 ?_
  refine g_get (pc := 1) C FOK_X7 0 rfl rfl 5 (by decide) kw_129 rfl dX7_answer_1 ?_
  refine g_bipush (pc := 4) C dX7_answer_4 cb_10 ?_
  refine g_isub (pc := 6) C dX7_answer_6 ?_
  cases h
  exact g_iret C E dX7_answer_7
noncomputable def f_X8_add (w_kind : Nat → Int32) (w_first : Nat → Int32) (w_second : Nat → Int32) (w_length : Int32) (n1 : Int32) (n2 : Int32) (n3 : Int32) : Option ((Nat → Int32) × (Nat → Int32) × (Nat → Int32) × Int32) := if 150 ≤ w_length then some (w_kind, w_first, w_second, w_length) else if ixb w_length 150 then if ixb w_length 150 then if ixb w_length 150 then some (upd w_kind w_length.toNatClampNeg n1, upd w_first w_length.toNatClampNeg n2, upd w_second w_length.toNatClampNeg n3, w_length + 1) else none else none else none
def rm_X8_add : Room := { frames := 0, cells := 0, slots := 0, locals := 0 }
set_option maxRecDepth 100000 in
set_option maxHeartbeats 4000000 in
theorem t_X8_add {J : Jt} {a0 : Nat → Nat} {w_kind : Nat → Int32} {w_first : Nat → Int32} {w_second : Nat → Int32} {w_rounds : Nat → Int32} {w_length : Int32} {w_begun : Int32} {w_refused : Int32} {n1 : Int32} {n2 : Int32} {n3 : Int32} {o_w_kind : Nat → Int32} {o_w_first : Nat → Int32} {o_w_second : Nat → Int32} {o_w_length : Int32} (h : f_X8_add w_kind w_first w_second w_length n1 n2 n3 = some (o_w_kind, o_w_first, o_w_second, o_w_length)) : Mt J yX8_add cX8_add 4 none rm_X8_add [.ref (a0 0), .int n1, .int n2, .int n3] (cs_X8 J.2.2.1 a0 w_kind w_first w_second w_rounds w_length w_begun w_refused) none (cs_X8 J.2.2.1 a0 o_w_kind o_w_first o_w_second w_rounds o_w_length w_begun w_refused) := by
  refine Mt_of (own := RX8) (by decide) rfl (Nat.le_of_ble_eq_true rfl) rfl (fun Z C E => ?_)
  unfold f_X8_add at h
  show G J Z 0 0 (cs_X8 J.2.2.1 a0 w_kind w_first w_second w_rounds w_length w_begun w_refused) 4 [(0, .ref (a0 0)), (1, .int n1), (2, .int n2), (3, .int n3)] 0 []
  refine g_aload_n (pc := 0) C 0 rfl dX8_add_0 ?_
  refine g_get (pc := 1) C FOK_X8 0 rfl rfl 4 (by decide) kw_213 rfl dX8_add_1 ?_
  refine g_sipush (pc := 4) C dX8_add_4 cs_150 ?_
  refine g_icmp_ge (pc := 7) C (tgt := 50) dX8_add_7 rfl h (fun h => ?_) (fun h => ?_)
  · cases h
    exact g_vret C E dX8_add_50
  · refine g_aload_n (pc := 10) C 0 rfl dX8_add_10 ?_
    refine g_get (pc := 11) C FOK_X8 0 rfl rfl 0 (by decide) kw_209 rfl dX8_add_11 ?_
    refine g_aload_n (pc := 14) C 0 rfl dX8_add_14 ?_
    refine g_get (pc := 15) C FOK_X8 0 rfl rfl 4 (by decide) kw_213 rfl dX8_add_15 ?_
    refine g_iload_n (pc := 18) C 1 rfl dX8_add_18 ?_
    obtain ⟨hi, h⟩ := ix_of h
    refine g_iast (pc := 19) C (w' := cs_X8 J.2.2.1 a0 (upd w_kind w_length.toNatClampNeg n1) w_first w_second w_rounds w_length w_begun w_refused) 1 rfl hi dX8_add_19 rfl ?_
    refine g_aload_n (pc := 20) C 0 rfl dX8_add_20 ?_
    refine g_get (pc := 21) C FOK_X8 0 rfl rfl 1 (by decide) kw_210 rfl dX8_add_21 ?_
    refine g_aload_n (pc := 24) C 0 rfl dX8_add_24 ?_
    refine g_get (pc := 25) C FOK_X8 0 rfl rfl 4 (by decide) kw_213 rfl dX8_add_25 ?_
    refine g_iload_n (pc := 28) C 2 rfl dX8_add_28 ?_
    obtain ⟨hi, h⟩ := ix_of h
    refine g_iast (pc := 29) C (w' := cs_X8 J.2.2.1 a0 (upd w_kind w_length.toNatClampNeg n1) (upd w_first w_length.toNatClampNeg n2) w_second w_rounds w_length w_begun w_refused) 2 rfl hi dX8_add_29 rfl ?_
    refine g_aload_n (pc := 30) C 0 rfl dX8_add_30 ?_
    refine g_get (pc := 31) C FOK_X8 0 rfl rfl 2 (by decide) kw_211 rfl dX8_add_31 ?_
    refine g_aload_n (pc := 34) C 0 rfl dX8_add_34 ?_
    refine g_get (pc := 35) C FOK_X8 0 rfl rfl 4 (by decide) kw_213 rfl dX8_add_35 ?_
    refine g_iload_n (pc := 38) C 3 rfl dX8_add_38 ?_
    obtain ⟨hi, h⟩ := ix_of h
    refine g_iast (pc := 39) C (w' := cs_X8 J.2.2.1 a0 (upd w_kind w_length.toNatClampNeg n1) (upd w_first w_length.toNatClampNeg n2) (upd w_second w_length.toNatClampNeg n3) w_rounds w_length w_begun w_refused) 3 rfl hi dX8_add_39 rfl ?_
    refine g_aload_n (pc := 40) C 0 rfl dX8_add_40 ?_
    refine g_dup (pc := 41) C dX8_add_41 rfl ?_
    refine g_get (pc := 42) C FOK_X8 0 rfl rfl 4 (by decide) kw_213 rfl dX8_add_42 ?_
    refine g_iconst (pc := 45) C dX8_add_45 ci_1 ?_
    refine g_iadd (pc := 46) C dX8_add_46 ?_
    refine g_put (pc := 47) C (w' := cs_X8 J.2.2.1 a0 (upd w_kind w_length.toNatClampNeg n1) (upd w_first w_length.toNatClampNeg n2) (upd w_second w_length.toNatClampNeg n3) w_rounds (w_length + 1) w_begun w_refused) FOK_X8 0 rfl rfl 4 (by decide) kw_213 rfl rfl rfl (Nat.le_of_ble_eq_true rfl) dX8_add_47 rfl ?_
    cases h
    exact g_vret C E dX8_add_50
noncomputable def f_X8_readStep (w_kind : Nat → Int32) (w_first : Nat → Int32) (w_second : Nat → Int32) (w_length : Int32) (t_bytes : Nat → Int32) (t_end : Int32) (t_at : Int32) (t_start : Int32) (t_faultKind : Int32) (t_faultPlace : Int32) (p_beds : Int32) (p_letters : Int32) (p_readers : Int32) (n1 : Int32) : Option ((Nat → Int32) × (Nat → Int32) × (Nat → Int32) × Int32 × Int32 × Int32 × Int32 × Int32) := b3 (f_X7_takes_ t_bytes t_end t_at t_start t_faultKind 12) (fun v1 c2 c3 => if v1 = 0 then b3 (f_X7_takes_ t_bytes t_end c2 c3 t_faultKind 13) (fun v4 c5 c6 => if v4 = 0 then b3 (f_X7_takes_ t_bytes t_end c5 c6 t_faultKind 14) (fun v7 c8 c9 => if v7 = 0 then b3 (f_X7_takes_ t_bytes t_end c8 c9 t_faultKind 15) (fun v10 c11 c12 => if v10 = 0 then b3 (f_X7_takes_ t_bytes t_end c11 c12 t_faultKind 16) (fun v13 c14 c15 => if v13 = 0 then b3 (f_X7_takes_ t_bytes t_end c14 c15 t_faultKind 17) (fun v16 c17 c18 => if v16 = 0 then b3 (f_X7_takes_ t_bytes t_end c17 c18 t_faultKind 18) (fun v19 c20 c21 => if v19 = 0 then b2 (f_X7_blame c21 t_faultKind t_faultPlace 1) (fun c22 c23 => some (w_kind, w_first, w_second, w_length, c20, c21, c22, c23)) else b8 (f_X8_readAgain w_kind w_first w_second w_length t_bytes t_end c20 c21 t_faultKind t_faultPlace p_beds p_letters p_readers n1) (fun c24 c25 c26 c27 c28 c29 c30 c31 => some (c24, c25, c26, c27, c28, c29, c30, c31))) else b4 (f_X8_add w_kind w_first w_second w_length 5 0 0) (fun c32 c33 c34 c35 => some (c32, c33, c34, c35, c17, c18, t_faultKind, t_faultPlace))) else b5 (f_X7_number t_bytes t_end c14 c15 t_faultKind t_faultPlace 0 (p_beds - 1)) (fun v36 c37 c38 c39 c40 => b4 (f_X8_add w_kind w_first w_second w_length 4 v36 0) (fun c41 c42 c43 c44 => some (c41, c42, c43, c44, c37, c38, c39, c40)))) else b5 (f_X7_number t_bytes t_end c11 c12 t_faultKind t_faultPlace 0 (p_readers - 1)) (fun v45 c46 c47 c48 c49 => b5 (f_X7_number t_bytes t_end c46 c47 c48 c49 0 (p_beds - 1)) (fun v50 c51 c52 c53 c54 => b4 (f_X8_add w_kind w_first w_second w_length 3 v45 v50) (fun c55 c56 c57 c58 => some (c55, c56, c57, c58, c51, c52, c53, c54))))) else b5 (f_X7_number t_bytes t_end c8 c9 t_faultKind t_faultPlace 0 (p_letters - 1)) (fun v59 c60 c61 c62 c63 => b4 (f_X8_add w_kind w_first w_second w_length 2 v59 0) (fun c64 c65 c66 c67 => some (c64, c65, c66, c67, c60, c61, c62, c63)))) else b5 (f_X7_number t_bytes t_end c5 c6 t_faultKind t_faultPlace 1 20) (fun v68 c69 c70 c71 c72 => b4 (f_X8_add w_kind w_first w_second w_length 1 v68 0) (fun c73 c74 c75 c76 => some (c73, c74, c75, c76, c69, c70, c71, c72)))) else b5 (f_X7_number t_bytes t_end c2 c3 t_faultKind t_faultPlace 1 30) (fun v77 c78 c79 c80 c81 => b4 (f_X8_add w_kind w_first w_second w_length 0 v77 0) (fun c82 c83 c84 c85 => some (c82, c83, c84, c85, c78, c79, c80, c81))))
def rm_X8_readStep : Room := { frames := 10, cells := 0, slots := 0, locals := 1023 }
set_option maxRecDepth 100000 in
set_option maxHeartbeats 4000000 in
theorem t_X8_readStep {J : Jt} {a0 : Nat → Nat} {a1 : Nat → Nat} {a2 : Nat → Nat} {w_kind : Nat → Int32} {w_first : Nat → Int32} {w_second : Nat → Int32} {w_rounds : Nat → Int32} {w_length : Int32} {w_begun : Int32} {w_refused : Int32} {t_bytes : Nat → Int32} {t_held : Int32} {t_end : Int32} {t_at : Int32} {t_start : Int32} {t_faultKind : Int32} {t_faultPlace : Int32} {p_beds : Int32} {p_letters : Int32} {p_readers : Int32} {p_far : Nat → Int32} {p_drain : Nat → Int32} {p_length : Nat → Int32} {p_words : Nat → Int32} {p_home : Nat → Int32} {n1 : Int32} {o_w_kind : Nat → Int32} {o_w_first : Nat → Int32} {o_w_second : Nat → Int32} {o_w_length : Int32} {o_t_at : Int32} {o_t_start : Int32} {o_t_faultKind : Int32} {o_t_faultPlace : Int32} (h : f_X8_readStep w_kind w_first w_second w_length t_bytes t_end t_at t_start t_faultKind t_faultPlace p_beds p_letters p_readers n1 = some (o_w_kind, o_w_first, o_w_second, o_w_length, o_t_at, o_t_start, o_t_faultKind, o_t_faultPlace)) : Mt J yX8_readStep cX8_readStep 5 none rm_X8_readStep [.ref (a0 0), .ref (a1 0), .ref (a2 0), .int n1] (cs_X8 J.2.2.1 a0 w_kind w_first w_second w_rounds w_length w_begun w_refused ++ cs_X7 J.2.2.1 a1 t_bytes t_held t_end t_at t_start t_faultKind t_faultPlace ++ cs_X2 J.2.2.1 a2 p_beds p_letters p_readers p_far p_drain p_length p_words p_home) none (cs_X8 J.2.2.1 a0 o_w_kind o_w_first o_w_second w_rounds o_w_length w_begun w_refused ++ cs_X7 J.2.2.1 a1 t_bytes t_held t_end o_t_at o_t_start o_t_faultKind o_t_faultPlace ++ cs_X2 J.2.2.1 a2 p_beds p_letters p_readers p_far p_drain p_length p_words p_home) := by
  refine Mt_of (own := RX8) (by decide) rfl (Nat.le_of_ble_eq_true rfl) rfl (fun Z C E => ?_)
  unfold f_X8_readStep at h
  show G J Z 0 0 (cs_X8 J.2.2.1 a0 w_kind w_first w_second w_rounds w_length w_begun w_refused ++ cs_X7 J.2.2.1 a1 t_bytes t_held t_end t_at t_start t_faultKind t_faultPlace ++ cs_X2 J.2.2.1 a2 p_beds p_letters p_readers p_far p_drain p_length p_words p_home) 5 [(0, .ref (a0 0)), (1, .ref (a1 0)), (2, .ref (a2 0)), (3, .int n1)] 0 []
  refine g_aload_n (pc := 0) C 1 rfl dX8_readStep_0 ?_
  refine g_ldcS (pc := 1) C (i := 12) rfl dX8_readStep_1 ?_
  obtain ⟨v1, c2, c3, hc, h⟩ := b3_of h
  refine g_callV (pc := 3) C (w' := cs_X8 J.2.2.1 a0 w_kind w_first w_second w_rounds w_length w_begun w_refused ++ cs_X7 J.2.2.1 a1 t_bytes t_held t_end c2 c3 t_faultKind t_faultPlace ++ cs_X2 J.2.2.1 a2 p_beds p_letters p_readers p_far p_drain p_length p_words p_home) (As := [.ref (J.2.2.2.1 12)]) (st := []) (ci := 7) (q0 := 5) rfl rfl (t_X7_takes_ hc) (Sub.gen [5, 6] [0, 1, 2, 3, 4, 7, 8, 9, 10, 11, 12] [0, 1, 2, 3, 4, 11, 12, 5, 6, 7, 8, 9, 10] rfl (by decide) rfl (by decide) (by decide) rfl (by decide)) kw_824 kw_633 kw_634 kw_87 hy_X7_takes_ kw_635 rfl (Nat.le_of_ble_eq_true rfl) (Nat.le_of_ble_eq_true rfl) (Nat.le_of_ble_eq_true rfl) (Nat.le_of_ble_eq_true rfl) (Nat.le_of_ble_eq_true rfl) dX8_readStep_3 ?_
  refine g_if_eq (pc := 6) C (tgt := 25) dX8_readStep_6 rfl h (fun h => ?_) (fun h => ?_)
  · refine g_aload_n (pc := 25) C 1 rfl dX8_readStep_25 ?_
    refine g_ldcS (pc := 26) C (i := 13) rfl dX8_readStep_26 ?_
    obtain ⟨v4, c5, c6, hc, h⟩ := b3_of h
    refine g_callV (pc := 28) C (w' := cs_X8 J.2.2.1 a0 w_kind w_first w_second w_rounds w_length w_begun w_refused ++ cs_X7 J.2.2.1 a1 t_bytes t_held t_end c5 c6 t_faultKind t_faultPlace ++ cs_X2 J.2.2.1 a2 p_beds p_letters p_readers p_far p_drain p_length p_words p_home) (As := [.ref (J.2.2.2.1 13)]) (st := []) (ci := 7) (q0 := 5) rfl rfl (t_X7_takes_ hc) (Sub.gen [5, 6] [0, 1, 2, 3, 4, 7, 8, 9, 10, 11, 12] [0, 1, 2, 3, 4, 11, 12, 5, 6, 7, 8, 9, 10] rfl (by decide) rfl (by decide) (by decide) rfl (by decide)) kw_824 kw_633 kw_634 kw_87 hy_X7_takes_ kw_635 rfl (Nat.le_of_ble_eq_true rfl) (Nat.le_of_ble_eq_true rfl) (Nat.le_of_ble_eq_true rfl) (Nat.le_of_ble_eq_true rfl) (Nat.le_of_ble_eq_true rfl) dX8_readStep_28 ?_
    refine g_if_eq (pc := 31) C (tgt := 50) dX8_readStep_31 rfl h (fun h => ?_) (fun h => ?_)
    · refine g_aload_n (pc := 50) C 1 rfl dX8_readStep_50 ?_
      refine g_ldcS (pc := 51) C (i := 14) rfl dX8_readStep_51 ?_
      obtain ⟨v7, c8, c9, hc, h⟩ := b3_of h
      refine g_callV (pc := 53) C (w' := cs_X8 J.2.2.1 a0 w_kind w_first w_second w_rounds w_length w_begun w_refused ++ cs_X7 J.2.2.1 a1 t_bytes t_held t_end c8 c9 t_faultKind t_faultPlace ++ cs_X2 J.2.2.1 a2 p_beds p_letters p_readers p_far p_drain p_length p_words p_home) (As := [.ref (J.2.2.2.1 14)]) (st := []) (ci := 7) (q0 := 5) rfl rfl (t_X7_takes_ hc) (Sub.gen [5, 6] [0, 1, 2, 3, 4, 7, 8, 9, 10, 11, 12] [0, 1, 2, 3, 4, 11, 12, 5, 6, 7, 8, 9, 10] rfl (by decide) rfl (by decide) (by decide) rfl (by decide)) kw_824 kw_633 kw_634 kw_87 hy_X7_takes_ kw_635 rfl (Nat.le_of_ble_eq_true rfl) (Nat.le_of_ble_eq_true rfl) (Nat.le_of_ble_eq_true rfl) (Nat.le_of_ble_eq_true rfl) (Nat.le_of_ble_eq_true rfl) dX8_readStep_53 ?_
      refine g_if_eq (pc := 56) C (tgt := 79) dX8_readStep_56 rfl h (fun h => ?_) (fun h => ?_)
      · refine g_aload_n (pc := 79) C 1 rfl dX8_readStep_79 ?_
        refine g_ldcS (pc := 80) C (i := 15) rfl dX8_readStep_80 ?_
        obtain ⟨v10, c11, c12, hc, h⟩ := b3_of h
        refine g_callV (pc := 82) C (w' := cs_X8 J.2.2.1 a0 w_kind w_first w_second w_rounds w_length w_begun w_refused ++ cs_X7 J.2.2.1 a1 t_bytes t_held t_end c11 c12 t_faultKind t_faultPlace ++ cs_X2 J.2.2.1 a2 p_beds p_letters p_readers p_far p_drain p_length p_words p_home) (As := [.ref (J.2.2.2.1 15)]) (st := []) (ci := 7) (q0 := 5) rfl rfl (t_X7_takes_ hc) (Sub.gen [5, 6] [0, 1, 2, 3, 4, 7, 8, 9, 10, 11, 12] [0, 1, 2, 3, 4, 11, 12, 5, 6, 7, 8, 9, 10] rfl (by decide) rfl (by decide) (by decide) rfl (by decide)) kw_824 kw_633 kw_634 kw_87 hy_X7_takes_ kw_635 rfl (Nat.le_of_ble_eq_true rfl) (Nat.le_of_ble_eq_true rfl) (Nat.le_of_ble_eq_true rfl) (Nat.le_of_ble_eq_true rfl) (Nat.le_of_ble_eq_true rfl) dX8_readStep_82 ?_
        refine g_if_eq (pc := 85) C (tgt := 122) dX8_readStep_85 rfl h (fun h => ?_) (fun h => ?_)
        · refine g_aload_n (pc := 122) C 1 rfl dX8_readStep_122 ?_
          refine g_ldcS (pc := 123) C (i := 16) rfl dX8_readStep_123 ?_
          obtain ⟨v13, c14, c15, hc, h⟩ := b3_of h
          refine g_callV (pc := 125) C (w' := cs_X8 J.2.2.1 a0 w_kind w_first w_second w_rounds w_length w_begun w_refused ++ cs_X7 J.2.2.1 a1 t_bytes t_held t_end c14 c15 t_faultKind t_faultPlace ++ cs_X2 J.2.2.1 a2 p_beds p_letters p_readers p_far p_drain p_length p_words p_home) (As := [.ref (J.2.2.2.1 16)]) (st := []) (ci := 7) (q0 := 5) rfl rfl (t_X7_takes_ hc) (Sub.gen [5, 6] [0, 1, 2, 3, 4, 7, 8, 9, 10, 11, 12] [0, 1, 2, 3, 4, 11, 12, 5, 6, 7, 8, 9, 10] rfl (by decide) rfl (by decide) (by decide) rfl (by decide)) kw_824 kw_633 kw_634 kw_87 hy_X7_takes_ kw_635 rfl (Nat.le_of_ble_eq_true rfl) (Nat.le_of_ble_eq_true rfl) (Nat.le_of_ble_eq_true rfl) (Nat.le_of_ble_eq_true rfl) (Nat.le_of_ble_eq_true rfl) dX8_readStep_125 ?_
          refine g_if_eq (pc := 128) C (tgt := 151) dX8_readStep_128 rfl h (fun h => ?_) (fun h => ?_)
          · refine g_aload_n (pc := 151) C 1 rfl dX8_readStep_151 ?_
            refine g_ldcS (pc := 152) C (i := 17) rfl dX8_readStep_152 ?_
            obtain ⟨v16, c17, c18, hc, h⟩ := b3_of h
            refine g_callV (pc := 154) C (w' := cs_X8 J.2.2.1 a0 w_kind w_first w_second w_rounds w_length w_begun w_refused ++ cs_X7 J.2.2.1 a1 t_bytes t_held t_end c17 c18 t_faultKind t_faultPlace ++ cs_X2 J.2.2.1 a2 p_beds p_letters p_readers p_far p_drain p_length p_words p_home) (As := [.ref (J.2.2.2.1 17)]) (st := []) (ci := 7) (q0 := 5) rfl rfl (t_X7_takes_ hc) (Sub.gen [5, 6] [0, 1, 2, 3, 4, 7, 8, 9, 10, 11, 12] [0, 1, 2, 3, 4, 11, 12, 5, 6, 7, 8, 9, 10] rfl (by decide) rfl (by decide) (by decide) rfl (by decide)) kw_824 kw_633 kw_634 kw_87 hy_X7_takes_ kw_635 rfl (Nat.le_of_ble_eq_true rfl) (Nat.le_of_ble_eq_true rfl) (Nat.le_of_ble_eq_true rfl) (Nat.le_of_ble_eq_true rfl) (Nat.le_of_ble_eq_true rfl) dX8_readStep_154 ?_
            refine g_if_eq (pc := 157) C (tgt := 170) dX8_readStep_157 rfl h (fun h => ?_) (fun h => ?_)
            · refine g_aload_n (pc := 170) C 1 rfl dX8_readStep_170 ?_
              refine g_ldcS (pc := 171) C (i := 18) rfl dX8_readStep_171 ?_
              obtain ⟨v19, c20, c21, hc, h⟩ := b3_of h
              refine g_callV (pc := 173) C (w' := cs_X8 J.2.2.1 a0 w_kind w_first w_second w_rounds w_length w_begun w_refused ++ cs_X7 J.2.2.1 a1 t_bytes t_held t_end c20 c21 t_faultKind t_faultPlace ++ cs_X2 J.2.2.1 a2 p_beds p_letters p_readers p_far p_drain p_length p_words p_home) (As := [.ref (J.2.2.2.1 18)]) (st := []) (ci := 7) (q0 := 5) rfl rfl (t_X7_takes_ hc) (Sub.gen [5, 6] [0, 1, 2, 3, 4, 7, 8, 9, 10, 11, 12] [0, 1, 2, 3, 4, 11, 12, 5, 6, 7, 8, 9, 10] rfl (by decide) rfl (by decide) (by decide) rfl (by decide)) kw_824 kw_633 kw_634 kw_87 hy_X7_takes_ kw_635 rfl (Nat.le_of_ble_eq_true rfl) (Nat.le_of_ble_eq_true rfl) (Nat.le_of_ble_eq_true rfl) (Nat.le_of_ble_eq_true rfl) (Nat.le_of_ble_eq_true rfl) dX8_readStep_173 ?_
              refine g_if_eq (pc := 176) C (tgt := 189) dX8_readStep_176 rfl h (fun h => ?_) (fun h => ?_)
              · refine g_aload_n (pc := 189) C 1 rfl dX8_readStep_189 ?_
                refine g_iconst (pc := 190) C dX8_readStep_190 ci_1 ?_
                obtain ⟨c22, c23, hc, h⟩ := b2_of h
                refine g_callV (pc := 191) C (w' := cs_X8 J.2.2.1 a0 w_kind w_first w_second w_rounds w_length w_begun w_refused ++ cs_X7 J.2.2.1 a1 t_bytes t_held t_end c20 c21 c22 c23 ++ cs_X2 J.2.2.1 a2 p_beds p_letters p_readers p_far p_drain p_length p_words p_home) (As := [.int 1]) (st := []) (ci := 7) (q0 := 5) rfl rfl (t_X7_blame hc) (Sub.gen [5, 6] [0, 1, 2, 3, 4, 7, 8, 9, 10, 11, 12] [0, 1, 2, 3, 4, 11, 12, 5, 6, 7, 8, 9, 10] rfl (by decide) rfl (by decide) (by decide) rfl (by decide)) kw_840 kw_696 kw_697 kw_87 hy_X7_blame kw_698 rfl (Nat.le_of_ble_eq_true rfl) (Nat.le_of_ble_eq_true rfl) (Nat.le_of_ble_eq_true rfl) (Nat.le_of_ble_eq_true rfl) (Nat.le_of_ble_eq_true rfl) dX8_readStep_191 ?_
                cases h
                exact g_vret C E dX8_readStep_194
              · refine g_aload_n (pc := 179) C 0 rfl dX8_readStep_179 ?_
                refine g_aload_n (pc := 180) C 1 rfl dX8_readStep_180 ?_
                refine g_aload_n (pc := 181) C 2 rfl dX8_readStep_181 ?_
                refine g_iload_n (pc := 182) C 3 rfl dX8_readStep_182 ?_
                obtain ⟨c24, c25, c26, c27, c28, c29, c30, c31, hc, h⟩ := b8_of h
                refine g_callV (pc := 183) C (w' := cs_X8 J.2.2.1 a0 c24 c25 c26 w_rounds c27 w_begun w_refused ++ cs_X7 J.2.2.1 a1 t_bytes t_held t_end c28 c29 c30 c31 ++ cs_X2 J.2.2.1 a2 p_beds p_letters p_readers p_far p_drain p_length p_words p_home) (As := [.ref (a1 0), .ref (a2 0), .int n1]) (st := []) (ci := 8) (q0 := 0) rfl rfl (t_X8_readAgain hc) Sub.same kw_836 kw_838 kw_11 kw_89 hy_X8_readAgain kw_839 rfl (Nat.le_of_ble_eq_true rfl) (Nat.le_of_ble_eq_true rfl) (Nat.le_of_ble_eq_true rfl) (Nat.le_of_ble_eq_true rfl) (Nat.le_of_ble_eq_true rfl) dX8_readStep_183 ?_
                refine g_goto (pc := 186) C (tgt := 194) dX8_readStep_186 rfl ?_
                cases h
                exact g_vret C E dX8_readStep_194
            · refine g_aload_n (pc := 160) C 0 rfl dX8_readStep_160 ?_
              refine g_iconst (pc := 161) C dX8_readStep_161 ci_5 ?_
              refine g_iconst (pc := 162) C dX8_readStep_162 ci_0 ?_
              refine g_iconst (pc := 163) C dX8_readStep_163 ci_0 ?_
              obtain ⟨c32, c33, c34, c35, hc, h⟩ := b4_of h
              refine g_callV (pc := 164) C (w' := cs_X8 J.2.2.1 a0 c32 c33 c34 w_rounds c35 w_begun w_refused ++ cs_X7 J.2.2.1 a1 t_bytes t_held t_end c17 c18 t_faultKind t_faultPlace ++ cs_X2 J.2.2.1 a2 p_beds p_letters p_readers p_far p_drain p_length p_words p_home) (As := [.int 5, .int 0, .int 0]) (st := []) (ci := 8) (q0 := 0) rfl rfl (t_X8_add hc) (Sub.gen [0, 1, 2, 3, 4] [5, 6, 7, 8, 9, 10, 11, 12] [8, 9, 10, 11, 12, 0, 1, 2, 3, 4, 5, 6, 7] rfl (by decide) rfl (by decide) (by decide) rfl (by decide)) kw_826 kw_827 kw_828 kw_89 hy_X8_add kw_829 rfl (Nat.le_of_ble_eq_true rfl) (Nat.le_of_ble_eq_true rfl) (Nat.le_of_ble_eq_true rfl) (Nat.le_of_ble_eq_true rfl) (Nat.le_of_ble_eq_true rfl) dX8_readStep_164 ?_
              refine g_goto (pc := 167) C (tgt := 194) dX8_readStep_167 rfl ?_
              cases h
              exact g_vret C E dX8_readStep_194
          · refine g_aload_n (pc := 131) C 0 rfl dX8_readStep_131 ?_
            refine g_iconst (pc := 132) C dX8_readStep_132 ci_4 ?_
            refine g_aload_n (pc := 133) C 1 rfl dX8_readStep_133 ?_
            refine g_iconst (pc := 134) C dX8_readStep_134 ci_0 ?_
            refine g_aload_n (pc := 135) C 2 rfl dX8_readStep_135 ?_
            refine g_get (pc := 136) C FOK_X2 7 rfl rfl 0 (by decide) kw_278 rfl dX8_readStep_136 ?_
            refine g_iconst (pc := 139) C dX8_readStep_139 ci_1 ?_
            refine g_isub (pc := 140) C dX8_readStep_140 ?_
            obtain ⟨v36, c37, c38, c39, c40, hc, h⟩ := b5_of h
            refine g_callV (pc := 141) C (w' := cs_X8 J.2.2.1 a0 w_kind w_first w_second w_rounds w_length w_begun w_refused ++ cs_X7 J.2.2.1 a1 t_bytes t_held t_end c37 c38 c39 c40 ++ cs_X2 J.2.2.1 a2 p_beds p_letters p_readers p_far p_drain p_length p_words p_home) (As := [.int 0, .int (p_beds - 1)]) (st := [.int 4, .ref (a0 0)]) (ci := 7) (q0 := 5) rfl rfl (t_X7_number hc) (Sub.gen [5, 6] [0, 1, 2, 3, 4, 7, 8, 9, 10, 11, 12] [0, 1, 2, 3, 4, 11, 12, 5, 6, 7, 8, 9, 10] rfl (by decide) rfl (by decide) (by decide) rfl (by decide)) kw_825 kw_700 kw_701 kw_87 hy_X7_number kw_702 rfl (Nat.le_of_ble_eq_true rfl) (Nat.le_of_ble_eq_true rfl) (Nat.le_of_ble_eq_true rfl) (Nat.le_of_ble_eq_true rfl) (Nat.le_of_ble_eq_true rfl) dX8_readStep_141 ?_
            refine g_iconst (pc := 144) C dX8_readStep_144 ci_0 ?_
            obtain ⟨c41, c42, c43, c44, hc, h⟩ := b4_of h
            refine g_callV (pc := 145) C (w' := cs_X8 J.2.2.1 a0 c41 c42 c43 w_rounds c44 w_begun w_refused ++ cs_X7 J.2.2.1 a1 t_bytes t_held t_end c37 c38 c39 c40 ++ cs_X2 J.2.2.1 a2 p_beds p_letters p_readers p_far p_drain p_length p_words p_home) (As := [.int 4, .int v36, .int 0]) (st := []) (ci := 8) (q0 := 0) rfl rfl (t_X8_add hc) (Sub.gen [0, 1, 2, 3, 4] [5, 6, 7, 8, 9, 10, 11, 12] [8, 9, 10, 11, 12, 0, 1, 2, 3, 4, 5, 6, 7] rfl (by decide) rfl (by decide) (by decide) rfl (by decide)) kw_826 kw_827 kw_828 kw_89 hy_X8_add kw_829 rfl (Nat.le_of_ble_eq_true rfl) (Nat.le_of_ble_eq_true rfl) (Nat.le_of_ble_eq_true rfl) (Nat.le_of_ble_eq_true rfl) (Nat.le_of_ble_eq_true rfl) dX8_readStep_145 ?_
            refine g_goto (pc := 148) C (tgt := 194) dX8_readStep_148 rfl ?_
            cases h
            exact g_vret C E dX8_readStep_194
        · refine g_aload_n (pc := 88) C 1 rfl dX8_readStep_88 ?_
          refine g_iconst (pc := 89) C dX8_readStep_89 ci_0 ?_
          refine g_aload_n (pc := 90) C 2 rfl dX8_readStep_90 ?_
          refine g_get (pc := 91) C FOK_X2 7 rfl rfl 2 (by decide) kw_288 rfl dX8_readStep_91 ?_
          refine g_iconst (pc := 94) C dX8_readStep_94 ci_1 ?_
          refine g_isub (pc := 95) C dX8_readStep_95 ?_
          obtain ⟨v45, c46, c47, c48, c49, hc, h⟩ := b5_of h
          refine g_callV (pc := 96) C (w' := cs_X8 J.2.2.1 a0 w_kind w_first w_second w_rounds w_length w_begun w_refused ++ cs_X7 J.2.2.1 a1 t_bytes t_held t_end c46 c47 c48 c49 ++ cs_X2 J.2.2.1 a2 p_beds p_letters p_readers p_far p_drain p_length p_words p_home) (As := [.int 0, .int (p_readers - 1)]) (st := []) (ci := 7) (q0 := 5) rfl rfl (t_X7_number hc) (Sub.gen [5, 6] [0, 1, 2, 3, 4, 7, 8, 9, 10, 11, 12] [0, 1, 2, 3, 4, 11, 12, 5, 6, 7, 8, 9, 10] rfl (by decide) rfl (by decide) (by decide) rfl (by decide)) kw_825 kw_700 kw_701 kw_87 hy_X7_number kw_702 rfl (Nat.le_of_ble_eq_true rfl) (Nat.le_of_ble_eq_true rfl) (Nat.le_of_ble_eq_true rfl) (Nat.le_of_ble_eq_true rfl) (Nat.le_of_ble_eq_true rfl) dX8_readStep_96 ?_
          refine g_istore (pc := 99) C [(4, .int v45), (0, .ref (a0 0)), (1, .ref (a1 0)), (2, .ref (a2 0)), (3, .int n1)] dX8_readStep_99 (by decide) rfl ?_
          refine g_aload_n (pc := 101) C 1 rfl dX8_readStep_101 ?_
          refine g_iconst (pc := 102) C dX8_readStep_102 ci_3 ?_
          refine g_iload (pc := 103) C 0 rfl dX8_readStep_103 ?_
          refine g_aload_n (pc := 105) C 2 rfl dX8_readStep_105 ?_
          refine g_iconst (pc := 106) C dX8_readStep_106 ci_0 ?_
          refine g_aload_n (pc := 107) C 3 rfl dX8_readStep_107 ?_
          refine g_get (pc := 108) C FOK_X2 7 rfl rfl 0 (by decide) kw_278 rfl dX8_readStep_108 ?_
          refine g_iconst (pc := 111) C dX8_readStep_111 ci_1 ?_
          refine g_isub (pc := 112) C dX8_readStep_112 ?_
          obtain ⟨v50, c51, c52, c53, c54, hc, h⟩ := b5_of h
          refine g_callV (pc := 113) C (w' := cs_X8 J.2.2.1 a0 w_kind w_first w_second w_rounds w_length w_begun w_refused ++ cs_X7 J.2.2.1 a1 t_bytes t_held t_end c51 c52 c53 c54 ++ cs_X2 J.2.2.1 a2 p_beds p_letters p_readers p_far p_drain p_length p_words p_home) (As := [.int 0, .int (p_beds - 1)]) (st := [.int v45, .int 3, .ref (a0 0)]) (ci := 7) (q0 := 5) rfl rfl (t_X7_number hc) (Sub.gen [5, 6] [0, 1, 2, 3, 4, 7, 8, 9, 10, 11, 12] [0, 1, 2, 3, 4, 11, 12, 5, 6, 7, 8, 9, 10] rfl (by decide) rfl (by decide) (by decide) rfl (by decide)) kw_825 kw_700 kw_701 kw_87 hy_X7_number kw_702 rfl (Nat.le_of_ble_eq_true rfl) (Nat.le_of_ble_eq_true rfl) (Nat.le_of_ble_eq_true rfl) (Nat.le_of_ble_eq_true rfl) (Nat.le_of_ble_eq_true rfl) dX8_readStep_113 ?_
          obtain ⟨c55, c56, c57, c58, hc, h⟩ := b4_of h
          refine g_callV (pc := 116) C (w' := cs_X8 J.2.2.1 a0 c55 c56 c57 w_rounds c58 w_begun w_refused ++ cs_X7 J.2.2.1 a1 t_bytes t_held t_end c51 c52 c53 c54 ++ cs_X2 J.2.2.1 a2 p_beds p_letters p_readers p_far p_drain p_length p_words p_home) (As := [.int 3, .int v45, .int v50]) (st := []) (ci := 8) (q0 := 0) rfl rfl (t_X8_add hc) (Sub.gen [0, 1, 2, 3, 4] [5, 6, 7, 8, 9, 10, 11, 12] [8, 9, 10, 11, 12, 0, 1, 2, 3, 4, 5, 6, 7] rfl (by decide) rfl (by decide) (by decide) rfl (by decide)) kw_826 kw_827 kw_828 kw_89 hy_X8_add kw_829 rfl (Nat.le_of_ble_eq_true rfl) (Nat.le_of_ble_eq_true rfl) (Nat.le_of_ble_eq_true rfl) (Nat.le_of_ble_eq_true rfl) (Nat.le_of_ble_eq_true rfl) dX8_readStep_116 ?_
          refine g_goto (pc := 119) C (tgt := 194) dX8_readStep_119 rfl ?_
          cases h
          exact g_vret C E dX8_readStep_194
      · refine g_aload_n (pc := 59) C 0 rfl dX8_readStep_59 ?_
        refine g_iconst (pc := 60) C dX8_readStep_60 ci_2 ?_
        refine g_aload_n (pc := 61) C 1 rfl dX8_readStep_61 ?_
        refine g_iconst (pc := 62) C dX8_readStep_62 ci_0 ?_
        refine g_aload_n (pc := 63) C 2 rfl dX8_readStep_63 ?_
        refine g_get (pc := 64) C FOK_X2 7 rfl rfl 1 (by decide) kw_284 rfl dX8_readStep_64 ?_
        refine g_iconst (pc := 67) C dX8_readStep_67 ci_1 ?_
        refine g_isub (pc := 68) C dX8_readStep_68 ?_
        obtain ⟨v59, c60, c61, c62, c63, hc, h⟩ := b5_of h
        refine g_callV (pc := 69) C (w' := cs_X8 J.2.2.1 a0 w_kind w_first w_second w_rounds w_length w_begun w_refused ++ cs_X7 J.2.2.1 a1 t_bytes t_held t_end c60 c61 c62 c63 ++ cs_X2 J.2.2.1 a2 p_beds p_letters p_readers p_far p_drain p_length p_words p_home) (As := [.int 0, .int (p_letters - 1)]) (st := [.int 2, .ref (a0 0)]) (ci := 7) (q0 := 5) rfl rfl (t_X7_number hc) (Sub.gen [5, 6] [0, 1, 2, 3, 4, 7, 8, 9, 10, 11, 12] [0, 1, 2, 3, 4, 11, 12, 5, 6, 7, 8, 9, 10] rfl (by decide) rfl (by decide) (by decide) rfl (by decide)) kw_825 kw_700 kw_701 kw_87 hy_X7_number kw_702 rfl (Nat.le_of_ble_eq_true rfl) (Nat.le_of_ble_eq_true rfl) (Nat.le_of_ble_eq_true rfl) (Nat.le_of_ble_eq_true rfl) (Nat.le_of_ble_eq_true rfl) dX8_readStep_69 ?_
        refine g_iconst (pc := 72) C dX8_readStep_72 ci_0 ?_
        obtain ⟨c64, c65, c66, c67, hc, h⟩ := b4_of h
        refine g_callV (pc := 73) C (w' := cs_X8 J.2.2.1 a0 c64 c65 c66 w_rounds c67 w_begun w_refused ++ cs_X7 J.2.2.1 a1 t_bytes t_held t_end c60 c61 c62 c63 ++ cs_X2 J.2.2.1 a2 p_beds p_letters p_readers p_far p_drain p_length p_words p_home) (As := [.int 2, .int v59, .int 0]) (st := []) (ci := 8) (q0 := 0) rfl rfl (t_X8_add hc) (Sub.gen [0, 1, 2, 3, 4] [5, 6, 7, 8, 9, 10, 11, 12] [8, 9, 10, 11, 12, 0, 1, 2, 3, 4, 5, 6, 7] rfl (by decide) rfl (by decide) (by decide) rfl (by decide)) kw_826 kw_827 kw_828 kw_89 hy_X8_add kw_829 rfl (Nat.le_of_ble_eq_true rfl) (Nat.le_of_ble_eq_true rfl) (Nat.le_of_ble_eq_true rfl) (Nat.le_of_ble_eq_true rfl) (Nat.le_of_ble_eq_true rfl) dX8_readStep_73 ?_
        refine g_goto (pc := 76) C (tgt := 194) dX8_readStep_76 rfl ?_
        cases h
        exact g_vret C E dX8_readStep_194
    · refine g_aload_n (pc := 34) C 0 rfl dX8_readStep_34 ?_
      refine g_iconst (pc := 35) C dX8_readStep_35 ci_1 ?_
      refine g_aload_n (pc := 36) C 1 rfl dX8_readStep_36 ?_
      refine g_iconst (pc := 37) C dX8_readStep_37 ci_1 ?_
      refine g_bipush (pc := 38) C dX8_readStep_38 cb_20 ?_
      obtain ⟨v68, c69, c70, c71, c72, hc, h⟩ := b5_of h
      refine g_callV (pc := 40) C (w' := cs_X8 J.2.2.1 a0 w_kind w_first w_second w_rounds w_length w_begun w_refused ++ cs_X7 J.2.2.1 a1 t_bytes t_held t_end c69 c70 c71 c72 ++ cs_X2 J.2.2.1 a2 p_beds p_letters p_readers p_far p_drain p_length p_words p_home) (As := [.int 1, .int 20]) (st := [.int 1, .ref (a0 0)]) (ci := 7) (q0 := 5) rfl rfl (t_X7_number hc) (Sub.gen [5, 6] [0, 1, 2, 3, 4, 7, 8, 9, 10, 11, 12] [0, 1, 2, 3, 4, 11, 12, 5, 6, 7, 8, 9, 10] rfl (by decide) rfl (by decide) (by decide) rfl (by decide)) kw_825 kw_700 kw_701 kw_87 hy_X7_number kw_702 rfl (Nat.le_of_ble_eq_true rfl) (Nat.le_of_ble_eq_true rfl) (Nat.le_of_ble_eq_true rfl) (Nat.le_of_ble_eq_true rfl) (Nat.le_of_ble_eq_true rfl) dX8_readStep_40 ?_
      refine g_iconst (pc := 43) C dX8_readStep_43 ci_0 ?_
      obtain ⟨c73, c74, c75, c76, hc, h⟩ := b4_of h
      refine g_callV (pc := 44) C (w' := cs_X8 J.2.2.1 a0 c73 c74 c75 w_rounds c76 w_begun w_refused ++ cs_X7 J.2.2.1 a1 t_bytes t_held t_end c69 c70 c71 c72 ++ cs_X2 J.2.2.1 a2 p_beds p_letters p_readers p_far p_drain p_length p_words p_home) (As := [.int 1, .int v68, .int 0]) (st := []) (ci := 8) (q0 := 0) rfl rfl (t_X8_add hc) (Sub.gen [0, 1, 2, 3, 4] [5, 6, 7, 8, 9, 10, 11, 12] [8, 9, 10, 11, 12, 0, 1, 2, 3, 4, 5, 6, 7] rfl (by decide) rfl (by decide) (by decide) rfl (by decide)) kw_826 kw_827 kw_828 kw_89 hy_X8_add kw_829 rfl (Nat.le_of_ble_eq_true rfl) (Nat.le_of_ble_eq_true rfl) (Nat.le_of_ble_eq_true rfl) (Nat.le_of_ble_eq_true rfl) (Nat.le_of_ble_eq_true rfl) dX8_readStep_44 ?_
      refine g_goto (pc := 47) C (tgt := 194) dX8_readStep_47 rfl ?_
      cases h
      exact g_vret C E dX8_readStep_194
  · refine g_aload_n (pc := 9) C 0 rfl dX8_readStep_9 ?_
    refine g_iconst (pc := 10) C dX8_readStep_10 ci_0 ?_
    refine g_aload_n (pc := 11) C 1 rfl dX8_readStep_11 ?_
    refine g_iconst (pc := 12) C dX8_readStep_12 ci_1 ?_
    refine g_bipush (pc := 13) C dX8_readStep_13 cb_30 ?_
    obtain ⟨v77, c78, c79, c80, c81, hc, h⟩ := b5_of h
    refine g_callV (pc := 15) C (w' := cs_X8 J.2.2.1 a0 w_kind w_first w_second w_rounds w_length w_begun w_refused ++ cs_X7 J.2.2.1 a1 t_bytes t_held t_end c78 c79 c80 c81 ++ cs_X2 J.2.2.1 a2 p_beds p_letters p_readers p_far p_drain p_length p_words p_home) (As := [.int 1, .int 30]) (st := [.int 0, .ref (a0 0)]) (ci := 7) (q0 := 5) rfl rfl (t_X7_number hc) (Sub.gen [5, 6] [0, 1, 2, 3, 4, 7, 8, 9, 10, 11, 12] [0, 1, 2, 3, 4, 11, 12, 5, 6, 7, 8, 9, 10] rfl (by decide) rfl (by decide) (by decide) rfl (by decide)) kw_825 kw_700 kw_701 kw_87 hy_X7_number kw_702 rfl (Nat.le_of_ble_eq_true rfl) (Nat.le_of_ble_eq_true rfl) (Nat.le_of_ble_eq_true rfl) (Nat.le_of_ble_eq_true rfl) (Nat.le_of_ble_eq_true rfl) dX8_readStep_15 ?_
    refine g_iconst (pc := 18) C dX8_readStep_18 ci_0 ?_
    obtain ⟨c82, c83, c84, c85, hc, h⟩ := b4_of h
    refine g_callV (pc := 19) C (w' := cs_X8 J.2.2.1 a0 c82 c83 c84 w_rounds c85 w_begun w_refused ++ cs_X7 J.2.2.1 a1 t_bytes t_held t_end c78 c79 c80 c81 ++ cs_X2 J.2.2.1 a2 p_beds p_letters p_readers p_far p_drain p_length p_words p_home) (As := [.int 0, .int v77, .int 0]) (st := []) (ci := 8) (q0 := 0) rfl rfl (t_X8_add hc) (Sub.gen [0, 1, 2, 3, 4] [5, 6, 7, 8, 9, 10, 11, 12] [8, 9, 10, 11, 12, 0, 1, 2, 3, 4, 5, 6, 7] rfl (by decide) rfl (by decide) (by decide) rfl (by decide)) kw_826 kw_827 kw_828 kw_89 hy_X8_add kw_829 rfl (Nat.le_of_ble_eq_true rfl) (Nat.le_of_ble_eq_true rfl) (Nat.le_of_ble_eq_true rfl) (Nat.le_of_ble_eq_true rfl) (Nat.le_of_ble_eq_true rfl) dX8_readStep_19 ?_
    refine g_goto (pc := 22) C (tgt := 194) dX8_readStep_22 rfl ?_
    cases h
    exact g_vret C E dX8_readStep_194
noncomputable def f_X8_readSteps_3 (t_bytes : Nat → Int32) (t_end : Int32) (p_beds : Int32) (p_letters : Int32) (p_readers : Int32) (n1 : Int32) : Nat → Int32 → (Nat → Int32) → (Nat → Int32) → (Nat → Int32) → Int32 → Int32 → Int32 → Int32 → Int32 → Option ((Nat → Int32) × (Nat → Int32) × (Nat → Int32) × Int32 × Int32 × Int32 × Int32 × Int32)
  | 0, _, _, _, _, _, _, _, _, _ => none
  | n + 1, x4, w_kind, w_first, w_second, w_length, t_at, t_start, t_faultKind, t_faultPlace => if 150 ≤ x4 then some (w_kind, w_first, w_second, w_length, t_at, t_start, t_faultKind, t_faultPlace) else b3 (f_X7_isAtEnd t_bytes t_end t_at t_start t_faultKind) (fun v1 c2 c3 => if v1 = 0 then b3 (f_X7_peek t_bytes t_end c2 c3 t_faultKind) (fun v4 c5 c6 => if v4 = 93 then some (w_kind, w_first, w_second, w_length, c5, c6, t_faultKind, t_faultPlace) else b8 (f_X8_readStep w_kind w_first w_second w_length t_bytes t_end c5 c6 t_faultKind t_faultPlace p_beds p_letters p_readers n1) (fun c7 c8 c9 c10 c11 c12 c13 c14 => b4 (f_X7_need t_bytes t_end c11 c12 c13 c14 59) (fun c15 c16 c17 c18 => f_X8_readSteps_3 t_bytes t_end p_beds p_letters p_readers n1 n (x4 + 1) c7 c8 c9 c10 c15 c16 c17 c18))) else some (w_kind, w_first, w_second, w_length, c2, c3, t_faultKind, t_faultPlace))
noncomputable def f_X8_readSteps (w_kind : Nat → Int32) (w_first : Nat → Int32) (w_second : Nat → Int32) (w_length : Int32) (t_bytes : Nat → Int32) (t_end : Int32) (t_at : Int32) (t_start : Int32) (t_faultKind : Int32) (t_faultPlace : Int32) (p_beds : Int32) (p_letters : Int32) (p_readers : Int32) (n1 : Int32) : Option ((Nat → Int32) × (Nat → Int32) × (Nat → Int32) × Int32 × Int32 × Int32 × Int32 × Int32) := f_X8_readSteps_3 t_bytes t_end p_beds p_letters p_readers n1 FU 0 w_kind w_first w_second w_length t_at t_start t_faultKind t_faultPlace
def rm_X8_readSteps : Room := { frames := 11, cells := 0, slots := 0, locals := 1047 }
set_option maxRecDepth 100000 in
set_option maxHeartbeats 4000000 in
theorem j_X8_readSteps_3 {J : Jt} {Z : Zt} {a0 : Nat → Nat} {a1 : Nat → Nat} {a2 : Nat → Nat} {w_rounds : Nat → Int32} {w_begun : Int32} {w_refused : Int32} {t_bytes : Nat → Int32} {t_held : Int32} {t_end : Int32} {p_beds : Int32} {p_letters : Int32} {p_readers : Int32} {p_far : Nat → Int32} {p_drain : Nat → Int32} {p_length : Nat → Int32} {p_words : Nat → Int32} {p_home : Nat → Int32} {n1 : Int32} {o_w_kind : Nat → Int32} {o_w_first : Nat → Int32} {o_w_second : Nat → Int32} {o_w_length : Int32} {o_t_at : Int32} {o_t_start : Int32} {o_t_faultKind : Int32} {o_t_faultPlace : Int32} (C : Cx J Z cX8_readSteps 5 RX8 none rm_X8_readSteps) (E : Ez J Z 0 0 none (cs_X8 J.2.2.1 a0 o_w_kind o_w_first o_w_second w_rounds o_w_length w_begun w_refused ++ cs_X7 J.2.2.1 a1 t_bytes t_held t_end o_t_at o_t_start o_t_faultKind o_t_faultPlace ++ cs_X2 J.2.2.1 a2 p_beds p_letters p_readers p_far p_drain p_length p_words p_home)) : ∀ (n : Nat) (x4 : Int32) (w_kind : Nat → Int32) (w_first : Nat → Int32) (w_second : Nat → Int32) (w_length : Int32) (t_at : Int32) (t_start : Int32) (t_faultKind : Int32) (t_faultPlace : Int32), f_X8_readSteps_3 t_bytes t_end p_beds p_letters p_readers n1 n x4 w_kind w_first w_second w_length t_at t_start t_faultKind t_faultPlace = some (o_w_kind, o_w_first, o_w_second, o_w_length, o_t_at, o_t_start, o_t_faultKind, o_t_faultPlace) → G J Z 0 0 (cs_X8 J.2.2.1 a0 w_kind w_first w_second w_rounds w_length w_begun w_refused ++ cs_X7 J.2.2.1 a1 t_bytes t_held t_end t_at t_start t_faultKind t_faultPlace ++ cs_X2 J.2.2.1 a2 p_beds p_letters p_readers p_far p_drain p_length p_words p_home) 5 [(0, .ref (a0 0)), (1, .ref (a1 0)), (2, .ref (a2 0)), (3, .int n1), (4, .int x4)] 3 [] := by
  intro n
  induction n with
  | zero =>
    intro x4 w_kind w_first w_second w_length t_at t_start t_faultKind t_faultPlace h
    rw [f_X8_readSteps_3] at h
    cases h
  | succ n ih =>
    intro x4 w_kind w_first w_second w_length t_at t_start t_faultKind t_faultPlace h
    rw [f_X8_readSteps_3] at h
    refine g_iload (pc := 3) C 4 rfl dX8_readSteps_3 ?_
    refine g_sipush (pc := 5) C dX8_readSteps_5 cs_150 ?_
    refine g_icmp_ge (pc := 8) C (tgt := 46) dX8_readSteps_8 rfl h (fun h => ?_) (fun h => ?_)
    · cases h
      exact g_vret C E dX8_readSteps_46
    · refine g_aload_n (pc := 11) C 1 rfl dX8_readSteps_11 ?_
      obtain ⟨v1, c2, c3, hc, h⟩ := b3_of h
      refine g_callV (pc := 12) C (w' := cs_X8 J.2.2.1 a0 w_kind w_first w_second w_rounds w_length w_begun w_refused ++ cs_X7 J.2.2.1 a1 t_bytes t_held t_end c2 c3 t_faultKind t_faultPlace ++ cs_X2 J.2.2.1 a2 p_beds p_letters p_readers p_far p_drain p_length p_words p_home) (As := []) (st := []) (ci := 7) (q0 := 5) rfl rfl (t_X7_isAtEnd hc) (Sub.gen [5, 6] [0, 1, 2, 3, 4, 7, 8, 9, 10, 11, 12] [0, 1, 2, 3, 4, 11, 12, 5, 6, 7, 8, 9, 10] rfl (by decide) rfl (by decide) (by decide) rfl (by decide)) kw_817 kw_620 kw_621 kw_87 hy_X7_isAtEnd kw_622 rfl (Nat.le_of_ble_eq_true rfl) (Nat.le_of_ble_eq_true rfl) (Nat.le_of_ble_eq_true rfl) (Nat.le_of_ble_eq_true rfl) (Nat.le_of_ble_eq_true rfl) dX8_readSteps_12 ?_
      refine g_if_ne (pc := 15) C (tgt := 46) dX8_readSteps_15 rfl h (fun h => ?_) (fun h => ?_)
      · cases h
        exact g_vret C E dX8_readSteps_46
      · refine g_aload_n (pc := 18) C 1 rfl dX8_readSteps_18 ?_
        obtain ⟨v4, c5, c6, hc, h⟩ := b3_of h
        refine g_callV (pc := 19) C (w' := cs_X8 J.2.2.1 a0 w_kind w_first w_second w_rounds w_length w_begun w_refused ++ cs_X7 J.2.2.1 a1 t_bytes t_held t_end c5 c6 t_faultKind t_faultPlace ++ cs_X2 J.2.2.1 a2 p_beds p_letters p_readers p_far p_drain p_length p_words p_home) (As := []) (st := []) (ci := 7) (q0 := 5) rfl rfl (t_X7_peek hc) (Sub.gen [5, 6] [0, 1, 2, 3, 4, 7, 8, 9, 10, 11, 12] [0, 1, 2, 3, 4, 11, 12, 5, 6, 7, 8, 9, 10] rfl (by decide) rfl (by decide) (by decide) rfl (by decide)) kw_818 kw_624 kw_625 kw_87 hy_X7_peek kw_626 rfl (Nat.le_of_ble_eq_true rfl) (Nat.le_of_ble_eq_true rfl) (Nat.le_of_ble_eq_true rfl) (Nat.le_of_ble_eq_true rfl) (Nat.le_of_ble_eq_true rfl) dX8_readSteps_19 ?_
        refine g_bipush (pc := 22) C dX8_readSteps_22 cb_93 ?_
        refine g_icmp_eq (pc := 24) C (tgt := 46) dX8_readSteps_24 rfl h (fun h => ?_) (fun h => ?_)
        · cases h
          exact g_vret C E dX8_readSteps_46
        · refine g_aload_n (pc := 27) C 0 rfl dX8_readSteps_27 ?_
          refine g_aload_n (pc := 28) C 1 rfl dX8_readSteps_28 ?_
          refine g_aload_n (pc := 29) C 2 rfl dX8_readSteps_29 ?_
          refine g_iload_n (pc := 30) C 3 rfl dX8_readSteps_30 ?_
          obtain ⟨c7, c8, c9, c10, c11, c12, c13, c14, hc, h⟩ := b8_of h
          refine g_callV (pc := 31) C (w' := cs_X8 J.2.2.1 a0 c7 c8 c9 w_rounds c10 w_begun w_refused ++ cs_X7 J.2.2.1 a1 t_bytes t_held t_end c11 c12 c13 c14 ++ cs_X2 J.2.2.1 a2 p_beds p_letters p_readers p_far p_drain p_length p_words p_home) (As := [.ref (a1 0), .ref (a2 0), .int n1]) (st := []) (ci := 8) (q0 := 0) rfl rfl (t_X8_readStep hc) Sub.same kw_819 kw_821 kw_10 kw_89 hy_X8_readStep kw_822 rfl (Nat.le_of_ble_eq_true rfl) (Nat.le_of_ble_eq_true rfl) (Nat.le_of_ble_eq_true rfl) (Nat.le_of_ble_eq_true rfl) (Nat.le_of_ble_eq_true rfl) dX8_readSteps_31 ?_
          refine g_aload_n (pc := 34) C 1 rfl dX8_readSteps_34 ?_
          refine g_bipush (pc := 35) C dX8_readSteps_35 cb_59 ?_
          obtain ⟨c15, c16, c17, c18, hc, h⟩ := b4_of h
          refine g_callV (pc := 37) C (w' := cs_X8 J.2.2.1 a0 c7 c8 c9 w_rounds c10 w_begun w_refused ++ cs_X7 J.2.2.1 a1 t_bytes t_held t_end c15 c16 c17 c18 ++ cs_X2 J.2.2.1 a2 p_beds p_letters p_readers p_far p_drain p_length p_words p_home) (As := [.int 59]) (st := []) (ci := 7) (q0 := 5) rfl rfl (t_X7_need hc) (Sub.gen [5, 6] [0, 1, 2, 3, 4, 7, 8, 9, 10, 11, 12] [0, 1, 2, 3, 4, 11, 12, 5, 6, 7, 8, 9, 10] rfl (by decide) rfl (by decide) (by decide) rfl (by decide)) kw_841 kw_723 kw_724 kw_87 hy_X7_need kw_725 rfl (Nat.le_of_ble_eq_true rfl) (Nat.le_of_ble_eq_true rfl) (Nat.le_of_ble_eq_true rfl) (Nat.le_of_ble_eq_true rfl) (Nat.le_of_ble_eq_true rfl) dX8_readSteps_37 ?_
          refine g_iinc (pc := 40) C (j := 4) [(4, .int (x4 + 1)), (0, .ref (a0 0)), (1, .ref (a1 0)), (2, .ref (a2 0)), (3, .int n1)] dX8_readSteps_40 rfl (ii_1 _) (by decide) rfl ?_
          refine g_goto (pc := 43) C (tgt := 3) dX8_readSteps_43 rfl ?_
          refine g_lv [1, 2, 3, 4, 0] rfl ?_
          exact ih (x4 + 1) c7 c8 c9 c10 c15 c16 c17 c18 h
set_option maxRecDepth 100000 in
set_option maxHeartbeats 4000000 in
theorem t_X8_readSteps {J : Jt} {a0 : Nat → Nat} {a1 : Nat → Nat} {a2 : Nat → Nat} {w_kind : Nat → Int32} {w_first : Nat → Int32} {w_second : Nat → Int32} {w_rounds : Nat → Int32} {w_length : Int32} {w_begun : Int32} {w_refused : Int32} {t_bytes : Nat → Int32} {t_held : Int32} {t_end : Int32} {t_at : Int32} {t_start : Int32} {t_faultKind : Int32} {t_faultPlace : Int32} {p_beds : Int32} {p_letters : Int32} {p_readers : Int32} {p_far : Nat → Int32} {p_drain : Nat → Int32} {p_length : Nat → Int32} {p_words : Nat → Int32} {p_home : Nat → Int32} {n1 : Int32} {o_w_kind : Nat → Int32} {o_w_first : Nat → Int32} {o_w_second : Nat → Int32} {o_w_length : Int32} {o_t_at : Int32} {o_t_start : Int32} {o_t_faultKind : Int32} {o_t_faultPlace : Int32} (h : f_X8_readSteps w_kind w_first w_second w_length t_bytes t_end t_at t_start t_faultKind t_faultPlace p_beds p_letters p_readers n1 = some (o_w_kind, o_w_first, o_w_second, o_w_length, o_t_at, o_t_start, o_t_faultKind, o_t_faultPlace)) : Mt J yX8_readSteps cX8_readSteps 5 none rm_X8_readSteps [.ref (a0 0), .ref (a1 0), .ref (a2 0), .int n1] (cs_X8 J.2.2.1 a0 w_kind w_first w_second w_rounds w_length w_begun w_refused ++ cs_X7 J.2.2.1 a1 t_bytes t_held t_end t_at t_start t_faultKind t_faultPlace ++ cs_X2 J.2.2.1 a2 p_beds p_letters p_readers p_far p_drain p_length p_words p_home) none (cs_X8 J.2.2.1 a0 o_w_kind o_w_first o_w_second w_rounds o_w_length w_begun w_refused ++ cs_X7 J.2.2.1 a1 t_bytes t_held t_end o_t_at o_t_start o_t_faultKind o_t_faultPlace ++ cs_X2 J.2.2.1 a2 p_beds p_letters p_readers p_far p_drain p_length p_words p_home) := by
  refine Mt_of (own := RX8) (by decide) rfl (Nat.le_of_ble_eq_true rfl) rfl (fun Z C E => ?_)
  unfold f_X8_readSteps at h
  show G J Z 0 0 (cs_X8 J.2.2.1 a0 w_kind w_first w_second w_rounds w_length w_begun w_refused ++ cs_X7 J.2.2.1 a1 t_bytes t_held t_end t_at t_start t_faultKind t_faultPlace ++ cs_X2 J.2.2.1 a2 p_beds p_letters p_readers p_far p_drain p_length p_words p_home) 5 [(0, .ref (a0 0)), (1, .ref (a1 0)), (2, .ref (a2 0)), (3, .int n1)] 0 []
  refine g_iconst (pc := 0) C dX8_readSteps_0 ci_0 ?_
  refine g_istore (pc := 1) C [(4, .int 0), (0, .ref (a0 0)), (1, .ref (a1 0)), (2, .ref (a2 0)), (3, .int n1)] dX8_readSteps_1 (by decide) rfl ?_
  refine g_lv [1, 2, 3, 4, 0] rfl ?_
  exact j_X8_readSteps_3 C E  FU 0 w_kind w_first w_second w_length t_at t_start t_faultKind t_faultPlace h
noncomputable def f_X8_read (w_kind : Nat → Int32) (w_first : Nat → Int32) (w_second : Nat → Int32) (w_length : Int32) (t_bytes : Nat → Int32) (t_end : Int32) (t_at : Int32) (t_start : Int32) (t_faultKind : Int32) (t_faultPlace : Int32) (p_beds : Int32) (p_letters : Int32) (p_readers : Int32) : Option ((Nat → Int32) × (Nat → Int32) × (Nat → Int32) × Int32 × Int32 × Int32 × Int32 × Int32) := b8 (f_X8_readSteps w_kind w_first w_second 0 t_bytes t_end t_at t_start t_faultKind t_faultPlace p_beds p_letters p_readers 0) (fun c1 c2 c3 c4 c5 c6 c7 c8 => b4 (f_X7_needEnd t_bytes t_end c5 c6 c7 c8) (fun c9 c10 c11 c12 => some (c1, c2, c3, c4, c9, c10, c11, c12)))
def rm_X8_read : Room := { frames := 12, cells := 0, slots := 0, locals := 1071 }
set_option maxRecDepth 100000 in
set_option maxHeartbeats 4000000 in
theorem t_X8_read {J : Jt} {a0 : Nat → Nat} {a1 : Nat → Nat} {a2 : Nat → Nat} {w_kind : Nat → Int32} {w_first : Nat → Int32} {w_second : Nat → Int32} {w_rounds : Nat → Int32} {w_length : Int32} {w_begun : Int32} {w_refused : Int32} {t_bytes : Nat → Int32} {t_held : Int32} {t_end : Int32} {t_at : Int32} {t_start : Int32} {t_faultKind : Int32} {t_faultPlace : Int32} {p_beds : Int32} {p_letters : Int32} {p_readers : Int32} {p_far : Nat → Int32} {p_drain : Nat → Int32} {p_length : Nat → Int32} {p_words : Nat → Int32} {p_home : Nat → Int32} {o_w_kind : Nat → Int32} {o_w_first : Nat → Int32} {o_w_second : Nat → Int32} {o_w_length : Int32} {o_t_at : Int32} {o_t_start : Int32} {o_t_faultKind : Int32} {o_t_faultPlace : Int32} (h : f_X8_read w_kind w_first w_second w_length t_bytes t_end t_at t_start t_faultKind t_faultPlace p_beds p_letters p_readers = some (o_w_kind, o_w_first, o_w_second, o_w_length, o_t_at, o_t_start, o_t_faultKind, o_t_faultPlace)) : Mt J yX8_read cX8_read 3 none rm_X8_read [.ref (a0 0), .ref (a1 0), .ref (a2 0)] (cs_X8 J.2.2.1 a0 w_kind w_first w_second w_rounds w_length w_begun w_refused ++ cs_X7 J.2.2.1 a1 t_bytes t_held t_end t_at t_start t_faultKind t_faultPlace ++ cs_X2 J.2.2.1 a2 p_beds p_letters p_readers p_far p_drain p_length p_words p_home) none (cs_X8 J.2.2.1 a0 o_w_kind o_w_first o_w_second w_rounds o_w_length w_begun w_refused ++ cs_X7 J.2.2.1 a1 t_bytes t_held t_end o_t_at o_t_start o_t_faultKind o_t_faultPlace ++ cs_X2 J.2.2.1 a2 p_beds p_letters p_readers p_far p_drain p_length p_words p_home) := by
  refine Mt_of (own := RX8) (by decide) rfl (Nat.le_of_ble_eq_true rfl) rfl (fun Z C E => ?_)
  unfold f_X8_read at h
  show G J Z 0 0 (cs_X8 J.2.2.1 a0 w_kind w_first w_second w_rounds w_length w_begun w_refused ++ cs_X7 J.2.2.1 a1 t_bytes t_held t_end t_at t_start t_faultKind t_faultPlace ++ cs_X2 J.2.2.1 a2 p_beds p_letters p_readers p_far p_drain p_length p_words p_home) 3 [(0, .ref (a0 0)), (1, .ref (a1 0)), (2, .ref (a2 0))] 0 []
  refine g_aload_n (pc := 0) C 0 rfl dX8_read_0 ?_
  refine g_iconst (pc := 1) C dX8_read_1 ci_0 ?_
  refine g_put (pc := 2) C (w' := cs_X8 J.2.2.1 a0 w_kind w_first w_second w_rounds 0 w_begun w_refused ++ cs_X7 J.2.2.1 a1 t_bytes t_held t_end t_at t_start t_faultKind t_faultPlace ++ cs_X2 J.2.2.1 a2 p_beds p_letters p_readers p_far p_drain p_length p_words p_home) FOK_X8 0 rfl rfl 4 (by decide) kw_213 rfl rfl rfl (Nat.le_of_ble_eq_true rfl) dX8_read_2 rfl ?_
  refine g_aload_n (pc := 5) C 0 rfl dX8_read_5 ?_
  refine g_aload_n (pc := 6) C 1 rfl dX8_read_6 ?_
  refine g_aload_n (pc := 7) C 2 rfl dX8_read_7 ?_
  refine g_iconst (pc := 8) C dX8_read_8 ci_0 ?_
  obtain ⟨c1, c2, c3, c4, c5, c6, c7, c8, hc, h⟩ := b8_of h
  refine g_callV (pc := 9) C (w' := cs_X8 J.2.2.1 a0 c1 c2 c3 w_rounds c4 w_begun w_refused ++ cs_X7 J.2.2.1 a1 t_bytes t_held t_end c5 c6 c7 c8 ++ cs_X2 J.2.2.1 a2 p_beds p_letters p_readers p_far p_drain p_length p_words p_home) (As := [.ref (a1 0), .ref (a2 0), .int 0]) (st := []) (ci := 8) (q0 := 0) rfl rfl (t_X8_readSteps hc) Sub.same kw_813 kw_815 kw_9 kw_89 hy_X8_readSteps kw_816 rfl (Nat.le_of_ble_eq_true rfl) (Nat.le_of_ble_eq_true rfl) (Nat.le_of_ble_eq_true rfl) (Nat.le_of_ble_eq_true rfl) (Nat.le_of_ble_eq_true rfl) dX8_read_9 ?_
  refine g_aload_n (pc := 12) C 1 rfl dX8_read_12 ?_
  obtain ⟨c9, c10, c11, c12, hc, h⟩ := b4_of h
  refine g_callV (pc := 13) C (w' := cs_X8 J.2.2.1 a0 c1 c2 c3 w_rounds c4 w_begun w_refused ++ cs_X7 J.2.2.1 a1 t_bytes t_held t_end c9 c10 c11 c12 ++ cs_X2 J.2.2.1 a2 p_beds p_letters p_readers p_far p_drain p_length p_words p_home) (As := []) (st := []) (ci := 7) (q0 := 5) rfl rfl (t_X7_needEnd hc) (Sub.gen [5, 6] [0, 1, 2, 3, 4, 7, 8, 9, 10, 11, 12] [0, 1, 2, 3, 4, 11, 12, 5, 6, 7, 8, 9, 10] rfl (by decide) rfl (by decide) (by decide) rfl (by decide)) kw_842 kw_798 kw_799 kw_87 hy_X7_needEnd kw_800 rfl (Nat.le_of_ble_eq_true rfl) (Nat.le_of_ble_eq_true rfl) (Nat.le_of_ble_eq_true rfl) (Nat.le_of_ble_eq_true rfl) (Nat.le_of_ble_eq_true rfl) dX8_read_13 ?_
  cases h
  exact g_vret C E dX8_read_16
noncomputable def f_X8_afterRound (w_first : Nat → Int32) (w_rounds : Nat → Int32) (n1 : Int32) : Option (Int32 × (Nat → Int32)) := if ixb n1 150 then if (w_first n1.toNatClampNeg) < 0 then some (n1 + 1, w_rounds) else if (w_first n1.toNatClampNeg) < 150 then if ixb (w_first n1.toNatClampNeg) 150 then if ixb (w_first n1.toNatClampNeg) 150 then if ixb (w_first n1.toNatClampNeg) 150 then if ((upd w_rounds (w_first n1.toNatClampNeg).toNatClampNeg ((w_rounds (w_first n1.toNatClampNeg).toNatClampNeg) - 1)) (w_first n1.toNatClampNeg).toNatClampNeg) ≤ 0 then some (n1 + 1, upd w_rounds (w_first n1.toNatClampNeg).toNatClampNeg ((w_rounds (w_first n1.toNatClampNeg).toNatClampNeg) - 1)) else some ((w_first n1.toNatClampNeg) + 1, upd w_rounds (w_first n1.toNatClampNeg).toNatClampNeg ((w_rounds (w_first n1.toNatClampNeg).toNatClampNeg) - 1)) else none else none else none else some (n1 + 1, w_rounds) else none
def rm_X8_afterRound : Room := { frames := 0, cells := 0, slots := 0, locals := 0 }
set_option maxRecDepth 100000 in
set_option maxHeartbeats 4000000 in
theorem t_X8_afterRound {J : Jt} {a0 : Nat → Nat} {w_kind : Nat → Int32} {w_first : Nat → Int32} {w_second : Nat → Int32} {w_rounds : Nat → Int32} {w_length : Int32} {w_begun : Int32} {w_refused : Int32} {n1 : Int32} {r : Int32} {o_w_rounds : Nat → Int32} (h : f_X8_afterRound w_first w_rounds n1 = some (r, o_w_rounds)) : Mt J yX8_afterRound cX8_afterRound 3 (some .int) rm_X8_afterRound [.ref (a0 0), .int n1] (cs_X8 J.2.2.1 a0 w_kind w_first w_second w_rounds w_length w_begun w_refused) (some (.int r)) (cs_X8 J.2.2.1 a0 w_kind w_first w_second o_w_rounds w_length w_begun w_refused) := by
  refine Mt_of (own := RX8) (by decide) rfl (Nat.le_of_ble_eq_true rfl) rfl (fun Z C E => ?_)
  unfold f_X8_afterRound at h
  show G J Z 0 0 (cs_X8 J.2.2.1 a0 w_kind w_first w_second w_rounds w_length w_begun w_refused) 3 [(0, .ref (a0 0)), (1, .int n1)] 0 []
  refine g_aload_n (pc := 0) C 0 rfl dX8_afterRound_0 ?_
  refine g_get (pc := 1) C FOK_X8 0 rfl rfl 1 (by decide) kw_210 rfl dX8_afterRound_1 ?_
  refine g_iload_n (pc := 4) C 1 rfl dX8_afterRound_4 ?_
  obtain ⟨hi, h⟩ := ix_of h
  refine g_iald (pc := 5) C 2 rfl hi dX8_afterRound_5 ?_
  refine g_istore_n (pc := 6) C [(2, .int (w_first n1.toNatClampNeg)), (0, .ref (a0 0)), (1, .int n1)] dX8_afterRound_6 rfl (by decide) rfl ?_
  refine g_iload_n (pc := 7) C 0 rfl dX8_afterRound_7 ?_
  refine g_if_lt (pc := 8) C (tgt := 18) dX8_afterRound_8 rfl h (fun h => ?_) (fun h => ?_)
  · refine g_iload_n (pc := 18) C 2 rfl dX8_afterRound_18 ?_
    refine g_iconst (pc := 19) C dX8_afterRound_19 ci_1 ?_
    refine g_iadd (pc := 20) C dX8_afterRound_20 ?_
    cases h
    exact g_iret C E dX8_afterRound_21
  · refine g_iload_n (pc := 11) C 0 rfl dX8_afterRound_11 ?_
    refine g_sipush (pc := 12) C dX8_afterRound_12 cs_150 ?_
    refine g_icmp_lt (pc := 15) C (tgt := 22) dX8_afterRound_15 rfl h (fun h => ?_) (fun h => ?_)
    · refine g_aload_n (pc := 22) C 1 rfl dX8_afterRound_22 ?_
      refine g_get (pc := 23) C FOK_X8 0 rfl rfl 3 (by decide) kw_212 rfl dX8_afterRound_23 ?_
      refine g_iload_n (pc := 26) C 0 rfl dX8_afterRound_26 ?_
      refine g_dup2 (pc := 27) C dX8_afterRound_27 rfl rfl ?_
      obtain ⟨hi, h⟩ := ix_of h
      refine g_iald (pc := 28) C 4 rfl hi dX8_afterRound_28 ?_
      refine g_iconst (pc := 29) C dX8_afterRound_29 ci_1 ?_
      refine g_isub (pc := 30) C dX8_afterRound_30 ?_
      obtain ⟨hi, h⟩ := ix_of h
      refine g_iast (pc := 31) C (w' := cs_X8 J.2.2.1 a0 w_kind w_first w_second (upd w_rounds (w_first n1.toNatClampNeg).toNatClampNeg ((w_rounds (w_first n1.toNatClampNeg).toNatClampNeg) - 1)) w_length w_begun w_refused) 4 rfl hi dX8_afterRound_31 rfl ?_
      refine g_aload_n (pc := 32) C 1 rfl dX8_afterRound_32 ?_
      refine g_get (pc := 33) C FOK_X8 0 rfl rfl 3 (by decide) kw_212 rfl dX8_afterRound_33 ?_
      refine g_iload_n (pc := 36) C 0 rfl dX8_afterRound_36 ?_
      obtain ⟨hi, h⟩ := ix_of h
      refine g_iald (pc := 37) C 4 rfl hi dX8_afterRound_37 ?_
      refine g_if_le (pc := 38) C (tgt := 47) dX8_afterRound_38 rfl h (fun h => ?_) (fun h => ?_)
      · refine g_iload_n (pc := 47) C 2 rfl dX8_afterRound_47 ?_
        refine g_iconst (pc := 48) C dX8_afterRound_48 ci_1 ?_
        refine g_iadd (pc := 49) C dX8_afterRound_49 ?_
        cases h
        exact g_iret C E dX8_afterRound_50
      · refine g_iload_n (pc := 41) C 0 rfl dX8_afterRound_41 ?_
        refine g_iconst (pc := 42) C dX8_afterRound_42 ci_1 ?_
        refine g_iadd (pc := 43) C dX8_afterRound_43 ?_
        refine g_goto (pc := 44) C (tgt := 50) dX8_afterRound_44 rfl ?_
        cases h
        exact g_iret C E dX8_afterRound_50
    · refine g_iload_n (pc := 18) C 2 rfl dX8_afterRound_18 ?_
      refine g_iconst (pc := 19) C dX8_afterRound_19 ci_1 ?_
      refine g_iadd (pc := 20) C dX8_afterRound_20 ?_
      cases h
      exact g_iret C E dX8_afterRound_21
noncomputable def f_X8_isDone (w_kind : Nat → Int32) (w_first : Nat → Int32) (w_second : Nat → Int32) (s_year : Int32) (s_wet : Int32) (s_lost : Int32) (s_eaten : Int32) (s_tied : Int32) (s_ripeMany : Int32) (s_gone : Nat → Int32) (s_place : Nat → Int32) (s_heard : Nat → Int32) (s_many : Nat → Int32) (s_lying : Nat → Int32) (s_ripe : Nat → Int32) (p_beds : Int32) (p_letters : Int32) (p_readers : Int32) (p_far : Nat → Int32) (p_drain : Nat → Int32) (p_length : Nat → Int32) (p_words : Nat → Int32) (l_code : Nat → Int32) (l_values : Nat → Int32) (l_stack : Nat → Int32) (l_length : Int32) (n1 : Int32) : Option (Int32 × Int32 × Int32 × Int32 × Int32 × Int32 × Int32 × (Nat → Int32) × (Nat → Int32) × (Nat → Int32) × (Nat → Int32) × (Nat → Int32) × (Nat → Int32) × (Nat → Int32) × (Nat → Int32)) := if ixb n1 150 then if (w_kind n1.toNatClampNeg) = 0 then if ixb n1 150 then b2 (f_X4_blow s_gone s_place s_heard p_letters p_readers p_far p_length p_words (w_first n1.toNatClampNeg)) (fun v1 c2 => if zok v1 then some (v1, s_year, s_wet, s_lost, s_eaten, s_tied, s_ripeMany, s_gone, s_place, c2, s_many, s_lying, s_ripe, l_values, l_stack) else none) else none else if (w_kind n1.toNatClampNeg) = 1 then if ixb n1 150 then b7 (f_X4_pour s_year s_wet s_lost s_tied s_gone s_many s_lying p_letters p_far p_drain p_length p_words l_code l_values l_stack l_length (w_first n1.toNatClampNeg)) (fun c3 c4 c5 c6 c7 c8 c9 => some (1, s_year, c3, c4, s_eaten, s_tied, s_ripeMany, c5, s_place, s_heard, c6, c7, s_ripe, c8, c9)) else none else if (w_kind n1.toNatClampNeg) = 2 then if ixb n1 150 then some (1, s_year, s_wet, s_lost, s_eaten, s_tied ^^^ (1 <<< ((w_first n1.toNatClampNeg) &&& 31)), s_ripeMany, s_gone, s_place, s_heard, s_many, s_lying, s_ripe, l_values, l_stack) else none else if (w_kind n1.toNatClampNeg) = 3 then if ixb n1 150 then if ixb n1 150 then b3 (f_X4_go s_place s_heard s_many s_lying (w_first n1.toNatClampNeg) (w_second n1.toNatClampNeg)) (fun v10 c11 c12 => if zok v10 then some (v10, s_year, s_wet, s_lost, s_eaten, s_tied, s_ripeMany, s_gone, c11, c12, s_many, s_lying, s_ripe, l_values, l_stack) else none) else none else none else if (w_kind n1.toNatClampNeg) = 4 then if ixb n1 150 then b3 (f_X4_clearBed s_eaten s_many (w_first n1.toNatClampNeg)) (fun v13 c14 c15 => if zok v13 then some (v13, s_year, s_wet, s_lost, c14, s_tied, s_ripeMany, s_gone, s_place, s_heard, c15, s_lying, s_ripe, l_values, l_stack) else none) else none else if s_year < 400 then b6 (f_X4_passYear s_year s_wet s_ripeMany s_many s_lying s_ripe p_beds) (fun c16 c17 c18 c19 c20 c21 => some (1, c16, c17, s_lost, s_eaten, s_tied, c18, s_gone, s_place, s_heard, c19, c20, c21, l_values, l_stack)) else some (0, s_year, s_wet, s_lost, s_eaten, s_tied, s_ripeMany, s_gone, s_place, s_heard, s_many, s_lying, s_ripe, l_values, l_stack) else none
def rm_X8_isDone : Room := { frames := 4, cells := 0, slots := 0, locals := 123 }
set_option maxRecDepth 100000 in
set_option maxHeartbeats 4000000 in
theorem t_X8_isDone {J : Jt} {a0 : Nat → Nat} {a1 : Nat → Nat} {a2 : Nat → Nat} {a3 : Nat → Nat} {w_kind : Nat → Int32} {w_first : Nat → Int32} {w_second : Nat → Int32} {w_rounds : Nat → Int32} {w_length : Int32} {w_begun : Int32} {w_refused : Int32} {s_year : Int32} {s_wet : Int32} {s_lost : Int32} {s_eaten : Int32} {s_tied : Int32} {s_ripeMany : Int32} {s_gone : Nat → Int32} {s_place : Nat → Int32} {s_heard : Nat → Int32} {s_many : Nat → Int32} {s_lying : Nat → Int32} {s_ripe : Nat → Int32} {p_beds : Int32} {p_letters : Int32} {p_readers : Int32} {p_far : Nat → Int32} {p_drain : Nat → Int32} {p_length : Nat → Int32} {p_words : Nat → Int32} {p_home : Nat → Int32} {l_code : Nat → Int32} {l_values : Nat → Int32} {l_stack : Nat → Int32} {l_length : Int32} {n1 : Int32} {r : Int32} {o_s_year : Int32} {o_s_wet : Int32} {o_s_lost : Int32} {o_s_eaten : Int32} {o_s_tied : Int32} {o_s_ripeMany : Int32} {o_s_gone : Nat → Int32} {o_s_place : Nat → Int32} {o_s_heard : Nat → Int32} {o_s_many : Nat → Int32} {o_s_lying : Nat → Int32} {o_s_ripe : Nat → Int32} {o_l_values : Nat → Int32} {o_l_stack : Nat → Int32} (h : f_X8_isDone w_kind w_first w_second s_year s_wet s_lost s_eaten s_tied s_ripeMany s_gone s_place s_heard s_many s_lying s_ripe p_beds p_letters p_readers p_far p_drain p_length p_words l_code l_values l_stack l_length n1 = some (r, o_s_year, o_s_wet, o_s_lost, o_s_eaten, o_s_tied, o_s_ripeMany, o_s_gone, o_s_place, o_s_heard, o_s_many, o_s_lying, o_s_ripe, o_l_values, o_l_stack)) : Mt J yX8_isDone cX8_isDone 5 (some .boolean) rm_X8_isDone [.ref (a0 0), .ref (a1 0), .ref (a2 0), .ref (a3 0), .int n1] (cs_X8 J.2.2.1 a0 w_kind w_first w_second w_rounds w_length w_begun w_refused ++ cs_X4 J.2.2.1 a1 s_year s_wet s_lost s_eaten s_tied s_ripeMany s_gone s_place s_heard s_many s_lying s_ripe ++ cs_X2 J.2.2.1 a2 p_beds p_letters p_readers p_far p_drain p_length p_words p_home ++ cs_X1 J.2.2.1 a3 l_code l_values l_stack l_length) (some (.int r)) (cs_X8 J.2.2.1 a0 w_kind w_first w_second w_rounds w_length w_begun w_refused ++ cs_X4 J.2.2.1 a1 o_s_year o_s_wet o_s_lost o_s_eaten o_s_tied o_s_ripeMany o_s_gone o_s_place o_s_heard o_s_many o_s_lying o_s_ripe ++ cs_X2 J.2.2.1 a2 p_beds p_letters p_readers p_far p_drain p_length p_words p_home ++ cs_X1 J.2.2.1 a3 l_code o_l_values o_l_stack l_length) := by
  refine Mt_of (own := RX8) (by decide) rfl (Nat.le_of_ble_eq_true rfl) rfl (fun Z C E => ?_)
  unfold f_X8_isDone at h
  show G J Z 0 0 (cs_X8 J.2.2.1 a0 w_kind w_first w_second w_rounds w_length w_begun w_refused ++ cs_X4 J.2.2.1 a1 s_year s_wet s_lost s_eaten s_tied s_ripeMany s_gone s_place s_heard s_many s_lying s_ripe ++ cs_X2 J.2.2.1 a2 p_beds p_letters p_readers p_far p_drain p_length p_words p_home ++ cs_X1 J.2.2.1 a3 l_code l_values l_stack l_length) 5 [(0, .ref (a0 0)), (1, .ref (a1 0)), (2, .ref (a2 0)), (3, .ref (a3 0)), (4, .int n1)] 0 []
  refine g_aload_n (pc := 0) C 0 rfl dX8_isDone_0 ?_
  refine g_get (pc := 1) C FOK_X8 0 rfl rfl 0 (by decide) kw_209 rfl dX8_isDone_1 ?_
  refine g_iload (pc := 4) C 4 rfl dX8_isDone_4 ?_
  obtain ⟨hi, h⟩ := ix_of h
  refine g_iald (pc := 6) C 1 rfl hi dX8_isDone_6 ?_
  rcases ite_of h with ⟨hc, h⟩ | ⟨hn0, h⟩
  · refine g_tsIn (pc := 7) C (tgt := 40) dX8_isDone_7 (by rw [hc]; decide) (by rw [hc]; decide) (by rw [hc]; rfl) rfl ?_
    refine g_aload_n (pc := 40) C 1 rfl dX8_isDone_40 ?_
    refine g_aload_n (pc := 41) C 2 rfl dX8_isDone_41 ?_
    refine g_aload_n (pc := 42) C 0 rfl dX8_isDone_42 ?_
    refine g_get (pc := 43) C FOK_X8 0 rfl rfl 1 (by decide) kw_210 rfl dX8_isDone_43 ?_
    refine g_iload (pc := 46) C 4 rfl dX8_isDone_46 ?_
    obtain ⟨hi, h⟩ := ix_of h
    refine g_iald (pc := 48) C 2 rfl hi dX8_isDone_48 ?_
    obtain ⟨v1, c2, hc, h⟩ := b2_of h
    refine g_callV (pc := 49) C (w' := cs_X8 J.2.2.1 a0 w_kind w_first w_second w_rounds w_length w_begun w_refused ++ cs_X4 J.2.2.1 a1 s_year s_wet s_lost s_eaten s_tied s_ripeMany s_gone s_place c2 s_many s_lying s_ripe ++ cs_X2 J.2.2.1 a2 p_beds p_letters p_readers p_far p_drain p_length p_words p_home ++ cs_X1 J.2.2.1 a3 l_code l_values l_stack l_length) (As := [.ref (a2 0), .int (w_first n1.toNatClampNeg)]) (st := []) (ci := 4) (q0 := 5) rfl rfl (t_X4_blow hc) (Sub.gen [5, 6, 7, 8, 9, 10, 11, 12, 13, 14, 15, 16, 17] [0, 1, 2, 3, 4, 18, 19, 20, 21] [0, 1, 2, 3, 4, 9, 10, 11, 12, 13, 14, 15, 16, 17, 18, 19, 20, 21, 5, 6, 7, 8] rfl (by decide) rfl (by decide) (by decide) rfl (by decide)) kw_856 kw_857 kw_858 kw_88 hy_X4_blow kw_859 rfl (Nat.le_of_ble_eq_true rfl) (Nat.le_of_ble_eq_true rfl) (Nat.le_of_ble_eq_true rfl) (Nat.le_of_ble_eq_true rfl) (Nat.le_of_ble_eq_true rfl) dX8_isDone_49 ?_
    obtain ⟨hz, h⟩ := zok_of h
    cases h
    exact g_zret C hz E dX8_isDone_52
  rcases ite_of h with ⟨hc, h⟩ | ⟨hn1, h⟩
  · refine g_tsIn (pc := 7) C (tgt := 84) dX8_isDone_7 (by rw [hc]; decide) (by rw [hc]; decide) (by rw [hc]; rfl) rfl ?_
    refine g_aload_n (pc := 84) C 1 rfl dX8_isDone_84 ?_
    refine g_aload_n (pc := 85) C 2 rfl dX8_isDone_85 ?_
    refine g_aload_n (pc := 86) C 3 rfl dX8_isDone_86 ?_
    refine g_aload_n (pc := 87) C 0 rfl dX8_isDone_87 ?_
    refine g_get (pc := 88) C FOK_X8 0 rfl rfl 1 (by decide) kw_210 rfl dX8_isDone_88 ?_
    refine g_iload (pc := 91) C 4 rfl dX8_isDone_91 ?_
    obtain ⟨hi, h⟩ := ix_of h
    refine g_iald (pc := 93) C 2 rfl hi dX8_isDone_93 ?_
    obtain ⟨c3, c4, c5, c6, c7, c8, c9, hc, h⟩ := b7_of h
    refine g_callV (pc := 94) C (w' := cs_X8 J.2.2.1 a0 w_kind w_first w_second w_rounds w_length w_begun w_refused ++ cs_X4 J.2.2.1 a1 s_year c3 c4 s_eaten s_tied s_ripeMany c5 s_place s_heard c6 c7 s_ripe ++ cs_X2 J.2.2.1 a2 p_beds p_letters p_readers p_far p_drain p_length p_words p_home ++ cs_X1 J.2.2.1 a3 l_code c8 c9 l_length) (As := [.ref (a2 0), .ref (a3 0), .int (w_first n1.toNatClampNeg)]) (st := []) (ci := 4) (q0 := 5) rfl rfl (t_X4_pour hc) (Sub.gen [5, 6, 7, 8, 9, 10, 11, 12, 13, 14, 15, 16, 17, 18, 19, 20, 21] [0, 1, 2, 3, 4] [0, 1, 2, 3, 4, 5, 6, 7, 8, 9, 10, 11, 12, 13, 14, 15, 16, 17, 18, 19, 20, 21] rfl (by decide) rfl (by decide) (by decide) rfl (by decide)) kw_881 kw_882 kw_883 kw_88 hy_X4_pour kw_884 rfl (Nat.le_of_ble_eq_true rfl) (Nat.le_of_ble_eq_true rfl) (Nat.le_of_ble_eq_true rfl) (Nat.le_of_ble_eq_true rfl) (Nat.le_of_ble_eq_true rfl) dX8_isDone_94 ?_
    refine g_iconst (pc := 97) C dX8_isDone_97 ci_1 ?_
    cases h
    exact g_zret C rfl E dX8_isDone_98
  rcases ite_of h with ⟨hc, h⟩ | ⟨hn2, h⟩
  · refine g_tsIn (pc := 7) C (tgt := 99) dX8_isDone_7 (by rw [hc]; decide) (by rw [hc]; decide) (by rw [hc]; rfl) rfl ?_
    refine g_aload_n (pc := 99) C 1 rfl dX8_isDone_99 ?_
    refine g_dup (pc := 100) C dX8_isDone_100 rfl ?_
    refine g_get (pc := 101) C FOK_X4 5 rfl rfl 4 (by decide) kw_164 rfl dX8_isDone_101 ?_
    refine g_iconst (pc := 104) C dX8_isDone_104 ci_1 ?_
    refine g_aload_n (pc := 105) C 0 rfl dX8_isDone_105 ?_
    refine g_get (pc := 106) C FOK_X8 0 rfl rfl 1 (by decide) kw_210 rfl dX8_isDone_106 ?_
    refine g_iload (pc := 109) C 4 rfl dX8_isDone_109 ?_
    obtain ⟨hi, h⟩ := ix_of h
    refine g_iald (pc := 111) C 2 rfl hi dX8_isDone_111 ?_
    refine g_ishl (pc := 112) C dX8_isDone_112 ?_
    refine g_ixor (pc := 113) C dX8_isDone_113 ?_
    refine g_put (pc := 114) C (w' := cs_X8 J.2.2.1 a0 w_kind w_first w_second w_rounds w_length w_begun w_refused ++ cs_X4 J.2.2.1 a1 s_year s_wet s_lost s_eaten (s_tied ^^^ (1 <<< ((w_first n1.toNatClampNeg) &&& 31))) s_ripeMany s_gone s_place s_heard s_many s_lying s_ripe ++ cs_X2 J.2.2.1 a2 p_beds p_letters p_readers p_far p_drain p_length p_words p_home ++ cs_X1 J.2.2.1 a3 l_code l_values l_stack l_length) FOK_X4 5 rfl rfl 4 (by decide) kw_164 rfl rfl rfl (Nat.le_of_ble_eq_true rfl) dX8_isDone_114 rfl ?_
    refine g_iconst (pc := 117) C dX8_isDone_117 ci_1 ?_
    cases h
    exact g_zret C rfl E dX8_isDone_118
  rcases ite_of h with ⟨hc, h⟩ | ⟨hn3, h⟩
  · refine g_tsIn (pc := 7) C (tgt := 53) dX8_isDone_7 (by rw [hc]; decide) (by rw [hc]; decide) (by rw [hc]; rfl) rfl ?_
    refine g_aload_n (pc := 53) C 1 rfl dX8_isDone_53 ?_
    refine g_aload_n (pc := 54) C 0 rfl dX8_isDone_54 ?_
    refine g_get (pc := 55) C FOK_X8 0 rfl rfl 1 (by decide) kw_210 rfl dX8_isDone_55 ?_
    refine g_iload (pc := 58) C 4 rfl dX8_isDone_58 ?_
    obtain ⟨hi, h⟩ := ix_of h
    refine g_iald (pc := 60) C 2 rfl hi dX8_isDone_60 ?_
    refine g_aload_n (pc := 61) C 0 rfl dX8_isDone_61 ?_
    refine g_get (pc := 62) C FOK_X8 0 rfl rfl 2 (by decide) kw_211 rfl dX8_isDone_62 ?_
    refine g_iload (pc := 65) C 4 rfl dX8_isDone_65 ?_
    obtain ⟨hi, h⟩ := ix_of h
    refine g_iald (pc := 67) C 3 rfl hi dX8_isDone_67 ?_
    obtain ⟨v10, c11, c12, hc, h⟩ := b3_of h
    refine g_callV (pc := 68) C (w' := cs_X8 J.2.2.1 a0 w_kind w_first w_second w_rounds w_length w_begun w_refused ++ cs_X4 J.2.2.1 a1 s_year s_wet s_lost s_eaten s_tied s_ripeMany s_gone c11 c12 s_many s_lying s_ripe ++ cs_X2 J.2.2.1 a2 p_beds p_letters p_readers p_far p_drain p_length p_words p_home ++ cs_X1 J.2.2.1 a3 l_code l_values l_stack l_length) (As := [.int (w_first n1.toNatClampNeg), .int (w_second n1.toNatClampNeg)]) (st := []) (ci := 4) (q0 := 5) rfl rfl (t_X4_go hc) (Sub.gen [5, 6, 7, 8, 9, 10, 11] [0, 1, 2, 3, 4, 12, 13, 14, 15, 16, 17, 18, 19, 20, 21] [0, 1, 2, 3, 4, 15, 16, 17, 18, 19, 20, 21, 5, 6, 7, 8, 9, 10, 11, 12, 13, 14] rfl (by decide) rfl (by decide) (by decide) rfl (by decide)) kw_865 kw_866 kw_867 kw_88 hy_X4_go kw_868 rfl (Nat.le_of_ble_eq_true rfl) (Nat.le_of_ble_eq_true rfl) (Nat.le_of_ble_eq_true rfl) (Nat.le_of_ble_eq_true rfl) (Nat.le_of_ble_eq_true rfl) dX8_isDone_68 ?_
    obtain ⟨hz, h⟩ := zok_of h
    cases h
    exact g_zret C hz E dX8_isDone_71
  rcases ite_of h with ⟨hc, h⟩ | ⟨hn4, h⟩
  · refine g_tsIn (pc := 7) C (tgt := 72) dX8_isDone_7 (by rw [hc]; decide) (by rw [hc]; decide) (by rw [hc]; rfl) rfl ?_
    refine g_aload_n (pc := 72) C 1 rfl dX8_isDone_72 ?_
    refine g_aload_n (pc := 73) C 0 rfl dX8_isDone_73 ?_
    refine g_get (pc := 74) C FOK_X8 0 rfl rfl 1 (by decide) kw_210 rfl dX8_isDone_74 ?_
    refine g_iload (pc := 77) C 4 rfl dX8_isDone_77 ?_
    obtain ⟨hi, h⟩ := ix_of h
    refine g_iald (pc := 79) C 2 rfl hi dX8_isDone_79 ?_
    obtain ⟨v13, c14, c15, hc, h⟩ := b3_of h
    refine g_callV (pc := 80) C (w' := cs_X8 J.2.2.1 a0 w_kind w_first w_second w_rounds w_length w_begun w_refused ++ cs_X4 J.2.2.1 a1 s_year s_wet s_lost c14 s_tied s_ripeMany s_gone s_place s_heard c15 s_lying s_ripe ++ cs_X2 J.2.2.1 a2 p_beds p_letters p_readers p_far p_drain p_length p_words p_home ++ cs_X1 J.2.2.1 a3 l_code l_values l_stack l_length) (As := [.int (w_first n1.toNatClampNeg)]) (st := []) (ci := 4) (q0 := 5) rfl rfl (t_X4_clearBed hc) (Sub.gen [5, 6, 7, 8, 9, 10, 11] [0, 1, 2, 3, 4, 12, 13, 14, 15, 16, 17, 18, 19, 20, 21] [0, 1, 2, 3, 4, 15, 16, 17, 18, 19, 20, 21, 5, 6, 7, 8, 9, 10, 11, 12, 13, 14] rfl (by decide) rfl (by decide) (by decide) rfl (by decide)) kw_877 kw_878 kw_879 kw_88 hy_X4_clearBed kw_880 rfl (Nat.le_of_ble_eq_true rfl) (Nat.le_of_ble_eq_true rfl) (Nat.le_of_ble_eq_true rfl) (Nat.le_of_ble_eq_true rfl) (Nat.le_of_ble_eq_true rfl) dX8_isDone_80 ?_
    obtain ⟨hz, h⟩ := zok_of h
    cases h
    exact g_zret C hz E dX8_isDone_83
  have hq0 := lv_neT hn0 (a := 0) (by decide)
  have hq1 := lv_neT hn1 (a := 1) (by decide)
  have hq2 := lv_neT hn2 (a := 2) (by decide)
  have hq3 := lv_neT hn3 (a := 3) (by decide)
  have hq4 := lv_neT hn4 (a := 4) (by decide)
  refine g_tsOut (pc := 7) C (tgt := 119) dX8_isDone_7 (by omega) rfl ?_
  refine g_aload_n (pc := 119) C 1 rfl dX8_isDone_119 ?_
  refine g_get (pc := 120) C FOK_X4 5 rfl rfl 0 (by decide) kw_156 rfl dX8_isDone_120 ?_
  refine g_sipush (pc := 123) C dX8_isDone_123 cs_400 ?_
  refine g_icmp_lt (pc := 126) C (tgt := 131) dX8_isDone_126 rfl h (fun h => ?_) (fun h => ?_)
  · refine g_aload_n (pc := 131) C 1 rfl dX8_isDone_131 ?_
    refine g_aload_n (pc := 132) C 2 rfl dX8_isDone_132 ?_
    obtain ⟨c16, c17, c18, c19, c20, c21, hc, h⟩ := b6_of h
    refine g_callV (pc := 133) C (w' := cs_X8 J.2.2.1 a0 w_kind w_first w_second w_rounds w_length w_begun w_refused ++ cs_X4 J.2.2.1 a1 c16 c17 s_lost s_eaten s_tied c18 s_gone s_place s_heard c19 c20 c21 ++ cs_X2 J.2.2.1 a2 p_beds p_letters p_readers p_far p_drain p_length p_words p_home ++ cs_X1 J.2.2.1 a3 l_code l_values l_stack l_length) (As := [.ref (a2 0)]) (st := []) (ci := 4) (q0 := 5) rfl rfl (t_X4_passYear hc) (Sub.gen [5, 6, 7, 8, 9, 10, 11, 12, 13, 14, 15, 16, 17] [0, 1, 2, 3, 4, 18, 19, 20, 21] [0, 1, 2, 3, 4, 9, 10, 11, 12, 13, 14, 15, 16, 17, 18, 19, 20, 21, 5, 6, 7, 8] rfl (by decide) rfl (by decide) (by decide) rfl (by decide)) kw_910 kw_911 kw_912 kw_88 hy_X4_passYear kw_913 rfl (Nat.le_of_ble_eq_true rfl) (Nat.le_of_ble_eq_true rfl) (Nat.le_of_ble_eq_true rfl) (Nat.le_of_ble_eq_true rfl) (Nat.le_of_ble_eq_true rfl) dX8_isDone_133 ?_
    refine g_iconst (pc := 136) C dX8_isDone_136 ci_1 ?_
    cases h
    exact g_zret C rfl E dX8_isDone_137
  · refine g_iconst (pc := 129) C dX8_isDone_129 ci_0 ?_
    cases h
    exact g_zret C rfl E dX8_isDone_130
noncomputable def f_X8_perform_19 (w_kind : Nat → Int32) (w_first : Nat → Int32) (w_second : Nat → Int32) (w_length : Int32) (p_beds : Int32) (p_letters : Int32) (p_readers : Int32) (p_far : Nat → Int32) (p_drain : Nat → Int32) (p_length : Nat → Int32) (p_words : Nat → Int32) (l_code : Nat → Int32) (l_length : Int32) : Nat → Int32 → Int32 → Int32 → (Nat → Int32) → Int32 → Int32 → Int32 → Int32 → Int32 → Int32 → Int32 → Int32 → (Nat → Int32) → (Nat → Int32) → (Nat → Int32) → (Nat → Int32) → (Nat → Int32) → (Nat → Int32) → (Nat → Int32) → (Nat → Int32) → Option (Int32 × (Nat → Int32) × Int32 × Int32 × Int32 × Int32 × Int32 × Int32 × Int32 × Int32 × (Nat → Int32) × (Nat → Int32) × (Nat → Int32) × (Nat → Int32) × (Nat → Int32) × (Nat → Int32) × (Nat → Int32) × (Nat → Int32))
  | 0, _, _, _, _, _, _, _, _, _, _, _, _, _, _, _, _, _, _, _, _ => none
  | n + 1, x4, x5, x6, w_rounds, w_begun, w_refused, s_year, s_wet, s_lost, s_eaten, s_tied, s_ripeMany, s_gone, s_place, s_heard, s_many, s_lying, s_ripe, l_values, l_stack => if 1000000 ≤ x6 then some (x4, w_rounds, w_begun, w_refused, s_year, s_wet, s_lost, s_eaten, s_tied, s_ripeMany, s_gone, s_place, s_heard, s_many, s_lying, s_ripe, l_values, l_stack) else if x5 < 0 then some (x4, w_rounds, w_begun, w_refused, s_year, s_wet, s_lost, s_eaten, s_tied, s_ripeMany, s_gone, s_place, s_heard, s_many, s_lying, s_ripe, l_values, l_stack) else if w_length ≤ x5 then some (x4, w_rounds, w_begun, w_refused, s_year, s_wet, s_lost, s_eaten, s_tied, s_ripeMany, s_gone, s_place, s_heard, s_many, s_lying, s_ripe, l_values, l_stack) else if 150 ≤ x5 then some (x4, w_rounds, w_begun, w_refused, s_year, s_wet, s_lost, s_eaten, s_tied, s_ripeMany, s_gone, s_place, s_heard, s_many, s_lying, s_ripe, l_values, l_stack) else if ixb x5 150 then if (w_kind x5.toNatClampNeg) = 7 then b2 (f_X8_afterRound w_first w_rounds x5) (fun v16 c17 => f_X8_perform_19 w_kind w_first w_second w_length p_beds p_letters p_readers p_far p_drain p_length p_words l_code l_length n x4 v16 (x6 + 1) c17 w_begun w_refused s_year s_wet s_lost s_eaten s_tied s_ripeMany s_gone s_place s_heard s_many s_lying s_ripe l_values l_stack) else if w_begun < 200 then if ixb x5 150 then if (w_kind x5.toNatClampNeg) = 6 then if ixb x5 150 then if ixb x5 150 then if ixb x5 150 then if (w_first x5.toNatClampNeg) ≤ 0 then if ixb x5 150 then f_X8_perform_19 w_kind w_first w_second w_length p_beds p_letters p_readers p_far p_drain p_length p_words l_code l_length n x4 ((w_second x5.toNatClampNeg) + 1) (x6 + 1) (upd w_rounds x5.toNatClampNeg (w_first x5.toNatClampNeg)) (w_begun + 1) w_refused s_year s_wet s_lost s_eaten s_tied s_ripeMany s_gone s_place s_heard s_many s_lying s_ripe l_values l_stack else none else f_X8_perform_19 w_kind w_first w_second w_length p_beds p_letters p_readers p_far p_drain p_length p_words l_code l_length n x4 (x5 + 1) (x6 + 1) (upd w_rounds x5.toNatClampNeg (w_first x5.toNatClampNeg)) (w_begun + 1) w_refused s_year s_wet s_lost s_eaten s_tied s_ripeMany s_gone s_place s_heard s_many s_lying s_ripe l_values l_stack else none else none else none else b15 (f_X8_isDone w_kind w_first w_second s_year s_wet s_lost s_eaten s_tied s_ripeMany s_gone s_place s_heard s_many s_lying s_ripe p_beds p_letters p_readers p_far p_drain p_length p_words l_code l_values l_stack l_length x5) (fun v1 c2 c3 c4 c5 c6 c7 c8 c9 c10 c11 c12 c13 c14 c15 => if v1 = 0 then f_X8_perform_19 w_kind w_first w_second w_length p_beds p_letters p_readers p_far p_drain p_length p_words l_code l_length n x4 (x5 + 1) (x6 + 1) w_rounds (w_begun + 1) (w_refused + 1) c2 c3 c4 c5 c6 c7 c8 c9 c10 c11 c12 c13 c14 c15 else f_X8_perform_19 w_kind w_first w_second w_length p_beds p_letters p_readers p_far p_drain p_length p_words l_code l_length n (x4 + 1) (x5 + 1) (x6 + 1) w_rounds (w_begun + 1) w_refused c2 c3 c4 c5 c6 c7 c8 c9 c10 c11 c12 c13 c14 c15) else none else some (x4, w_rounds, w_begun, w_refused, s_year, s_wet, s_lost, s_eaten, s_tied, s_ripeMany, s_gone, s_place, s_heard, s_many, s_lying, s_ripe, l_values, l_stack) else none
noncomputable def f_X8_perform (w_kind : Nat → Int32) (w_first : Nat → Int32) (w_second : Nat → Int32) (w_rounds : Nat → Int32) (w_length : Int32) (w_begun : Int32) (w_refused : Int32) (s_year : Int32) (s_wet : Int32) (s_lost : Int32) (s_eaten : Int32) (s_tied : Int32) (s_ripeMany : Int32) (s_gone : Nat → Int32) (s_place : Nat → Int32) (s_heard : Nat → Int32) (s_many : Nat → Int32) (s_lying : Nat → Int32) (s_ripe : Nat → Int32) (p_beds : Int32) (p_letters : Int32) (p_readers : Int32) (p_far : Nat → Int32) (p_drain : Nat → Int32) (p_length : Nat → Int32) (p_words : Nat → Int32) (l_code : Nat → Int32) (l_values : Nat → Int32) (l_stack : Nat → Int32) (l_length : Int32) : Option (Int32 × (Nat → Int32) × Int32 × Int32 × Int32 × Int32 × Int32 × Int32 × Int32 × Int32 × (Nat → Int32) × (Nat → Int32) × (Nat → Int32) × (Nat → Int32) × (Nat → Int32) × (Nat → Int32) × (Nat → Int32) × (Nat → Int32)) := f_X8_perform_19 w_kind w_first w_second w_length p_beds p_letters p_readers p_far p_drain p_length p_words l_code l_length FU 0 0 0 w_rounds 0 0 s_year s_wet s_lost s_eaten s_tied s_ripeMany s_gone s_place s_heard s_many s_lying s_ripe l_values l_stack
def rm_X8_perform : Room := { frames := 5, cells := 0, slots := 0, locals := 147 }
set_option maxRecDepth 100000 in
set_option maxHeartbeats 4000000 in
theorem j_X8_perform_19 {J : Jt} {Z : Zt} {a0 : Nat → Nat} {a1 : Nat → Nat} {a2 : Nat → Nat} {a3 : Nat → Nat} {w_kind : Nat → Int32} {w_first : Nat → Int32} {w_second : Nat → Int32} {w_length : Int32} {p_beds : Int32} {p_letters : Int32} {p_readers : Int32} {p_far : Nat → Int32} {p_drain : Nat → Int32} {p_length : Nat → Int32} {p_words : Nat → Int32} {p_home : Nat → Int32} {l_code : Nat → Int32} {l_length : Int32} {r : Int32} {o_w_rounds : Nat → Int32} {o_w_begun : Int32} {o_w_refused : Int32} {o_s_year : Int32} {o_s_wet : Int32} {o_s_lost : Int32} {o_s_eaten : Int32} {o_s_tied : Int32} {o_s_ripeMany : Int32} {o_s_gone : Nat → Int32} {o_s_place : Nat → Int32} {o_s_heard : Nat → Int32} {o_s_many : Nat → Int32} {o_s_lying : Nat → Int32} {o_s_ripe : Nat → Int32} {o_l_values : Nat → Int32} {o_l_stack : Nat → Int32} (C : Cx J Z cX8_perform 7 RX8 (some .int) rm_X8_perform) (E : Ez J Z 0 0 (some (.int r)) (cs_X8 J.2.2.1 a0 w_kind w_first w_second o_w_rounds w_length o_w_begun o_w_refused ++ cs_X4 J.2.2.1 a1 o_s_year o_s_wet o_s_lost o_s_eaten o_s_tied o_s_ripeMany o_s_gone o_s_place o_s_heard o_s_many o_s_lying o_s_ripe ++ cs_X2 J.2.2.1 a2 p_beds p_letters p_readers p_far p_drain p_length p_words p_home ++ cs_X1 J.2.2.1 a3 l_code o_l_values o_l_stack l_length)) : ∀ (n : Nat) (x4 : Int32) (x5 : Int32) (x6 : Int32) (w_rounds : Nat → Int32) (w_begun : Int32) (w_refused : Int32) (s_year : Int32) (s_wet : Int32) (s_lost : Int32) (s_eaten : Int32) (s_tied : Int32) (s_ripeMany : Int32) (s_gone : Nat → Int32) (s_place : Nat → Int32) (s_heard : Nat → Int32) (s_many : Nat → Int32) (s_lying : Nat → Int32) (s_ripe : Nat → Int32) (l_values : Nat → Int32) (l_stack : Nat → Int32), f_X8_perform_19 w_kind w_first w_second w_length p_beds p_letters p_readers p_far p_drain p_length p_words l_code l_length n x4 x5 x6 w_rounds w_begun w_refused s_year s_wet s_lost s_eaten s_tied s_ripeMany s_gone s_place s_heard s_many s_lying s_ripe l_values l_stack = some (r, o_w_rounds, o_w_begun, o_w_refused, o_s_year, o_s_wet, o_s_lost, o_s_eaten, o_s_tied, o_s_ripeMany, o_s_gone, o_s_place, o_s_heard, o_s_many, o_s_lying, o_s_ripe, o_l_values, o_l_stack) → G J Z 0 0 (cs_X8 J.2.2.1 a0 w_kind w_first w_second w_rounds w_length w_begun w_refused ++ cs_X4 J.2.2.1 a1 s_year s_wet s_lost s_eaten s_tied s_ripeMany s_gone s_place s_heard s_many s_lying s_ripe ++ cs_X2 J.2.2.1 a2 p_beds p_letters p_readers p_far p_drain p_length p_words p_home ++ cs_X1 J.2.2.1 a3 l_code l_values l_stack l_length) 7 [(0, .ref (a0 0)), (1, .ref (a1 0)), (2, .ref (a2 0)), (3, .ref (a3 0)), (4, .int x4), (5, .int x5), (6, .int x6)] 19 [] := by
  intro n
  induction n with
  | zero =>
    intro x4 x5 x6 w_rounds w_begun w_refused s_year s_wet s_lost s_eaten s_tied s_ripeMany s_gone s_place s_heard s_many s_lying s_ripe l_values l_stack h
    rw [f_X8_perform_19] at h
    cases h
  | succ n ih =>
    intro x4 x5 x6 w_rounds w_begun w_refused s_year s_wet s_lost s_eaten s_tied s_ripeMany s_gone s_place s_heard s_many s_lying s_ripe l_values l_stack h
    rw [f_X8_perform_19] at h
    refine g_iload (pc := 19) C 6 rfl dX8_perform_19 ?_
    refine g_ldc (pc := 21) C dX8_perform_21 kw_847 ?_
    refine g_icmp_ge (pc := 23) C (tgt := 188) dX8_perform_23 rfl h (fun h => ?_) (fun h => ?_)
    · refine g_iload (pc := 188) C 4 rfl dX8_perform_188 ?_
      cases h
      exact g_iret C E dX8_perform_190
    · refine g_iload (pc := 26) C 5 rfl dX8_perform_26 ?_
      refine g_if_lt (pc := 28) C (tgt := 188) dX8_perform_28 rfl h (fun h => ?_) (fun h => ?_)
      · refine g_iload (pc := 188) C 4 rfl dX8_perform_188 ?_
        cases h
        exact g_iret C E dX8_perform_190
      · refine g_iload (pc := 31) C 5 rfl dX8_perform_31 ?_
        refine g_aload_n (pc := 33) C 0 rfl dX8_perform_33 ?_
        refine g_get (pc := 34) C FOK_X8 0 rfl rfl 4 (by decide) kw_213 rfl dX8_perform_34 ?_
        refine g_icmp_ge (pc := 37) C (tgt := 188) dX8_perform_37 rfl h (fun h => ?_) (fun h => ?_)
        · refine g_iload (pc := 188) C 4 rfl dX8_perform_188 ?_
          cases h
          exact g_iret C E dX8_perform_190
        · refine g_iload (pc := 40) C 5 rfl dX8_perform_40 ?_
          refine g_sipush (pc := 42) C dX8_perform_42 cs_150 ?_
          refine g_icmp_ge (pc := 45) C (tgt := 188) dX8_perform_45 rfl h (fun h => ?_) (fun h => ?_)
          · refine g_iload (pc := 188) C 4 rfl dX8_perform_188 ?_
            cases h
            exact g_iret C E dX8_perform_190
          · refine g_aload_n (pc := 48) C 0 rfl dX8_perform_48 ?_
            refine g_get (pc := 49) C FOK_X8 0 rfl rfl 0 (by decide) kw_209 rfl dX8_perform_49 ?_
            refine g_iload (pc := 52) C 5 rfl dX8_perform_52 ?_
            obtain ⟨hi, h⟩ := ix_of h
            refine g_iald (pc := 54) C 1 rfl hi dX8_perform_54 ?_
            refine g_bipush (pc := 55) C dX8_perform_55 cb_7 ?_
            refine g_icmp_ne (pc := 57) C (tgt := 71) dX8_perform_57 rfl h (fun h => ?_) (fun h => ?_)
            · refine g_aload_n (pc := 71) C 0 rfl dX8_perform_71 ?_
              refine g_get (pc := 72) C FOK_X8 0 rfl rfl 5 (by decide) kw_214 rfl dX8_perform_72 ?_
              refine g_sipush (pc := 75) C dX8_perform_75 cs_200 ?_
              refine g_icmp_lt (pc := 78) C (tgt := 84) dX8_perform_78 rfl h (fun h => ?_) (fun h => ?_)
              · refine g_aload_n (pc := 84) C 0 rfl dX8_perform_84 ?_
                refine g_dup (pc := 85) C dX8_perform_85 rfl ?_
                refine g_get (pc := 86) C FOK_X8 0 rfl rfl 5 (by decide) kw_214 rfl dX8_perform_86 ?_
                refine g_iconst (pc := 89) C dX8_perform_89 ci_1 ?_
                refine g_iadd (pc := 90) C dX8_perform_90 ?_
                refine g_put (pc := 91) C (w' := cs_X8 J.2.2.1 a0 w_kind w_first w_second w_rounds w_length (w_begun + 1) w_refused ++ cs_X4 J.2.2.1 a1 s_year s_wet s_lost s_eaten s_tied s_ripeMany s_gone s_place s_heard s_many s_lying s_ripe ++ cs_X2 J.2.2.1 a2 p_beds p_letters p_readers p_far p_drain p_length p_words p_home ++ cs_X1 J.2.2.1 a3 l_code l_values l_stack l_length) FOK_X8 0 rfl rfl 5 (by decide) kw_214 rfl rfl rfl (Nat.le_of_ble_eq_true rfl) dX8_perform_91 rfl ?_
                refine g_aload_n (pc := 94) C 0 rfl dX8_perform_94 ?_
                refine g_get (pc := 95) C FOK_X8 0 rfl rfl 0 (by decide) kw_209 rfl dX8_perform_95 ?_
                refine g_iload (pc := 98) C 5 rfl dX8_perform_98 ?_
                obtain ⟨hi, h⟩ := ix_of h
                refine g_iald (pc := 100) C 1 rfl hi dX8_perform_100 ?_
                refine g_bipush (pc := 101) C dX8_perform_101 cb_6 ?_
                refine g_icmp_ne (pc := 103) C (tgt := 151) dX8_perform_103 rfl h (fun h => ?_) (fun h => ?_)
                · refine g_aload_n (pc := 151) C 0 rfl dX8_perform_151 ?_
                  refine g_aload_n (pc := 152) C 1 rfl dX8_perform_152 ?_
                  refine g_aload_n (pc := 153) C 2 rfl dX8_perform_153 ?_
                  refine g_aload_n (pc := 154) C 3 rfl dX8_perform_154 ?_
                  refine g_iload (pc := 155) C 5 rfl dX8_perform_155 ?_
                  obtain ⟨v1, c2, c3, c4, c5, c6, c7, c8, c9, c10, c11, c12, c13, c14, c15, hc, h⟩ := b15_of h
                  refine g_callV (pc := 157) C (w' := cs_X8 J.2.2.1 a0 w_kind w_first w_second w_rounds w_length (w_begun + 1) w_refused ++ cs_X4 J.2.2.1 a1 c2 c3 c4 c5 c6 c7 c8 c9 c10 c11 c12 c13 ++ cs_X2 J.2.2.1 a2 p_beds p_letters p_readers p_far p_drain p_length p_words p_home ++ cs_X1 J.2.2.1 a3 l_code c14 c15 l_length) (As := [.ref (a1 0), .ref (a2 0), .ref (a3 0), .int x5]) (st := []) (ci := 8) (q0 := 0) rfl rfl (t_X8_isDone hc) Sub.same kw_852 kw_853 kw_854 kw_89 hy_X8_isDone kw_855 rfl (Nat.le_of_ble_eq_true rfl) (Nat.le_of_ble_eq_true rfl) (Nat.le_of_ble_eq_true rfl) (Nat.le_of_ble_eq_true rfl) (Nat.le_of_ble_eq_true rfl) dX8_perform_157 ?_
                  refine g_if_eq (pc := 160) C (tgt := 169) dX8_perform_160 rfl h (fun h => ?_) (fun h => ?_)
                  · refine g_aload_n (pc := 169) C 0 rfl dX8_perform_169 ?_
                    refine g_dup (pc := 170) C dX8_perform_170 rfl ?_
                    refine g_get (pc := 171) C FOK_X8 0 rfl rfl 6 (by decide) kw_215 rfl dX8_perform_171 ?_
                    refine g_iconst (pc := 174) C dX8_perform_174 ci_1 ?_
                    refine g_iadd (pc := 175) C dX8_perform_175 ?_
                    refine g_put (pc := 176) C (w' := cs_X8 J.2.2.1 a0 w_kind w_first w_second w_rounds w_length (w_begun + 1) (w_refused + 1) ++ cs_X4 J.2.2.1 a1 c2 c3 c4 c5 c6 c7 c8 c9 c10 c11 c12 c13 ++ cs_X2 J.2.2.1 a2 p_beds p_letters p_readers p_far p_drain p_length p_words p_home ++ cs_X1 J.2.2.1 a3 l_code c14 c15 l_length) FOK_X8 0 rfl rfl 6 (by decide) kw_215 rfl rfl rfl (Nat.le_of_ble_eq_true rfl) dX8_perform_176 rfl ?_
                    refine g_iinc (pc := 179) C (j := 5) [(5, .int (x5 + 1)), (0, .ref (a0 0)), (1, .ref (a1 0)), (2, .ref (a2 0)), (3, .ref (a3 0)), (4, .int x4), (6, .int x6)] dX8_perform_179 rfl (ii_1 _) (by decide) rfl ?_
                    refine g_iinc (pc := 182) C (j := 6) [(6, .int (x6 + 1)), (5, .int (x5 + 1)), (0, .ref (a0 0)), (1, .ref (a1 0)), (2, .ref (a2 0)), (3, .ref (a3 0)), (4, .int x4)] dX8_perform_182 rfl (ii_1 _) (by decide) rfl ?_
                    refine g_goto (pc := 185) C (tgt := 19) dX8_perform_185 rfl ?_
                    refine g_lv [2, 3, 4, 5, 6, 1, 0] rfl ?_
                    exact ih x4 (x5 + 1) (x6 + 1) w_rounds (w_begun + 1) (w_refused + 1) c2 c3 c4 c5 c6 c7 c8 c9 c10 c11 c12 c13 c14 c15 h
                  · refine g_iinc (pc := 163) C (j := 4) [(4, .int (x4 + 1)), (0, .ref (a0 0)), (1, .ref (a1 0)), (2, .ref (a2 0)), (3, .ref (a3 0)), (5, .int x5), (6, .int x6)] dX8_perform_163 rfl (ii_1 _) (by decide) rfl ?_
                    refine g_goto (pc := 166) C (tgt := 179) dX8_perform_166 rfl ?_
                    refine g_iinc (pc := 179) C (j := 5) [(5, .int (x5 + 1)), (4, .int (x4 + 1)), (0, .ref (a0 0)), (1, .ref (a1 0)), (2, .ref (a2 0)), (3, .ref (a3 0)), (6, .int x6)] dX8_perform_179 rfl (ii_1 _) (by decide) rfl ?_
                    refine g_iinc (pc := 182) C (j := 6) [(6, .int (x6 + 1)), (5, .int (x5 + 1)), (4, .int (x4 + 1)), (0, .ref (a0 0)), (1, .ref (a1 0)), (2, .ref (a2 0)), (3, .ref (a3 0))] dX8_perform_182 rfl (ii_1 _) (by decide) rfl ?_
                    refine g_goto (pc := 185) C (tgt := 19) dX8_perform_185 rfl ?_
                    refine g_lv [3, 4, 5, 6, 2, 1, 0] rfl ?_
                    exact ih (x4 + 1) (x5 + 1) (x6 + 1) w_rounds (w_begun + 1) w_refused c2 c3 c4 c5 c6 c7 c8 c9 c10 c11 c12 c13 c14 c15 h
                · refine g_aload_n (pc := 106) C 0 rfl dX8_perform_106 ?_
                  refine g_get (pc := 107) C FOK_X8 0 rfl rfl 3 (by decide) kw_212 rfl dX8_perform_107 ?_
                  refine g_iload (pc := 110) C 5 rfl dX8_perform_110 ?_
                  refine g_aload_n (pc := 112) C 0 rfl dX8_perform_112 ?_
                  refine g_get (pc := 113) C FOK_X8 0 rfl rfl 1 (by decide) kw_210 rfl dX8_perform_113 ?_
                  refine g_iload (pc := 116) C 5 rfl dX8_perform_116 ?_
                  obtain ⟨hi, h⟩ := ix_of h
                  refine g_iald (pc := 118) C 2 rfl hi dX8_perform_118 ?_
                  obtain ⟨hi, h⟩ := ix_of h
                  refine g_iast (pc := 119) C (w' := cs_X8 J.2.2.1 a0 w_kind w_first w_second (upd w_rounds x5.toNatClampNeg (w_first x5.toNatClampNeg)) w_length (w_begun + 1) w_refused ++ cs_X4 J.2.2.1 a1 s_year s_wet s_lost s_eaten s_tied s_ripeMany s_gone s_place s_heard s_many s_lying s_ripe ++ cs_X2 J.2.2.1 a2 p_beds p_letters p_readers p_far p_drain p_length p_words p_home ++ cs_X1 J.2.2.1 a3 l_code l_values l_stack l_length) 4 rfl hi dX8_perform_119 rfl ?_
                  refine g_aload_n (pc := 120) C 0 rfl dX8_perform_120 ?_
                  refine g_get (pc := 121) C FOK_X8 0 rfl rfl 1 (by decide) kw_210 rfl dX8_perform_121 ?_
                  refine g_iload (pc := 124) C 5 rfl dX8_perform_124 ?_
                  obtain ⟨hi, h⟩ := ix_of h
                  refine g_iald (pc := 126) C 2 rfl hi dX8_perform_126 ?_
                  refine g_if_le (pc := 127) C (tgt := 137) dX8_perform_127 rfl h (fun h => ?_) (fun h => ?_)
                  · refine g_aload_n (pc := 137) C 0 rfl dX8_perform_137 ?_
                    refine g_get (pc := 138) C FOK_X8 0 rfl rfl 2 (by decide) kw_211 rfl dX8_perform_138 ?_
                    refine g_iload (pc := 141) C 5 rfl dX8_perform_141 ?_
                    obtain ⟨hi, h⟩ := ix_of h
                    refine g_iald (pc := 143) C 3 rfl hi dX8_perform_143 ?_
                    refine g_iconst (pc := 144) C dX8_perform_144 ci_1 ?_
                    refine g_iadd (pc := 145) C dX8_perform_145 ?_
                    refine g_istore (pc := 146) C [(5, .int ((w_second x5.toNatClampNeg) + 1)), (0, .ref (a0 0)), (1, .ref (a1 0)), (2, .ref (a2 0)), (3, .ref (a3 0)), (4, .int x4), (6, .int x6)] dX8_perform_146 (by decide) rfl ?_
                    refine g_goto (pc := 148) C (tgt := 182) dX8_perform_148 rfl ?_
                    refine g_iinc (pc := 182) C (j := 6) [(6, .int (x6 + 1)), (5, .int ((w_second x5.toNatClampNeg) + 1)), (0, .ref (a0 0)), (1, .ref (a1 0)), (2, .ref (a2 0)), (3, .ref (a3 0)), (4, .int x4)] dX8_perform_182 rfl (ii_1 _) (by decide) rfl ?_
                    refine g_goto (pc := 185) C (tgt := 19) dX8_perform_185 rfl ?_
                    refine g_lv [2, 3, 4, 5, 6, 1, 0] rfl ?_
                    exact ih x4 ((w_second x5.toNatClampNeg) + 1) (x6 + 1) (upd w_rounds x5.toNatClampNeg (w_first x5.toNatClampNeg)) (w_begun + 1) w_refused s_year s_wet s_lost s_eaten s_tied s_ripeMany s_gone s_place s_heard s_many s_lying s_ripe l_values l_stack h
                  · refine g_iload (pc := 130) C 5 rfl dX8_perform_130 ?_
                    refine g_iconst (pc := 132) C dX8_perform_132 ci_1 ?_
                    refine g_iadd (pc := 133) C dX8_perform_133 ?_
                    refine g_goto (pc := 134) C (tgt := 146) dX8_perform_134 rfl ?_
                    refine g_istore (pc := 146) C [(5, .int (x5 + 1)), (0, .ref (a0 0)), (1, .ref (a1 0)), (2, .ref (a2 0)), (3, .ref (a3 0)), (4, .int x4), (6, .int x6)] dX8_perform_146 (by decide) rfl ?_
                    refine g_goto (pc := 148) C (tgt := 182) dX8_perform_148 rfl ?_
                    refine g_iinc (pc := 182) C (j := 6) [(6, .int (x6 + 1)), (5, .int (x5 + 1)), (0, .ref (a0 0)), (1, .ref (a1 0)), (2, .ref (a2 0)), (3, .ref (a3 0)), (4, .int x4)] dX8_perform_182 rfl (ii_1 _) (by decide) rfl ?_
                    refine g_goto (pc := 185) C (tgt := 19) dX8_perform_185 rfl ?_
                    refine g_lv [2, 3, 4, 5, 6, 1, 0] rfl ?_
                    exact ih x4 (x5 + 1) (x6 + 1) (upd w_rounds x5.toNatClampNeg (w_first x5.toNatClampNeg)) (w_begun + 1) w_refused s_year s_wet s_lost s_eaten s_tied s_ripeMany s_gone s_place s_heard s_many s_lying s_ripe l_values l_stack h
              · refine g_iload (pc := 81) C 4 rfl dX8_perform_81 ?_
                cases h
                exact g_iret C E dX8_perform_83
            · refine g_aload_n (pc := 60) C 0 rfl dX8_perform_60 ?_
              refine g_iload (pc := 61) C 5 rfl dX8_perform_61 ?_
              obtain ⟨v16, c17, hc, h⟩ := b2_of h
              refine g_callV (pc := 63) C (w' := cs_X8 J.2.2.1 a0 w_kind w_first w_second c17 w_length w_begun w_refused ++ cs_X4 J.2.2.1 a1 s_year s_wet s_lost s_eaten s_tied s_ripeMany s_gone s_place s_heard s_many s_lying s_ripe ++ cs_X2 J.2.2.1 a2 p_beds p_letters p_readers p_far p_drain p_length p_words p_home ++ cs_X1 J.2.2.1 a3 l_code l_values l_stack l_length) (As := [.int x5]) (st := []) (ci := 8) (q0 := 0) rfl rfl (t_X8_afterRound hc) (Sub.gen [0, 1, 2, 3, 4] [5, 6, 7, 8, 9, 10, 11, 12, 13, 14, 15, 16, 17, 18, 19, 20, 21] [17, 18, 19, 20, 21, 0, 1, 2, 3, 4, 5, 6, 7, 8, 9, 10, 11, 12, 13, 14, 15, 16] rfl (by decide) rfl (by decide) (by decide) rfl (by decide)) kw_848 kw_849 kw_850 kw_89 hy_X8_afterRound kw_851 rfl (Nat.le_of_ble_eq_true rfl) (Nat.le_of_ble_eq_true rfl) (Nat.le_of_ble_eq_true rfl) (Nat.le_of_ble_eq_true rfl) (Nat.le_of_ble_eq_true rfl) dX8_perform_63 ?_
              refine g_istore (pc := 66) C [(5, .int v16), (0, .ref (a0 0)), (1, .ref (a1 0)), (2, .ref (a2 0)), (3, .ref (a3 0)), (4, .int x4), (6, .int x6)] dX8_perform_66 (by decide) rfl ?_
              refine g_goto (pc := 68) C (tgt := 182) dX8_perform_68 rfl ?_
              refine g_iinc (pc := 182) C (j := 6) [(6, .int (x6 + 1)), (5, .int v16), (0, .ref (a0 0)), (1, .ref (a1 0)), (2, .ref (a2 0)), (3, .ref (a3 0)), (4, .int x4)] dX8_perform_182 rfl (ii_1 _) (by decide) rfl ?_
              refine g_goto (pc := 185) C (tgt := 19) dX8_perform_185 rfl ?_
              refine g_lv [2, 3, 4, 5, 6, 1, 0] rfl ?_
              exact ih x4 v16 (x6 + 1) c17 w_begun w_refused s_year s_wet s_lost s_eaten s_tied s_ripeMany s_gone s_place s_heard s_many s_lying s_ripe l_values l_stack h
set_option maxRecDepth 100000 in
set_option maxHeartbeats 4000000 in
theorem t_X8_perform {J : Jt} {a0 : Nat → Nat} {a1 : Nat → Nat} {a2 : Nat → Nat} {a3 : Nat → Nat} {w_kind : Nat → Int32} {w_first : Nat → Int32} {w_second : Nat → Int32} {w_rounds : Nat → Int32} {w_length : Int32} {w_begun : Int32} {w_refused : Int32} {s_year : Int32} {s_wet : Int32} {s_lost : Int32} {s_eaten : Int32} {s_tied : Int32} {s_ripeMany : Int32} {s_gone : Nat → Int32} {s_place : Nat → Int32} {s_heard : Nat → Int32} {s_many : Nat → Int32} {s_lying : Nat → Int32} {s_ripe : Nat → Int32} {p_beds : Int32} {p_letters : Int32} {p_readers : Int32} {p_far : Nat → Int32} {p_drain : Nat → Int32} {p_length : Nat → Int32} {p_words : Nat → Int32} {p_home : Nat → Int32} {l_code : Nat → Int32} {l_values : Nat → Int32} {l_stack : Nat → Int32} {l_length : Int32} {r : Int32} {o_w_rounds : Nat → Int32} {o_w_begun : Int32} {o_w_refused : Int32} {o_s_year : Int32} {o_s_wet : Int32} {o_s_lost : Int32} {o_s_eaten : Int32} {o_s_tied : Int32} {o_s_ripeMany : Int32} {o_s_gone : Nat → Int32} {o_s_place : Nat → Int32} {o_s_heard : Nat → Int32} {o_s_many : Nat → Int32} {o_s_lying : Nat → Int32} {o_s_ripe : Nat → Int32} {o_l_values : Nat → Int32} {o_l_stack : Nat → Int32} (h : f_X8_perform w_kind w_first w_second w_rounds w_length w_begun w_refused s_year s_wet s_lost s_eaten s_tied s_ripeMany s_gone s_place s_heard s_many s_lying s_ripe p_beds p_letters p_readers p_far p_drain p_length p_words l_code l_values l_stack l_length = some (r, o_w_rounds, o_w_begun, o_w_refused, o_s_year, o_s_wet, o_s_lost, o_s_eaten, o_s_tied, o_s_ripeMany, o_s_gone, o_s_place, o_s_heard, o_s_many, o_s_lying, o_s_ripe, o_l_values, o_l_stack)) : Mt J yX8_perform cX8_perform 7 (some .int) rm_X8_perform [.ref (a0 0), .ref (a1 0), .ref (a2 0), .ref (a3 0)] (cs_X8 J.2.2.1 a0 w_kind w_first w_second w_rounds w_length w_begun w_refused ++ cs_X4 J.2.2.1 a1 s_year s_wet s_lost s_eaten s_tied s_ripeMany s_gone s_place s_heard s_many s_lying s_ripe ++ cs_X2 J.2.2.1 a2 p_beds p_letters p_readers p_far p_drain p_length p_words p_home ++ cs_X1 J.2.2.1 a3 l_code l_values l_stack l_length) (some (.int r)) (cs_X8 J.2.2.1 a0 w_kind w_first w_second o_w_rounds w_length o_w_begun o_w_refused ++ cs_X4 J.2.2.1 a1 o_s_year o_s_wet o_s_lost o_s_eaten o_s_tied o_s_ripeMany o_s_gone o_s_place o_s_heard o_s_many o_s_lying o_s_ripe ++ cs_X2 J.2.2.1 a2 p_beds p_letters p_readers p_far p_drain p_length p_words p_home ++ cs_X1 J.2.2.1 a3 l_code o_l_values o_l_stack l_length) := by
  refine Mt_of (own := RX8) (by decide) rfl (Nat.le_of_ble_eq_true rfl) rfl (fun Z C E => ?_)
  unfold f_X8_perform at h
  show G J Z 0 0 (cs_X8 J.2.2.1 a0 w_kind w_first w_second w_rounds w_length w_begun w_refused ++ cs_X4 J.2.2.1 a1 s_year s_wet s_lost s_eaten s_tied s_ripeMany s_gone s_place s_heard s_many s_lying s_ripe ++ cs_X2 J.2.2.1 a2 p_beds p_letters p_readers p_far p_drain p_length p_words p_home ++ cs_X1 J.2.2.1 a3 l_code l_values l_stack l_length) 7 [(0, .ref (a0 0)), (1, .ref (a1 0)), (2, .ref (a2 0)), (3, .ref (a3 0))] 0 []
  refine g_aload_n (pc := 0) C 0 rfl dX8_perform_0 ?_
  refine g_iconst (pc := 1) C dX8_perform_1 ci_0 ?_
  refine g_put (pc := 2) C (w' := cs_X8 J.2.2.1 a0 w_kind w_first w_second w_rounds w_length 0 w_refused ++ cs_X4 J.2.2.1 a1 s_year s_wet s_lost s_eaten s_tied s_ripeMany s_gone s_place s_heard s_many s_lying s_ripe ++ cs_X2 J.2.2.1 a2 p_beds p_letters p_readers p_far p_drain p_length p_words p_home ++ cs_X1 J.2.2.1 a3 l_code l_values l_stack l_length) FOK_X8 0 rfl rfl 5 (by decide) kw_214 rfl rfl rfl (Nat.le_of_ble_eq_true rfl) dX8_perform_2 rfl ?_
  refine g_aload_n (pc := 5) C 0 rfl dX8_perform_5 ?_
  refine g_iconst (pc := 6) C dX8_perform_6 ci_0 ?_
  refine g_put (pc := 7) C (w' := cs_X8 J.2.2.1 a0 w_kind w_first w_second w_rounds w_length 0 0 ++ cs_X4 J.2.2.1 a1 s_year s_wet s_lost s_eaten s_tied s_ripeMany s_gone s_place s_heard s_many s_lying s_ripe ++ cs_X2 J.2.2.1 a2 p_beds p_letters p_readers p_far p_drain p_length p_words p_home ++ cs_X1 J.2.2.1 a3 l_code l_values l_stack l_length) FOK_X8 0 rfl rfl 6 (by decide) kw_215 rfl rfl rfl (Nat.le_of_ble_eq_true rfl) dX8_perform_7 rfl ?_
  refine g_iconst (pc := 10) C dX8_perform_10 ci_0 ?_
  refine g_istore (pc := 11) C [(4, .int 0), (0, .ref (a0 0)), (1, .ref (a1 0)), (2, .ref (a2 0)), (3, .ref (a3 0))] dX8_perform_11 (by decide) rfl ?_
  refine g_iconst (pc := 13) C dX8_perform_13 ci_0 ?_
  refine g_istore (pc := 14) C [(5, .int 0), (4, .int 0), (0, .ref (a0 0)), (1, .ref (a1 0)), (2, .ref (a2 0)), (3, .ref (a3 0))] dX8_perform_14 (by decide) rfl ?_
  refine g_iconst (pc := 16) C dX8_perform_16 ci_0 ?_
  refine g_istore (pc := 17) C [(6, .int 0), (5, .int 0), (4, .int 0), (0, .ref (a0 0)), (1, .ref (a1 0)), (2, .ref (a2 0)), (3, .ref (a3 0))] dX8_perform_17 (by decide) rfl ?_
  refine g_lv [3, 4, 5, 6, 2, 1, 0] rfl ?_
  exact j_X8_perform_19 C E  FU 0 0 0 w_rounds 0 0 s_year s_wet s_lost s_eaten s_tied s_ripeMany s_gone s_place s_heard s_many s_lying s_ripe l_values l_stack h
